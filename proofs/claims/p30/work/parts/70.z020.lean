abbrev Pz_X12_signHere_1 (ad : Nat → Nat) (cy : Nat → ClassId) (B : Int) (qr : Nat) (s1 : Int)  (w0 : va_W) : Int32 → va_W → Prop := fun r u => w0 = u ∧ Ev (fun n => m_X12_signHere n 0 (sI w0)) (r.toInt, sI w0) ∧ ((0 ≤ r.toInt ∧ r.toInt ≤ 3 ∧ (∃ y : Int32, gi u 0 1 = y ∧ 1 ≤ y.toInt ∧ y.toInt ≤ 400) ∧ (∃ y : Int32, gi u 0 14 = y ∧ 0 ≤ y.toInt ∧ y.toInt ≤ 399)) ∨ (r = (-1) ∧ (∃ y : Int32, gi u 0 1 = y ∧ 1 ≤ y.toInt ∧ y.toInt ≤ 400) ∧ (∃ y : Int32, gi u 0 14 = y ∧ 0 ≤ y.toInt ∧ y.toInt ≤ 399)) ∨ (r = (-1) ∧ (∃ y : Int32, gi u 0 1 = y ∧ 0 ≤ y.toInt ∧ y.toInt ≤ 400)))
set_option maxHeartbeats 4000000 in
set_option maxRecDepth 100000 in
theorem kz_X12_signHere_1 (l : Launch) (adK adV : Nat → Nat) (dC : Nat → ClassId) (dI : Nat → Nat → Nat) (cy : Nat → ClassId) (ad : Nat → Nat) (B : Int) (hB0 : 100000 ≤ B) (hB1 : B ≤ 1073741824) (qr : Nat) (s1 : Int)   (w0 : va_W) (sz : Nat) (hT : TW ksM ad cy B qr 12 w0)  : Met l yX12_signHere (wu yX12_signHere cX12_signHere 2 (some .int)) ({ frames := 1, cells := 0, slots := 0, locals := 12 }) (va_Pc [.ref (ad 0)] (wpreS adK adV dC dI cy sz w0)) (va_Qi (Pz_X12_signHere_1 ad cy B qr s1  w0) (fun u : va_W => wpost dC dI cy (va_A w0 sz) u) (va_A w0 sz)) 0 0 (va_A w0 sz) := by
  refine Met.ofW (cc := cX12_signHere) (maxL := 2) (ret := (some .int)) (by decide) rfl ?_
  intro p e s m args below meth c s₁ Bk hml hv
  obtain ⟨rfl, ⟨hsz, hP, hK, hD0⟩, hE, hSR⟩ := hv
  have hx := Bk.exec
  have hb := Bk.bytes
  have hr := Bk.returns
  have hlocks := Bk.notSynchronized
  have hC : CallFix p m c cX12_signHere 2 s _ (wu yX12_signHere cX12_signHere 2 (some .int)) RX12 := ⟨hx, hb, hml, findClass_of_methodNamed Bk.named, atoms_spec (ws := (wu yX12_signHere cX12_signHere 2 (some .int))) Bk.pre⟩
  subst hsz
  have hD := hD0.self (sz := s.heap.size)
  generalize hAe : va_A w0 s.heap.size = A at hD hE ⊢
  have hA : ∀ q : Nat, s.heap.size ≤ q → A q := fun q h => by rw [← hAe]; exact Or.inr h
  have hw : Wd dC dI A s.heap s.heap [] w0 := ⟨hP, hD, va_S.rf⟩
  have hF : FE ksM ([] : List (Nat × Nat × Nat)) w0 w0 := FE.rf
  have hl := lv_entry ([.ref (ad 0)]) (n := 2) (Nat.le_of_ble_eq_true rfl)
  rw [lg_entry_eq]
  generalize (lg_sl ([.ref (ad 0)]) ++ List.replicate (2 - (lg_sl ([.ref (ad 0)])).length) Slot.unset).toArray = ls at hl ⊢
  have hl : lv_has ls 2 [(0, .ref (ad 0))] := hl
  generalize hloc : ([] : List Loc) = locs at hw ⊢
  have hinX12 : ∀ w ∈ u_ws RX12 TX12 42, w ∈ (wu yX12_signHere cX12_signHere 2 (some .int)) := fun _ h => List.mem_cons_of_mem _ (up_71 h)
  have hM : TT (fun n => m_X12_signHere n 0 (sI w0)) (fun n => m_X12_signHere n 0 (sI w0)) := TT.rf
  refine lv_aload_n hx hb dX12_signHere_0 rfl (lv_at hl 0 rfl) ?_
  refine tk_geti hC hK hw hT hinX12 kM_at0 (by decide) rfl 14 (by decide) (List.mem_cons_of_mem _ uw_19_18) rfl rfl dX12_signHere_1 (fun x1 c2 rx1 tx1 => ?_)
  replace hM := hM.rd (sI_at c2)
  refine lv_aload_n hx hb dX12_signHere_4 rfl (lv_at hl 0 rfl) ?_
  refine tk_geti hC hK hw hT hinX12 kM_at0 (by decide) rfl 1 (by decide) (List.mem_cons_of_mem _ uw_8_7) rfl rfl dX12_signHere_5 (fun x3 c4 rx3 tx3 => ?_)
  replace hM := hM.rd (sI_at c4)
  refine lv_icmp_ge (tgt := 23) hx hb dX12_signHere_8 (by decide) (fun c5 => ?_) (fun c5 => ?_)
  · have c5 : x3.toInt ≤ x1.toInt := wk_le.mp c5
    replace hM := hM.pos c5
    refine lv_iconst (v := 0) hx hb dX12_signHere_23 (by decide) ?_
    refine lv_istore_n (lv' := [(1, .int 0), (0, .ref (ad 0))]) hx hb dX12_signHere_24 rfl hl (by decide) rfl (fun ls hl => ?_)
    refine lv_iload_n hx hb dX12_signHere_25 rfl (lv_at hl 0 rfl) ?_
    refine lv_bipush (v := 46) hx hb dX12_signHere_26 (by decide) ?_
    refine lv_icmp_ne (tgt := 35) hx hb dX12_signHere_28 (by decide) (fun _ => ?_) (fun c => absurd c (by decide))
    replace hM := hM.pos (by decide)
    refine lv_iload_n hx hb dX12_signHere_35 rfl (lv_at hl 0 rfl) ?_
    refine lv_bipush (v := 62) hx hb dX12_signHere_36 (by decide) ?_
    refine lv_icmp_ne (tgt := 45) hx hb dX12_signHere_38 (by decide) (fun _ => ?_) (fun c => absurd c (by decide))
    replace hM := hM.pos (by decide)
    refine lv_iload_n hx hb dX12_signHere_45 rfl (lv_at hl 0 rfl) ?_
    refine lv_bipush (v := 60) hx hb dX12_signHere_46 (by decide) ?_
    refine lv_icmp_ne (tgt := 55) hx hb dX12_signHere_48 (by decide) (fun _ => ?_) (fun c => absurd c (by decide))
    replace hM := hM.pos (by decide)
    refine lv_iload_n hx hb dX12_signHere_55 rfl (lv_at hl 0 rfl) ?_
    refine lv_bipush (v := 61) hx hb dX12_signHere_56 (by decide) ?_
    refine lv_icmp_ne (tgt := 65) hx hb dX12_signHere_58 (by decide) (fun _ => ?_) (fun c => absurd c (by decide))
    replace hM := hM.pos (by decide)
    refine lv_iconst (v := (-1)) hx hb dX12_signHere_65 (by decide) ?_
    exact tk_iret hC hr hlocks hK ⟨rfl, hM.ret (by decide), (Or.inr (Or.inr ⟨rfl, ⟨x3, c4, (show 0 ≤ x3.toInt from rx3), (show x3.toInt ≤ 400 from tx3)⟩⟩))⟩ hw dX12_signHere_66
  · have c5 : x1.toInt < x3.toInt := wk_leF c5
    replace hM := hM.neg (Int.not_le.mpr c5)
    refine lv_aload_n hx hb dX12_signHere_11 rfl (lv_at hl 0 rfl) ?_
    refine tk_getA hC hK hw hT hinX12 kM_at0 (by decide) rfl 0 (by decide) (List.mem_cons_of_mem _ uw_6_14) rfl rfl dX12_signHere_12 ?_
    refine lv_aload_n hx hb dX12_signHere_15 rfl (lv_at hl 0 rfl) ?_
    refine tk_geti hC hK hw hT hinX12 kM_at0 (by decide) rfl 14 (by decide) (List.mem_cons_of_mem _ uw_19_18) rfl rfl dX12_signHere_16 (fun x6 c7 rx6 tx6 => ?_)
    refine wk_top x1 (c7.symm.trans c2) ?_
    replace hM := hM.rd (sI_at c2)
    refine tk_bald hC hK hw hT kM_at1 rfl rfl (show 0 ≤ x1.toInt from rx1) (show x1.toInt < 400 by first | with_reducible assumption | omega) dX12_signHere_19 (fun x8 c9 rx8 tx8 => ?_)
    have hox8 := c9
    replace hM := hM.rd (sI_at hox8)
    have c9 : gi w0 1 (x1.toInt).toNat = x8 := (congrArg (gi w0 1) (congrArg Int.toNat (show x1.toInt = x1.toInt from rfl))).trans c9
    refine lv_goto (tgt := 24) hx hb dX12_signHere_20 (by decide) ?_
    refine lv_istore_n (lv' := [(1, .int x8), (0, .ref (ad 0))]) hx hb dX12_signHere_24 rfl hl (by decide) rfl (fun ls hl => ?_)
    refine lv_iload_n hx hb dX12_signHere_25 rfl (lv_at hl 0 rfl) ?_
    refine lv_bipush (v := 46) hx hb dX12_signHere_26 (by decide) ?_
    refine lv_icmp_ne (tgt := 35) hx hb dX12_signHere_28 (by decide) (fun c10 => ?_) (fun c10 => ?_)
    · have c10 : ¬ x8.toInt = (46 : Int) := wk_eqF c10
      replace hM := hM.pos c10
      refine lv_iload_n hx hb dX12_signHere_35 rfl (lv_at hl 0 rfl) ?_
      refine lv_bipush (v := 62) hx hb dX12_signHere_36 (by decide) ?_
      refine lv_icmp_ne (tgt := 45) hx hb dX12_signHere_38 (by decide) (fun c11 => ?_) (fun c11 => ?_)
      · have c11 : ¬ x8.toInt = (62 : Int) := wk_eqF c11
        replace hM := hM.pos c11
        refine lv_iload_n hx hb dX12_signHere_45 rfl (lv_at hl 0 rfl) ?_
        refine lv_bipush (v := 60) hx hb dX12_signHere_46 (by decide) ?_
        refine lv_icmp_ne (tgt := 55) hx hb dX12_signHere_48 (by decide) (fun c12 => ?_) (fun c12 => ?_)
        · have c12 : ¬ x8.toInt = (60 : Int) := wk_eqF c12
          replace hM := hM.pos c12
          refine lv_iload_n hx hb dX12_signHere_55 rfl (lv_at hl 0 rfl) ?_
          refine lv_bipush (v := 61) hx hb dX12_signHere_56 (by decide) ?_
          refine lv_icmp_ne (tgt := 65) hx hb dX12_signHere_58 (by decide) (fun c13 => ?_) (fun c13 => ?_)
          · have c13 : ¬ x8.toInt = (61 : Int) := wk_eqF c13
            replace hM := hM.pos c13
            refine lv_iconst (v := (-1)) hx hb dX12_signHere_65 (by decide) ?_
            exact tk_iret hC hr hlocks hK ⟨rfl, hM.ret (by decide), (Or.inr (Or.inl ⟨rfl, ⟨x3, c4, (show 1 ≤ x3.toInt by first | with_reducible assumption | omega), (show x3.toInt ≤ 400 from tx3)⟩, ⟨x1, c2, (show 0 ≤ x1.toInt from rx1), (show x1.toInt ≤ 399 by first | with_reducible assumption | omega)⟩⟩))⟩ hw dX12_signHere_66
          · have c13 : x8.toInt = (61 : Int) := wk_eq.mp c13
            replace hM := hM.neg (fun q => q c13)
            refine lv_iconst (v := 3) hx hb dX12_signHere_61 (by decide) ?_
            refine lv_goto (tgt := 66) hx hb dX12_signHere_62 (by decide) ?_
            exact tk_iret hC hr hlocks hK ⟨rfl, hM.ret (by decide), (Or.inl ⟨(by decide), (by decide), ⟨x3, c4, (show 1 ≤ x3.toInt by first | with_reducible assumption | omega), (show x3.toInt ≤ 400 from tx3)⟩, ⟨x1, c2, (show 0 ≤ x1.toInt from rx1), (show x1.toInt ≤ 399 by first | with_reducible assumption | omega)⟩⟩)⟩ hw dX12_signHere_66
        · have c12 : x8.toInt = (60 : Int) := wk_eq.mp c12
          replace hM := hM.neg (fun q => q c12)
          refine lv_iconst (v := 2) hx hb dX12_signHere_51 (by decide) ?_
          refine lv_goto (tgt := 66) hx hb dX12_signHere_52 (by decide) ?_
          exact tk_iret hC hr hlocks hK ⟨rfl, hM.ret (by decide), (Or.inl ⟨(by decide), (by decide), ⟨x3, c4, (show 1 ≤ x3.toInt by first | with_reducible assumption | omega), (show x3.toInt ≤ 400 from tx3)⟩, ⟨x1, c2, (show 0 ≤ x1.toInt from rx1), (show x1.toInt ≤ 399 by first | with_reducible assumption | omega)⟩⟩)⟩ hw dX12_signHere_66
      · have c11 : x8.toInt = (62 : Int) := wk_eq.mp c11
        replace hM := hM.neg (fun q => q c11)
        refine lv_iconst (v := 1) hx hb dX12_signHere_41 (by decide) ?_
        refine lv_goto (tgt := 66) hx hb dX12_signHere_42 (by decide) ?_
        exact tk_iret hC hr hlocks hK ⟨rfl, hM.ret (by decide), (Or.inl ⟨(by decide), (by decide), ⟨x3, c4, (show 1 ≤ x3.toInt by first | with_reducible assumption | omega), (show x3.toInt ≤ 400 from tx3)⟩, ⟨x1, c2, (show 0 ≤ x1.toInt from rx1), (show x1.toInt ≤ 399 by first | with_reducible assumption | omega)⟩⟩)⟩ hw dX12_signHere_66
    · have c10 : x8.toInt = (46 : Int) := wk_eq.mp c10
      replace hM := hM.neg (fun q => q c10)
      refine lv_iconst (v := 0) hx hb dX12_signHere_31 (by decide) ?_
      refine lv_goto (tgt := 66) hx hb dX12_signHere_32 (by decide) ?_
      exact tk_iret hC hr hlocks hK ⟨rfl, hM.ret (by decide), (Or.inl ⟨(by decide), (by decide), ⟨x3, c4, (show 1 ≤ x3.toInt by first | with_reducible assumption | omega), (show x3.toInt ≤ 400 from tx3)⟩, ⟨x1, c2, (show 0 ≤ x1.toInt from rx1), (show x1.toInt ≤ 399 by first | with_reducible assumption | omega)⟩⟩)⟩ hw dX12_signHere_66
abbrev Pz_X12_areSignsHere_1 (ad : Nat → Nat) (cy : Nat → ClassId) (B : Int) (qr : Nat) (s1 : Int) (a1 : Int32) (w0 : va_W) : Int32 → va_W → Prop := fun r u => TW ksM ad cy B qr 12 u ∧ FE ksM [(12, 14, 14), (12, 15, 15), (65, 0, 120)] w0 u ∧ Ev (fun n => m_X12_areSignsHere n 0 a1.toInt (sI w0)) (r.toInt, sI u) ∧ ((r = 0 ∧ (∃ y : Int32, gi u 0 1 = y ∧ 1 ≤ y.toInt ∧ y.toInt ≤ 400) ∧ (∃ y : Int32, gi u 0 14 = y ∧ 0 ≤ y.toInt ∧ y.toInt ≤ 399) ∧ (∃ y : Int32, gi u 0 15 = y ∧ 1 ≤ y.toInt ∧ y.toInt ≤ 3205)) ∨ (r = 0 ∧ (∃ y : Int32, gi u 0 1 = y ∧ 0 ≤ y.toInt ∧ y.toInt ≤ 400) ∧ (∃ y : Int32, gi u 0 15 = y ∧ 1 ≤ y.toInt ∧ y.toInt ≤ 3205)) ∨ (r = 1 ∧ (∃ y : Int32, gi u 0 1 = y ∧ 0 ≤ y.toInt ∧ y.toInt ≤ 400)))
set_option maxHeartbeats 4000000 in
set_option maxRecDepth 100000 in
theorem kz_X12_areSignsHere_1 (l : Launch) (adK adV : Nat → Nat) (dC : Nat → ClassId) (dI : Nat → Nat → Nat) (cy : Nat → ClassId) (ad : Nat → Nat) (B : Int) (hB0 : 100000 ≤ B) (hB1 : B ≤ 1073741824) (qr : Nat) (s1 : Int)  (a1 : Int32) (ra1 : 3 ≤ a1.toInt) (ta1 : a1.toInt ≤ 113) (w0 : va_W) (sz : Nat) (hT : TW ksM ad cy B qr 12 w0)  : Met l yX12_areSignsHere (wu yX12_areSignsHere cX12_areSignsHere 4 (some .boolean)) ({ frames := 2, cells := 0, slots := 0, locals := 34 }) (va_Pc [.ref (ad 0), .int a1] (wpreS adK adV dC dI cy sz w0)) (va_Qi (Pz_X12_areSignsHere_1 ad cy B qr s1 a1 w0) (fun u : va_W => wpost dC dI cy (va_A w0 sz) u) (va_A w0 sz)) 0 0 (va_A w0 sz) := by
  refine Met.ofW (cc := cX12_areSignsHere) (maxL := 4) (ret := (some .boolean)) (by decide) rfl ?_
  intro p e s m args below meth c s₁ Bk hml hv
  obtain ⟨rfl, ⟨hsz, hP, hK, hD0⟩, hE, hSR⟩ := hv
  have hx := Bk.exec
  have hb := Bk.bytes
  have hr := Bk.returns
  have hlocks := Bk.notSynchronized
  have hC : CallFix p m c cX12_areSignsHere 4 s _ (wu yX12_areSignsHere cX12_areSignsHere 4 (some .boolean)) RX12 := ⟨hx, hb, hml, findClass_of_methodNamed Bk.named, atoms_spec (ws := (wu yX12_areSignsHere cX12_areSignsHere 4 (some .boolean))) Bk.pre⟩
  subst hsz
  have hD := hD0.self (sz := s.heap.size)
  generalize hAe : va_A w0 s.heap.size = A at hD hE ⊢
  have hA : ∀ q : Nat, s.heap.size ≤ q → A q := fun q h => by rw [← hAe]; exact Or.inr h
  have hw : Wd dC dI A s.heap s.heap [] w0 := ⟨hP, hD, va_S.rf⟩
  have hF : FE ksM [(12, 14, 14), (12, 15, 15), (65, 0, 120)] w0 w0 := FE.rf
  have hl := lv_entry ([.ref (ad 0), .int a1]) (n := 4) (Nat.le_of_ble_eq_true rfl)
  rw [lg_entry_eq]
  generalize (lg_sl ([.ref (ad 0), .int a1]) ++ List.replicate (4 - (lg_sl ([.ref (ad 0), .int a1])).length) Slot.unset).toArray = ls at hl ⊢
  have hl : lv_has ls 4 [(0, .ref (ad 0)), (1, .int a1)] := hl
  generalize hloc : ([] : List Loc) = locs at hw ⊢
  have hinX12 : ∀ w ∈ u_ws RX12 TX12 42, w ∈ (wu yX12_areSignsHere cX12_areSignsHere 4 (some .boolean)) := fun _ h => List.mem_cons_of_mem _ (up_71 h)
  have L7 : ∀ (n7 : Nat) (v7_2 : Int32) (f7_0_1 : Int32) (f7_0_14 : Int32) (H : Heap) (locs : List Loc) (ls : Array Slot) (w1 : va_W), 3 ≤ a1.toInt → a1.toInt ≤ 113 → 0 ≤ v7_2.toInt → v7_2.toInt ≤ 7 → 0 ≤ f7_0_1.toInt → f7_0_1.toInt ≤ 400 → 0 ≤ f7_0_14.toInt → f7_0_14.toInt ≤ 400 → (7 - v7_2.toInt).toNat < n7 → Wd dC dI A s.heap H locs w1 → TW ksM ad cy B qr 12 w1 → FE ksM [(12, 14, 14), (12, 15, 15), (65, 0, 120)] w0 w1 → gi w1 0 1 = f7_0_1 → gi w1 0 14 = f7_0_14 → TT (fun n => m_X12_areSignsHere n 0 a1.toInt (sI w0)) (fun n => j_X12_areSignsHere 0 n 7 [a1.toInt, v7_2.toInt] (sI w1)) → lv_has ls 4 [(0, .ref (ad 0)), (1, .int a1), (2, .int v7_2)] → W p l e ({ frames := 2, cells := 0, slots := 0, locals := 34 }) s m (List.toArray [.ref (ad 0), .int a1]) below meth c H locs 0 0 (MQ below (va_Qi (Pz_X12_areSignsHere_1 ad cy B qr s1 a1 w0) (fun u : va_W => wpost dC dI cy A u) A) (List.toArray [.ref (ad 0), .int a1]) s 0 0 A) (F0 m 7 ls []) := by
    intro n7
    induction n7 with
    | zero => intro v7_2 f7_0_1 f7_0_14 H locs ls w1 r2 t3 r4 t5 r6 t7 r9 t10 hm7 hw hT hF c8 c11 hM hl; omega
    | succ n7 ih7 =>
      intro v7_2 f7_0_1 f7_0_14 H locs ls w1 r2 t3 r4 t5 r6 t7 r9 t10 hm7 hw hT hF c8 c11 hM hl
      replace hM := hM.suc (fun _ => e_X12_areSignsHere_7)
      refine lv_iload_n hx hb dX12_areSignsHere_7 rfl (lv_at hl 2 rfl) ?_
      refine lv_bipush (v := 7) hx hb dX12_areSignsHere_8 (by decide) ?_
      refine lv_icmp_ge (tgt := 57) hx hb dX12_areSignsHere_10 (by decide) (fun c12 => ?_) (fun c12 => ?_)
      · have c12 : (7 : Int) ≤ v7_2.toInt := wk_le.mp c12
        replace hM := hM.pos c12
        refine lv_iconst (v := 1) hx hb dX12_areSignsHere_57 (by decide) ?_
        exact tk_zret hC hr rfl hlocks hK ⟨hT, hF, hM.ret (by decide), (Or.inr (Or.inr ⟨rfl, ⟨f7_0_1, c8, (show 0 ≤ f7_0_1.toInt from r6), (show f7_0_1.toInt ≤ 400 from t7)⟩⟩))⟩ hw dX12_areSignsHere_58
      · have c12 : v7_2.toInt < (7 : Int) := wk_leF c12
        replace hM := hM.neg (Int.not_le.mpr c12)
        refine lv_aload_n hx hb dX12_areSignsHere_13 rfl (lv_at hl 0 rfl) ?_
        refine tk_Vi hC hK hw hT hA hE hSR kM_at0 (by decide) rfl (kz_X12_signHere_1 l adK adV dC dI cy ad B hB0 (Int.le_trans hB1 (by decide)) qr s1    w1 H.size hT ) (cwV 0 hC.2.2.2.2 uV_RX12_221 rfl rfl rfl (by decide +kernel) ⟨Nat.le_of_ble_eq_true rfl, Nat.le_of_ble_eq_true rfl⟩) rfl hl.1 rfl (Nat.le_of_ble_eq_true rfl) dX12_areSignsHere_14 (fun r13 w15 H locs hp14 hw => ?_)
        obtain ⟨rfl, hv30, hg29⟩ := hp14
        rcases hg29 with ⟨g17, g18, ⟨x19, c20, rx19, tx19⟩, ⟨x21, c22, rx21, tx21⟩⟩ | ⟨rfl, ⟨x23, c24, rx23, tx23⟩, ⟨x25, c26, rx25, tx25⟩⟩ | ⟨rfl, ⟨x27, c28, rx27, tx27⟩⟩
        · replace hM := hM.call hv30 rfl
          have ex19 : x19.toInt = f7_0_1.toInt := by rw [← c8.symm.trans c20]
          have ex21 : x21.toInt = f7_0_14.toInt := by rw [← c11.symm.trans c22]
          refine lv_istore_n (lv' := [(3, .int r13), (0, .ref (ad 0)), (1, .int a1), (2, .int v7_2)]) hx hb dX12_areSignsHere_17 rfl hl (by decide) rfl (fun ls hl => ?_)
          refine lv_iload_n hx hb dX12_areSignsHere_18 rfl (lv_at hl 0 rfl) ?_
          refine lv_if_ge (tgt := 32) hx hb dX12_areSignsHere_19 (by decide) (fun _ => ?_) (fun c => (c (wk_le.mpr (show (0 : Int) ≤ r13.toInt by first | with_reducible assumption | omega))).elim)
          replace hM := hM.pos (by omega)
          refine lv_aload_n hx hb dX12_areSignsHere_32 rfl (lv_at hl 1 rfl) ?_
          refine tk_getA hC hK hw hT hinX12 kM_at0 (by decide) rfl 11 (by decide) (List.mem_cons_of_mem _ uw_6_19) rfl rfl dX12_areSignsHere_33 ?_
          refine lv_iload_n hx hb dX12_areSignsHere_36 rfl (lv_at hl 2 rfl) ?_
          refine lv_iload_n hx hb dX12_areSignsHere_37 rfl (lv_at hl 3 rfl) ?_
          refine lv_iadd hx hb dX12_areSignsHere_38 ?_
          refine lv_topi (fun x31 ex31 => ?_)
          have ezx31 := ex31
          have ex31 : x31.toInt = a1.toInt + v7_2.toInt := by rw [ex31]; exact wk_add (show (-2147483648) ≤ a1.toInt + v7_2.toInt by omega) (show a1.toInt + v7_2.toInt ≤ 2147483647 by omega)
          replace hM := hM.lt ex31.symm
          refine lv_iload_n hx hb dX12_areSignsHere_39 rfl (lv_at hl 0 rfl) ?_
          refine tk_iast hC hK hw hT kM_at6 (by decide) rfl rfl (show 0 ≤ x31.toInt by first | with_reducible assumption | omega) (show x31.toInt < 120 by first | with_reducible assumption | omega) (show 0 ≤ r13.toInt by first | with_reducible assumption | omega) (show r13.toInt ≤ 9 by first | with_reducible assumption | omega) dX12_areSignsHere_40 (fun H locs w32 hw hT k34 c33 => ?_)
          replace hM := hM.wr (sI_up k34 c33)
          have hF := hF.put kM_at6 (inE_of (a := 0) (b := 120) (by decide) (show 0 ≤ x31.toInt.toNat by omega) (show x31.toInt.toNat ≤ 120 by omega)) k34
          have c35 := k34.gi (Or.inl (tk_ne kM_at0 kM_at6 (by decide))) c8
          have c36 := k34.gi (Or.inl (tk_ne kM_at0 kM_at6 (by decide))) c11
          refine lv_aload_n hx hb dX12_areSignsHere_41 rfl (lv_at hl 1 rfl) ?_
          refine lv_dup hx hb dX12_areSignsHere_42 rfl ?_
          refine tk_geti hC hK hw hT hinX12 kM_at0 (by decide) rfl 14 (by decide) (List.mem_cons_of_mem _ uw_19_18) rfl rfl dX12_areSignsHere_43 (fun x37 c38 rx37 tx37 => ?_)
          refine wk_top f7_0_14 (c38.symm.trans c36) ?_
          replace hM := hM.rd (sI_at c36)
          refine lv_iconst (v := 1) hx hb dX12_areSignsHere_46 (by decide) ?_
          refine lv_iadd hx hb dX12_areSignsHere_47 ?_
          refine lv_topi (fun x39 ex39 => ?_)
          have ezx39 := ex39
          have ex39 : x39.toInt = f7_0_14.toInt + (1 : Int) := by rw [ex39]; exact wk_add (show (-2147483648) ≤ f7_0_14.toInt + (1 : Int) by omega) (show f7_0_14.toInt + (1 : Int) ≤ 2147483647 by omega)
          replace hM := hM.lt ex39.symm
          refine tk_puti hC hK hw hT hinX12 tyX12_ok nmX12 kM_at0 (by decide) rfl rfl 14 (by decide) (List.mem_cons_of_mem _ uw_19_18) rfl rfl rfl rfl (show 0 ≤ x39.toInt by first | with_reducible assumption | omega) (show x39.toInt ≤ 400 by first | with_reducible assumption | omega) dX12_areSignsHere_48 (fun H locs w40 hw hT k42 c41 => ?_)
          replace hM := hM.wr (sI_up k42 c41)
          have hF := hF.put kM_at0 (k := 14) (by decide) k42
          have c43 := k42.gi (Or.inr (by decide)) c35
          obtain ⟨x44, ex44⟩ : ∃ y : Int32, y = v7_2 + Int32.ofInt 1 := ⟨_, rfl⟩
          have erx44 := ex44
          refine lv_iinc (v := x44) (lv' := [(2, .int x44), (3, .int r13), (0, .ref (ad 0)), (1, .int a1)]) hx hb dX12_areSignsHere_51 hl (k := 3) rfl ex44.symm (by decide) rfl (fun ls hl => ?_)
          have ex44 : x44.toInt = v7_2.toInt + 1 := by rw [ex44]; exact wk_add (y := 1) (show -2147483648 ≤ v7_2.toInt + 1 by omega) (show v7_2.toInt + 1 ≤ 2147483647 by omega)
          replace hM := hM.lt ex44.symm
          refine lv_goto (tgt := 7) hx hb dX12_areSignsHere_54 (by decide) ?_
          exact ih7 x44 f7_0_1 x39 H locs ls w40 (show 3 ≤ a1.toInt from r2) (show a1.toInt ≤ 113 from t3) (show 0 ≤ x44.toInt by first | with_reducible assumption | omega) (show x44.toInt ≤ 7 by first | with_reducible assumption | omega) (show 0 ≤ f7_0_1.toInt from r6) (show f7_0_1.toInt ≤ 400 from t7) (show 0 ≤ x39.toInt by first | with_reducible assumption | omega) (show x39.toInt ≤ 400 by first | with_reducible assumption | omega) (show (7 - x44.toInt).toNat < n7 by first | exact tn_lt hm7 (by omega) (by omega) | omega) hw hT hF c43 c41 hM (lv_sub hl [2, 3, 0] rfl)
        · replace hM := hM.call (r' := (-1)) hv30 (by decide)
          have ex23 : x23.toInt = f7_0_1.toInt := by rw [← c8.symm.trans c24]
          have ex25 : x25.toInt = f7_0_14.toInt := by rw [← c11.symm.trans c26]
          refine lv_istore_n (lv' := [(3, .int (-1)), (0, .ref (ad 0)), (1, .int a1), (2, .int v7_2)]) hx hb dX12_areSignsHere_17 rfl hl (by decide) rfl (fun ls hl => ?_)
          refine lv_iload_n hx hb dX12_areSignsHere_18 rfl (lv_at hl 0 rfl) ?_
          refine lv_if_ge (tgt := 32) hx hb dX12_areSignsHere_19 (by decide) (fun c => absurd c (by decide)) (fun _ => ?_)
          replace hM := hM.neg (by decide)
          refine lv_aload_n hx hb dX12_areSignsHere_22 rfl (lv_at hl 1 rfl) ?_
          refine lv_iconst (v := 0) hx hb dX12_areSignsHere_23 (by decide) ?_
          refine lv_aload_n hx hb dX12_areSignsHere_24 rfl (lv_at hl 1 rfl) ?_
          refine tk_geti hC hK hw hT hinX12 kM_at0 (by decide) rfl 14 (by decide) (List.mem_cons_of_mem _ uw_19_18) rfl rfl dX12_areSignsHere_25 (fun x45 c46 rx45 tx45 => ?_)
          refine wk_top f7_0_14 (c46.symm.trans c11) ?_
          replace hM := hM.rd (sI_at c11)
          refine tk_Vi hC hK hw hT hA hE hSR kM_at0 (by decide) rfl (kz_X12_fails_1 l adK adV dC dI cy ad B hB0 (Int.le_trans hB1 (by decide)) qr s1   0 (by decide) (by decide) f7_0_14 (show 0 ≤ f7_0_14.toInt from r9) (show f7_0_14.toInt ≤ 400 from t10) w1 H.size hT ) (cwV 2 hC.2.2.2.2 uV_RX12_115 rfl rfl rfl (by decide +kernel) ⟨Nat.le_of_ble_eq_true rfl, Nat.le_of_ble_eq_true rfl⟩) rfl hl.1 rfl (Nat.le_of_ble_eq_true rfl) dX12_areSignsHere_28 (fun r47 w49 H locs hp48 hw => ?_)
          obtain ⟨hT, k50, hv54, hg53⟩ := hp48
          try simp only [show (0 : Int32).toInt = 0 by decide] at hv54
          have hF := hF.tr k50 (by decide)
          have c55 := k50.gi kM_at0 (by decide) c8
          have c56 := k50.gi kM_at0 (by decide) c11
          obtain ⟨rfl, ⟨x51, c52, rx51, tx51⟩⟩ := hg53
          replace hM := hM.call (r' := 0) hv54 (by decide)
          exact tk_zret hC hr rfl hlocks hK ⟨hT, hF, hM.ret (by decide), (Or.inl ⟨rfl, ⟨f7_0_1, c55, (show 1 ≤ f7_0_1.toInt by first | with_reducible assumption | omega), (show f7_0_1.toInt ≤ 400 from t7)⟩, ⟨f7_0_14, c56, (show 0 ≤ f7_0_14.toInt from r9), (show f7_0_14.toInt ≤ 399 by first | with_reducible assumption | omega)⟩, ⟨x51, c52, (show 1 ≤ x51.toInt by first | with_reducible assumption | omega), (show x51.toInt ≤ 3205 by first | with_reducible assumption | omega)⟩⟩)⟩ hw dX12_areSignsHere_31
        · replace hM := hM.call (r' := (-1)) hv30 (by decide)
          have ex27 : x27.toInt = f7_0_1.toInt := by rw [← c8.symm.trans c28]
          refine lv_istore_n (lv' := [(3, .int (-1)), (0, .ref (ad 0)), (1, .int a1), (2, .int v7_2)]) hx hb dX12_areSignsHere_17 rfl hl (by decide) rfl (fun ls hl => ?_)
          refine lv_iload_n hx hb dX12_areSignsHere_18 rfl (lv_at hl 0 rfl) ?_
          refine lv_if_ge (tgt := 32) hx hb dX12_areSignsHere_19 (by decide) (fun c => absurd c (by decide)) (fun _ => ?_)
          replace hM := hM.neg (by decide)
          refine lv_aload_n hx hb dX12_areSignsHere_22 rfl (lv_at hl 1 rfl) ?_
          refine lv_iconst (v := 0) hx hb dX12_areSignsHere_23 (by decide) ?_
          refine lv_aload_n hx hb dX12_areSignsHere_24 rfl (lv_at hl 1 rfl) ?_
          refine tk_geti hC hK hw hT hinX12 kM_at0 (by decide) rfl 14 (by decide) (List.mem_cons_of_mem _ uw_19_18) rfl rfl dX12_areSignsHere_25 (fun x57 c58 rx57 tx57 => ?_)
          refine wk_top f7_0_14 (c58.symm.trans c11) ?_
          replace hM := hM.rd (sI_at c11)
          refine tk_Vi hC hK hw hT hA hE hSR kM_at0 (by decide) rfl (kz_X12_fails_1 l adK adV dC dI cy ad B hB0 (Int.le_trans hB1 (by decide)) qr s1   0 (by decide) (by decide) f7_0_14 (show 0 ≤ f7_0_14.toInt from r9) (show f7_0_14.toInt ≤ 400 from t10) w1 H.size hT ) (cwV 2 hC.2.2.2.2 uV_RX12_115 rfl rfl rfl (by decide +kernel) ⟨Nat.le_of_ble_eq_true rfl, Nat.le_of_ble_eq_true rfl⟩) rfl hl.1 rfl (Nat.le_of_ble_eq_true rfl) dX12_areSignsHere_28 (fun r59 w61 H locs hp60 hw => ?_)
          obtain ⟨hT, k62, hv66, hg65⟩ := hp60
          try simp only [show (0 : Int32).toInt = 0 by decide] at hv66
          have hF := hF.tr k62 (by decide)
          have c67 := k62.gi kM_at0 (by decide) c8
          have c68 := k62.gi kM_at0 (by decide) c11
          obtain ⟨rfl, ⟨x63, c64, rx63, tx63⟩⟩ := hg65
          replace hM := hM.call (r' := 0) hv66 (by decide)
          exact tk_zret hC hr rfl hlocks hK ⟨hT, hF, hM.ret (by decide), (Or.inr (Or.inl ⟨rfl, ⟨f7_0_1, c67, (show 0 ≤ f7_0_1.toInt from r6), (show f7_0_1.toInt ≤ 400 from t7)⟩, ⟨x63, c64, (show 1 ≤ x63.toInt by first | with_reducible assumption | omega), (show x63.toInt ≤ 3205 by first | with_reducible assumption | omega)⟩⟩))⟩ hw dX12_areSignsHere_31
  have hM : TT (fun n => m_X12_areSignsHere n 0 a1.toInt (sI w0)) (fun n => m_X12_areSignsHere n 0 a1.toInt (sI w0)) := TT.rf
  refine lv_aload_n hx hb dX12_areSignsHere_0 rfl (lv_at hl 0 rfl) ?_
  obtain ⟨x69, c70, rx69, tx69⟩ := hT.rdi (lo := 0) (hi := 400) (k := 14) kM_at0 (by decide) rfl
  refine tk_Vi hC hK hw hT hA hE hSR kM_at0 (by decide) rfl (kz_X12_see_1 l adK adV dC dI cy ad B hB0 (Int.le_trans hB1 (by decide)) qr s1    w0 s.heap.size hT x69 c70 (show 0 ≤ x69.toInt by first | with_reducible assumption | omega) (show x69.toInt ≤ 400 by first | with_reducible assumption | omega)) (cwV 0 hC.2.2.2.2 uV_RX12_97 rfl rfl rfl (by decide +kernel) ⟨Nat.le_of_ble_eq_true rfl, Nat.le_of_ble_eq_true rfl⟩) rfl hl.1 rfl (Nat.le_of_ble_eq_true rfl) dX12_areSignsHere_1 (fun r71 w73 H locs hp72 hw => ?_)
  obtain ⟨hT, k74, hv92, hg91⟩ := hp72
  have hF := hF.tr k74 (by decide)
  rcases hg91 with ⟨g75, g76, ⟨x77, c78, rx77, tx77⟩, ⟨x79, c80, rx79, tx79⟩, g81, g82⟩ | ⟨rfl, ⟨x83, c84, rx83, tx83⟩, ⟨x85, c86, rx85, tx85⟩, g87⟩ | ⟨rfl, ⟨x88, c89, rx88, tx88⟩, g90⟩
  · replace hM := hM.call hv92 rfl
    have g81 : (gi w73 1 (x79.toInt).toNat).toInt ≠ 32 := by have q := g81; simp only [c80] at q; first | with_reducible exact q | omega
    have g82 : (x79.toInt = x69.toInt ∨ (gi w0 1 (x69.toInt).toNat).toInt = 32) := by have q := g82; simp only [c70, c80] at q; first | with_reducible exact q | omega
    refine lv_pop hx hb dX12_areSignsHere_4 rfl ?_
    refine lv_iconst (v := 0) hx hb dX12_areSignsHere_5 (by decide) ?_
    refine lv_istore_n (lv' := [(2, .int 0), (0, .ref (ad 0)), (1, .int a1)]) hx hb dX12_areSignsHere_6 rfl hl (by decide) rfl (fun ls hl => ?_)
    exact L7 ((7 - (0 : Int)).toNat + 1) 0 x77 x79 H locs ls w73 (show 3 ≤ a1.toInt from ra1) (show a1.toInt ≤ 113 from ta1) (by decide) (by decide) (show 0 ≤ x77.toInt by first | with_reducible assumption | omega) (show x77.toInt ≤ 400 by first | with_reducible assumption | omega) (show 0 ≤ x79.toInt by first | with_reducible assumption | omega) (show x79.toInt ≤ 400 by first | with_reducible assumption | omega) (Nat.lt_succ_self _) hw hT hF c78 c80 hM (lv_sub hl [1, 2, 0] rfl)
  · replace hM := hM.call (r' := (-1)) hv92 (by decide)
    have g87 : (x85.toInt = x69.toInt ∨ (gi w0 1 (x69.toInt).toNat).toInt = 32) := by have q := g87; simp only [c70, c86] at q; first | with_reducible exact q | omega
    refine lv_pop hx hb dX12_areSignsHere_4 rfl ?_
    refine lv_iconst (v := 0) hx hb dX12_areSignsHere_5 (by decide) ?_
    refine lv_istore_n (lv' := [(2, .int 0), (0, .ref (ad 0)), (1, .int a1)]) hx hb dX12_areSignsHere_6 rfl hl (by decide) rfl (fun ls hl => ?_)
    exact L7 ((7 - (0 : Int)).toNat + 1) 0 x83 x85 H locs ls w73 (show 3 ≤ a1.toInt from ra1) (show a1.toInt ≤ 113 from ta1) (by decide) (by decide) (show 0 ≤ x83.toInt by first | with_reducible assumption | omega) (show x83.toInt ≤ 400 by first | with_reducible assumption | omega) (show 0 ≤ x85.toInt by first | with_reducible assumption | omega) (show x85.toInt ≤ 400 by first | with_reducible assumption | omega) (Nat.lt_succ_self _) hw hT hF c84 c86 hM (lv_sub hl [1, 2, 0] rfl)
  · replace hM := hM.call (r' := (-1)) hv92 (by decide)
    obtain ⟨x93, c94, rx93, tx93⟩ := hT.rdi (lo := 0) (hi := 400) (k := 14) kM_at0 (by decide) rfl
    have g90 : (x93.toInt = x69.toInt ∨ (gi w0 1 (x69.toInt).toNat).toInt = 32) := by have q := g90; simp only [c70, c94] at q; first | with_reducible exact q | omega
    refine lv_pop hx hb dX12_areSignsHere_4 rfl ?_
    refine lv_iconst (v := 0) hx hb dX12_areSignsHere_5 (by decide) ?_
    refine lv_istore_n (lv' := [(2, .int 0), (0, .ref (ad 0)), (1, .int a1)]) hx hb dX12_areSignsHere_6 rfl hl (by decide) rfl (fun ls hl => ?_)
    exact L7 ((7 - (0 : Int)).toNat + 1) 0 x88 x93 H locs ls w73 (show 3 ≤ a1.toInt from ra1) (show a1.toInt ≤ 113 from ta1) (by decide) (by decide) (show 0 ≤ x88.toInt by first | with_reducible assumption | omega) (show x88.toInt ≤ 400 by first | with_reducible assumption | omega) (show 0 ≤ x93.toInt by first | with_reducible assumption | omega) (show x93.toInt ≤ 400 by first | with_reducible assumption | omega) (Nat.lt_succ_self _) hw hT hF c89 c94 hM (lv_sub hl [1, 2, 0] rfl)
abbrev Pz_X12_isStreetHere_1 (ad : Nat → Nat) (cy : Nat → ClassId) (B : Int) (qr : Nat) (s1 : Int) (a1 : Int32) (w0 : va_W) : Int32 → va_W → Prop := fun r u => TW ksM ad cy B qr 12 u ∧ FE ksM [(12, 8, 8), (12, 14, 14), (12, 15, 15), (12, 16, 16), (65, 0, 120)] w0 u ∧ Ev (fun n => m_X12_isStreetHere n 0 a1.toInt (sI w0)) (r.toInt, sI u) ∧ ((r = 0 ∧ (∃ y : Int32, gi u 0 8 = y ∧ 12 ≤ y.toInt ∧ y.toInt ≤ 12) ∧ (∃ y : Int32, gi u 0 15 = y ∧ 1 ≤ y.toInt ∧ y.toInt ≤ 3205)) ∨ (r = 0 ∧ (∃ y : Int32, gi u 0 1 = y ∧ 1 ≤ y.toInt ∧ y.toInt ≤ 400) ∧ (∃ y : Int32, gi u 0 8 = y ∧ 0 ≤ y.toInt ∧ y.toInt ≤ 11) ∧ (∃ y : Int32, gi u 0 15 = y ∧ 1 ≤ y.toInt ∧ y.toInt ≤ 3205)) ∨ (r = 0 ∧ (∃ y : Int32, gi u 0 1 = y ∧ 0 ≤ y.toInt ∧ y.toInt ≤ 400) ∧ (∃ y : Int32, gi u 0 8 = y ∧ 0 ≤ y.toInt ∧ y.toInt ≤ 11) ∧ (∃ y : Int32, gi u 0 15 = y ∧ 1 ≤ y.toInt ∧ y.toInt ≤ 3205)) ∨ (r = 1 ∧ (∃ y : Int32, gi u 0 1 = y ∧ 1 ≤ y.toInt ∧ y.toInt ≤ 400) ∧ (∃ y : Int32, gi u 0 7 = y ∧ 1 ≤ y.toInt ∧ y.toInt ≤ 10) ∧ (∃ y : Int32, gi u 0 8 = y ∧ 1 ≤ y.toInt ∧ y.toInt ≤ 12) ∧ (∃ y : Int32, gi u 0 16 = y ∧ 1 ≤ y.toInt ∧ y.toInt ≤ 9)))
set_option maxHeartbeats 4000000 in
set_option maxRecDepth 100000 in
theorem kz_X12_isStreetHere_1 (l : Launch) (adK adV : Nat → Nat) (dC : Nat → ClassId) (dI : Nat → Nat → Nat) (cy : Nat → ClassId) (ad : Nat → Nat) (B : Int) (hB0 : 100000 ≤ B) (hB1 : B ≤ 1073741824) (qr : Nat) (s1 : Int)  (a1 : Int32) (ra1 : 0 ≤ a1.toInt) (ta1 : a1.toInt ≤ 400) (w0 : va_W) (sz : Nat) (hT : TW ksM ad cy B qr 12 w0)  : Met l yX12_isStreetHere (wu yX12_isStreetHere cX12_isStreetHere 4 (some .boolean)) ({ frames := 3, cells := 0, slots := 0, locals := 61 }) (va_Pc [.ref (ad 0), .int a1] (wpreS adK adV dC dI cy sz w0)) (va_Qi (Pz_X12_isStreetHere_1 ad cy B qr s1 a1 w0) (fun u : va_W => wpost dC dI cy (va_A w0 sz) u) (va_A w0 sz)) 0 0 (va_A w0 sz) := by
  refine Met.ofW (cc := cX12_isStreetHere) (maxL := 4) (ret := (some .boolean)) (by decide) rfl ?_
  intro p e s m args below meth c s₁ Bk hml hv
  obtain ⟨rfl, ⟨hsz, hP, hK, hD0⟩, hE, hSR⟩ := hv
  have hx := Bk.exec
  have hb := Bk.bytes
  have hr := Bk.returns
  have hlocks := Bk.notSynchronized
  have hC : CallFix p m c cX12_isStreetHere 4 s _ (wu yX12_isStreetHere cX12_isStreetHere 4 (some .boolean)) RX12 := ⟨hx, hb, hml, findClass_of_methodNamed Bk.named, atoms_spec (ws := (wu yX12_isStreetHere cX12_isStreetHere 4 (some .boolean))) Bk.pre⟩
  subst hsz
  have hD := hD0.self (sz := s.heap.size)
  generalize hAe : va_A w0 s.heap.size = A at hD hE ⊢
  have hA : ∀ q : Nat, s.heap.size ≤ q → A q := fun q h => by rw [← hAe]; exact Or.inr h
  have hw : Wd dC dI A s.heap s.heap [] w0 := ⟨hP, hD, va_S.rf⟩
  have hF : FE ksM [(12, 8, 8), (12, 14, 14), (12, 15, 15), (12, 16, 16), (65, 0, 120)] w0 w0 := FE.rf
  have hl := lv_entry ([.ref (ad 0), .int a1]) (n := 4) (Nat.le_of_ble_eq_true rfl)
  rw [lg_entry_eq]
  generalize (lg_sl ([.ref (ad 0), .int a1]) ++ List.replicate (4 - (lg_sl ([.ref (ad 0), .int a1])).length) Slot.unset).toArray = ls at hl ⊢
  have hl : lv_has ls 4 [(0, .ref (ad 0)), (1, .int a1)] := hl
  generalize hloc : ([] : List Loc) = locs at hw ⊢
  have hinX12 : ∀ w ∈ u_ws RX12 TX12 42, w ∈ (wu yX12_isStreetHere cX12_isStreetHere 4 (some .boolean)) := fun _ h => List.mem_cons_of_mem _ (up_71 h)
  have hM : TT (fun n => m_X12_isStreetHere n 0 a1.toInt (sI w0)) (fun n => m_X12_isStreetHere n 0 a1.toInt (sI w0)) := TT.rf
  refine lv_aload_n hx hb dX12_isStreetHere_0 rfl (lv_at hl 0 rfl) ?_
  refine tk_geti hC hK hw hT hinX12 kM_at0 (by decide) rfl 8 (by decide) (List.mem_cons_of_mem _ uw_19_9) rfl rfl dX12_isStreetHere_1 (fun x1 c2 rx1 tx1 => ?_)
  replace hM := hM.rd (sI_at c2)
  refine lv_bipush (v := 12) hx hb dX12_isStreetHere_4 (by decide) ?_
  refine lv_icmp_ne (tgt := 16) hx hb dX12_isStreetHere_6 (by decide) (fun c3 => ?_) (fun c3 => ?_)
  · have c3 : ¬ x1.toInt = (12 : Int) := wk_eqF c3
    replace hM := hM.pos c3
    refine lv_aload_n hx hb dX12_isStreetHere_16 rfl (lv_at hl 0 rfl) ?_
    refine tk_Vv hC hK hw hT hA hE hSR kM_at0 (by decide) rfl (kz_X12_passWord_1 l adK adV dC dI cy ad B hB0 (Int.le_trans hB1 (by decide)) qr s1    w0 s.heap.size hT ) (cwV 0 hC.2.2.2.2 uV_RX12_109 rfl rfl rfl (by decide +kernel) ⟨Nat.le_of_ble_eq_true rfl, Nat.le_of_ble_eq_true rfl⟩) rfl hl.1 rfl (Nat.le_of_ble_eq_true rfl) dX12_isStreetHere_17 (fun w6 H locs hp5 hw => ?_)
    obtain ⟨hT, k7, hv15, hg14⟩ := hp5
    have hF := hF.tr k7 (by decide)
    have c16 := k7.gi kM_at0 (by decide) c2
    rcases hg14 with ⟨⟨x8, c9, rx8, tx8⟩, ⟨x10, c11, rx10, tx10⟩⟩ | ⟨x12, c13, rx12, tx12⟩
    · replace hM := hM.call hv15 rfl
      refine lv_bipush (v := 10) hx hb dX12_isStreetHere_20 (by decide) ?_
      refine lv_aload_n hx hb dX12_isStreetHere_22 rfl (lv_at hl 0 rfl) ?_
      refine tk_geti hC hK hw hT hinX12 kM_at0 (by decide) rfl 8 (by decide) (List.mem_cons_of_mem _ uw_19_9) rfl rfl dX12_isStreetHere_23 (fun x17 c18 rx17 tx17 => ?_)
      refine wk_top x1 (c18.symm.trans c16) ?_
      replace hM := hM.rd (sI_at c16)
      refine lv_imul hx hb dX12_isStreetHere_26 ?_
      refine lv_topi (fun x19 ex19 => ?_)
      have ezx19 := ex19
      have ex19 : x19.toInt = (10 : Int) * x1.toInt := by rw [ex19]; exact wk_mul (show (-2147483648) ≤ (10 : Int) * x1.toInt by omega) (show (10 : Int) * x1.toInt ≤ 2147483647 by omega)
      replace hM := hM.lt ex19.symm
      refine lv_istore_n (lv' := [(2, .int x19), (0, .ref (ad 0)), (1, .int a1)]) hx hb dX12_isStreetHere_27 rfl hl (by decide) rfl (fun ls hl => ?_)
      refine lv_aload_n hx hb dX12_isStreetHere_28 rfl (lv_at hl 1 rfl) ?_
      refine lv_iconst (v := 0) hx hb dX12_isStreetHere_29 (by decide) ?_
      refine lv_aload_n hx hb dX12_isStreetHere_30 rfl (lv_at hl 1 rfl) ?_
      refine tk_geti hC hK hw hT hinX12 kM_at0 (by decide) rfl 7 (by decide) (List.mem_cons_of_mem _ uw_19_8) rfl rfl dX12_isStreetHere_31 (fun x20 c21 rx20 tx20 => ?_)
      replace hM := hM.rd (sI_at c21)
      refine lv_iconst (v := 1) hx hb dX12_isStreetHere_34 (by decide) ?_
      refine lv_isub hx hb dX12_isStreetHere_35 ?_
      refine lv_topi (fun x22 ex22 => ?_)
      have ezx22 := ex22
      have ex22 : x22.toInt = x20.toInt - (1 : Int) := by rw [ex22]; exact wk_sub (show (-2147483648) ≤ x20.toInt - (1 : Int) by omega) (show x20.toInt - (1 : Int) ≤ 2147483647 by omega)
      replace hM := hM.lt ex22.symm
      refine tk_Vi hC hK hw hT hA hE hSR kM_at0 (by decide) rfl (kz_X12_numberHere_4 l adK adV dC dI cy ad B hB0 (Int.le_trans hB1 (by decide)) qr s1   x22 (show (-1) ≤ x22.toInt by first | with_reducible assumption | omega) (show x22.toInt ≤ 9 by first | with_reducible assumption | omega) w6 H.size hT ) (cwV 2 hC.2.2.2.2 uV_RX12_167 rfl rfl rfl (by decide +kernel) ⟨Nat.le_of_ble_eq_true rfl, Nat.le_of_ble_eq_true rfl⟩) rfl hl.1 rfl (Nat.le_of_ble_eq_true rfl) dX12_isStreetHere_36 (fun r23 w25 H locs hp24 hw => ?_)
      obtain ⟨hT, k26, hv41, hg40⟩ := hp24
      have hF := hF.tr k26 (by decide)
      have c42 := k26.gi kM_at0 (by decide) c16
      have c43 := k26.gi kM_at0 (by decide) c9
      have c44 := k26.gi kM_at0 (by decide) c21
      rcases hg40 with ⟨rfl, ⟨x27, c28, rx27, tx27⟩, ⟨x29, c30, rx29, tx29⟩⟩ | ⟨rfl, ⟨x31, c32, rx31, tx31⟩, ⟨x33, c34, rx33, tx33⟩⟩ | ⟨rfl, g35, ⟨x36, c37, rx36, tx36⟩, ⟨x38, c39, rx38, tx38⟩⟩
      · replace hM := hM.call (r' := 0) hv41 (by decide)
        have ex27 : x27.toInt = x8.toInt := by rw [← c43.symm.trans c28]
        refine lv_if_ne (tgt := 44) hx hb dX12_isStreetHere_39 (by decide) (fun c => absurd (by decide) c) (fun _ => ?_)
        replace hM := hM.neg (by decide)
        refine lv_iconst (v := 0) hx hb dX12_isStreetHere_42 (by decide) ?_
        exact tk_zret hC hr rfl hlocks hK ⟨hT, hF, hM.ret (by decide), (Or.inr (Or.inl ⟨rfl, ⟨x8, c43, (show 1 ≤ x8.toInt by first | with_reducible assumption | omega), (show x8.toInt ≤ 400 by first | with_reducible assumption | omega)⟩, ⟨x1, c42, (show 0 ≤ x1.toInt from rx1), (show x1.toInt ≤ 11 by first | with_reducible assumption | omega)⟩, ⟨x29, c30, (show 1 ≤ x29.toInt by first | with_reducible assumption | omega), (show x29.toInt ≤ 3205 by first | with_reducible assumption | omega)⟩⟩))⟩ hw dX12_isStreetHere_43
      · replace hM := hM.call (r' := 0) hv41 (by decide)
        have ex31 : x31.toInt = x8.toInt := by rw [← c43.symm.trans c32]
        refine lv_if_ne (tgt := 44) hx hb dX12_isStreetHere_39 (by decide) (fun c => absurd (by decide) c) (fun _ => ?_)
        replace hM := hM.neg (by decide)
        refine lv_iconst (v := 0) hx hb dX12_isStreetHere_42 (by decide) ?_
        exact tk_zret hC hr rfl hlocks hK ⟨hT, hF, hM.ret (by decide), (Or.inr (Or.inl ⟨rfl, ⟨x8, c43, (show 1 ≤ x8.toInt by first | with_reducible assumption | omega), (show x8.toInt ≤ 400 by first | with_reducible assumption | omega)⟩, ⟨x1, c42, (show 0 ≤ x1.toInt from rx1), (show x1.toInt ≤ 11 by first | with_reducible assumption | omega)⟩, ⟨x33, c34, (show 1 ≤ x33.toInt by first | with_reducible assumption | omega), (show x33.toInt ≤ 3205 by first | with_reducible assumption | omega)⟩⟩))⟩ hw dX12_isStreetHere_43
      · replace hM := hM.call (r' := 1) hv41 (by decide)
        have ex36 : x36.toInt = x8.toInt := by rw [← c43.symm.trans c37]
        refine lv_if_ne (tgt := 44) hx hb dX12_isStreetHere_39 (by decide) (fun _ => ?_) (fun c => absurd c (by decide))
        replace hM := hM.pos (by decide)
        refine lv_aload_n hx hb dX12_isStreetHere_44 rfl (lv_at hl 1 rfl) ?_
        refine tk_getA hC hK hw hT hinX12 kM_at0 (by decide) rfl 11 (by decide) (List.mem_cons_of_mem _ uw_6_19) rfl rfl dX12_isStreetHere_45 ?_
        refine lv_iload_n hx hb dX12_isStreetHere_48 rfl (lv_at hl 0 rfl) ?_
        refine lv_aload_n hx hb dX12_isStreetHere_49 rfl (lv_at hl 1 rfl) ?_
        refine tk_geti hC hK hw hT hinX12 kM_at0 (by decide) rfl 16 (by decide) (List.mem_cons_of_mem _ uw_21_12) rfl rfl dX12_isStreetHere_50 (fun x45 c46 rx45 tx45 => ?_)
        refine wk_top x38 (c46.symm.trans c39) ?_
        replace hM := hM.rd (sI_at c39)
        refine tk_iast hC hK hw hT kM_at6 (by decide) rfl rfl (show 0 ≤ x19.toInt by first | with_reducible assumption | omega) (show x19.toInt < 120 by first | with_reducible assumption | omega) (show 0 ≤ x38.toInt by first | with_reducible assumption | omega) (show x38.toInt ≤ 9 by first | with_reducible assumption | omega) dX12_isStreetHere_53 (fun H locs w47 hw hT k49 c48 => ?_)
        replace hM := hM.wr (sI_up k49 c48)
        have hF := hF.put kM_at6 (inE_of (a := 0) (b := 120) (by decide) (show 0 ≤ x19.toInt.toNat by omega) (show x19.toInt.toNat ≤ 120 by omega)) k49
        have c50 := k49.gi (Or.inl (tk_ne kM_at0 kM_at6 (by decide))) c42
        have c51 := k49.gi (Or.inl (tk_ne kM_at0 kM_at6 (by decide))) c43
        have c52 := k49.gi (Or.inl (tk_ne kM_at0 kM_at6 (by decide))) c44
        have c53 := k49.gi (Or.inl (tk_ne kM_at0 kM_at6 (by decide))) c39
        refine lv_aload_n hx hb dX12_isStreetHere_54 rfl (lv_at hl 1 rfl) ?_
        obtain ⟨x54, c55, rx54, tx54⟩ := hT.rdi (lo := 0) (hi := 400) (k := 14) kM_at0 (by decide) rfl
        refine tk_Vi hC hK hw hT hA hE hSR kM_at0 (by decide) rfl (kz_X12_see_1 l adK adV dC dI cy ad B hB0 (Int.le_trans hB1 (by decide)) qr s1    w47 H.size hT x54 c55 (show 0 ≤ x54.toInt by first | with_reducible assumption | omega) (show x54.toInt ≤ 400 by first | with_reducible assumption | omega)) (cwV 0 hC.2.2.2.2 uV_RX12_97 rfl rfl rfl (by decide +kernel) ⟨Nat.le_of_ble_eq_true rfl, Nat.le_of_ble_eq_true rfl⟩) rfl hl.1 rfl (Nat.le_of_ble_eq_true rfl) dX12_isStreetHere_55 (fun r56 w58 H locs hp57 hw => ?_)
        obtain ⟨hT, k59, hv77, hg76⟩ := hp57
        have hF := hF.tr k59 (by decide)
        have c78 := k59.gi kM_at0 (by decide) c50
        have c79 := k59.gi kM_at0 (by decide) c51
        have c80 := k59.gi kM_at0 (by decide) c52
        have c81 := k59.gi kM_at0 (by decide) c53
        rcases hg76 with ⟨g60, g61, ⟨x62, c63, rx62, tx62⟩, ⟨x64, c65, rx64, tx64⟩, g66, g67⟩ | ⟨rfl, ⟨x68, c69, rx68, tx68⟩, ⟨x70, c71, rx70, tx70⟩, g72⟩ | ⟨rfl, ⟨x73, c74, rx73, tx73⟩, g75⟩
        · replace hM := hM.call hv77 rfl
          have ex62 : x62.toInt = x8.toInt := by rw [← c79.symm.trans c63]
          have g66 : (gi w58 1 (x64.toInt).toNat).toInt ≠ 32 := by have q := g66; simp only [c65] at q; first | with_reducible exact q | omega
          have g67 : (x64.toInt = x54.toInt ∨ (gi w47 1 (x54.toInt).toNat).toInt = 32) := by have q := g67; simp only [c55, c65] at q; first | with_reducible exact q | omega
          refine lv_pop hx hb dX12_isStreetHere_58 rfl ?_
          refine lv_aload_n hx hb dX12_isStreetHere_59 rfl (lv_at hl 1 rfl) ?_
          refine tk_geti hC hK hw hT hinX12 kM_at0 (by decide) rfl 14 (by decide) (List.mem_cons_of_mem _ uw_19_18) rfl rfl dX12_isStreetHere_60 (fun x84 c85 rx84 tx84 => ?_)
          refine wk_top x64 (c85.symm.trans c65) ?_
          replace hM := hM.rd (sI_at c65)
          refine lv_istore_n (lv' := [(3, .int x64), (2, .int x19), (0, .ref (ad 0)), (1, .int a1)]) hx hb dX12_isStreetHere_63 rfl hl (by decide) rfl (fun ls hl => ?_)
          refine lv_aload_n hx hb dX12_isStreetHere_64 rfl (lv_at hl 2 rfl) ?_
          refine lv_iconst (v := 0) hx hb dX12_isStreetHere_65 (by decide) ?_
          refine lv_aload_n hx hb dX12_isStreetHere_66 rfl (lv_at hl 2 rfl) ?_
          refine tk_geti hC hK hw hT hinX12 kM_at0 (by decide) rfl 7 (by decide) (List.mem_cons_of_mem _ uw_19_8) rfl rfl dX12_isStreetHere_67 (fun x86 c87 rx86 tx86 => ?_)
          refine wk_top x20 (c87.symm.trans c80) ?_
          replace hM := hM.rd (sI_at c80)
          refine lv_iconst (v := 1) hx hb dX12_isStreetHere_70 (by decide) ?_
          refine lv_isub hx hb dX12_isStreetHere_71 ?_
          refine lv_topi (fun x88 ex88 => ?_)
          have ezx88 := ex88
          have ex88 : x88.toInt = x20.toInt - (1 : Int) := by rw [ex88]; exact wk_sub (show (-2147483648) ≤ x20.toInt - (1 : Int) by omega) (show x20.toInt - (1 : Int) ≤ 2147483647 by omega)
          replace hM := hM.lt ex88.symm
          refine tk_Vi hC hK hw hT hA hE hSR kM_at0 (by decide) rfl (kz_X12_numberHere_6 l adK adV dC dI cy ad B hB0 (Int.le_trans hB1 (by decide)) qr s1   x88 (show 0 ≤ x88.toInt by first | with_reducible assumption | omega) (show x88.toInt ≤ 9 by first | with_reducible assumption | omega) w58 H.size hT ) (cwV 2 hC.2.2.2.2 uV_RX12_167 rfl rfl rfl (by decide +kernel) ⟨Nat.le_of_ble_eq_true rfl, Nat.le_of_ble_eq_true rfl⟩) rfl hl.1 rfl (Nat.le_of_ble_eq_true rfl) dX12_isStreetHere_72 (fun r89 w91 H locs hp90 hw => ?_)
          obtain ⟨hT, k92, hv106, hg105⟩ := hp90
          have hF := hF.tr k92 (by decide)
          have c107 := k92.gi kM_at0 (by decide) c78
          have c108 := k92.gi kM_at0 (by decide) c79
          have c109 := k92.gi kM_at0 (by decide) c80
          rcases hg105 with ⟨rfl, ⟨x93, c94, rx93, tx93⟩, ⟨x95, c96, rx95, tx95⟩⟩ | ⟨rfl, ⟨x97, c98, rx97, tx97⟩, ⟨x99, c100, rx99, tx99⟩⟩ | ⟨rfl, ⟨x101, c102, rx101, tx101⟩, ⟨x103, c104, rx103, tx103⟩⟩
          · replace hM := hM.call (r' := 0) hv106 (by decide)
            have ex93 : x93.toInt = x8.toInt := by rw [← c108.symm.trans c94]
            refine lv_if_ne (tgt := 80) hx hb dX12_isStreetHere_75 (by decide) (fun c => absurd (by decide) c) (fun _ => ?_)
            replace hM := hM.neg (by decide)
            refine lv_iconst (v := 0) hx hb dX12_isStreetHere_78 (by decide) ?_
            exact tk_zret hC hr rfl hlocks hK ⟨hT, hF, hM.ret (by decide), (Or.inr (Or.inl ⟨rfl, ⟨x8, c108, (show 1 ≤ x8.toInt by first | with_reducible assumption | omega), (show x8.toInt ≤ 400 by first | with_reducible assumption | omega)⟩, ⟨x1, c107, (show 0 ≤ x1.toInt from rx1), (show x1.toInt ≤ 11 by first | with_reducible assumption | omega)⟩, ⟨x95, c96, (show 1 ≤ x95.toInt by first | with_reducible assumption | omega), (show x95.toInt ≤ 3205 by first | with_reducible assumption | omega)⟩⟩))⟩ hw dX12_isStreetHere_79
          · replace hM := hM.call (r' := 0) hv106 (by decide)
            have ex97 : x97.toInt = x8.toInt := by rw [← c108.symm.trans c98]
            refine lv_if_ne (tgt := 80) hx hb dX12_isStreetHere_75 (by decide) (fun c => absurd (by decide) c) (fun _ => ?_)
            replace hM := hM.neg (by decide)
            refine lv_iconst (v := 0) hx hb dX12_isStreetHere_78 (by decide) ?_
            exact tk_zret hC hr rfl hlocks hK ⟨hT, hF, hM.ret (by decide), (Or.inr (Or.inl ⟨rfl, ⟨x8, c108, (show 1 ≤ x8.toInt by first | with_reducible assumption | omega), (show x8.toInt ≤ 400 by first | with_reducible assumption | omega)⟩, ⟨x1, c107, (show 0 ≤ x1.toInt from rx1), (show x1.toInt ≤ 11 by first | with_reducible assumption | omega)⟩, ⟨x99, c100, (show 1 ≤ x99.toInt by first | with_reducible assumption | omega), (show x99.toInt ≤ 3205 by first | with_reducible assumption | omega)⟩⟩))⟩ hw dX12_isStreetHere_79
          · replace hM := hM.call (r' := 1) hv106 (by decide)
            have ex101 : x101.toInt = x8.toInt := by rw [← c108.symm.trans c102]
            refine lv_if_ne (tgt := 80) hx hb dX12_isStreetHere_75 (by decide) (fun _ => ?_) (fun c => absurd c (by decide))
            replace hM := hM.pos (by decide)
            refine lv_aload_n hx hb dX12_isStreetHere_80 rfl (lv_at hl 2 rfl) ?_
            refine tk_geti hC hK hw hT hinX12 kM_at0 (by decide) rfl 16 (by decide) (List.mem_cons_of_mem _ uw_21_12) rfl rfl dX12_isStreetHere_81 (fun x110 c111 rx110 tx110 => ?_)
            refine wk_top x103 (c111.symm.trans c104) ?_
            replace hM := hM.rd (sI_at c104)
            refine lv_aload_n hx hb dX12_isStreetHere_84 rfl (lv_at hl 2 rfl) ?_
            refine tk_getA hC hK hw hT hinX12 kM_at0 (by decide) rfl 11 (by decide) (List.mem_cons_of_mem _ uw_6_19) rfl rfl dX12_isStreetHere_85 ?_
            refine lv_iload_n hx hb dX12_isStreetHere_88 rfl (lv_at hl 1 rfl) ?_
            refine tk_iald hC hK hw hT kM_at6 rfl rfl (show 0 ≤ x19.toInt by first | with_reducible assumption | omega) (show x19.toInt < 120 by first | with_reducible assumption | omega) dX12_isStreetHere_89 (fun x112 c113 rx112 tx112 => ?_)
            have hox112 := c113
            replace hM := hM.rd (sI_at hox112)
            refine lv_icmp_ne (tgt := 100) hx hb dX12_isStreetHere_90 (by decide) (fun c114 => ?_) (fun c114 => ?_)
            · have c114 : ¬ x103.toInt = x112.toInt := wk_eqF c114
              replace hM := hM.pos c114
              refine lv_aload_n hx hb dX12_isStreetHere_100 rfl (lv_at hl 2 rfl) ?_
              refine tk_getA hC hK hw hT hinX12 kM_at0 (by decide) rfl 11 (by decide) (List.mem_cons_of_mem _ uw_6_19) rfl rfl dX12_isStreetHere_101 ?_
              refine lv_iload_n hx hb dX12_isStreetHere_104 rfl (lv_at hl 1 rfl) ?_
              refine lv_iconst (v := 1) hx hb dX12_isStreetHere_105 (by decide) ?_
              refine lv_iadd hx hb dX12_isStreetHere_106 ?_
              refine lv_topi (fun x115 ex115 => ?_)
              have ezx115 := ex115
              have ex115 : x115.toInt = x19.toInt + (1 : Int) := by rw [ex115]; exact wk_add (show (-2147483648) ≤ x19.toInt + (1 : Int) by omega) (show x19.toInt + (1 : Int) ≤ 2147483647 by omega)
              replace hM := hM.lt ex115.symm
              refine lv_aload_n hx hb dX12_isStreetHere_107 rfl (lv_at hl 2 rfl) ?_
              refine tk_geti hC hK hw hT hinX12 kM_at0 (by decide) rfl 16 (by decide) (List.mem_cons_of_mem _ uw_21_12) rfl rfl dX12_isStreetHere_108 (fun x116 c117 rx116 tx116 => ?_)
              refine wk_top x103 (c117.symm.trans c104) ?_
              replace hM := hM.rd (sI_at c104)
              refine tk_iast hC hK hw hT kM_at6 (by decide) rfl rfl (show 0 ≤ x115.toInt by first | with_reducible assumption | omega) (show x115.toInt < 120 by first | with_reducible assumption | omega) (show 0 ≤ x103.toInt by first | with_reducible assumption | omega) (show x103.toInt ≤ 9 by first | with_reducible assumption | omega) dX12_isStreetHere_111 (fun H locs w118 hw hT k120 c119 => ?_)
              replace hM := hM.wr (sI_up k120 c119)
              have hF := hF.put kM_at6 (inE_of (a := 0) (b := 120) (by decide) (show 0 ≤ x115.toInt.toNat by omega) (show x115.toInt.toNat ≤ 120 by omega)) k120
              have c121 := k120.gi (Or.inl (tk_ne kM_at0 kM_at6 (by decide))) c107
              have c122 := k120.gi (Or.inl (tk_ne kM_at0 kM_at6 (by decide))) c108
              have c123 := k120.gi (Or.inl (tk_ne kM_at0 kM_at6 (by decide))) c109
              have c124 := k120.gi (Or.inl (tk_ne kM_at0 kM_at6 (by decide))) c104
              refine lv_aload_n hx hb dX12_isStreetHere_112 rfl (lv_at hl 2 rfl) ?_
              refine lv_iconst (v := 1) hx hb dX12_isStreetHere_113 (by decide) ?_
              refine lv_bipush (v := 9) hx hb dX12_isStreetHere_114 (by decide) ?_
              refine tk_Vi hC hK hw hT hA hE hSR kM_at0 (by decide) rfl (kz_X12_numberHere_7 l adK adV dC dI cy ad B hB0 (Int.le_trans hB1 (by decide)) qr s1    w118 H.size hT ) (cwV 2 hC.2.2.2.2 uV_RX12_167 rfl rfl rfl (by decide +kernel) ⟨Nat.le_of_ble_eq_true rfl, Nat.le_of_ble_eq_true rfl⟩) rfl hl.1 rfl (Nat.le_of_ble_eq_true rfl) dX12_isStreetHere_116 (fun r125 w127 H locs hp126 hw => ?_)
              obtain ⟨hT, k128, hv142, hg141⟩ := hp126
              have hF := hF.tr k128 (by decide)
              have c143 := k128.gi kM_at0 (by decide) c121
              have c144 := k128.gi kM_at0 (by decide) c122
              have c145 := k128.gi kM_at0 (by decide) c123
              rcases hg141 with ⟨rfl, ⟨x129, c130, rx129, tx129⟩, ⟨x131, c132, rx131, tx131⟩⟩ | ⟨rfl, ⟨x133, c134, rx133, tx133⟩, ⟨x135, c136, rx135, tx135⟩⟩ | ⟨rfl, ⟨x137, c138, rx137, tx137⟩, ⟨x139, c140, rx139, tx139⟩⟩
              · replace hM := hM.call (r' := 0) hv142 (by decide)
                have ex129 : x129.toInt = x8.toInt := by rw [← c144.symm.trans c130]
                refine lv_if_ne (tgt := 124) hx hb dX12_isStreetHere_119 (by decide) (fun c => absurd (by decide) c) (fun _ => ?_)
                replace hM := hM.neg (by decide)
                refine lv_iconst (v := 0) hx hb dX12_isStreetHere_122 (by decide) ?_
                exact tk_zret hC hr rfl hlocks hK ⟨hT, hF, hM.ret (by decide), (Or.inr (Or.inl ⟨rfl, ⟨x8, c144, (show 1 ≤ x8.toInt by first | with_reducible assumption | omega), (show x8.toInt ≤ 400 by first | with_reducible assumption | omega)⟩, ⟨x1, c143, (show 0 ≤ x1.toInt from rx1), (show x1.toInt ≤ 11 by first | with_reducible assumption | omega)⟩, ⟨x131, c132, (show 1 ≤ x131.toInt by first | with_reducible assumption | omega), (show x131.toInt ≤ 3205 by first | with_reducible assumption | omega)⟩⟩))⟩ hw dX12_isStreetHere_123
              · replace hM := hM.call (r' := 0) hv142 (by decide)
                have ex133 : x133.toInt = x8.toInt := by rw [← c144.symm.trans c134]
                refine lv_if_ne (tgt := 124) hx hb dX12_isStreetHere_119 (by decide) (fun c => absurd (by decide) c) (fun _ => ?_)
                replace hM := hM.neg (by decide)
                refine lv_iconst (v := 0) hx hb dX12_isStreetHere_122 (by decide) ?_
                exact tk_zret hC hr rfl hlocks hK ⟨hT, hF, hM.ret (by decide), (Or.inr (Or.inl ⟨rfl, ⟨x8, c144, (show 1 ≤ x8.toInt by first | with_reducible assumption | omega), (show x8.toInt ≤ 400 by first | with_reducible assumption | omega)⟩, ⟨x1, c143, (show 0 ≤ x1.toInt from rx1), (show x1.toInt ≤ 11 by first | with_reducible assumption | omega)⟩, ⟨x135, c136, (show 1 ≤ x135.toInt by first | with_reducible assumption | omega), (show x135.toInt ≤ 3205 by first | with_reducible assumption | omega)⟩⟩))⟩ hw dX12_isStreetHere_123
              · replace hM := hM.call (r' := 1) hv142 (by decide)
                have ex137 : x137.toInt = x8.toInt := by rw [← c144.symm.trans c138]
                refine lv_if_ne (tgt := 124) hx hb dX12_isStreetHere_119 (by decide) (fun _ => ?_) (fun c => absurd c (by decide))
                replace hM := hM.pos (by decide)
                refine lv_aload_n hx hb dX12_isStreetHere_124 rfl (lv_at hl 2 rfl) ?_
                refine tk_getA hC hK hw hT hinX12 kM_at0 (by decide) rfl 11 (by decide) (List.mem_cons_of_mem _ uw_6_19) rfl rfl dX12_isStreetHere_125 ?_
                refine lv_iload_n hx hb dX12_isStreetHere_128 rfl (lv_at hl 1 rfl) ?_
                refine lv_iconst (v := 2) hx hb dX12_isStreetHere_129 (by decide) ?_
                refine lv_iadd hx hb dX12_isStreetHere_130 ?_
                refine lv_topi (fun x146 ex146 => ?_)
                have ezx146 := ex146
                have ex146 : x146.toInt = x19.toInt + (2 : Int) := by rw [ex146]; exact wk_add (show (-2147483648) ≤ x19.toInt + (2 : Int) by omega) (show x19.toInt + (2 : Int) ≤ 2147483647 by omega)
                replace hM := hM.lt ex146.symm
                refine lv_aload_n hx hb dX12_isStreetHere_131 rfl (lv_at hl 2 rfl) ?_
                refine tk_geti hC hK hw hT hinX12 kM_at0 (by decide) rfl 16 (by decide) (List.mem_cons_of_mem _ uw_21_12) rfl rfl dX12_isStreetHere_132 (fun x147 c148 rx147 tx147 => ?_)
                refine wk_top x139 (c148.symm.trans c140) ?_
                replace hM := hM.rd (sI_at c140)
                refine tk_iast hC hK hw hT kM_at6 (by decide) rfl rfl (show 0 ≤ x146.toInt by first | with_reducible assumption | omega) (show x146.toInt < 120 by first | with_reducible assumption | omega) (show 0 ≤ x139.toInt by first | with_reducible assumption | omega) (show x139.toInt ≤ 9 by first | with_reducible assumption | omega) dX12_isStreetHere_135 (fun H locs w149 hw hT k151 c150 => ?_)
                replace hM := hM.wr (sI_up k151 c150)
                have hF := hF.put kM_at6 (inE_of (a := 0) (b := 120) (by decide) (show 0 ≤ x146.toInt.toNat by omega) (show x146.toInt.toNat ≤ 120 by omega)) k151
                have c152 := k151.gi (Or.inl (tk_ne kM_at0 kM_at6 (by decide))) c143
                have c153 := k151.gi (Or.inl (tk_ne kM_at0 kM_at6 (by decide))) c144
                have c154 := k151.gi (Or.inl (tk_ne kM_at0 kM_at6 (by decide))) c145
                have c155 := k151.gi (Or.inl (tk_ne kM_at0 kM_at6 (by decide))) c140
                refine lv_aload_n hx hb dX12_isStreetHere_136 rfl (lv_at hl 2 rfl) ?_
                refine lv_iload_n hx hb dX12_isStreetHere_137 rfl (lv_at hl 1 rfl) ?_
                refine lv_iconst (v := 3) hx hb dX12_isStreetHere_138 (by decide) ?_
                refine lv_iadd hx hb dX12_isStreetHere_139 ?_
                refine lv_topi (fun x156 ex156 => ?_)
                have ezx156 := ex156
                have ex156 : x156.toInt = x19.toInt + (3 : Int) := by rw [ex156]; exact wk_add (show (-2147483648) ≤ x19.toInt + (3 : Int) by omega) (show x19.toInt + (3 : Int) ≤ 2147483647 by omega)
                replace hM := hM.lt ex156.symm
                refine tk_Vi hC hK hw hT hA hE hSR kM_at0 (by decide) rfl (kz_X12_areSignsHere_1 l adK adV dC dI cy ad B hB0 (Int.le_trans hB1 (by decide)) qr s1   x156 (show 3 ≤ x156.toInt by first | with_reducible assumption | omega) (show x156.toInt ≤ 113 by first | with_reducible assumption | omega) w149 H.size hT ) (cwV 1 hC.2.2.2.2 uV_RX12_227 rfl rfl rfl (by decide +kernel) ⟨Nat.le_of_ble_eq_true rfl, Nat.le_of_ble_eq_true rfl⟩) rfl hl.1 rfl (Nat.le_of_ble_eq_true rfl) dX12_isStreetHere_140 (fun r157 w159 H locs hp158 hw => ?_)
                obtain ⟨hT, k160, hv174, hg173⟩ := hp158
                have hF := hF.tr k160 (by decide)
                have c175 := k160.gi kM_at0 (by decide) c152
                have c176 := k160.gi kM_at0 (by decide) c153
                have c177 := k160.gi kM_at0 (by decide) c154
                have c178 := k160.gi kM_at0 (by decide) c155
                rcases hg173 with ⟨rfl, ⟨x161, c162, rx161, tx161⟩, ⟨x163, c164, rx163, tx163⟩, ⟨x165, c166, rx165, tx165⟩⟩ | ⟨rfl, ⟨x167, c168, rx167, tx167⟩, ⟨x169, c170, rx169, tx169⟩⟩ | ⟨rfl, ⟨x171, c172, rx171, tx171⟩⟩
                · replace hM := hM.call (r' := 0) hv174 (by decide)
                  have ex161 : x161.toInt = x8.toInt := by rw [← c176.symm.trans c162]
                  refine lv_if_ne (tgt := 148) hx hb dX12_isStreetHere_143 (by decide) (fun c => absurd (by decide) c) (fun _ => ?_)
                  replace hM := hM.neg (by decide)
                  refine lv_iconst (v := 0) hx hb dX12_isStreetHere_146 (by decide) ?_
                  exact tk_zret hC hr rfl hlocks hK ⟨hT, hF, hM.ret (by decide), (Or.inr (Or.inl ⟨rfl, ⟨x8, c176, (show 1 ≤ x8.toInt by first | with_reducible assumption | omega), (show x8.toInt ≤ 400 by first | with_reducible assumption | omega)⟩, ⟨x1, c175, (show 0 ≤ x1.toInt from rx1), (show x1.toInt ≤ 11 by first | with_reducible assumption | omega)⟩, ⟨x165, c166, (show 1 ≤ x165.toInt by first | with_reducible assumption | omega), (show x165.toInt ≤ 3205 by first | with_reducible assumption | omega)⟩⟩))⟩ hw dX12_isStreetHere_147
                · replace hM := hM.call (r' := 0) hv174 (by decide)
                  have ex167 : x167.toInt = x8.toInt := by rw [← c176.symm.trans c168]
                  refine lv_if_ne (tgt := 148) hx hb dX12_isStreetHere_143 (by decide) (fun c => absurd (by decide) c) (fun _ => ?_)
                  replace hM := hM.neg (by decide)
                  refine lv_iconst (v := 0) hx hb dX12_isStreetHere_146 (by decide) ?_
                  exact tk_zret hC hr rfl hlocks hK ⟨hT, hF, hM.ret (by decide), (Or.inr (Or.inl ⟨rfl, ⟨x8, c176, (show 1 ≤ x8.toInt by first | with_reducible assumption | omega), (show x8.toInt ≤ 400 by first | with_reducible assumption | omega)⟩, ⟨x1, c175, (show 0 ≤ x1.toInt from rx1), (show x1.toInt ≤ 11 by first | with_reducible assumption | omega)⟩, ⟨x169, c170, (show 1 ≤ x169.toInt by first | with_reducible assumption | omega), (show x169.toInt ≤ 3205 by first | with_reducible assumption | omega)⟩⟩))⟩ hw dX12_isStreetHere_147
                · replace hM := hM.call (r' := 1) hv174 (by decide)
                  have ex171 : x171.toInt = x8.toInt := by rw [← c176.symm.trans c172]
                  refine lv_if_ne (tgt := 148) hx hb dX12_isStreetHere_143 (by decide) (fun _ => ?_) (fun c => absurd c (by decide))
                  replace hM := hM.pos (by decide)
                  refine lv_aload_n hx hb dX12_isStreetHere_148 rfl (lv_at hl 2 rfl) ?_
                  refine lv_dup hx hb dX12_isStreetHere_149 rfl ?_
                  refine tk_geti hC hK hw hT hinX12 kM_at0 (by decide) rfl 8 (by decide) (List.mem_cons_of_mem _ uw_19_9) rfl rfl dX12_isStreetHere_150 (fun x179 c180 rx179 tx179 => ?_)
                  refine wk_top x1 (c180.symm.trans c175) ?_
                  replace hM := hM.rd (sI_at c175)
                  refine lv_iconst (v := 1) hx hb dX12_isStreetHere_153 (by decide) ?_
                  refine lv_iadd hx hb dX12_isStreetHere_154 ?_
                  refine lv_topi (fun x181 ex181 => ?_)
                  have ezx181 := ex181
                  have ex181 : x181.toInt = x1.toInt + (1 : Int) := by rw [ex181]; exact wk_add (show (-2147483648) ≤ x1.toInt + (1 : Int) by omega) (show x1.toInt + (1 : Int) ≤ 2147483647 by omega)
                  replace hM := hM.lt ex181.symm
                  refine tk_puti hC hK hw hT hinX12 tyX12_ok nmX12 kM_at0 (by decide) rfl rfl 8 (by decide) (List.mem_cons_of_mem _ uw_19_9) rfl rfl rfl rfl (show 0 ≤ x181.toInt by first | with_reducible assumption | omega) (show x181.toInt ≤ 12 by first | with_reducible assumption | omega) dX12_isStreetHere_155 (fun H locs w182 hw hT k184 c183 => ?_)
                  replace hM := hM.wr (sI_up k184 c183)
                  have hF := hF.put kM_at0 (k := 8) (by decide) k184
                  have c185 := k184.gi (Or.inr (by decide)) c176
                  have c186 := k184.gi (Or.inr (by decide)) c177
                  have c187 := k184.gi (Or.inr (by decide)) c178
                  refine lv_iconst (v := 1) hx hb dX12_isStreetHere_158 (by decide) ?_
                  exact tk_zret hC hr rfl hlocks hK ⟨hT, hF, hM.ret (by decide), (Or.inr (Or.inr (Or.inr ⟨rfl, ⟨x8, c185, (show 1 ≤ x8.toInt by first | with_reducible assumption | omega), (show x8.toInt ≤ 400 by first | with_reducible assumption | omega)⟩, ⟨x20, c186, (show 1 ≤ x20.toInt by first | with_reducible assumption | omega), (show x20.toInt ≤ 10 from tx20)⟩, ⟨x181, c183, (show 1 ≤ x181.toInt by first | with_reducible assumption | omega), (show x181.toInt ≤ 12 by first | with_reducible assumption | omega)⟩, ⟨x139, c187, (show 1 ≤ x139.toInt by first | with_reducible assumption | omega), (show x139.toInt ≤ 9 by first | with_reducible assumption | omega)⟩⟩)))⟩ hw dX12_isStreetHere_159
            · have c114 : x103.toInt = x112.toInt := wk_eq.mp c114
              replace hM := hM.neg (fun q => q c114)
              refine lv_aload_n hx hb dX12_isStreetHere_93 rfl (lv_at hl 2 rfl) ?_
              refine lv_iconst (v := 1) hx hb dX12_isStreetHere_94 (by decide) ?_
              refine lv_iload_n hx hb dX12_isStreetHere_95 rfl (lv_at hl 0 rfl) ?_
              refine tk_Vi hC hK hw hT hA hE hSR kM_at0 (by decide) rfl (kz_X12_fails_1 l adK adV dC dI cy ad B hB0 (Int.le_trans hB1 (by decide)) qr s1   1 (by decide) (by decide) x64 (show 0 ≤ x64.toInt by first | with_reducible assumption | omega) (show x64.toInt ≤ 400 by first | with_reducible assumption | omega) w91 H.size hT ) (cwV 2 hC.2.2.2.2 uV_RX12_115 rfl rfl rfl (by decide +kernel) ⟨Nat.le_of_ble_eq_true rfl, Nat.le_of_ble_eq_true rfl⟩) rfl hl.1 rfl (Nat.le_of_ble_eq_true rfl) dX12_isStreetHere_96 (fun r188 w190 H locs hp189 hw => ?_)
              obtain ⟨hT, k191, hv195, hg194⟩ := hp189
              try simp only [show (1 : Int32).toInt = 1 by decide] at hv195
              have hF := hF.tr k191 (by decide)
              have c196 := k191.gi kM_at0 (by decide) c107
              have c197 := k191.gi kM_at0 (by decide) c108
              have c198 := k191.gi kM_at0 (by decide) c109
              have c199 := k191.gi kM_at0 (by decide) c104
              obtain ⟨rfl, ⟨x192, c193, rx192, tx192⟩⟩ := hg194
              replace hM := hM.call (r' := 0) hv195 (by decide)
              exact tk_zret hC hr rfl hlocks hK ⟨hT, hF, hM.ret (by decide), (Or.inr (Or.inl ⟨rfl, ⟨x8, c197, (show 1 ≤ x8.toInt by first | with_reducible assumption | omega), (show x8.toInt ≤ 400 by first | with_reducible assumption | omega)⟩, ⟨x1, c196, (show 0 ≤ x1.toInt from rx1), (show x1.toInt ≤ 11 by first | with_reducible assumption | omega)⟩, ⟨x192, c193, (show 1 ≤ x192.toInt by first | with_reducible assumption | omega), (show x192.toInt ≤ 3205 by first | with_reducible assumption | omega)⟩⟩))⟩ hw dX12_isStreetHere_99
        · replace hM := hM.call (r' := (-1)) hv77 (by decide)
          have ex68 : x68.toInt = x8.toInt := by rw [← c79.symm.trans c69]
          have g72 : (x70.toInt = x54.toInt ∨ (gi w47 1 (x54.toInt).toNat).toInt = 32) := by have q := g72; simp only [c55, c71] at q; first | with_reducible exact q | omega
          refine lv_pop hx hb dX12_isStreetHere_58 rfl ?_
          refine lv_aload_n hx hb dX12_isStreetHere_59 rfl (lv_at hl 1 rfl) ?_
          refine tk_geti hC hK hw hT hinX12 kM_at0 (by decide) rfl 14 (by decide) (List.mem_cons_of_mem _ uw_19_18) rfl rfl dX12_isStreetHere_60 (fun x200 c201 rx200 tx200 => ?_)
          refine wk_top x70 (c201.symm.trans c71) ?_
          replace hM := hM.rd (sI_at c71)
          refine lv_istore_n (lv' := [(3, .int x70), (2, .int x19), (0, .ref (ad 0)), (1, .int a1)]) hx hb dX12_isStreetHere_63 rfl hl (by decide) rfl (fun ls hl => ?_)
          refine lv_aload_n hx hb dX12_isStreetHere_64 rfl (lv_at hl 2 rfl) ?_
          refine lv_iconst (v := 0) hx hb dX12_isStreetHere_65 (by decide) ?_
          refine lv_aload_n hx hb dX12_isStreetHere_66 rfl (lv_at hl 2 rfl) ?_
          refine tk_geti hC hK hw hT hinX12 kM_at0 (by decide) rfl 7 (by decide) (List.mem_cons_of_mem _ uw_19_8) rfl rfl dX12_isStreetHere_67 (fun x202 c203 rx202 tx202 => ?_)
          refine wk_top x20 (c203.symm.trans c80) ?_
          replace hM := hM.rd (sI_at c80)
          refine lv_iconst (v := 1) hx hb dX12_isStreetHere_70 (by decide) ?_
          refine lv_isub hx hb dX12_isStreetHere_71 ?_
          refine lv_topi (fun x204 ex204 => ?_)
          have ezx204 := ex204
          have ex204 : x204.toInt = x20.toInt - (1 : Int) := by rw [ex204]; exact wk_sub (show (-2147483648) ≤ x20.toInt - (1 : Int) by omega) (show x20.toInt - (1 : Int) ≤ 2147483647 by omega)
          replace hM := hM.lt ex204.symm
          refine tk_Vi hC hK hw hT hA hE hSR kM_at0 (by decide) rfl (kz_X12_numberHere_6 l adK adV dC dI cy ad B hB0 (Int.le_trans hB1 (by decide)) qr s1   x204 (show 0 ≤ x204.toInt by first | with_reducible assumption | omega) (show x204.toInt ≤ 9 by first | with_reducible assumption | omega) w58 H.size hT ) (cwV 2 hC.2.2.2.2 uV_RX12_167 rfl rfl rfl (by decide +kernel) ⟨Nat.le_of_ble_eq_true rfl, Nat.le_of_ble_eq_true rfl⟩) rfl hl.1 rfl (Nat.le_of_ble_eq_true rfl) dX12_isStreetHere_72 (fun r205 w207 H locs hp206 hw => ?_)
          obtain ⟨hT, k208, hv222, hg221⟩ := hp206
          have hF := hF.tr k208 (by decide)
          have c223 := k208.gi kM_at0 (by decide) c78
          have c224 := k208.gi kM_at0 (by decide) c79
          have c225 := k208.gi kM_at0 (by decide) c80
          rcases hg221 with ⟨rfl, ⟨x209, c210, rx209, tx209⟩, ⟨x211, c212, rx211, tx211⟩⟩ | ⟨rfl, ⟨x213, c214, rx213, tx213⟩, ⟨x215, c216, rx215, tx215⟩⟩ | ⟨rfl, ⟨x217, c218, rx217, tx217⟩, ⟨x219, c220, rx219, tx219⟩⟩
          · replace hM := hM.call (r' := 0) hv222 (by decide)
            have ex209 : x209.toInt = x8.toInt := by rw [← c224.symm.trans c210]
            refine lv_if_ne (tgt := 80) hx hb dX12_isStreetHere_75 (by decide) (fun c => absurd (by decide) c) (fun _ => ?_)
            replace hM := hM.neg (by decide)
            refine lv_iconst (v := 0) hx hb dX12_isStreetHere_78 (by decide) ?_
            exact tk_zret hC hr rfl hlocks hK ⟨hT, hF, hM.ret (by decide), (Or.inr (Or.inl ⟨rfl, ⟨x8, c224, (show 1 ≤ x8.toInt by first | with_reducible assumption | omega), (show x8.toInt ≤ 400 by first | with_reducible assumption | omega)⟩, ⟨x1, c223, (show 0 ≤ x1.toInt from rx1), (show x1.toInt ≤ 11 by first | with_reducible assumption | omega)⟩, ⟨x211, c212, (show 1 ≤ x211.toInt by first | with_reducible assumption | omega), (show x211.toInt ≤ 3205 by first | with_reducible assumption | omega)⟩⟩))⟩ hw dX12_isStreetHere_79
          · replace hM := hM.call (r' := 0) hv222 (by decide)
            have ex213 : x213.toInt = x8.toInt := by rw [← c224.symm.trans c214]
            refine lv_if_ne (tgt := 80) hx hb dX12_isStreetHere_75 (by decide) (fun c => absurd (by decide) c) (fun _ => ?_)
            replace hM := hM.neg (by decide)
            refine lv_iconst (v := 0) hx hb dX12_isStreetHere_78 (by decide) ?_
            exact tk_zret hC hr rfl hlocks hK ⟨hT, hF, hM.ret (by decide), (Or.inr (Or.inl ⟨rfl, ⟨x8, c224, (show 1 ≤ x8.toInt by first | with_reducible assumption | omega), (show x8.toInt ≤ 400 by first | with_reducible assumption | omega)⟩, ⟨x1, c223, (show 0 ≤ x1.toInt from rx1), (show x1.toInt ≤ 11 by first | with_reducible assumption | omega)⟩, ⟨x215, c216, (show 1 ≤ x215.toInt by first | with_reducible assumption | omega), (show x215.toInt ≤ 3205 by first | with_reducible assumption | omega)⟩⟩))⟩ hw dX12_isStreetHere_79
          · replace hM := hM.call (r' := 1) hv222 (by decide)
            have ex217 : x217.toInt = x8.toInt := by rw [← c224.symm.trans c218]
            refine lv_if_ne (tgt := 80) hx hb dX12_isStreetHere_75 (by decide) (fun _ => ?_) (fun c => absurd c (by decide))
            replace hM := hM.pos (by decide)
            refine lv_aload_n hx hb dX12_isStreetHere_80 rfl (lv_at hl 2 rfl) ?_
            refine tk_geti hC hK hw hT hinX12 kM_at0 (by decide) rfl 16 (by decide) (List.mem_cons_of_mem _ uw_21_12) rfl rfl dX12_isStreetHere_81 (fun x226 c227 rx226 tx226 => ?_)
            refine wk_top x219 (c227.symm.trans c220) ?_
            replace hM := hM.rd (sI_at c220)
            refine lv_aload_n hx hb dX12_isStreetHere_84 rfl (lv_at hl 2 rfl) ?_
            refine tk_getA hC hK hw hT hinX12 kM_at0 (by decide) rfl 11 (by decide) (List.mem_cons_of_mem _ uw_6_19) rfl rfl dX12_isStreetHere_85 ?_
            refine lv_iload_n hx hb dX12_isStreetHere_88 rfl (lv_at hl 1 rfl) ?_
            refine tk_iald hC hK hw hT kM_at6 rfl rfl (show 0 ≤ x19.toInt by first | with_reducible assumption | omega) (show x19.toInt < 120 by first | with_reducible assumption | omega) dX12_isStreetHere_89 (fun x228 c229 rx228 tx228 => ?_)
            have hox228 := c229
            replace hM := hM.rd (sI_at hox228)
            refine lv_icmp_ne (tgt := 100) hx hb dX12_isStreetHere_90 (by decide) (fun c230 => ?_) (fun c230 => ?_)
            · have c230 : ¬ x219.toInt = x228.toInt := wk_eqF c230
              replace hM := hM.pos c230
              refine lv_aload_n hx hb dX12_isStreetHere_100 rfl (lv_at hl 2 rfl) ?_
              refine tk_getA hC hK hw hT hinX12 kM_at0 (by decide) rfl 11 (by decide) (List.mem_cons_of_mem _ uw_6_19) rfl rfl dX12_isStreetHere_101 ?_
              refine lv_iload_n hx hb dX12_isStreetHere_104 rfl (lv_at hl 1 rfl) ?_
              refine lv_iconst (v := 1) hx hb dX12_isStreetHere_105 (by decide) ?_
              refine lv_iadd hx hb dX12_isStreetHere_106 ?_
              refine lv_topi (fun x231 ex231 => ?_)
              have ezx231 := ex231
              have ex231 : x231.toInt = x19.toInt + (1 : Int) := by rw [ex231]; exact wk_add (show (-2147483648) ≤ x19.toInt + (1 : Int) by omega) (show x19.toInt + (1 : Int) ≤ 2147483647 by omega)
              replace hM := hM.lt ex231.symm
              refine lv_aload_n hx hb dX12_isStreetHere_107 rfl (lv_at hl 2 rfl) ?_
              refine tk_geti hC hK hw hT hinX12 kM_at0 (by decide) rfl 16 (by decide) (List.mem_cons_of_mem _ uw_21_12) rfl rfl dX12_isStreetHere_108 (fun x232 c233 rx232 tx232 => ?_)
              refine wk_top x219 (c233.symm.trans c220) ?_
              replace hM := hM.rd (sI_at c220)
              refine tk_iast hC hK hw hT kM_at6 (by decide) rfl rfl (show 0 ≤ x231.toInt by first | with_reducible assumption | omega) (show x231.toInt < 120 by first | with_reducible assumption | omega) (show 0 ≤ x219.toInt by first | with_reducible assumption | omega) (show x219.toInt ≤ 9 by first | with_reducible assumption | omega) dX12_isStreetHere_111 (fun H locs w234 hw hT k236 c235 => ?_)
              replace hM := hM.wr (sI_up k236 c235)
              have hF := hF.put kM_at6 (inE_of (a := 0) (b := 120) (by decide) (show 0 ≤ x231.toInt.toNat by omega) (show x231.toInt.toNat ≤ 120 by omega)) k236
              have c237 := k236.gi (Or.inl (tk_ne kM_at0 kM_at6 (by decide))) c223
              have c238 := k236.gi (Or.inl (tk_ne kM_at0 kM_at6 (by decide))) c224
              have c239 := k236.gi (Or.inl (tk_ne kM_at0 kM_at6 (by decide))) c225
              have c240 := k236.gi (Or.inl (tk_ne kM_at0 kM_at6 (by decide))) c220
              refine lv_aload_n hx hb dX12_isStreetHere_112 rfl (lv_at hl 2 rfl) ?_
              refine lv_iconst (v := 1) hx hb dX12_isStreetHere_113 (by decide) ?_
              refine lv_bipush (v := 9) hx hb dX12_isStreetHere_114 (by decide) ?_
              refine tk_Vi hC hK hw hT hA hE hSR kM_at0 (by decide) rfl (kz_X12_numberHere_7 l adK adV dC dI cy ad B hB0 (Int.le_trans hB1 (by decide)) qr s1    w234 H.size hT ) (cwV 2 hC.2.2.2.2 uV_RX12_167 rfl rfl rfl (by decide +kernel) ⟨Nat.le_of_ble_eq_true rfl, Nat.le_of_ble_eq_true rfl⟩) rfl hl.1 rfl (Nat.le_of_ble_eq_true rfl) dX12_isStreetHere_116 (fun r241 w243 H locs hp242 hw => ?_)
              obtain ⟨hT, k244, hv258, hg257⟩ := hp242
              have hF := hF.tr k244 (by decide)
              have c259 := k244.gi kM_at0 (by decide) c237
              have c260 := k244.gi kM_at0 (by decide) c238
              have c261 := k244.gi kM_at0 (by decide) c239
              rcases hg257 with ⟨rfl, ⟨x245, c246, rx245, tx245⟩, ⟨x247, c248, rx247, tx247⟩⟩ | ⟨rfl, ⟨x249, c250, rx249, tx249⟩, ⟨x251, c252, rx251, tx251⟩⟩ | ⟨rfl, ⟨x253, c254, rx253, tx253⟩, ⟨x255, c256, rx255, tx255⟩⟩
              · replace hM := hM.call (r' := 0) hv258 (by decide)
                have ex245 : x245.toInt = x8.toInt := by rw [← c260.symm.trans c246]
                refine lv_if_ne (tgt := 124) hx hb dX12_isStreetHere_119 (by decide) (fun c => absurd (by decide) c) (fun _ => ?_)
                replace hM := hM.neg (by decide)
                refine lv_iconst (v := 0) hx hb dX12_isStreetHere_122 (by decide) ?_
                exact tk_zret hC hr rfl hlocks hK ⟨hT, hF, hM.ret (by decide), (Or.inr (Or.inl ⟨rfl, ⟨x8, c260, (show 1 ≤ x8.toInt by first | with_reducible assumption | omega), (show x8.toInt ≤ 400 by first | with_reducible assumption | omega)⟩, ⟨x1, c259, (show 0 ≤ x1.toInt from rx1), (show x1.toInt ≤ 11 by first | with_reducible assumption | omega)⟩, ⟨x247, c248, (show 1 ≤ x247.toInt by first | with_reducible assumption | omega), (show x247.toInt ≤ 3205 by first | with_reducible assumption | omega)⟩⟩))⟩ hw dX12_isStreetHere_123
              · replace hM := hM.call (r' := 0) hv258 (by decide)
                have ex249 : x249.toInt = x8.toInt := by rw [← c260.symm.trans c250]
                refine lv_if_ne (tgt := 124) hx hb dX12_isStreetHere_119 (by decide) (fun c => absurd (by decide) c) (fun _ => ?_)
                replace hM := hM.neg (by decide)
                refine lv_iconst (v := 0) hx hb dX12_isStreetHere_122 (by decide) ?_
                exact tk_zret hC hr rfl hlocks hK ⟨hT, hF, hM.ret (by decide), (Or.inr (Or.inl ⟨rfl, ⟨x8, c260, (show 1 ≤ x8.toInt by first | with_reducible assumption | omega), (show x8.toInt ≤ 400 by first | with_reducible assumption | omega)⟩, ⟨x1, c259, (show 0 ≤ x1.toInt from rx1), (show x1.toInt ≤ 11 by first | with_reducible assumption | omega)⟩, ⟨x251, c252, (show 1 ≤ x251.toInt by first | with_reducible assumption | omega), (show x251.toInt ≤ 3205 by first | with_reducible assumption | omega)⟩⟩))⟩ hw dX12_isStreetHere_123
              · replace hM := hM.call (r' := 1) hv258 (by decide)
                have ex253 : x253.toInt = x8.toInt := by rw [← c260.symm.trans c254]
                refine lv_if_ne (tgt := 124) hx hb dX12_isStreetHere_119 (by decide) (fun _ => ?_) (fun c => absurd c (by decide))
                replace hM := hM.pos (by decide)
                refine lv_aload_n hx hb dX12_isStreetHere_124 rfl (lv_at hl 2 rfl) ?_
                refine tk_getA hC hK hw hT hinX12 kM_at0 (by decide) rfl 11 (by decide) (List.mem_cons_of_mem _ uw_6_19) rfl rfl dX12_isStreetHere_125 ?_
                refine lv_iload_n hx hb dX12_isStreetHere_128 rfl (lv_at hl 1 rfl) ?_
                refine lv_iconst (v := 2) hx hb dX12_isStreetHere_129 (by decide) ?_
                refine lv_iadd hx hb dX12_isStreetHere_130 ?_
                refine lv_topi (fun x262 ex262 => ?_)
                have ezx262 := ex262
                have ex262 : x262.toInt = x19.toInt + (2 : Int) := by rw [ex262]; exact wk_add (show (-2147483648) ≤ x19.toInt + (2 : Int) by omega) (show x19.toInt + (2 : Int) ≤ 2147483647 by omega)
                replace hM := hM.lt ex262.symm
                refine lv_aload_n hx hb dX12_isStreetHere_131 rfl (lv_at hl 2 rfl) ?_
                refine tk_geti hC hK hw hT hinX12 kM_at0 (by decide) rfl 16 (by decide) (List.mem_cons_of_mem _ uw_21_12) rfl rfl dX12_isStreetHere_132 (fun x263 c264 rx263 tx263 => ?_)
                refine wk_top x255 (c264.symm.trans c256) ?_
                replace hM := hM.rd (sI_at c256)
                refine tk_iast hC hK hw hT kM_at6 (by decide) rfl rfl (show 0 ≤ x262.toInt by first | with_reducible assumption | omega) (show x262.toInt < 120 by first | with_reducible assumption | omega) (show 0 ≤ x255.toInt by first | with_reducible assumption | omega) (show x255.toInt ≤ 9 by first | with_reducible assumption | omega) dX12_isStreetHere_135 (fun H locs w265 hw hT k267 c266 => ?_)
                replace hM := hM.wr (sI_up k267 c266)
                have hF := hF.put kM_at6 (inE_of (a := 0) (b := 120) (by decide) (show 0 ≤ x262.toInt.toNat by omega) (show x262.toInt.toNat ≤ 120 by omega)) k267
                have c268 := k267.gi (Or.inl (tk_ne kM_at0 kM_at6 (by decide))) c259
                have c269 := k267.gi (Or.inl (tk_ne kM_at0 kM_at6 (by decide))) c260
                have c270 := k267.gi (Or.inl (tk_ne kM_at0 kM_at6 (by decide))) c261
                have c271 := k267.gi (Or.inl (tk_ne kM_at0 kM_at6 (by decide))) c256
                refine lv_aload_n hx hb dX12_isStreetHere_136 rfl (lv_at hl 2 rfl) ?_
                refine lv_iload_n hx hb dX12_isStreetHere_137 rfl (lv_at hl 1 rfl) ?_
                refine lv_iconst (v := 3) hx hb dX12_isStreetHere_138 (by decide) ?_
                refine lv_iadd hx hb dX12_isStreetHere_139 ?_
                refine lv_topi (fun x272 ex272 => ?_)
                have ezx272 := ex272
                have ex272 : x272.toInt = x19.toInt + (3 : Int) := by rw [ex272]; exact wk_add (show (-2147483648) ≤ x19.toInt + (3 : Int) by omega) (show x19.toInt + (3 : Int) ≤ 2147483647 by omega)
                replace hM := hM.lt ex272.symm
                refine tk_Vi hC hK hw hT hA hE hSR kM_at0 (by decide) rfl (kz_X12_areSignsHere_1 l adK adV dC dI cy ad B hB0 (Int.le_trans hB1 (by decide)) qr s1   x272 (show 3 ≤ x272.toInt by first | with_reducible assumption | omega) (show x272.toInt ≤ 113 by first | with_reducible assumption | omega) w265 H.size hT ) (cwV 1 hC.2.2.2.2 uV_RX12_227 rfl rfl rfl (by decide +kernel) ⟨Nat.le_of_ble_eq_true rfl, Nat.le_of_ble_eq_true rfl⟩) rfl hl.1 rfl (Nat.le_of_ble_eq_true rfl) dX12_isStreetHere_140 (fun r273 w275 H locs hp274 hw => ?_)
                obtain ⟨hT, k276, hv290, hg289⟩ := hp274
                have hF := hF.tr k276 (by decide)
                have c291 := k276.gi kM_at0 (by decide) c268
                have c292 := k276.gi kM_at0 (by decide) c269
                have c293 := k276.gi kM_at0 (by decide) c270
                have c294 := k276.gi kM_at0 (by decide) c271
                rcases hg289 with ⟨rfl, ⟨x277, c278, rx277, tx277⟩, ⟨x279, c280, rx279, tx279⟩, ⟨x281, c282, rx281, tx281⟩⟩ | ⟨rfl, ⟨x283, c284, rx283, tx283⟩, ⟨x285, c286, rx285, tx285⟩⟩ | ⟨rfl, ⟨x287, c288, rx287, tx287⟩⟩
                · replace hM := hM.call (r' := 0) hv290 (by decide)
                  have ex277 : x277.toInt = x8.toInt := by rw [← c292.symm.trans c278]
                  refine lv_if_ne (tgt := 148) hx hb dX12_isStreetHere_143 (by decide) (fun c => absurd (by decide) c) (fun _ => ?_)
                  replace hM := hM.neg (by decide)
                  refine lv_iconst (v := 0) hx hb dX12_isStreetHere_146 (by decide) ?_
                  exact tk_zret hC hr rfl hlocks hK ⟨hT, hF, hM.ret (by decide), (Or.inr (Or.inl ⟨rfl, ⟨x8, c292, (show 1 ≤ x8.toInt by first | with_reducible assumption | omega), (show x8.toInt ≤ 400 by first | with_reducible assumption | omega)⟩, ⟨x1, c291, (show 0 ≤ x1.toInt from rx1), (show x1.toInt ≤ 11 by first | with_reducible assumption | omega)⟩, ⟨x281, c282, (show 1 ≤ x281.toInt by first | with_reducible assumption | omega), (show x281.toInt ≤ 3205 by first | with_reducible assumption | omega)⟩⟩))⟩ hw dX12_isStreetHere_147
                · replace hM := hM.call (r' := 0) hv290 (by decide)
                  have ex283 : x283.toInt = x8.toInt := by rw [← c292.symm.trans c284]
                  refine lv_if_ne (tgt := 148) hx hb dX12_isStreetHere_143 (by decide) (fun c => absurd (by decide) c) (fun _ => ?_)
                  replace hM := hM.neg (by decide)
                  refine lv_iconst (v := 0) hx hb dX12_isStreetHere_146 (by decide) ?_
                  exact tk_zret hC hr rfl hlocks hK ⟨hT, hF, hM.ret (by decide), (Or.inr (Or.inl ⟨rfl, ⟨x8, c292, (show 1 ≤ x8.toInt by first | with_reducible assumption | omega), (show x8.toInt ≤ 400 by first | with_reducible assumption | omega)⟩, ⟨x1, c291, (show 0 ≤ x1.toInt from rx1), (show x1.toInt ≤ 11 by first | with_reducible assumption | omega)⟩, ⟨x285, c286, (show 1 ≤ x285.toInt by first | with_reducible assumption | omega), (show x285.toInt ≤ 3205 by first | with_reducible assumption | omega)⟩⟩))⟩ hw dX12_isStreetHere_147
                · replace hM := hM.call (r' := 1) hv290 (by decide)
                  have ex287 : x287.toInt = x8.toInt := by rw [← c292.symm.trans c288]
                  refine lv_if_ne (tgt := 148) hx hb dX12_isStreetHere_143 (by decide) (fun _ => ?_) (fun c => absurd c (by decide))
                  replace hM := hM.pos (by decide)
                  refine lv_aload_n hx hb dX12_isStreetHere_148 rfl (lv_at hl 2 rfl) ?_
                  refine lv_dup hx hb dX12_isStreetHere_149 rfl ?_
                  refine tk_geti hC hK hw hT hinX12 kM_at0 (by decide) rfl 8 (by decide) (List.mem_cons_of_mem _ uw_19_9) rfl rfl dX12_isStreetHere_150 (fun x295 c296 rx295 tx295 => ?_)
                  refine wk_top x1 (c296.symm.trans c291) ?_
                  replace hM := hM.rd (sI_at c291)
                  refine lv_iconst (v := 1) hx hb dX12_isStreetHere_153 (by decide) ?_
                  refine lv_iadd hx hb dX12_isStreetHere_154 ?_
                  refine lv_topi (fun x297 ex297 => ?_)
                  have ezx297 := ex297
                  have ex297 : x297.toInt = x1.toInt + (1 : Int) := by rw [ex297]; exact wk_add (show (-2147483648) ≤ x1.toInt + (1 : Int) by omega) (show x1.toInt + (1 : Int) ≤ 2147483647 by omega)
                  replace hM := hM.lt ex297.symm
                  refine tk_puti hC hK hw hT hinX12 tyX12_ok nmX12 kM_at0 (by decide) rfl rfl 8 (by decide) (List.mem_cons_of_mem _ uw_19_9) rfl rfl rfl rfl (show 0 ≤ x297.toInt by first | with_reducible assumption | omega) (show x297.toInt ≤ 12 by first | with_reducible assumption | omega) dX12_isStreetHere_155 (fun H locs w298 hw hT k300 c299 => ?_)
                  replace hM := hM.wr (sI_up k300 c299)
                  have hF := hF.put kM_at0 (k := 8) (by decide) k300
                  have c301 := k300.gi (Or.inr (by decide)) c292
                  have c302 := k300.gi (Or.inr (by decide)) c293
                  have c303 := k300.gi (Or.inr (by decide)) c294
                  refine lv_iconst (v := 1) hx hb dX12_isStreetHere_158 (by decide) ?_
                  exact tk_zret hC hr rfl hlocks hK ⟨hT, hF, hM.ret (by decide), (Or.inr (Or.inr (Or.inr ⟨rfl, ⟨x8, c301, (show 1 ≤ x8.toInt by first | with_reducible assumption | omega), (show x8.toInt ≤ 400 by first | with_reducible assumption | omega)⟩, ⟨x20, c302, (show 1 ≤ x20.toInt by first | with_reducible assumption | omega), (show x20.toInt ≤ 10 from tx20)⟩, ⟨x297, c299, (show 1 ≤ x297.toInt by first | with_reducible assumption | omega), (show x297.toInt ≤ 12 by first | with_reducible assumption | omega)⟩, ⟨x255, c303, (show 1 ≤ x255.toInt by first | with_reducible assumption | omega), (show x255.toInt ≤ 9 by first | with_reducible assumption | omega)⟩⟩)))⟩ hw dX12_isStreetHere_159
            · have c230 : x219.toInt = x228.toInt := wk_eq.mp c230
              replace hM := hM.neg (fun q => q c230)
              refine lv_aload_n hx hb dX12_isStreetHere_93 rfl (lv_at hl 2 rfl) ?_
              refine lv_iconst (v := 1) hx hb dX12_isStreetHere_94 (by decide) ?_
              refine lv_iload_n hx hb dX12_isStreetHere_95 rfl (lv_at hl 0 rfl) ?_
              refine tk_Vi hC hK hw hT hA hE hSR kM_at0 (by decide) rfl (kz_X12_fails_1 l adK adV dC dI cy ad B hB0 (Int.le_trans hB1 (by decide)) qr s1   1 (by decide) (by decide) x70 (show 0 ≤ x70.toInt by first | with_reducible assumption | omega) (show x70.toInt ≤ 400 by first | with_reducible assumption | omega) w207 H.size hT ) (cwV 2 hC.2.2.2.2 uV_RX12_115 rfl rfl rfl (by decide +kernel) ⟨Nat.le_of_ble_eq_true rfl, Nat.le_of_ble_eq_true rfl⟩) rfl hl.1 rfl (Nat.le_of_ble_eq_true rfl) dX12_isStreetHere_96 (fun r304 w306 H locs hp305 hw => ?_)
              obtain ⟨hT, k307, hv311, hg310⟩ := hp305
              try simp only [show (1 : Int32).toInt = 1 by decide] at hv311
              have hF := hF.tr k307 (by decide)
              have c312 := k307.gi kM_at0 (by decide) c223
              have c313 := k307.gi kM_at0 (by decide) c224
              have c314 := k307.gi kM_at0 (by decide) c225
              have c315 := k307.gi kM_at0 (by decide) c220
              obtain ⟨rfl, ⟨x308, c309, rx308, tx308⟩⟩ := hg310
              replace hM := hM.call (r' := 0) hv311 (by decide)
              exact tk_zret hC hr rfl hlocks hK ⟨hT, hF, hM.ret (by decide), (Or.inr (Or.inl ⟨rfl, ⟨x8, c313, (show 1 ≤ x8.toInt by first | with_reducible assumption | omega), (show x8.toInt ≤ 400 by first | with_reducible assumption | omega)⟩, ⟨x1, c312, (show 0 ≤ x1.toInt from rx1), (show x1.toInt ≤ 11 by first | with_reducible assumption | omega)⟩, ⟨x308, c309, (show 1 ≤ x308.toInt by first | with_reducible assumption | omega), (show x308.toInt ≤ 3205 by first | with_reducible assumption | omega)⟩⟩))⟩ hw dX12_isStreetHere_99
        · replace hM := hM.call (r' := (-1)) hv77 (by decide)
          have ex73 : x73.toInt = x8.toInt := by rw [← c79.symm.trans c74]
          obtain ⟨x82, c83, rx82, tx82⟩ := hT.rdi (lo := 0) (hi := 400) (k := 14) kM_at0 (by decide) rfl
          have g75 : (x82.toInt = x54.toInt ∨ (gi w47 1 (x54.toInt).toNat).toInt = 32) := by have q := g75; simp only [c55, c83] at q; first | with_reducible exact q | omega
          refine lv_pop hx hb dX12_isStreetHere_58 rfl ?_
          refine lv_aload_n hx hb dX12_isStreetHere_59 rfl (lv_at hl 1 rfl) ?_
          refine tk_geti hC hK hw hT hinX12 kM_at0 (by decide) rfl 14 (by decide) (List.mem_cons_of_mem _ uw_19_18) rfl rfl dX12_isStreetHere_60 (fun x316 c317 rx316 tx316 => ?_)
          refine wk_top x82 (c317.symm.trans c83) ?_
          replace hM := hM.rd (sI_at c83)
          refine lv_istore_n (lv' := [(3, .int x82), (2, .int x19), (0, .ref (ad 0)), (1, .int a1)]) hx hb dX12_isStreetHere_63 rfl hl (by decide) rfl (fun ls hl => ?_)
          refine lv_aload_n hx hb dX12_isStreetHere_64 rfl (lv_at hl 2 rfl) ?_
          refine lv_iconst (v := 0) hx hb dX12_isStreetHere_65 (by decide) ?_
          refine lv_aload_n hx hb dX12_isStreetHere_66 rfl (lv_at hl 2 rfl) ?_
          refine tk_geti hC hK hw hT hinX12 kM_at0 (by decide) rfl 7 (by decide) (List.mem_cons_of_mem _ uw_19_8) rfl rfl dX12_isStreetHere_67 (fun x318 c319 rx318 tx318 => ?_)
          refine wk_top x20 (c319.symm.trans c80) ?_
          replace hM := hM.rd (sI_at c80)
          refine lv_iconst (v := 1) hx hb dX12_isStreetHere_70 (by decide) ?_
          refine lv_isub hx hb dX12_isStreetHere_71 ?_
          refine lv_topi (fun x320 ex320 => ?_)
          have ezx320 := ex320
          have ex320 : x320.toInt = x20.toInt - (1 : Int) := by rw [ex320]; exact wk_sub (show (-2147483648) ≤ x20.toInt - (1 : Int) by omega) (show x20.toInt - (1 : Int) ≤ 2147483647 by omega)
          replace hM := hM.lt ex320.symm
          refine tk_Vi hC hK hw hT hA hE hSR kM_at0 (by decide) rfl (kz_X12_numberHere_6 l adK adV dC dI cy ad B hB0 (Int.le_trans hB1 (by decide)) qr s1   x320 (show 0 ≤ x320.toInt by first | with_reducible assumption | omega) (show x320.toInt ≤ 9 by first | with_reducible assumption | omega) w58 H.size hT ) (cwV 2 hC.2.2.2.2 uV_RX12_167 rfl rfl rfl (by decide +kernel) ⟨Nat.le_of_ble_eq_true rfl, Nat.le_of_ble_eq_true rfl⟩) rfl hl.1 rfl (Nat.le_of_ble_eq_true rfl) dX12_isStreetHere_72 (fun r321 w323 H locs hp322 hw => ?_)
          obtain ⟨hT, k324, hv338, hg337⟩ := hp322
          have hF := hF.tr k324 (by decide)
          have c339 := k324.gi kM_at0 (by decide) c78
          have c340 := k324.gi kM_at0 (by decide) c79
          have c341 := k324.gi kM_at0 (by decide) c80
          rcases hg337 with ⟨rfl, ⟨x325, c326, rx325, tx325⟩, ⟨x327, c328, rx327, tx327⟩⟩ | ⟨rfl, ⟨x329, c330, rx329, tx329⟩, ⟨x331, c332, rx331, tx331⟩⟩ | ⟨rfl, ⟨x333, c334, rx333, tx333⟩, ⟨x335, c336, rx335, tx335⟩⟩
          · replace hM := hM.call (r' := 0) hv338 (by decide)
            have ex325 : x325.toInt = x8.toInt := by rw [← c340.symm.trans c326]
            refine lv_if_ne (tgt := 80) hx hb dX12_isStreetHere_75 (by decide) (fun c => absurd (by decide) c) (fun _ => ?_)
            replace hM := hM.neg (by decide)
            refine lv_iconst (v := 0) hx hb dX12_isStreetHere_78 (by decide) ?_
            exact tk_zret hC hr rfl hlocks hK ⟨hT, hF, hM.ret (by decide), (Or.inr (Or.inl ⟨rfl, ⟨x8, c340, (show 1 ≤ x8.toInt by first | with_reducible assumption | omega), (show x8.toInt ≤ 400 by first | with_reducible assumption | omega)⟩, ⟨x1, c339, (show 0 ≤ x1.toInt from rx1), (show x1.toInt ≤ 11 by first | with_reducible assumption | omega)⟩, ⟨x327, c328, (show 1 ≤ x327.toInt by first | with_reducible assumption | omega), (show x327.toInt ≤ 3205 by first | with_reducible assumption | omega)⟩⟩))⟩ hw dX12_isStreetHere_79
          · replace hM := hM.call (r' := 0) hv338 (by decide)
            have ex329 : x329.toInt = x8.toInt := by rw [← c340.symm.trans c330]
            refine lv_if_ne (tgt := 80) hx hb dX12_isStreetHere_75 (by decide) (fun c => absurd (by decide) c) (fun _ => ?_)
            replace hM := hM.neg (by decide)
            refine lv_iconst (v := 0) hx hb dX12_isStreetHere_78 (by decide) ?_
            exact tk_zret hC hr rfl hlocks hK ⟨hT, hF, hM.ret (by decide), (Or.inr (Or.inl ⟨rfl, ⟨x8, c340, (show 1 ≤ x8.toInt by first | with_reducible assumption | omega), (show x8.toInt ≤ 400 by first | with_reducible assumption | omega)⟩, ⟨x1, c339, (show 0 ≤ x1.toInt from rx1), (show x1.toInt ≤ 11 by first | with_reducible assumption | omega)⟩, ⟨x331, c332, (show 1 ≤ x331.toInt by first | with_reducible assumption | omega), (show x331.toInt ≤ 3205 by first | with_reducible assumption | omega)⟩⟩))⟩ hw dX12_isStreetHere_79
          · replace hM := hM.call (r' := 1) hv338 (by decide)
            have ex333 : x333.toInt = x8.toInt := by rw [← c340.symm.trans c334]
            refine lv_if_ne (tgt := 80) hx hb dX12_isStreetHere_75 (by decide) (fun _ => ?_) (fun c => absurd c (by decide))
            replace hM := hM.pos (by decide)
            refine lv_aload_n hx hb dX12_isStreetHere_80 rfl (lv_at hl 2 rfl) ?_
            refine tk_geti hC hK hw hT hinX12 kM_at0 (by decide) rfl 16 (by decide) (List.mem_cons_of_mem _ uw_21_12) rfl rfl dX12_isStreetHere_81 (fun x342 c343 rx342 tx342 => ?_)
            refine wk_top x335 (c343.symm.trans c336) ?_
            replace hM := hM.rd (sI_at c336)
            refine lv_aload_n hx hb dX12_isStreetHere_84 rfl (lv_at hl 2 rfl) ?_
            refine tk_getA hC hK hw hT hinX12 kM_at0 (by decide) rfl 11 (by decide) (List.mem_cons_of_mem _ uw_6_19) rfl rfl dX12_isStreetHere_85 ?_
            refine lv_iload_n hx hb dX12_isStreetHere_88 rfl (lv_at hl 1 rfl) ?_
            refine tk_iald hC hK hw hT kM_at6 rfl rfl (show 0 ≤ x19.toInt by first | with_reducible assumption | omega) (show x19.toInt < 120 by first | with_reducible assumption | omega) dX12_isStreetHere_89 (fun x344 c345 rx344 tx344 => ?_)
            have hox344 := c345
            replace hM := hM.rd (sI_at hox344)
            refine lv_icmp_ne (tgt := 100) hx hb dX12_isStreetHere_90 (by decide) (fun c346 => ?_) (fun c346 => ?_)
            · have c346 : ¬ x335.toInt = x344.toInt := wk_eqF c346
              replace hM := hM.pos c346
              refine lv_aload_n hx hb dX12_isStreetHere_100 rfl (lv_at hl 2 rfl) ?_
              refine tk_getA hC hK hw hT hinX12 kM_at0 (by decide) rfl 11 (by decide) (List.mem_cons_of_mem _ uw_6_19) rfl rfl dX12_isStreetHere_101 ?_
              refine lv_iload_n hx hb dX12_isStreetHere_104 rfl (lv_at hl 1 rfl) ?_
              refine lv_iconst (v := 1) hx hb dX12_isStreetHere_105 (by decide) ?_
              refine lv_iadd hx hb dX12_isStreetHere_106 ?_
              refine lv_topi (fun x347 ex347 => ?_)
              have ezx347 := ex347
              have ex347 : x347.toInt = x19.toInt + (1 : Int) := by rw [ex347]; exact wk_add (show (-2147483648) ≤ x19.toInt + (1 : Int) by omega) (show x19.toInt + (1 : Int) ≤ 2147483647 by omega)
              replace hM := hM.lt ex347.symm
              refine lv_aload_n hx hb dX12_isStreetHere_107 rfl (lv_at hl 2 rfl) ?_
              refine tk_geti hC hK hw hT hinX12 kM_at0 (by decide) rfl 16 (by decide) (List.mem_cons_of_mem _ uw_21_12) rfl rfl dX12_isStreetHere_108 (fun x348 c349 rx348 tx348 => ?_)
              refine wk_top x335 (c349.symm.trans c336) ?_
              replace hM := hM.rd (sI_at c336)
              refine tk_iast hC hK hw hT kM_at6 (by decide) rfl rfl (show 0 ≤ x347.toInt by first | with_reducible assumption | omega) (show x347.toInt < 120 by first | with_reducible assumption | omega) (show 0 ≤ x335.toInt by first | with_reducible assumption | omega) (show x335.toInt ≤ 9 by first | with_reducible assumption | omega) dX12_isStreetHere_111 (fun H locs w350 hw hT k352 c351 => ?_)
              replace hM := hM.wr (sI_up k352 c351)
              have hF := hF.put kM_at6 (inE_of (a := 0) (b := 120) (by decide) (show 0 ≤ x347.toInt.toNat by omega) (show x347.toInt.toNat ≤ 120 by omega)) k352
              have c353 := k352.gi (Or.inl (tk_ne kM_at0 kM_at6 (by decide))) c339
              have c354 := k352.gi (Or.inl (tk_ne kM_at0 kM_at6 (by decide))) c340
              have c355 := k352.gi (Or.inl (tk_ne kM_at0 kM_at6 (by decide))) c341
              have c356 := k352.gi (Or.inl (tk_ne kM_at0 kM_at6 (by decide))) c336
              refine lv_aload_n hx hb dX12_isStreetHere_112 rfl (lv_at hl 2 rfl) ?_
              refine lv_iconst (v := 1) hx hb dX12_isStreetHere_113 (by decide) ?_
              refine lv_bipush (v := 9) hx hb dX12_isStreetHere_114 (by decide) ?_
              refine tk_Vi hC hK hw hT hA hE hSR kM_at0 (by decide) rfl (kz_X12_numberHere_7 l adK adV dC dI cy ad B hB0 (Int.le_trans hB1 (by decide)) qr s1    w350 H.size hT ) (cwV 2 hC.2.2.2.2 uV_RX12_167 rfl rfl rfl (by decide +kernel) ⟨Nat.le_of_ble_eq_true rfl, Nat.le_of_ble_eq_true rfl⟩) rfl hl.1 rfl (Nat.le_of_ble_eq_true rfl) dX12_isStreetHere_116 (fun r357 w359 H locs hp358 hw => ?_)
              obtain ⟨hT, k360, hv374, hg373⟩ := hp358
              have hF := hF.tr k360 (by decide)
              have c375 := k360.gi kM_at0 (by decide) c353
              have c376 := k360.gi kM_at0 (by decide) c354
              have c377 := k360.gi kM_at0 (by decide) c355
              rcases hg373 with ⟨rfl, ⟨x361, c362, rx361, tx361⟩, ⟨x363, c364, rx363, tx363⟩⟩ | ⟨rfl, ⟨x365, c366, rx365, tx365⟩, ⟨x367, c368, rx367, tx367⟩⟩ | ⟨rfl, ⟨x369, c370, rx369, tx369⟩, ⟨x371, c372, rx371, tx371⟩⟩
              · replace hM := hM.call (r' := 0) hv374 (by decide)
                have ex361 : x361.toInt = x8.toInt := by rw [← c376.symm.trans c362]
                refine lv_if_ne (tgt := 124) hx hb dX12_isStreetHere_119 (by decide) (fun c => absurd (by decide) c) (fun _ => ?_)
                replace hM := hM.neg (by decide)
                refine lv_iconst (v := 0) hx hb dX12_isStreetHere_122 (by decide) ?_
                exact tk_zret hC hr rfl hlocks hK ⟨hT, hF, hM.ret (by decide), (Or.inr (Or.inl ⟨rfl, ⟨x8, c376, (show 1 ≤ x8.toInt by first | with_reducible assumption | omega), (show x8.toInt ≤ 400 by first | with_reducible assumption | omega)⟩, ⟨x1, c375, (show 0 ≤ x1.toInt from rx1), (show x1.toInt ≤ 11 by first | with_reducible assumption | omega)⟩, ⟨x363, c364, (show 1 ≤ x363.toInt by first | with_reducible assumption | omega), (show x363.toInt ≤ 3205 by first | with_reducible assumption | omega)⟩⟩))⟩ hw dX12_isStreetHere_123
              · replace hM := hM.call (r' := 0) hv374 (by decide)
                have ex365 : x365.toInt = x8.toInt := by rw [← c376.symm.trans c366]
                refine lv_if_ne (tgt := 124) hx hb dX12_isStreetHere_119 (by decide) (fun c => absurd (by decide) c) (fun _ => ?_)
                replace hM := hM.neg (by decide)
                refine lv_iconst (v := 0) hx hb dX12_isStreetHere_122 (by decide) ?_
                exact tk_zret hC hr rfl hlocks hK ⟨hT, hF, hM.ret (by decide), (Or.inr (Or.inl ⟨rfl, ⟨x8, c376, (show 1 ≤ x8.toInt by first | with_reducible assumption | omega), (show x8.toInt ≤ 400 by first | with_reducible assumption | omega)⟩, ⟨x1, c375, (show 0 ≤ x1.toInt from rx1), (show x1.toInt ≤ 11 by first | with_reducible assumption | omega)⟩, ⟨x367, c368, (show 1 ≤ x367.toInt by first | with_reducible assumption | omega), (show x367.toInt ≤ 3205 by first | with_reducible assumption | omega)⟩⟩))⟩ hw dX12_isStreetHere_123
              · replace hM := hM.call (r' := 1) hv374 (by decide)
                have ex369 : x369.toInt = x8.toInt := by rw [← c376.symm.trans c370]
                refine lv_if_ne (tgt := 124) hx hb dX12_isStreetHere_119 (by decide) (fun _ => ?_) (fun c => absurd c (by decide))
                replace hM := hM.pos (by decide)
                refine lv_aload_n hx hb dX12_isStreetHere_124 rfl (lv_at hl 2 rfl) ?_
                refine tk_getA hC hK hw hT hinX12 kM_at0 (by decide) rfl 11 (by decide) (List.mem_cons_of_mem _ uw_6_19) rfl rfl dX12_isStreetHere_125 ?_
                refine lv_iload_n hx hb dX12_isStreetHere_128 rfl (lv_at hl 1 rfl) ?_
                refine lv_iconst (v := 2) hx hb dX12_isStreetHere_129 (by decide) ?_
                refine lv_iadd hx hb dX12_isStreetHere_130 ?_
                refine lv_topi (fun x378 ex378 => ?_)
                have ezx378 := ex378
                have ex378 : x378.toInt = x19.toInt + (2 : Int) := by rw [ex378]; exact wk_add (show (-2147483648) ≤ x19.toInt + (2 : Int) by omega) (show x19.toInt + (2 : Int) ≤ 2147483647 by omega)
                replace hM := hM.lt ex378.symm
                refine lv_aload_n hx hb dX12_isStreetHere_131 rfl (lv_at hl 2 rfl) ?_
                refine tk_geti hC hK hw hT hinX12 kM_at0 (by decide) rfl 16 (by decide) (List.mem_cons_of_mem _ uw_21_12) rfl rfl dX12_isStreetHere_132 (fun x379 c380 rx379 tx379 => ?_)
                refine wk_top x371 (c380.symm.trans c372) ?_
                replace hM := hM.rd (sI_at c372)
                refine tk_iast hC hK hw hT kM_at6 (by decide) rfl rfl (show 0 ≤ x378.toInt by first | with_reducible assumption | omega) (show x378.toInt < 120 by first | with_reducible assumption | omega) (show 0 ≤ x371.toInt by first | with_reducible assumption | omega) (show x371.toInt ≤ 9 by first | with_reducible assumption | omega) dX12_isStreetHere_135 (fun H locs w381 hw hT k383 c382 => ?_)
                replace hM := hM.wr (sI_up k383 c382)
                have hF := hF.put kM_at6 (inE_of (a := 0) (b := 120) (by decide) (show 0 ≤ x378.toInt.toNat by omega) (show x378.toInt.toNat ≤ 120 by omega)) k383
                have c384 := k383.gi (Or.inl (tk_ne kM_at0 kM_at6 (by decide))) c375
                have c385 := k383.gi (Or.inl (tk_ne kM_at0 kM_at6 (by decide))) c376
                have c386 := k383.gi (Or.inl (tk_ne kM_at0 kM_at6 (by decide))) c377
                have c387 := k383.gi (Or.inl (tk_ne kM_at0 kM_at6 (by decide))) c372
                refine lv_aload_n hx hb dX12_isStreetHere_136 rfl (lv_at hl 2 rfl) ?_
                refine lv_iload_n hx hb dX12_isStreetHere_137 rfl (lv_at hl 1 rfl) ?_
                refine lv_iconst (v := 3) hx hb dX12_isStreetHere_138 (by decide) ?_
                refine lv_iadd hx hb dX12_isStreetHere_139 ?_
                refine lv_topi (fun x388 ex388 => ?_)
                have ezx388 := ex388
                have ex388 : x388.toInt = x19.toInt + (3 : Int) := by rw [ex388]; exact wk_add (show (-2147483648) ≤ x19.toInt + (3 : Int) by omega) (show x19.toInt + (3 : Int) ≤ 2147483647 by omega)
                replace hM := hM.lt ex388.symm
                refine tk_Vi hC hK hw hT hA hE hSR kM_at0 (by decide) rfl (kz_X12_areSignsHere_1 l adK adV dC dI cy ad B hB0 (Int.le_trans hB1 (by decide)) qr s1   x388 (show 3 ≤ x388.toInt by first | with_reducible assumption | omega) (show x388.toInt ≤ 113 by first | with_reducible assumption | omega) w381 H.size hT ) (cwV 1 hC.2.2.2.2 uV_RX12_227 rfl rfl rfl (by decide +kernel) ⟨Nat.le_of_ble_eq_true rfl, Nat.le_of_ble_eq_true rfl⟩) rfl hl.1 rfl (Nat.le_of_ble_eq_true rfl) dX12_isStreetHere_140 (fun r389 w391 H locs hp390 hw => ?_)
                obtain ⟨hT, k392, hv406, hg405⟩ := hp390
                have hF := hF.tr k392 (by decide)
                have c407 := k392.gi kM_at0 (by decide) c384
                have c408 := k392.gi kM_at0 (by decide) c385
                have c409 := k392.gi kM_at0 (by decide) c386
                have c410 := k392.gi kM_at0 (by decide) c387
                rcases hg405 with ⟨rfl, ⟨x393, c394, rx393, tx393⟩, ⟨x395, c396, rx395, tx395⟩, ⟨x397, c398, rx397, tx397⟩⟩ | ⟨rfl, ⟨x399, c400, rx399, tx399⟩, ⟨x401, c402, rx401, tx401⟩⟩ | ⟨rfl, ⟨x403, c404, rx403, tx403⟩⟩
                · replace hM := hM.call (r' := 0) hv406 (by decide)
                  have ex393 : x393.toInt = x8.toInt := by rw [← c408.symm.trans c394]
                  refine lv_if_ne (tgt := 148) hx hb dX12_isStreetHere_143 (by decide) (fun c => absurd (by decide) c) (fun _ => ?_)
                  replace hM := hM.neg (by decide)
                  refine lv_iconst (v := 0) hx hb dX12_isStreetHere_146 (by decide) ?_
                  exact tk_zret hC hr rfl hlocks hK ⟨hT, hF, hM.ret (by decide), (Or.inr (Or.inl ⟨rfl, ⟨x8, c408, (show 1 ≤ x8.toInt by first | with_reducible assumption | omega), (show x8.toInt ≤ 400 by first | with_reducible assumption | omega)⟩, ⟨x1, c407, (show 0 ≤ x1.toInt from rx1), (show x1.toInt ≤ 11 by first | with_reducible assumption | omega)⟩, ⟨x397, c398, (show 1 ≤ x397.toInt by first | with_reducible assumption | omega), (show x397.toInt ≤ 3205 by first | with_reducible assumption | omega)⟩⟩))⟩ hw dX12_isStreetHere_147
                · replace hM := hM.call (r' := 0) hv406 (by decide)
                  have ex399 : x399.toInt = x8.toInt := by rw [← c408.symm.trans c400]
                  refine lv_if_ne (tgt := 148) hx hb dX12_isStreetHere_143 (by decide) (fun c => absurd (by decide) c) (fun _ => ?_)
                  replace hM := hM.neg (by decide)
                  refine lv_iconst (v := 0) hx hb dX12_isStreetHere_146 (by decide) ?_
                  exact tk_zret hC hr rfl hlocks hK ⟨hT, hF, hM.ret (by decide), (Or.inr (Or.inl ⟨rfl, ⟨x8, c408, (show 1 ≤ x8.toInt by first | with_reducible assumption | omega), (show x8.toInt ≤ 400 by first | with_reducible assumption | omega)⟩, ⟨x1, c407, (show 0 ≤ x1.toInt from rx1), (show x1.toInt ≤ 11 by first | with_reducible assumption | omega)⟩, ⟨x401, c402, (show 1 ≤ x401.toInt by first | with_reducible assumption | omega), (show x401.toInt ≤ 3205 by first | with_reducible assumption | omega)⟩⟩))⟩ hw dX12_isStreetHere_147
                · replace hM := hM.call (r' := 1) hv406 (by decide)
                  have ex403 : x403.toInt = x8.toInt := by rw [← c408.symm.trans c404]
                  refine lv_if_ne (tgt := 148) hx hb dX12_isStreetHere_143 (by decide) (fun _ => ?_) (fun c => absurd c (by decide))
                  replace hM := hM.pos (by decide)
                  refine lv_aload_n hx hb dX12_isStreetHere_148 rfl (lv_at hl 2 rfl) ?_
                  refine lv_dup hx hb dX12_isStreetHere_149 rfl ?_
                  refine tk_geti hC hK hw hT hinX12 kM_at0 (by decide) rfl 8 (by decide) (List.mem_cons_of_mem _ uw_19_9) rfl rfl dX12_isStreetHere_150 (fun x411 c412 rx411 tx411 => ?_)
                  refine wk_top x1 (c412.symm.trans c407) ?_
                  replace hM := hM.rd (sI_at c407)
                  refine lv_iconst (v := 1) hx hb dX12_isStreetHere_153 (by decide) ?_
                  refine lv_iadd hx hb dX12_isStreetHere_154 ?_
                  refine lv_topi (fun x413 ex413 => ?_)
                  have ezx413 := ex413
                  have ex413 : x413.toInt = x1.toInt + (1 : Int) := by rw [ex413]; exact wk_add (show (-2147483648) ≤ x1.toInt + (1 : Int) by omega) (show x1.toInt + (1 : Int) ≤ 2147483647 by omega)
                  replace hM := hM.lt ex413.symm
                  refine tk_puti hC hK hw hT hinX12 tyX12_ok nmX12 kM_at0 (by decide) rfl rfl 8 (by decide) (List.mem_cons_of_mem _ uw_19_9) rfl rfl rfl rfl (show 0 ≤ x413.toInt by first | with_reducible assumption | omega) (show x413.toInt ≤ 12 by first | with_reducible assumption | omega) dX12_isStreetHere_155 (fun H locs w414 hw hT k416 c415 => ?_)
                  replace hM := hM.wr (sI_up k416 c415)
                  have hF := hF.put kM_at0 (k := 8) (by decide) k416
                  have c417 := k416.gi (Or.inr (by decide)) c408
                  have c418 := k416.gi (Or.inr (by decide)) c409
                  have c419 := k416.gi (Or.inr (by decide)) c410
                  refine lv_iconst (v := 1) hx hb dX12_isStreetHere_158 (by decide) ?_
                  exact tk_zret hC hr rfl hlocks hK ⟨hT, hF, hM.ret (by decide), (Or.inr (Or.inr (Or.inr ⟨rfl, ⟨x8, c417, (show 1 ≤ x8.toInt by first | with_reducible assumption | omega), (show x8.toInt ≤ 400 by first | with_reducible assumption | omega)⟩, ⟨x20, c418, (show 1 ≤ x20.toInt by first | with_reducible assumption | omega), (show x20.toInt ≤ 10 from tx20)⟩, ⟨x413, c415, (show 1 ≤ x413.toInt by first | with_reducible assumption | omega), (show x413.toInt ≤ 12 by first | with_reducible assumption | omega)⟩, ⟨x371, c419, (show 1 ≤ x371.toInt by first | with_reducible assumption | omega), (show x371.toInt ≤ 9 by first | with_reducible assumption | omega)⟩⟩)))⟩ hw dX12_isStreetHere_159
            · have c346 : x335.toInt = x344.toInt := wk_eq.mp c346
              replace hM := hM.neg (fun q => q c346)
              refine lv_aload_n hx hb dX12_isStreetHere_93 rfl (lv_at hl 2 rfl) ?_
              refine lv_iconst (v := 1) hx hb dX12_isStreetHere_94 (by decide) ?_
              refine lv_iload_n hx hb dX12_isStreetHere_95 rfl (lv_at hl 0 rfl) ?_
              refine tk_Vi hC hK hw hT hA hE hSR kM_at0 (by decide) rfl (kz_X12_fails_1 l adK adV dC dI cy ad B hB0 (Int.le_trans hB1 (by decide)) qr s1   1 (by decide) (by decide) x82 (show 0 ≤ x82.toInt by first | with_reducible assumption | omega) (show x82.toInt ≤ 400 by first | with_reducible assumption | omega) w323 H.size hT ) (cwV 2 hC.2.2.2.2 uV_RX12_115 rfl rfl rfl (by decide +kernel) ⟨Nat.le_of_ble_eq_true rfl, Nat.le_of_ble_eq_true rfl⟩) rfl hl.1 rfl (Nat.le_of_ble_eq_true rfl) dX12_isStreetHere_96 (fun r420 w422 H locs hp421 hw => ?_)
              obtain ⟨hT, k423, hv427, hg426⟩ := hp421
              try simp only [show (1 : Int32).toInt = 1 by decide] at hv427
              have hF := hF.tr k423 (by decide)
              have c428 := k423.gi kM_at0 (by decide) c339
              have c429 := k423.gi kM_at0 (by decide) c340
              have c430 := k423.gi kM_at0 (by decide) c341
              have c431 := k423.gi kM_at0 (by decide) c336
              obtain ⟨rfl, ⟨x424, c425, rx424, tx424⟩⟩ := hg426
              replace hM := hM.call (r' := 0) hv427 (by decide)
              exact tk_zret hC hr rfl hlocks hK ⟨hT, hF, hM.ret (by decide), (Or.inr (Or.inl ⟨rfl, ⟨x8, c429, (show 1 ≤ x8.toInt by first | with_reducible assumption | omega), (show x8.toInt ≤ 400 by first | with_reducible assumption | omega)⟩, ⟨x1, c428, (show 0 ≤ x1.toInt from rx1), (show x1.toInt ≤ 11 by first | with_reducible assumption | omega)⟩, ⟨x424, c425, (show 1 ≤ x424.toInt by first | with_reducible assumption | omega), (show x424.toInt ≤ 3205 by first | with_reducible assumption | omega)⟩⟩))⟩ hw dX12_isStreetHere_99
    · replace hM := hM.call hv15 rfl
      refine lv_bipush (v := 10) hx hb dX12_isStreetHere_20 (by decide) ?_
      refine lv_aload_n hx hb dX12_isStreetHere_22 rfl (lv_at hl 0 rfl) ?_
      refine tk_geti hC hK hw hT hinX12 kM_at0 (by decide) rfl 8 (by decide) (List.mem_cons_of_mem _ uw_19_9) rfl rfl dX12_isStreetHere_23 (fun x432 c433 rx432 tx432 => ?_)
      refine wk_top x1 (c433.symm.trans c16) ?_
      replace hM := hM.rd (sI_at c16)
      refine lv_imul hx hb dX12_isStreetHere_26 ?_
      refine lv_topi (fun x434 ex434 => ?_)
      have ezx434 := ex434
      have ex434 : x434.toInt = (10 : Int) * x1.toInt := by rw [ex434]; exact wk_mul (show (-2147483648) ≤ (10 : Int) * x1.toInt by omega) (show (10 : Int) * x1.toInt ≤ 2147483647 by omega)
      replace hM := hM.lt ex434.symm
      refine lv_istore_n (lv' := [(2, .int x434), (0, .ref (ad 0)), (1, .int a1)]) hx hb dX12_isStreetHere_27 rfl hl (by decide) rfl (fun ls hl => ?_)
      refine lv_aload_n hx hb dX12_isStreetHere_28 rfl (lv_at hl 1 rfl) ?_
      refine lv_iconst (v := 0) hx hb dX12_isStreetHere_29 (by decide) ?_
      refine lv_aload_n hx hb dX12_isStreetHere_30 rfl (lv_at hl 1 rfl) ?_
      refine tk_geti hC hK hw hT hinX12 kM_at0 (by decide) rfl 7 (by decide) (List.mem_cons_of_mem _ uw_19_8) rfl rfl dX12_isStreetHere_31 (fun x435 c436 rx435 tx435 => ?_)
      replace hM := hM.rd (sI_at c436)
      refine lv_iconst (v := 1) hx hb dX12_isStreetHere_34 (by decide) ?_
      refine lv_isub hx hb dX12_isStreetHere_35 ?_
      refine lv_topi (fun x437 ex437 => ?_)
      have ezx437 := ex437
      have ex437 : x437.toInt = x435.toInt - (1 : Int) := by rw [ex437]; exact wk_sub (show (-2147483648) ≤ x435.toInt - (1 : Int) by omega) (show x435.toInt - (1 : Int) ≤ 2147483647 by omega)
      replace hM := hM.lt ex437.symm
      refine tk_Vi hC hK hw hT hA hE hSR kM_at0 (by decide) rfl (kz_X12_numberHere_4 l adK adV dC dI cy ad B hB0 (Int.le_trans hB1 (by decide)) qr s1   x437 (show (-1) ≤ x437.toInt by first | with_reducible assumption | omega) (show x437.toInt ≤ 9 by first | with_reducible assumption | omega) w6 H.size hT ) (cwV 2 hC.2.2.2.2 uV_RX12_167 rfl rfl rfl (by decide +kernel) ⟨Nat.le_of_ble_eq_true rfl, Nat.le_of_ble_eq_true rfl⟩) rfl hl.1 rfl (Nat.le_of_ble_eq_true rfl) dX12_isStreetHere_36 (fun r438 w440 H locs hp439 hw => ?_)
      obtain ⟨hT, k441, hv456, hg455⟩ := hp439
      have hF := hF.tr k441 (by decide)
      have c457 := k441.gi kM_at0 (by decide) c16
      have c458 := k441.gi kM_at0 (by decide) c13
      have c459 := k441.gi kM_at0 (by decide) c436
      rcases hg455 with ⟨rfl, ⟨x442, c443, rx442, tx442⟩, ⟨x444, c445, rx444, tx444⟩⟩ | ⟨rfl, ⟨x446, c447, rx446, tx446⟩, ⟨x448, c449, rx448, tx448⟩⟩ | ⟨rfl, g450, ⟨x451, c452, rx451, tx451⟩, ⟨x453, c454, rx453, tx453⟩⟩
      · replace hM := hM.call (r' := 0) hv456 (by decide)
        have ex442 : x442.toInt = x12.toInt := by rw [← c458.symm.trans c443]
        refine lv_if_ne (tgt := 44) hx hb dX12_isStreetHere_39 (by decide) (fun c => absurd (by decide) c) (fun _ => ?_)
        replace hM := hM.neg (by decide)
        refine lv_iconst (v := 0) hx hb dX12_isStreetHere_42 (by decide) ?_
        exact tk_zret hC hr rfl hlocks hK ⟨hT, hF, hM.ret (by decide), (Or.inr (Or.inl ⟨rfl, ⟨x12, c458, (show 1 ≤ x12.toInt by first | with_reducible assumption | omega), (show x12.toInt ≤ 400 by first | with_reducible assumption | omega)⟩, ⟨x1, c457, (show 0 ≤ x1.toInt from rx1), (show x1.toInt ≤ 11 by first | with_reducible assumption | omega)⟩, ⟨x444, c445, (show 1 ≤ x444.toInt by first | with_reducible assumption | omega), (show x444.toInt ≤ 3205 by first | with_reducible assumption | omega)⟩⟩))⟩ hw dX12_isStreetHere_43
      · replace hM := hM.call (r' := 0) hv456 (by decide)
        have ex446 : x446.toInt = x12.toInt := by rw [← c458.symm.trans c447]
        refine lv_if_ne (tgt := 44) hx hb dX12_isStreetHere_39 (by decide) (fun c => absurd (by decide) c) (fun _ => ?_)
        replace hM := hM.neg (by decide)
        refine lv_iconst (v := 0) hx hb dX12_isStreetHere_42 (by decide) ?_
        exact tk_zret hC hr rfl hlocks hK ⟨hT, hF, hM.ret (by decide), (Or.inr (Or.inr (Or.inl ⟨rfl, ⟨x12, c458, (show 0 ≤ x12.toInt by first | with_reducible assumption | omega), (show x12.toInt ≤ 400 by first | with_reducible assumption | omega)⟩, ⟨x1, c457, (show 0 ≤ x1.toInt from rx1), (show x1.toInt ≤ 11 by first | with_reducible assumption | omega)⟩, ⟨x448, c449, (show 1 ≤ x448.toInt by first | with_reducible assumption | omega), (show x448.toInt ≤ 3205 by first | with_reducible assumption | omega)⟩⟩)))⟩ hw dX12_isStreetHere_43
      · replace hM := hM.call (r' := 1) hv456 (by decide)
        have ex451 : x451.toInt = x12.toInt := by rw [← c458.symm.trans c452]
        refine lv_if_ne (tgt := 44) hx hb dX12_isStreetHere_39 (by decide) (fun _ => ?_) (fun c => absurd c (by decide))
        replace hM := hM.pos (by decide)
        refine lv_aload_n hx hb dX12_isStreetHere_44 rfl (lv_at hl 1 rfl) ?_
        refine tk_getA hC hK hw hT hinX12 kM_at0 (by decide) rfl 11 (by decide) (List.mem_cons_of_mem _ uw_6_19) rfl rfl dX12_isStreetHere_45 ?_
        refine lv_iload_n hx hb dX12_isStreetHere_48 rfl (lv_at hl 0 rfl) ?_
        refine lv_aload_n hx hb dX12_isStreetHere_49 rfl (lv_at hl 1 rfl) ?_
        refine tk_geti hC hK hw hT hinX12 kM_at0 (by decide) rfl 16 (by decide) (List.mem_cons_of_mem _ uw_21_12) rfl rfl dX12_isStreetHere_50 (fun x460 c461 rx460 tx460 => ?_)
        refine wk_top x453 (c461.symm.trans c454) ?_
        replace hM := hM.rd (sI_at c454)
        refine tk_iast hC hK hw hT kM_at6 (by decide) rfl rfl (show 0 ≤ x434.toInt by first | with_reducible assumption | omega) (show x434.toInt < 120 by first | with_reducible assumption | omega) (show 0 ≤ x453.toInt by first | with_reducible assumption | omega) (show x453.toInt ≤ 9 by first | with_reducible assumption | omega) dX12_isStreetHere_53 (fun H locs w462 hw hT k464 c463 => ?_)
        replace hM := hM.wr (sI_up k464 c463)
        have hF := hF.put kM_at6 (inE_of (a := 0) (b := 120) (by decide) (show 0 ≤ x434.toInt.toNat by omega) (show x434.toInt.toNat ≤ 120 by omega)) k464
        have c465 := k464.gi (Or.inl (tk_ne kM_at0 kM_at6 (by decide))) c457
        have c466 := k464.gi (Or.inl (tk_ne kM_at0 kM_at6 (by decide))) c458
        have c467 := k464.gi (Or.inl (tk_ne kM_at0 kM_at6 (by decide))) c459
        have c468 := k464.gi (Or.inl (tk_ne kM_at0 kM_at6 (by decide))) c454
        refine lv_aload_n hx hb dX12_isStreetHere_54 rfl (lv_at hl 1 rfl) ?_
        obtain ⟨x469, c470, rx469, tx469⟩ := hT.rdi (lo := 0) (hi := 400) (k := 14) kM_at0 (by decide) rfl
        refine tk_Vi hC hK hw hT hA hE hSR kM_at0 (by decide) rfl (kz_X12_see_1 l adK adV dC dI cy ad B hB0 (Int.le_trans hB1 (by decide)) qr s1    w462 H.size hT x469 c470 (show 0 ≤ x469.toInt by first | with_reducible assumption | omega) (show x469.toInt ≤ 400 by first | with_reducible assumption | omega)) (cwV 0 hC.2.2.2.2 uV_RX12_97 rfl rfl rfl (by decide +kernel) ⟨Nat.le_of_ble_eq_true rfl, Nat.le_of_ble_eq_true rfl⟩) rfl hl.1 rfl (Nat.le_of_ble_eq_true rfl) dX12_isStreetHere_55 (fun r471 w473 H locs hp472 hw => ?_)
        obtain ⟨hT, k474, hv492, hg491⟩ := hp472
        have hF := hF.tr k474 (by decide)
        have c493 := k474.gi kM_at0 (by decide) c465
        have c494 := k474.gi kM_at0 (by decide) c466
        have c495 := k474.gi kM_at0 (by decide) c467
        have c496 := k474.gi kM_at0 (by decide) c468
        rcases hg491 with ⟨g475, g476, ⟨x477, c478, rx477, tx477⟩, ⟨x479, c480, rx479, tx479⟩, g481, g482⟩ | ⟨rfl, ⟨x483, c484, rx483, tx483⟩, ⟨x485, c486, rx485, tx485⟩, g487⟩ | ⟨rfl, ⟨x488, c489, rx488, tx488⟩, g490⟩
        · replace hM := hM.call hv492 rfl
          have ex477 : x477.toInt = x12.toInt := by rw [← c494.symm.trans c478]
          have g481 : (gi w473 1 (x479.toInt).toNat).toInt ≠ 32 := by have q := g481; simp only [c480] at q; first | with_reducible exact q | omega
          have g482 : (x479.toInt = x469.toInt ∨ (gi w462 1 (x469.toInt).toNat).toInt = 32) := by have q := g482; simp only [c470, c480] at q; first | with_reducible exact q | omega
          refine lv_pop hx hb dX12_isStreetHere_58 rfl ?_
          refine lv_aload_n hx hb dX12_isStreetHere_59 rfl (lv_at hl 1 rfl) ?_
          refine tk_geti hC hK hw hT hinX12 kM_at0 (by decide) rfl 14 (by decide) (List.mem_cons_of_mem _ uw_19_18) rfl rfl dX12_isStreetHere_60 (fun x499 c500 rx499 tx499 => ?_)
          refine wk_top x479 (c500.symm.trans c480) ?_
          replace hM := hM.rd (sI_at c480)
          refine lv_istore_n (lv' := [(3, .int x479), (2, .int x434), (0, .ref (ad 0)), (1, .int a1)]) hx hb dX12_isStreetHere_63 rfl hl (by decide) rfl (fun ls hl => ?_)
          refine lv_aload_n hx hb dX12_isStreetHere_64 rfl (lv_at hl 2 rfl) ?_
          refine lv_iconst (v := 0) hx hb dX12_isStreetHere_65 (by decide) ?_
          refine lv_aload_n hx hb dX12_isStreetHere_66 rfl (lv_at hl 2 rfl) ?_
          refine tk_geti hC hK hw hT hinX12 kM_at0 (by decide) rfl 7 (by decide) (List.mem_cons_of_mem _ uw_19_8) rfl rfl dX12_isStreetHere_67 (fun x501 c502 rx501 tx501 => ?_)
          refine wk_top x435 (c502.symm.trans c495) ?_
          replace hM := hM.rd (sI_at c495)
          refine lv_iconst (v := 1) hx hb dX12_isStreetHere_70 (by decide) ?_
          refine lv_isub hx hb dX12_isStreetHere_71 ?_
          refine lv_topi (fun x503 ex503 => ?_)
          have ezx503 := ex503
          have ex503 : x503.toInt = x435.toInt - (1 : Int) := by rw [ex503]; exact wk_sub (show (-2147483648) ≤ x435.toInt - (1 : Int) by omega) (show x435.toInt - (1 : Int) ≤ 2147483647 by omega)
          replace hM := hM.lt ex503.symm
          refine tk_Vi hC hK hw hT hA hE hSR kM_at0 (by decide) rfl (kz_X12_numberHere_6 l adK adV dC dI cy ad B hB0 (Int.le_trans hB1 (by decide)) qr s1   x503 (show 0 ≤ x503.toInt by first | with_reducible assumption | omega) (show x503.toInt ≤ 9 by first | with_reducible assumption | omega) w473 H.size hT ) (cwV 2 hC.2.2.2.2 uV_RX12_167 rfl rfl rfl (by decide +kernel) ⟨Nat.le_of_ble_eq_true rfl, Nat.le_of_ble_eq_true rfl⟩) rfl hl.1 rfl (Nat.le_of_ble_eq_true rfl) dX12_isStreetHere_72 (fun r504 w506 H locs hp505 hw => ?_)
          obtain ⟨hT, k507, hv521, hg520⟩ := hp505
          have hF := hF.tr k507 (by decide)
          have c522 := k507.gi kM_at0 (by decide) c493
          have c523 := k507.gi kM_at0 (by decide) c494
          have c524 := k507.gi kM_at0 (by decide) c495
          rcases hg520 with ⟨rfl, ⟨x508, c509, rx508, tx508⟩, ⟨x510, c511, rx510, tx510⟩⟩ | ⟨rfl, ⟨x512, c513, rx512, tx512⟩, ⟨x514, c515, rx514, tx514⟩⟩ | ⟨rfl, ⟨x516, c517, rx516, tx516⟩, ⟨x518, c519, rx518, tx518⟩⟩
          · replace hM := hM.call (r' := 0) hv521 (by decide)
            have ex508 : x508.toInt = x12.toInt := by rw [← c523.symm.trans c509]
            refine lv_if_ne (tgt := 80) hx hb dX12_isStreetHere_75 (by decide) (fun c => absurd (by decide) c) (fun _ => ?_)
            replace hM := hM.neg (by decide)
            refine lv_iconst (v := 0) hx hb dX12_isStreetHere_78 (by decide) ?_
            exact tk_zret hC hr rfl hlocks hK ⟨hT, hF, hM.ret (by decide), (Or.inr (Or.inl ⟨rfl, ⟨x12, c523, (show 1 ≤ x12.toInt by first | with_reducible assumption | omega), (show x12.toInt ≤ 400 by first | with_reducible assumption | omega)⟩, ⟨x1, c522, (show 0 ≤ x1.toInt from rx1), (show x1.toInt ≤ 11 by first | with_reducible assumption | omega)⟩, ⟨x510, c511, (show 1 ≤ x510.toInt by first | with_reducible assumption | omega), (show x510.toInt ≤ 3205 by first | with_reducible assumption | omega)⟩⟩))⟩ hw dX12_isStreetHere_79
          · replace hM := hM.call (r' := 0) hv521 (by decide)
            have ex512 : x512.toInt = x12.toInt := by rw [← c523.symm.trans c513]
            refine lv_if_ne (tgt := 80) hx hb dX12_isStreetHere_75 (by decide) (fun c => absurd (by decide) c) (fun _ => ?_)
            replace hM := hM.neg (by decide)
            refine lv_iconst (v := 0) hx hb dX12_isStreetHere_78 (by decide) ?_
            exact tk_zret hC hr rfl hlocks hK ⟨hT, hF, hM.ret (by decide), (Or.inr (Or.inl ⟨rfl, ⟨x12, c523, (show 1 ≤ x12.toInt by first | with_reducible assumption | omega), (show x12.toInt ≤ 400 by first | with_reducible assumption | omega)⟩, ⟨x1, c522, (show 0 ≤ x1.toInt from rx1), (show x1.toInt ≤ 11 by first | with_reducible assumption | omega)⟩, ⟨x514, c515, (show 1 ≤ x514.toInt by first | with_reducible assumption | omega), (show x514.toInt ≤ 3205 by first | with_reducible assumption | omega)⟩⟩))⟩ hw dX12_isStreetHere_79
          · replace hM := hM.call (r' := 1) hv521 (by decide)
            have ex516 : x516.toInt = x12.toInt := by rw [← c523.symm.trans c517]
            refine lv_if_ne (tgt := 80) hx hb dX12_isStreetHere_75 (by decide) (fun _ => ?_) (fun c => absurd c (by decide))
            replace hM := hM.pos (by decide)
            refine lv_aload_n hx hb dX12_isStreetHere_80 rfl (lv_at hl 2 rfl) ?_
            refine tk_geti hC hK hw hT hinX12 kM_at0 (by decide) rfl 16 (by decide) (List.mem_cons_of_mem _ uw_21_12) rfl rfl dX12_isStreetHere_81 (fun x525 c526 rx525 tx525 => ?_)
            refine wk_top x518 (c526.symm.trans c519) ?_
            replace hM := hM.rd (sI_at c519)
            refine lv_aload_n hx hb dX12_isStreetHere_84 rfl (lv_at hl 2 rfl) ?_
            refine tk_getA hC hK hw hT hinX12 kM_at0 (by decide) rfl 11 (by decide) (List.mem_cons_of_mem _ uw_6_19) rfl rfl dX12_isStreetHere_85 ?_
            refine lv_iload_n hx hb dX12_isStreetHere_88 rfl (lv_at hl 1 rfl) ?_
            refine tk_iald hC hK hw hT kM_at6 rfl rfl (show 0 ≤ x434.toInt by first | with_reducible assumption | omega) (show x434.toInt < 120 by first | with_reducible assumption | omega) dX12_isStreetHere_89 (fun x527 c528 rx527 tx527 => ?_)
            have hox527 := c528
            replace hM := hM.rd (sI_at hox527)
            refine lv_icmp_ne (tgt := 100) hx hb dX12_isStreetHere_90 (by decide) (fun c529 => ?_) (fun c529 => ?_)
            · have c529 : ¬ x518.toInt = x527.toInt := wk_eqF c529
              replace hM := hM.pos c529
              refine lv_aload_n hx hb dX12_isStreetHere_100 rfl (lv_at hl 2 rfl) ?_
              refine tk_getA hC hK hw hT hinX12 kM_at0 (by decide) rfl 11 (by decide) (List.mem_cons_of_mem _ uw_6_19) rfl rfl dX12_isStreetHere_101 ?_
              refine lv_iload_n hx hb dX12_isStreetHere_104 rfl (lv_at hl 1 rfl) ?_
              refine lv_iconst (v := 1) hx hb dX12_isStreetHere_105 (by decide) ?_
              refine lv_iadd hx hb dX12_isStreetHere_106 ?_
              refine lv_topi (fun x530 ex530 => ?_)
              have ezx530 := ex530
              have ex530 : x530.toInt = x434.toInt + (1 : Int) := by rw [ex530]; exact wk_add (show (-2147483648) ≤ x434.toInt + (1 : Int) by omega) (show x434.toInt + (1 : Int) ≤ 2147483647 by omega)
              replace hM := hM.lt ex530.symm
              refine lv_aload_n hx hb dX12_isStreetHere_107 rfl (lv_at hl 2 rfl) ?_
              refine tk_geti hC hK hw hT hinX12 kM_at0 (by decide) rfl 16 (by decide) (List.mem_cons_of_mem _ uw_21_12) rfl rfl dX12_isStreetHere_108 (fun x531 c532 rx531 tx531 => ?_)
              refine wk_top x518 (c532.symm.trans c519) ?_
              replace hM := hM.rd (sI_at c519)
              refine tk_iast hC hK hw hT kM_at6 (by decide) rfl rfl (show 0 ≤ x530.toInt by first | with_reducible assumption | omega) (show x530.toInt < 120 by first | with_reducible assumption | omega) (show 0 ≤ x518.toInt by first | with_reducible assumption | omega) (show x518.toInt ≤ 9 by first | with_reducible assumption | omega) dX12_isStreetHere_111 (fun H locs w533 hw hT k535 c534 => ?_)
              replace hM := hM.wr (sI_up k535 c534)
              have hF := hF.put kM_at6 (inE_of (a := 0) (b := 120) (by decide) (show 0 ≤ x530.toInt.toNat by omega) (show x530.toInt.toNat ≤ 120 by omega)) k535
              have c536 := k535.gi (Or.inl (tk_ne kM_at0 kM_at6 (by decide))) c522
              have c537 := k535.gi (Or.inl (tk_ne kM_at0 kM_at6 (by decide))) c523
              have c538 := k535.gi (Or.inl (tk_ne kM_at0 kM_at6 (by decide))) c524
              have c539 := k535.gi (Or.inl (tk_ne kM_at0 kM_at6 (by decide))) c519
              refine lv_aload_n hx hb dX12_isStreetHere_112 rfl (lv_at hl 2 rfl) ?_
              refine lv_iconst (v := 1) hx hb dX12_isStreetHere_113 (by decide) ?_
              refine lv_bipush (v := 9) hx hb dX12_isStreetHere_114 (by decide) ?_
              refine tk_Vi hC hK hw hT hA hE hSR kM_at0 (by decide) rfl (kz_X12_numberHere_7 l adK adV dC dI cy ad B hB0 (Int.le_trans hB1 (by decide)) qr s1    w533 H.size hT ) (cwV 2 hC.2.2.2.2 uV_RX12_167 rfl rfl rfl (by decide +kernel) ⟨Nat.le_of_ble_eq_true rfl, Nat.le_of_ble_eq_true rfl⟩) rfl hl.1 rfl (Nat.le_of_ble_eq_true rfl) dX12_isStreetHere_116 (fun r540 w542 H locs hp541 hw => ?_)
              obtain ⟨hT, k543, hv557, hg556⟩ := hp541
              have hF := hF.tr k543 (by decide)
              have c558 := k543.gi kM_at0 (by decide) c536
              have c559 := k543.gi kM_at0 (by decide) c537
              have c560 := k543.gi kM_at0 (by decide) c538
              rcases hg556 with ⟨rfl, ⟨x544, c545, rx544, tx544⟩, ⟨x546, c547, rx546, tx546⟩⟩ | ⟨rfl, ⟨x548, c549, rx548, tx548⟩, ⟨x550, c551, rx550, tx550⟩⟩ | ⟨rfl, ⟨x552, c553, rx552, tx552⟩, ⟨x554, c555, rx554, tx554⟩⟩
              · replace hM := hM.call (r' := 0) hv557 (by decide)
                have ex544 : x544.toInt = x12.toInt := by rw [← c559.symm.trans c545]
                refine lv_if_ne (tgt := 124) hx hb dX12_isStreetHere_119 (by decide) (fun c => absurd (by decide) c) (fun _ => ?_)
                replace hM := hM.neg (by decide)
                refine lv_iconst (v := 0) hx hb dX12_isStreetHere_122 (by decide) ?_
                exact tk_zret hC hr rfl hlocks hK ⟨hT, hF, hM.ret (by decide), (Or.inr (Or.inl ⟨rfl, ⟨x12, c559, (show 1 ≤ x12.toInt by first | with_reducible assumption | omega), (show x12.toInt ≤ 400 by first | with_reducible assumption | omega)⟩, ⟨x1, c558, (show 0 ≤ x1.toInt from rx1), (show x1.toInt ≤ 11 by first | with_reducible assumption | omega)⟩, ⟨x546, c547, (show 1 ≤ x546.toInt by first | with_reducible assumption | omega), (show x546.toInt ≤ 3205 by first | with_reducible assumption | omega)⟩⟩))⟩ hw dX12_isStreetHere_123
              · replace hM := hM.call (r' := 0) hv557 (by decide)
                have ex548 : x548.toInt = x12.toInt := by rw [← c559.symm.trans c549]
                refine lv_if_ne (tgt := 124) hx hb dX12_isStreetHere_119 (by decide) (fun c => absurd (by decide) c) (fun _ => ?_)
                replace hM := hM.neg (by decide)
                refine lv_iconst (v := 0) hx hb dX12_isStreetHere_122 (by decide) ?_
                exact tk_zret hC hr rfl hlocks hK ⟨hT, hF, hM.ret (by decide), (Or.inr (Or.inl ⟨rfl, ⟨x12, c559, (show 1 ≤ x12.toInt by first | with_reducible assumption | omega), (show x12.toInt ≤ 400 by first | with_reducible assumption | omega)⟩, ⟨x1, c558, (show 0 ≤ x1.toInt from rx1), (show x1.toInt ≤ 11 by first | with_reducible assumption | omega)⟩, ⟨x550, c551, (show 1 ≤ x550.toInt by first | with_reducible assumption | omega), (show x550.toInt ≤ 3205 by first | with_reducible assumption | omega)⟩⟩))⟩ hw dX12_isStreetHere_123
              · replace hM := hM.call (r' := 1) hv557 (by decide)
                have ex552 : x552.toInt = x12.toInt := by rw [← c559.symm.trans c553]
                refine lv_if_ne (tgt := 124) hx hb dX12_isStreetHere_119 (by decide) (fun _ => ?_) (fun c => absurd c (by decide))
                replace hM := hM.pos (by decide)
                refine lv_aload_n hx hb dX12_isStreetHere_124 rfl (lv_at hl 2 rfl) ?_
                refine tk_getA hC hK hw hT hinX12 kM_at0 (by decide) rfl 11 (by decide) (List.mem_cons_of_mem _ uw_6_19) rfl rfl dX12_isStreetHere_125 ?_
                refine lv_iload_n hx hb dX12_isStreetHere_128 rfl (lv_at hl 1 rfl) ?_
                refine lv_iconst (v := 2) hx hb dX12_isStreetHere_129 (by decide) ?_
                refine lv_iadd hx hb dX12_isStreetHere_130 ?_
                refine lv_topi (fun x561 ex561 => ?_)
                have ezx561 := ex561
                have ex561 : x561.toInt = x434.toInt + (2 : Int) := by rw [ex561]; exact wk_add (show (-2147483648) ≤ x434.toInt + (2 : Int) by omega) (show x434.toInt + (2 : Int) ≤ 2147483647 by omega)
                replace hM := hM.lt ex561.symm
                refine lv_aload_n hx hb dX12_isStreetHere_131 rfl (lv_at hl 2 rfl) ?_
                refine tk_geti hC hK hw hT hinX12 kM_at0 (by decide) rfl 16 (by decide) (List.mem_cons_of_mem _ uw_21_12) rfl rfl dX12_isStreetHere_132 (fun x562 c563 rx562 tx562 => ?_)
                refine wk_top x554 (c563.symm.trans c555) ?_
                replace hM := hM.rd (sI_at c555)
                refine tk_iast hC hK hw hT kM_at6 (by decide) rfl rfl (show 0 ≤ x561.toInt by first | with_reducible assumption | omega) (show x561.toInt < 120 by first | with_reducible assumption | omega) (show 0 ≤ x554.toInt by first | with_reducible assumption | omega) (show x554.toInt ≤ 9 by first | with_reducible assumption | omega) dX12_isStreetHere_135 (fun H locs w564 hw hT k566 c565 => ?_)
                replace hM := hM.wr (sI_up k566 c565)
                have hF := hF.put kM_at6 (inE_of (a := 0) (b := 120) (by decide) (show 0 ≤ x561.toInt.toNat by omega) (show x561.toInt.toNat ≤ 120 by omega)) k566
                have c567 := k566.gi (Or.inl (tk_ne kM_at0 kM_at6 (by decide))) c558
                have c568 := k566.gi (Or.inl (tk_ne kM_at0 kM_at6 (by decide))) c559
                have c569 := k566.gi (Or.inl (tk_ne kM_at0 kM_at6 (by decide))) c560
                have c570 := k566.gi (Or.inl (tk_ne kM_at0 kM_at6 (by decide))) c555
                refine lv_aload_n hx hb dX12_isStreetHere_136 rfl (lv_at hl 2 rfl) ?_
                refine lv_iload_n hx hb dX12_isStreetHere_137 rfl (lv_at hl 1 rfl) ?_
                refine lv_iconst (v := 3) hx hb dX12_isStreetHere_138 (by decide) ?_
                refine lv_iadd hx hb dX12_isStreetHere_139 ?_
                refine lv_topi (fun x571 ex571 => ?_)
                have ezx571 := ex571
                have ex571 : x571.toInt = x434.toInt + (3 : Int) := by rw [ex571]; exact wk_add (show (-2147483648) ≤ x434.toInt + (3 : Int) by omega) (show x434.toInt + (3 : Int) ≤ 2147483647 by omega)
                replace hM := hM.lt ex571.symm
                refine tk_Vi hC hK hw hT hA hE hSR kM_at0 (by decide) rfl (kz_X12_areSignsHere_1 l adK adV dC dI cy ad B hB0 (Int.le_trans hB1 (by decide)) qr s1   x571 (show 3 ≤ x571.toInt by first | with_reducible assumption | omega) (show x571.toInt ≤ 113 by first | with_reducible assumption | omega) w564 H.size hT ) (cwV 1 hC.2.2.2.2 uV_RX12_227 rfl rfl rfl (by decide +kernel) ⟨Nat.le_of_ble_eq_true rfl, Nat.le_of_ble_eq_true rfl⟩) rfl hl.1 rfl (Nat.le_of_ble_eq_true rfl) dX12_isStreetHere_140 (fun r572 w574 H locs hp573 hw => ?_)
                obtain ⟨hT, k575, hv589, hg588⟩ := hp573
                have hF := hF.tr k575 (by decide)
                have c590 := k575.gi kM_at0 (by decide) c567
                have c591 := k575.gi kM_at0 (by decide) c568
                have c592 := k575.gi kM_at0 (by decide) c569
                have c593 := k575.gi kM_at0 (by decide) c570
                rcases hg588 with ⟨rfl, ⟨x576, c577, rx576, tx576⟩, ⟨x578, c579, rx578, tx578⟩, ⟨x580, c581, rx580, tx580⟩⟩ | ⟨rfl, ⟨x582, c583, rx582, tx582⟩, ⟨x584, c585, rx584, tx584⟩⟩ | ⟨rfl, ⟨x586, c587, rx586, tx586⟩⟩
                · replace hM := hM.call (r' := 0) hv589 (by decide)
                  have ex576 : x576.toInt = x12.toInt := by rw [← c591.symm.trans c577]
                  refine lv_if_ne (tgt := 148) hx hb dX12_isStreetHere_143 (by decide) (fun c => absurd (by decide) c) (fun _ => ?_)
                  replace hM := hM.neg (by decide)
                  refine lv_iconst (v := 0) hx hb dX12_isStreetHere_146 (by decide) ?_
                  exact tk_zret hC hr rfl hlocks hK ⟨hT, hF, hM.ret (by decide), (Or.inr (Or.inl ⟨rfl, ⟨x12, c591, (show 1 ≤ x12.toInt by first | with_reducible assumption | omega), (show x12.toInt ≤ 400 by first | with_reducible assumption | omega)⟩, ⟨x1, c590, (show 0 ≤ x1.toInt from rx1), (show x1.toInt ≤ 11 by first | with_reducible assumption | omega)⟩, ⟨x580, c581, (show 1 ≤ x580.toInt by first | with_reducible assumption | omega), (show x580.toInt ≤ 3205 by first | with_reducible assumption | omega)⟩⟩))⟩ hw dX12_isStreetHere_147
                · replace hM := hM.call (r' := 0) hv589 (by decide)
                  have ex582 : x582.toInt = x12.toInt := by rw [← c591.symm.trans c583]
                  refine lv_if_ne (tgt := 148) hx hb dX12_isStreetHere_143 (by decide) (fun c => absurd (by decide) c) (fun _ => ?_)
                  replace hM := hM.neg (by decide)
                  refine lv_iconst (v := 0) hx hb dX12_isStreetHere_146 (by decide) ?_
                  exact tk_zret hC hr rfl hlocks hK ⟨hT, hF, hM.ret (by decide), (Or.inr (Or.inl ⟨rfl, ⟨x12, c591, (show 1 ≤ x12.toInt by first | with_reducible assumption | omega), (show x12.toInt ≤ 400 by first | with_reducible assumption | omega)⟩, ⟨x1, c590, (show 0 ≤ x1.toInt from rx1), (show x1.toInt ≤ 11 by first | with_reducible assumption | omega)⟩, ⟨x584, c585, (show 1 ≤ x584.toInt by first | with_reducible assumption | omega), (show x584.toInt ≤ 3205 by first | with_reducible assumption | omega)⟩⟩))⟩ hw dX12_isStreetHere_147
                · replace hM := hM.call (r' := 1) hv589 (by decide)
                  have ex586 : x586.toInt = x12.toInt := by rw [← c591.symm.trans c587]
                  refine lv_if_ne (tgt := 148) hx hb dX12_isStreetHere_143 (by decide) (fun _ => ?_) (fun c => absurd c (by decide))
                  replace hM := hM.pos (by decide)
                  refine lv_aload_n hx hb dX12_isStreetHere_148 rfl (lv_at hl 2 rfl) ?_
                  refine lv_dup hx hb dX12_isStreetHere_149 rfl ?_
                  refine tk_geti hC hK hw hT hinX12 kM_at0 (by decide) rfl 8 (by decide) (List.mem_cons_of_mem _ uw_19_9) rfl rfl dX12_isStreetHere_150 (fun x594 c595 rx594 tx594 => ?_)
                  refine wk_top x1 (c595.symm.trans c590) ?_
                  replace hM := hM.rd (sI_at c590)
                  refine lv_iconst (v := 1) hx hb dX12_isStreetHere_153 (by decide) ?_
                  refine lv_iadd hx hb dX12_isStreetHere_154 ?_
                  refine lv_topi (fun x596 ex596 => ?_)
                  have ezx596 := ex596
                  have ex596 : x596.toInt = x1.toInt + (1 : Int) := by rw [ex596]; exact wk_add (show (-2147483648) ≤ x1.toInt + (1 : Int) by omega) (show x1.toInt + (1 : Int) ≤ 2147483647 by omega)
                  replace hM := hM.lt ex596.symm
                  refine tk_puti hC hK hw hT hinX12 tyX12_ok nmX12 kM_at0 (by decide) rfl rfl 8 (by decide) (List.mem_cons_of_mem _ uw_19_9) rfl rfl rfl rfl (show 0 ≤ x596.toInt by first | with_reducible assumption | omega) (show x596.toInt ≤ 12 by first | with_reducible assumption | omega) dX12_isStreetHere_155 (fun H locs w597 hw hT k599 c598 => ?_)
                  replace hM := hM.wr (sI_up k599 c598)
                  have hF := hF.put kM_at0 (k := 8) (by decide) k599
                  have c600 := k599.gi (Or.inr (by decide)) c591
                  have c601 := k599.gi (Or.inr (by decide)) c592
                  have c602 := k599.gi (Or.inr (by decide)) c593
                  refine lv_iconst (v := 1) hx hb dX12_isStreetHere_158 (by decide) ?_
                  exact tk_zret hC hr rfl hlocks hK ⟨hT, hF, hM.ret (by decide), (Or.inr (Or.inr (Or.inr ⟨rfl, ⟨x12, c600, (show 1 ≤ x12.toInt by first | with_reducible assumption | omega), (show x12.toInt ≤ 400 by first | with_reducible assumption | omega)⟩, ⟨x435, c601, (show 1 ≤ x435.toInt by first | with_reducible assumption | omega), (show x435.toInt ≤ 10 from tx435)⟩, ⟨x596, c598, (show 1 ≤ x596.toInt by first | with_reducible assumption | omega), (show x596.toInt ≤ 12 by first | with_reducible assumption | omega)⟩, ⟨x554, c602, (show 1 ≤ x554.toInt by first | with_reducible assumption | omega), (show x554.toInt ≤ 9 by first | with_reducible assumption | omega)⟩⟩)))⟩ hw dX12_isStreetHere_159
            · have c529 : x518.toInt = x527.toInt := wk_eq.mp c529
              replace hM := hM.neg (fun q => q c529)
              refine lv_aload_n hx hb dX12_isStreetHere_93 rfl (lv_at hl 2 rfl) ?_
              refine lv_iconst (v := 1) hx hb dX12_isStreetHere_94 (by decide) ?_
              refine lv_iload_n hx hb dX12_isStreetHere_95 rfl (lv_at hl 0 rfl) ?_
              refine tk_Vi hC hK hw hT hA hE hSR kM_at0 (by decide) rfl (kz_X12_fails_1 l adK adV dC dI cy ad B hB0 (Int.le_trans hB1 (by decide)) qr s1   1 (by decide) (by decide) x479 (show 0 ≤ x479.toInt by first | with_reducible assumption | omega) (show x479.toInt ≤ 400 by first | with_reducible assumption | omega) w506 H.size hT ) (cwV 2 hC.2.2.2.2 uV_RX12_115 rfl rfl rfl (by decide +kernel) ⟨Nat.le_of_ble_eq_true rfl, Nat.le_of_ble_eq_true rfl⟩) rfl hl.1 rfl (Nat.le_of_ble_eq_true rfl) dX12_isStreetHere_96 (fun r603 w605 H locs hp604 hw => ?_)
              obtain ⟨hT, k606, hv610, hg609⟩ := hp604
              try simp only [show (1 : Int32).toInt = 1 by decide] at hv610
              have hF := hF.tr k606 (by decide)
              have c611 := k606.gi kM_at0 (by decide) c522
              have c612 := k606.gi kM_at0 (by decide) c523
              have c613 := k606.gi kM_at0 (by decide) c524
              have c614 := k606.gi kM_at0 (by decide) c519
              obtain ⟨rfl, ⟨x607, c608, rx607, tx607⟩⟩ := hg609
              replace hM := hM.call (r' := 0) hv610 (by decide)
              exact tk_zret hC hr rfl hlocks hK ⟨hT, hF, hM.ret (by decide), (Or.inr (Or.inl ⟨rfl, ⟨x12, c612, (show 1 ≤ x12.toInt by first | with_reducible assumption | omega), (show x12.toInt ≤ 400 by first | with_reducible assumption | omega)⟩, ⟨x1, c611, (show 0 ≤ x1.toInt from rx1), (show x1.toInt ≤ 11 by first | with_reducible assumption | omega)⟩, ⟨x607, c608, (show 1 ≤ x607.toInt by first | with_reducible assumption | omega), (show x607.toInt ≤ 3205 by first | with_reducible assumption | omega)⟩⟩))⟩ hw dX12_isStreetHere_99
        · replace hM := hM.call (r' := (-1)) hv492 (by decide)
          have ex483 : x483.toInt = x12.toInt := by rw [← c494.symm.trans c484]
          have g487 : (x485.toInt = x469.toInt ∨ (gi w462 1 (x469.toInt).toNat).toInt = 32) := by have q := g487; simp only [c470, c486] at q; first | with_reducible exact q | omega
          refine lv_pop hx hb dX12_isStreetHere_58 rfl ?_
          refine lv_aload_n hx hb dX12_isStreetHere_59 rfl (lv_at hl 1 rfl) ?_
          refine tk_geti hC hK hw hT hinX12 kM_at0 (by decide) rfl 14 (by decide) (List.mem_cons_of_mem _ uw_19_18) rfl rfl dX12_isStreetHere_60 (fun x615 c616 rx615 tx615 => ?_)
          refine wk_top x485 (c616.symm.trans c486) ?_
          replace hM := hM.rd (sI_at c486)
          refine lv_istore_n (lv' := [(3, .int x485), (2, .int x434), (0, .ref (ad 0)), (1, .int a1)]) hx hb dX12_isStreetHere_63 rfl hl (by decide) rfl (fun ls hl => ?_)
          refine lv_aload_n hx hb dX12_isStreetHere_64 rfl (lv_at hl 2 rfl) ?_
          refine lv_iconst (v := 0) hx hb dX12_isStreetHere_65 (by decide) ?_
          refine lv_aload_n hx hb dX12_isStreetHere_66 rfl (lv_at hl 2 rfl) ?_
          refine tk_geti hC hK hw hT hinX12 kM_at0 (by decide) rfl 7 (by decide) (List.mem_cons_of_mem _ uw_19_8) rfl rfl dX12_isStreetHere_67 (fun x617 c618 rx617 tx617 => ?_)
          refine wk_top x435 (c618.symm.trans c495) ?_
          replace hM := hM.rd (sI_at c495)
          refine lv_iconst (v := 1) hx hb dX12_isStreetHere_70 (by decide) ?_
          refine lv_isub hx hb dX12_isStreetHere_71 ?_
          refine lv_topi (fun x619 ex619 => ?_)
          have ezx619 := ex619
          have ex619 : x619.toInt = x435.toInt - (1 : Int) := by rw [ex619]; exact wk_sub (show (-2147483648) ≤ x435.toInt - (1 : Int) by omega) (show x435.toInt - (1 : Int) ≤ 2147483647 by omega)
          replace hM := hM.lt ex619.symm
          refine tk_Vi hC hK hw hT hA hE hSR kM_at0 (by decide) rfl (kz_X12_numberHere_6 l adK adV dC dI cy ad B hB0 (Int.le_trans hB1 (by decide)) qr s1   x619 (show 0 ≤ x619.toInt by first | with_reducible assumption | omega) (show x619.toInt ≤ 9 by first | with_reducible assumption | omega) w473 H.size hT ) (cwV 2 hC.2.2.2.2 uV_RX12_167 rfl rfl rfl (by decide +kernel) ⟨Nat.le_of_ble_eq_true rfl, Nat.le_of_ble_eq_true rfl⟩) rfl hl.1 rfl (Nat.le_of_ble_eq_true rfl) dX12_isStreetHere_72 (fun r620 w622 H locs hp621 hw => ?_)
          obtain ⟨hT, k623, hv637, hg636⟩ := hp621
          have hF := hF.tr k623 (by decide)
          have c638 := k623.gi kM_at0 (by decide) c493
          have c639 := k623.gi kM_at0 (by decide) c494
          have c640 := k623.gi kM_at0 (by decide) c495
          rcases hg636 with ⟨rfl, ⟨x624, c625, rx624, tx624⟩, ⟨x626, c627, rx626, tx626⟩⟩ | ⟨rfl, ⟨x628, c629, rx628, tx628⟩, ⟨x630, c631, rx630, tx630⟩⟩ | ⟨rfl, ⟨x632, c633, rx632, tx632⟩, ⟨x634, c635, rx634, tx634⟩⟩
          · replace hM := hM.call (r' := 0) hv637 (by decide)
            have ex624 : x624.toInt = x12.toInt := by rw [← c639.symm.trans c625]
            refine lv_if_ne (tgt := 80) hx hb dX12_isStreetHere_75 (by decide) (fun c => absurd (by decide) c) (fun _ => ?_)
            replace hM := hM.neg (by decide)
            refine lv_iconst (v := 0) hx hb dX12_isStreetHere_78 (by decide) ?_
            exact tk_zret hC hr rfl hlocks hK ⟨hT, hF, hM.ret (by decide), (Or.inr (Or.inl ⟨rfl, ⟨x12, c639, (show 1 ≤ x12.toInt by first | with_reducible assumption | omega), (show x12.toInt ≤ 400 by first | with_reducible assumption | omega)⟩, ⟨x1, c638, (show 0 ≤ x1.toInt from rx1), (show x1.toInt ≤ 11 by first | with_reducible assumption | omega)⟩, ⟨x626, c627, (show 1 ≤ x626.toInt by first | with_reducible assumption | omega), (show x626.toInt ≤ 3205 by first | with_reducible assumption | omega)⟩⟩))⟩ hw dX12_isStreetHere_79
          · replace hM := hM.call (r' := 0) hv637 (by decide)
            have ex628 : x628.toInt = x12.toInt := by rw [← c639.symm.trans c629]
            refine lv_if_ne (tgt := 80) hx hb dX12_isStreetHere_75 (by decide) (fun c => absurd (by decide) c) (fun _ => ?_)
            replace hM := hM.neg (by decide)
            refine lv_iconst (v := 0) hx hb dX12_isStreetHere_78 (by decide) ?_
            exact tk_zret hC hr rfl hlocks hK ⟨hT, hF, hM.ret (by decide), (Or.inr (Or.inl ⟨rfl, ⟨x12, c639, (show 1 ≤ x12.toInt by first | with_reducible assumption | omega), (show x12.toInt ≤ 400 by first | with_reducible assumption | omega)⟩, ⟨x1, c638, (show 0 ≤ x1.toInt from rx1), (show x1.toInt ≤ 11 by first | with_reducible assumption | omega)⟩, ⟨x630, c631, (show 1 ≤ x630.toInt by first | with_reducible assumption | omega), (show x630.toInt ≤ 3205 by first | with_reducible assumption | omega)⟩⟩))⟩ hw dX12_isStreetHere_79
          · replace hM := hM.call (r' := 1) hv637 (by decide)
            have ex632 : x632.toInt = x12.toInt := by rw [← c639.symm.trans c633]
            refine lv_if_ne (tgt := 80) hx hb dX12_isStreetHere_75 (by decide) (fun _ => ?_) (fun c => absurd c (by decide))
            replace hM := hM.pos (by decide)
            refine lv_aload_n hx hb dX12_isStreetHere_80 rfl (lv_at hl 2 rfl) ?_
            refine tk_geti hC hK hw hT hinX12 kM_at0 (by decide) rfl 16 (by decide) (List.mem_cons_of_mem _ uw_21_12) rfl rfl dX12_isStreetHere_81 (fun x641 c642 rx641 tx641 => ?_)
            refine wk_top x634 (c642.symm.trans c635) ?_
            replace hM := hM.rd (sI_at c635)
            refine lv_aload_n hx hb dX12_isStreetHere_84 rfl (lv_at hl 2 rfl) ?_
            refine tk_getA hC hK hw hT hinX12 kM_at0 (by decide) rfl 11 (by decide) (List.mem_cons_of_mem _ uw_6_19) rfl rfl dX12_isStreetHere_85 ?_
            refine lv_iload_n hx hb dX12_isStreetHere_88 rfl (lv_at hl 1 rfl) ?_
            refine tk_iald hC hK hw hT kM_at6 rfl rfl (show 0 ≤ x434.toInt by first | with_reducible assumption | omega) (show x434.toInt < 120 by first | with_reducible assumption | omega) dX12_isStreetHere_89 (fun x643 c644 rx643 tx643 => ?_)
            have hox643 := c644
            replace hM := hM.rd (sI_at hox643)
            refine lv_icmp_ne (tgt := 100) hx hb dX12_isStreetHere_90 (by decide) (fun c645 => ?_) (fun c645 => ?_)
            · have c645 : ¬ x634.toInt = x643.toInt := wk_eqF c645
              replace hM := hM.pos c645
              refine lv_aload_n hx hb dX12_isStreetHere_100 rfl (lv_at hl 2 rfl) ?_
              refine tk_getA hC hK hw hT hinX12 kM_at0 (by decide) rfl 11 (by decide) (List.mem_cons_of_mem _ uw_6_19) rfl rfl dX12_isStreetHere_101 ?_
              refine lv_iload_n hx hb dX12_isStreetHere_104 rfl (lv_at hl 1 rfl) ?_
              refine lv_iconst (v := 1) hx hb dX12_isStreetHere_105 (by decide) ?_
              refine lv_iadd hx hb dX12_isStreetHere_106 ?_
              refine lv_topi (fun x646 ex646 => ?_)
              have ezx646 := ex646
              have ex646 : x646.toInt = x434.toInt + (1 : Int) := by rw [ex646]; exact wk_add (show (-2147483648) ≤ x434.toInt + (1 : Int) by omega) (show x434.toInt + (1 : Int) ≤ 2147483647 by omega)
              replace hM := hM.lt ex646.symm
              refine lv_aload_n hx hb dX12_isStreetHere_107 rfl (lv_at hl 2 rfl) ?_
              refine tk_geti hC hK hw hT hinX12 kM_at0 (by decide) rfl 16 (by decide) (List.mem_cons_of_mem _ uw_21_12) rfl rfl dX12_isStreetHere_108 (fun x647 c648 rx647 tx647 => ?_)
              refine wk_top x634 (c648.symm.trans c635) ?_
              replace hM := hM.rd (sI_at c635)
              refine tk_iast hC hK hw hT kM_at6 (by decide) rfl rfl (show 0 ≤ x646.toInt by first | with_reducible assumption | omega) (show x646.toInt < 120 by first | with_reducible assumption | omega) (show 0 ≤ x634.toInt by first | with_reducible assumption | omega) (show x634.toInt ≤ 9 by first | with_reducible assumption | omega) dX12_isStreetHere_111 (fun H locs w649 hw hT k651 c650 => ?_)
              replace hM := hM.wr (sI_up k651 c650)
              have hF := hF.put kM_at6 (inE_of (a := 0) (b := 120) (by decide) (show 0 ≤ x646.toInt.toNat by omega) (show x646.toInt.toNat ≤ 120 by omega)) k651
              have c652 := k651.gi (Or.inl (tk_ne kM_at0 kM_at6 (by decide))) c638
              have c653 := k651.gi (Or.inl (tk_ne kM_at0 kM_at6 (by decide))) c639
              have c654 := k651.gi (Or.inl (tk_ne kM_at0 kM_at6 (by decide))) c640
              have c655 := k651.gi (Or.inl (tk_ne kM_at0 kM_at6 (by decide))) c635
              refine lv_aload_n hx hb dX12_isStreetHere_112 rfl (lv_at hl 2 rfl) ?_
              refine lv_iconst (v := 1) hx hb dX12_isStreetHere_113 (by decide) ?_
              refine lv_bipush (v := 9) hx hb dX12_isStreetHere_114 (by decide) ?_
              refine tk_Vi hC hK hw hT hA hE hSR kM_at0 (by decide) rfl (kz_X12_numberHere_7 l adK adV dC dI cy ad B hB0 (Int.le_trans hB1 (by decide)) qr s1    w649 H.size hT ) (cwV 2 hC.2.2.2.2 uV_RX12_167 rfl rfl rfl (by decide +kernel) ⟨Nat.le_of_ble_eq_true rfl, Nat.le_of_ble_eq_true rfl⟩) rfl hl.1 rfl (Nat.le_of_ble_eq_true rfl) dX12_isStreetHere_116 (fun r656 w658 H locs hp657 hw => ?_)
              obtain ⟨hT, k659, hv673, hg672⟩ := hp657
              have hF := hF.tr k659 (by decide)
              have c674 := k659.gi kM_at0 (by decide) c652
              have c675 := k659.gi kM_at0 (by decide) c653
              have c676 := k659.gi kM_at0 (by decide) c654
              rcases hg672 with ⟨rfl, ⟨x660, c661, rx660, tx660⟩, ⟨x662, c663, rx662, tx662⟩⟩ | ⟨rfl, ⟨x664, c665, rx664, tx664⟩, ⟨x666, c667, rx666, tx666⟩⟩ | ⟨rfl, ⟨x668, c669, rx668, tx668⟩, ⟨x670, c671, rx670, tx670⟩⟩
              · replace hM := hM.call (r' := 0) hv673 (by decide)
                have ex660 : x660.toInt = x12.toInt := by rw [← c675.symm.trans c661]
                refine lv_if_ne (tgt := 124) hx hb dX12_isStreetHere_119 (by decide) (fun c => absurd (by decide) c) (fun _ => ?_)
                replace hM := hM.neg (by decide)
                refine lv_iconst (v := 0) hx hb dX12_isStreetHere_122 (by decide) ?_
                exact tk_zret hC hr rfl hlocks hK ⟨hT, hF, hM.ret (by decide), (Or.inr (Or.inl ⟨rfl, ⟨x12, c675, (show 1 ≤ x12.toInt by first | with_reducible assumption | omega), (show x12.toInt ≤ 400 by first | with_reducible assumption | omega)⟩, ⟨x1, c674, (show 0 ≤ x1.toInt from rx1), (show x1.toInt ≤ 11 by first | with_reducible assumption | omega)⟩, ⟨x662, c663, (show 1 ≤ x662.toInt by first | with_reducible assumption | omega), (show x662.toInt ≤ 3205 by first | with_reducible assumption | omega)⟩⟩))⟩ hw dX12_isStreetHere_123
              · replace hM := hM.call (r' := 0) hv673 (by decide)
                have ex664 : x664.toInt = x12.toInt := by rw [← c675.symm.trans c665]
                refine lv_if_ne (tgt := 124) hx hb dX12_isStreetHere_119 (by decide) (fun c => absurd (by decide) c) (fun _ => ?_)
                replace hM := hM.neg (by decide)
                refine lv_iconst (v := 0) hx hb dX12_isStreetHere_122 (by decide) ?_
                exact tk_zret hC hr rfl hlocks hK ⟨hT, hF, hM.ret (by decide), (Or.inr (Or.inl ⟨rfl, ⟨x12, c675, (show 1 ≤ x12.toInt by first | with_reducible assumption | omega), (show x12.toInt ≤ 400 by first | with_reducible assumption | omega)⟩, ⟨x1, c674, (show 0 ≤ x1.toInt from rx1), (show x1.toInt ≤ 11 by first | with_reducible assumption | omega)⟩, ⟨x666, c667, (show 1 ≤ x666.toInt by first | with_reducible assumption | omega), (show x666.toInt ≤ 3205 by first | with_reducible assumption | omega)⟩⟩))⟩ hw dX12_isStreetHere_123
              · replace hM := hM.call (r' := 1) hv673 (by decide)
                have ex668 : x668.toInt = x12.toInt := by rw [← c675.symm.trans c669]
                refine lv_if_ne (tgt := 124) hx hb dX12_isStreetHere_119 (by decide) (fun _ => ?_) (fun c => absurd c (by decide))
                replace hM := hM.pos (by decide)
                refine lv_aload_n hx hb dX12_isStreetHere_124 rfl (lv_at hl 2 rfl) ?_
                refine tk_getA hC hK hw hT hinX12 kM_at0 (by decide) rfl 11 (by decide) (List.mem_cons_of_mem _ uw_6_19) rfl rfl dX12_isStreetHere_125 ?_
                refine lv_iload_n hx hb dX12_isStreetHere_128 rfl (lv_at hl 1 rfl) ?_
                refine lv_iconst (v := 2) hx hb dX12_isStreetHere_129 (by decide) ?_
                refine lv_iadd hx hb dX12_isStreetHere_130 ?_
                refine lv_topi (fun x677 ex677 => ?_)
                have ezx677 := ex677
                have ex677 : x677.toInt = x434.toInt + (2 : Int) := by rw [ex677]; exact wk_add (show (-2147483648) ≤ x434.toInt + (2 : Int) by omega) (show x434.toInt + (2 : Int) ≤ 2147483647 by omega)
                replace hM := hM.lt ex677.symm
                refine lv_aload_n hx hb dX12_isStreetHere_131 rfl (lv_at hl 2 rfl) ?_
                refine tk_geti hC hK hw hT hinX12 kM_at0 (by decide) rfl 16 (by decide) (List.mem_cons_of_mem _ uw_21_12) rfl rfl dX12_isStreetHere_132 (fun x678 c679 rx678 tx678 => ?_)
                refine wk_top x670 (c679.symm.trans c671) ?_
                replace hM := hM.rd (sI_at c671)
                refine tk_iast hC hK hw hT kM_at6 (by decide) rfl rfl (show 0 ≤ x677.toInt by first | with_reducible assumption | omega) (show x677.toInt < 120 by first | with_reducible assumption | omega) (show 0 ≤ x670.toInt by first | with_reducible assumption | omega) (show x670.toInt ≤ 9 by first | with_reducible assumption | omega) dX12_isStreetHere_135 (fun H locs w680 hw hT k682 c681 => ?_)
                replace hM := hM.wr (sI_up k682 c681)
                have hF := hF.put kM_at6 (inE_of (a := 0) (b := 120) (by decide) (show 0 ≤ x677.toInt.toNat by omega) (show x677.toInt.toNat ≤ 120 by omega)) k682
                have c683 := k682.gi (Or.inl (tk_ne kM_at0 kM_at6 (by decide))) c674
                have c684 := k682.gi (Or.inl (tk_ne kM_at0 kM_at6 (by decide))) c675
                have c685 := k682.gi (Or.inl (tk_ne kM_at0 kM_at6 (by decide))) c676
                have c686 := k682.gi (Or.inl (tk_ne kM_at0 kM_at6 (by decide))) c671
                refine lv_aload_n hx hb dX12_isStreetHere_136 rfl (lv_at hl 2 rfl) ?_
                refine lv_iload_n hx hb dX12_isStreetHere_137 rfl (lv_at hl 1 rfl) ?_
                refine lv_iconst (v := 3) hx hb dX12_isStreetHere_138 (by decide) ?_
                refine lv_iadd hx hb dX12_isStreetHere_139 ?_
                refine lv_topi (fun x687 ex687 => ?_)
                have ezx687 := ex687
                have ex687 : x687.toInt = x434.toInt + (3 : Int) := by rw [ex687]; exact wk_add (show (-2147483648) ≤ x434.toInt + (3 : Int) by omega) (show x434.toInt + (3 : Int) ≤ 2147483647 by omega)
                replace hM := hM.lt ex687.symm
                refine tk_Vi hC hK hw hT hA hE hSR kM_at0 (by decide) rfl (kz_X12_areSignsHere_1 l adK adV dC dI cy ad B hB0 (Int.le_trans hB1 (by decide)) qr s1   x687 (show 3 ≤ x687.toInt by first | with_reducible assumption | omega) (show x687.toInt ≤ 113 by first | with_reducible assumption | omega) w680 H.size hT ) (cwV 1 hC.2.2.2.2 uV_RX12_227 rfl rfl rfl (by decide +kernel) ⟨Nat.le_of_ble_eq_true rfl, Nat.le_of_ble_eq_true rfl⟩) rfl hl.1 rfl (Nat.le_of_ble_eq_true rfl) dX12_isStreetHere_140 (fun r688 w690 H locs hp689 hw => ?_)
                obtain ⟨hT, k691, hv705, hg704⟩ := hp689
                have hF := hF.tr k691 (by decide)
                have c706 := k691.gi kM_at0 (by decide) c683
                have c707 := k691.gi kM_at0 (by decide) c684
                have c708 := k691.gi kM_at0 (by decide) c685
                have c709 := k691.gi kM_at0 (by decide) c686
                rcases hg704 with ⟨rfl, ⟨x692, c693, rx692, tx692⟩, ⟨x694, c695, rx694, tx694⟩, ⟨x696, c697, rx696, tx696⟩⟩ | ⟨rfl, ⟨x698, c699, rx698, tx698⟩, ⟨x700, c701, rx700, tx700⟩⟩ | ⟨rfl, ⟨x702, c703, rx702, tx702⟩⟩
                · replace hM := hM.call (r' := 0) hv705 (by decide)
                  have ex692 : x692.toInt = x12.toInt := by rw [← c707.symm.trans c693]
                  refine lv_if_ne (tgt := 148) hx hb dX12_isStreetHere_143 (by decide) (fun c => absurd (by decide) c) (fun _ => ?_)
                  replace hM := hM.neg (by decide)
                  refine lv_iconst (v := 0) hx hb dX12_isStreetHere_146 (by decide) ?_
                  exact tk_zret hC hr rfl hlocks hK ⟨hT, hF, hM.ret (by decide), (Or.inr (Or.inl ⟨rfl, ⟨x12, c707, (show 1 ≤ x12.toInt by first | with_reducible assumption | omega), (show x12.toInt ≤ 400 by first | with_reducible assumption | omega)⟩, ⟨x1, c706, (show 0 ≤ x1.toInt from rx1), (show x1.toInt ≤ 11 by first | with_reducible assumption | omega)⟩, ⟨x696, c697, (show 1 ≤ x696.toInt by first | with_reducible assumption | omega), (show x696.toInt ≤ 3205 by first | with_reducible assumption | omega)⟩⟩))⟩ hw dX12_isStreetHere_147
                · replace hM := hM.call (r' := 0) hv705 (by decide)
                  have ex698 : x698.toInt = x12.toInt := by rw [← c707.symm.trans c699]
                  refine lv_if_ne (tgt := 148) hx hb dX12_isStreetHere_143 (by decide) (fun c => absurd (by decide) c) (fun _ => ?_)
                  replace hM := hM.neg (by decide)
                  refine lv_iconst (v := 0) hx hb dX12_isStreetHere_146 (by decide) ?_
                  exact tk_zret hC hr rfl hlocks hK ⟨hT, hF, hM.ret (by decide), (Or.inr (Or.inl ⟨rfl, ⟨x12, c707, (show 1 ≤ x12.toInt by first | with_reducible assumption | omega), (show x12.toInt ≤ 400 by first | with_reducible assumption | omega)⟩, ⟨x1, c706, (show 0 ≤ x1.toInt from rx1), (show x1.toInt ≤ 11 by first | with_reducible assumption | omega)⟩, ⟨x700, c701, (show 1 ≤ x700.toInt by first | with_reducible assumption | omega), (show x700.toInt ≤ 3205 by first | with_reducible assumption | omega)⟩⟩))⟩ hw dX12_isStreetHere_147
                · replace hM := hM.call (r' := 1) hv705 (by decide)
                  have ex702 : x702.toInt = x12.toInt := by rw [← c707.symm.trans c703]
                  refine lv_if_ne (tgt := 148) hx hb dX12_isStreetHere_143 (by decide) (fun _ => ?_) (fun c => absurd c (by decide))
                  replace hM := hM.pos (by decide)
                  refine lv_aload_n hx hb dX12_isStreetHere_148 rfl (lv_at hl 2 rfl) ?_
                  refine lv_dup hx hb dX12_isStreetHere_149 rfl ?_
                  refine tk_geti hC hK hw hT hinX12 kM_at0 (by decide) rfl 8 (by decide) (List.mem_cons_of_mem _ uw_19_9) rfl rfl dX12_isStreetHere_150 (fun x710 c711 rx710 tx710 => ?_)
                  refine wk_top x1 (c711.symm.trans c706) ?_
                  replace hM := hM.rd (sI_at c706)
                  refine lv_iconst (v := 1) hx hb dX12_isStreetHere_153 (by decide) ?_
                  refine lv_iadd hx hb dX12_isStreetHere_154 ?_
                  refine lv_topi (fun x712 ex712 => ?_)
                  have ezx712 := ex712
                  have ex712 : x712.toInt = x1.toInt + (1 : Int) := by rw [ex712]; exact wk_add (show (-2147483648) ≤ x1.toInt + (1 : Int) by omega) (show x1.toInt + (1 : Int) ≤ 2147483647 by omega)
                  replace hM := hM.lt ex712.symm
                  refine tk_puti hC hK hw hT hinX12 tyX12_ok nmX12 kM_at0 (by decide) rfl rfl 8 (by decide) (List.mem_cons_of_mem _ uw_19_9) rfl rfl rfl rfl (show 0 ≤ x712.toInt by first | with_reducible assumption | omega) (show x712.toInt ≤ 12 by first | with_reducible assumption | omega) dX12_isStreetHere_155 (fun H locs w713 hw hT k715 c714 => ?_)
                  replace hM := hM.wr (sI_up k715 c714)
                  have hF := hF.put kM_at0 (k := 8) (by decide) k715
                  have c716 := k715.gi (Or.inr (by decide)) c707
                  have c717 := k715.gi (Or.inr (by decide)) c708
                  have c718 := k715.gi (Or.inr (by decide)) c709
                  refine lv_iconst (v := 1) hx hb dX12_isStreetHere_158 (by decide) ?_
                  exact tk_zret hC hr rfl hlocks hK ⟨hT, hF, hM.ret (by decide), (Or.inr (Or.inr (Or.inr ⟨rfl, ⟨x12, c716, (show 1 ≤ x12.toInt by first | with_reducible assumption | omega), (show x12.toInt ≤ 400 by first | with_reducible assumption | omega)⟩, ⟨x435, c717, (show 1 ≤ x435.toInt by first | with_reducible assumption | omega), (show x435.toInt ≤ 10 from tx435)⟩, ⟨x712, c714, (show 1 ≤ x712.toInt by first | with_reducible assumption | omega), (show x712.toInt ≤ 12 by first | with_reducible assumption | omega)⟩, ⟨x670, c718, (show 1 ≤ x670.toInt by first | with_reducible assumption | omega), (show x670.toInt ≤ 9 by first | with_reducible assumption | omega)⟩⟩)))⟩ hw dX12_isStreetHere_159
            · have c645 : x634.toInt = x643.toInt := wk_eq.mp c645
              replace hM := hM.neg (fun q => q c645)
              refine lv_aload_n hx hb dX12_isStreetHere_93 rfl (lv_at hl 2 rfl) ?_
              refine lv_iconst (v := 1) hx hb dX12_isStreetHere_94 (by decide) ?_
              refine lv_iload_n hx hb dX12_isStreetHere_95 rfl (lv_at hl 0 rfl) ?_
              refine tk_Vi hC hK hw hT hA hE hSR kM_at0 (by decide) rfl (kz_X12_fails_1 l adK adV dC dI cy ad B hB0 (Int.le_trans hB1 (by decide)) qr s1   1 (by decide) (by decide) x485 (show 0 ≤ x485.toInt by first | with_reducible assumption | omega) (show x485.toInt ≤ 400 by first | with_reducible assumption | omega) w622 H.size hT ) (cwV 2 hC.2.2.2.2 uV_RX12_115 rfl rfl rfl (by decide +kernel) ⟨Nat.le_of_ble_eq_true rfl, Nat.le_of_ble_eq_true rfl⟩) rfl hl.1 rfl (Nat.le_of_ble_eq_true rfl) dX12_isStreetHere_96 (fun r719 w721 H locs hp720 hw => ?_)
              obtain ⟨hT, k722, hv726, hg725⟩ := hp720
              try simp only [show (1 : Int32).toInt = 1 by decide] at hv726
              have hF := hF.tr k722 (by decide)
              have c727 := k722.gi kM_at0 (by decide) c638
              have c728 := k722.gi kM_at0 (by decide) c639
              have c729 := k722.gi kM_at0 (by decide) c640
              have c730 := k722.gi kM_at0 (by decide) c635
              obtain ⟨rfl, ⟨x723, c724, rx723, tx723⟩⟩ := hg725
              replace hM := hM.call (r' := 0) hv726 (by decide)
              exact tk_zret hC hr rfl hlocks hK ⟨hT, hF, hM.ret (by decide), (Or.inr (Or.inl ⟨rfl, ⟨x12, c728, (show 1 ≤ x12.toInt by first | with_reducible assumption | omega), (show x12.toInt ≤ 400 by first | with_reducible assumption | omega)⟩, ⟨x1, c727, (show 0 ≤ x1.toInt from rx1), (show x1.toInt ≤ 11 by first | with_reducible assumption | omega)⟩, ⟨x723, c724, (show 1 ≤ x723.toInt by first | with_reducible assumption | omega), (show x723.toInt ≤ 3205 by first | with_reducible assumption | omega)⟩⟩))⟩ hw dX12_isStreetHere_99
        · replace hM := hM.call (r' := (-1)) hv492 (by decide)
          have ex488 : x488.toInt = x12.toInt := by rw [← c494.symm.trans c489]
          obtain ⟨x497, c498, rx497, tx497⟩ := hT.rdi (lo := 0) (hi := 400) (k := 14) kM_at0 (by decide) rfl
          have g490 : (x497.toInt = x469.toInt ∨ (gi w462 1 (x469.toInt).toNat).toInt = 32) := by have q := g490; simp only [c470, c498] at q; first | with_reducible exact q | omega
          refine lv_pop hx hb dX12_isStreetHere_58 rfl ?_
          refine lv_aload_n hx hb dX12_isStreetHere_59 rfl (lv_at hl 1 rfl) ?_
          refine tk_geti hC hK hw hT hinX12 kM_at0 (by decide) rfl 14 (by decide) (List.mem_cons_of_mem _ uw_19_18) rfl rfl dX12_isStreetHere_60 (fun x731 c732 rx731 tx731 => ?_)
          refine wk_top x497 (c732.symm.trans c498) ?_
          replace hM := hM.rd (sI_at c498)
          refine lv_istore_n (lv' := [(3, .int x497), (2, .int x434), (0, .ref (ad 0)), (1, .int a1)]) hx hb dX12_isStreetHere_63 rfl hl (by decide) rfl (fun ls hl => ?_)
          refine lv_aload_n hx hb dX12_isStreetHere_64 rfl (lv_at hl 2 rfl) ?_
          refine lv_iconst (v := 0) hx hb dX12_isStreetHere_65 (by decide) ?_
          refine lv_aload_n hx hb dX12_isStreetHere_66 rfl (lv_at hl 2 rfl) ?_
          refine tk_geti hC hK hw hT hinX12 kM_at0 (by decide) rfl 7 (by decide) (List.mem_cons_of_mem _ uw_19_8) rfl rfl dX12_isStreetHere_67 (fun x733 c734 rx733 tx733 => ?_)
          refine wk_top x435 (c734.symm.trans c495) ?_
          replace hM := hM.rd (sI_at c495)
          refine lv_iconst (v := 1) hx hb dX12_isStreetHere_70 (by decide) ?_
          refine lv_isub hx hb dX12_isStreetHere_71 ?_
          refine lv_topi (fun x735 ex735 => ?_)
          have ezx735 := ex735
          have ex735 : x735.toInt = x435.toInt - (1 : Int) := by rw [ex735]; exact wk_sub (show (-2147483648) ≤ x435.toInt - (1 : Int) by omega) (show x435.toInt - (1 : Int) ≤ 2147483647 by omega)
          replace hM := hM.lt ex735.symm
          refine tk_Vi hC hK hw hT hA hE hSR kM_at0 (by decide) rfl (kz_X12_numberHere_6 l adK adV dC dI cy ad B hB0 (Int.le_trans hB1 (by decide)) qr s1   x735 (show 0 ≤ x735.toInt by first | with_reducible assumption | omega) (show x735.toInt ≤ 9 by first | with_reducible assumption | omega) w473 H.size hT ) (cwV 2 hC.2.2.2.2 uV_RX12_167 rfl rfl rfl (by decide +kernel) ⟨Nat.le_of_ble_eq_true rfl, Nat.le_of_ble_eq_true rfl⟩) rfl hl.1 rfl (Nat.le_of_ble_eq_true rfl) dX12_isStreetHere_72 (fun r736 w738 H locs hp737 hw => ?_)
          obtain ⟨hT, k739, hv753, hg752⟩ := hp737
          have hF := hF.tr k739 (by decide)
          have c754 := k739.gi kM_at0 (by decide) c493
          have c755 := k739.gi kM_at0 (by decide) c494
          have c756 := k739.gi kM_at0 (by decide) c495
          rcases hg752 with ⟨rfl, ⟨x740, c741, rx740, tx740⟩, ⟨x742, c743, rx742, tx742⟩⟩ | ⟨rfl, ⟨x744, c745, rx744, tx744⟩, ⟨x746, c747, rx746, tx746⟩⟩ | ⟨rfl, ⟨x748, c749, rx748, tx748⟩, ⟨x750, c751, rx750, tx750⟩⟩
          · replace hM := hM.call (r' := 0) hv753 (by decide)
            have ex740 : x740.toInt = x12.toInt := by rw [← c755.symm.trans c741]
            refine lv_if_ne (tgt := 80) hx hb dX12_isStreetHere_75 (by decide) (fun c => absurd (by decide) c) (fun _ => ?_)
            replace hM := hM.neg (by decide)
            refine lv_iconst (v := 0) hx hb dX12_isStreetHere_78 (by decide) ?_
            exact tk_zret hC hr rfl hlocks hK ⟨hT, hF, hM.ret (by decide), (Or.inr (Or.inl ⟨rfl, ⟨x12, c755, (show 1 ≤ x12.toInt by first | with_reducible assumption | omega), (show x12.toInt ≤ 400 by first | with_reducible assumption | omega)⟩, ⟨x1, c754, (show 0 ≤ x1.toInt from rx1), (show x1.toInt ≤ 11 by first | with_reducible assumption | omega)⟩, ⟨x742, c743, (show 1 ≤ x742.toInt by first | with_reducible assumption | omega), (show x742.toInt ≤ 3205 by first | with_reducible assumption | omega)⟩⟩))⟩ hw dX12_isStreetHere_79
          · replace hM := hM.call (r' := 0) hv753 (by decide)
            have ex744 : x744.toInt = x12.toInt := by rw [← c755.symm.trans c745]
            refine lv_if_ne (tgt := 80) hx hb dX12_isStreetHere_75 (by decide) (fun c => absurd (by decide) c) (fun _ => ?_)
            replace hM := hM.neg (by decide)
            refine lv_iconst (v := 0) hx hb dX12_isStreetHere_78 (by decide) ?_
            exact tk_zret hC hr rfl hlocks hK ⟨hT, hF, hM.ret (by decide), (Or.inr (Or.inl ⟨rfl, ⟨x12, c755, (show 1 ≤ x12.toInt by first | with_reducible assumption | omega), (show x12.toInt ≤ 400 by first | with_reducible assumption | omega)⟩, ⟨x1, c754, (show 0 ≤ x1.toInt from rx1), (show x1.toInt ≤ 11 by first | with_reducible assumption | omega)⟩, ⟨x746, c747, (show 1 ≤ x746.toInt by first | with_reducible assumption | omega), (show x746.toInt ≤ 3205 by first | with_reducible assumption | omega)⟩⟩))⟩ hw dX12_isStreetHere_79
          · replace hM := hM.call (r' := 1) hv753 (by decide)
            have ex748 : x748.toInt = x12.toInt := by rw [← c755.symm.trans c749]
            refine lv_if_ne (tgt := 80) hx hb dX12_isStreetHere_75 (by decide) (fun _ => ?_) (fun c => absurd c (by decide))
            replace hM := hM.pos (by decide)
            refine lv_aload_n hx hb dX12_isStreetHere_80 rfl (lv_at hl 2 rfl) ?_
            refine tk_geti hC hK hw hT hinX12 kM_at0 (by decide) rfl 16 (by decide) (List.mem_cons_of_mem _ uw_21_12) rfl rfl dX12_isStreetHere_81 (fun x757 c758 rx757 tx757 => ?_)
            refine wk_top x750 (c758.symm.trans c751) ?_
            replace hM := hM.rd (sI_at c751)
            refine lv_aload_n hx hb dX12_isStreetHere_84 rfl (lv_at hl 2 rfl) ?_
            refine tk_getA hC hK hw hT hinX12 kM_at0 (by decide) rfl 11 (by decide) (List.mem_cons_of_mem _ uw_6_19) rfl rfl dX12_isStreetHere_85 ?_
            refine lv_iload_n hx hb dX12_isStreetHere_88 rfl (lv_at hl 1 rfl) ?_
            refine tk_iald hC hK hw hT kM_at6 rfl rfl (show 0 ≤ x434.toInt by first | with_reducible assumption | omega) (show x434.toInt < 120 by first | with_reducible assumption | omega) dX12_isStreetHere_89 (fun x759 c760 rx759 tx759 => ?_)
            have hox759 := c760
            replace hM := hM.rd (sI_at hox759)
            refine lv_icmp_ne (tgt := 100) hx hb dX12_isStreetHere_90 (by decide) (fun c761 => ?_) (fun c761 => ?_)
            · have c761 : ¬ x750.toInt = x759.toInt := wk_eqF c761
              replace hM := hM.pos c761
              refine lv_aload_n hx hb dX12_isStreetHere_100 rfl (lv_at hl 2 rfl) ?_
              refine tk_getA hC hK hw hT hinX12 kM_at0 (by decide) rfl 11 (by decide) (List.mem_cons_of_mem _ uw_6_19) rfl rfl dX12_isStreetHere_101 ?_
              refine lv_iload_n hx hb dX12_isStreetHere_104 rfl (lv_at hl 1 rfl) ?_
              refine lv_iconst (v := 1) hx hb dX12_isStreetHere_105 (by decide) ?_
              refine lv_iadd hx hb dX12_isStreetHere_106 ?_
              refine lv_topi (fun x762 ex762 => ?_)
              have ezx762 := ex762
              have ex762 : x762.toInt = x434.toInt + (1 : Int) := by rw [ex762]; exact wk_add (show (-2147483648) ≤ x434.toInt + (1 : Int) by omega) (show x434.toInt + (1 : Int) ≤ 2147483647 by omega)
              replace hM := hM.lt ex762.symm
              refine lv_aload_n hx hb dX12_isStreetHere_107 rfl (lv_at hl 2 rfl) ?_
              refine tk_geti hC hK hw hT hinX12 kM_at0 (by decide) rfl 16 (by decide) (List.mem_cons_of_mem _ uw_21_12) rfl rfl dX12_isStreetHere_108 (fun x763 c764 rx763 tx763 => ?_)
              refine wk_top x750 (c764.symm.trans c751) ?_
              replace hM := hM.rd (sI_at c751)
              refine tk_iast hC hK hw hT kM_at6 (by decide) rfl rfl (show 0 ≤ x762.toInt by first | with_reducible assumption | omega) (show x762.toInt < 120 by first | with_reducible assumption | omega) (show 0 ≤ x750.toInt by first | with_reducible assumption | omega) (show x750.toInt ≤ 9 by first | with_reducible assumption | omega) dX12_isStreetHere_111 (fun H locs w765 hw hT k767 c766 => ?_)
              replace hM := hM.wr (sI_up k767 c766)
              have hF := hF.put kM_at6 (inE_of (a := 0) (b := 120) (by decide) (show 0 ≤ x762.toInt.toNat by omega) (show x762.toInt.toNat ≤ 120 by omega)) k767
              have c768 := k767.gi (Or.inl (tk_ne kM_at0 kM_at6 (by decide))) c754
              have c769 := k767.gi (Or.inl (tk_ne kM_at0 kM_at6 (by decide))) c755
              have c770 := k767.gi (Or.inl (tk_ne kM_at0 kM_at6 (by decide))) c756
              have c771 := k767.gi (Or.inl (tk_ne kM_at0 kM_at6 (by decide))) c751
              refine lv_aload_n hx hb dX12_isStreetHere_112 rfl (lv_at hl 2 rfl) ?_
              refine lv_iconst (v := 1) hx hb dX12_isStreetHere_113 (by decide) ?_
              refine lv_bipush (v := 9) hx hb dX12_isStreetHere_114 (by decide) ?_
              refine tk_Vi hC hK hw hT hA hE hSR kM_at0 (by decide) rfl (kz_X12_numberHere_7 l adK adV dC dI cy ad B hB0 (Int.le_trans hB1 (by decide)) qr s1    w765 H.size hT ) (cwV 2 hC.2.2.2.2 uV_RX12_167 rfl rfl rfl (by decide +kernel) ⟨Nat.le_of_ble_eq_true rfl, Nat.le_of_ble_eq_true rfl⟩) rfl hl.1 rfl (Nat.le_of_ble_eq_true rfl) dX12_isStreetHere_116 (fun r772 w774 H locs hp773 hw => ?_)
              obtain ⟨hT, k775, hv789, hg788⟩ := hp773
              have hF := hF.tr k775 (by decide)
              have c790 := k775.gi kM_at0 (by decide) c768
              have c791 := k775.gi kM_at0 (by decide) c769
              have c792 := k775.gi kM_at0 (by decide) c770
              rcases hg788 with ⟨rfl, ⟨x776, c777, rx776, tx776⟩, ⟨x778, c779, rx778, tx778⟩⟩ | ⟨rfl, ⟨x780, c781, rx780, tx780⟩, ⟨x782, c783, rx782, tx782⟩⟩ | ⟨rfl, ⟨x784, c785, rx784, tx784⟩, ⟨x786, c787, rx786, tx786⟩⟩
              · replace hM := hM.call (r' := 0) hv789 (by decide)
                have ex776 : x776.toInt = x12.toInt := by rw [← c791.symm.trans c777]
                refine lv_if_ne (tgt := 124) hx hb dX12_isStreetHere_119 (by decide) (fun c => absurd (by decide) c) (fun _ => ?_)
                replace hM := hM.neg (by decide)
                refine lv_iconst (v := 0) hx hb dX12_isStreetHere_122 (by decide) ?_
                exact tk_zret hC hr rfl hlocks hK ⟨hT, hF, hM.ret (by decide), (Or.inr (Or.inl ⟨rfl, ⟨x12, c791, (show 1 ≤ x12.toInt by first | with_reducible assumption | omega), (show x12.toInt ≤ 400 by first | with_reducible assumption | omega)⟩, ⟨x1, c790, (show 0 ≤ x1.toInt from rx1), (show x1.toInt ≤ 11 by first | with_reducible assumption | omega)⟩, ⟨x778, c779, (show 1 ≤ x778.toInt by first | with_reducible assumption | omega), (show x778.toInt ≤ 3205 by first | with_reducible assumption | omega)⟩⟩))⟩ hw dX12_isStreetHere_123
              · replace hM := hM.call (r' := 0) hv789 (by decide)
                have ex780 : x780.toInt = x12.toInt := by rw [← c791.symm.trans c781]
                refine lv_if_ne (tgt := 124) hx hb dX12_isStreetHere_119 (by decide) (fun c => absurd (by decide) c) (fun _ => ?_)
                replace hM := hM.neg (by decide)
                refine lv_iconst (v := 0) hx hb dX12_isStreetHere_122 (by decide) ?_
                exact tk_zret hC hr rfl hlocks hK ⟨hT, hF, hM.ret (by decide), (Or.inr (Or.inl ⟨rfl, ⟨x12, c791, (show 1 ≤ x12.toInt by first | with_reducible assumption | omega), (show x12.toInt ≤ 400 by first | with_reducible assumption | omega)⟩, ⟨x1, c790, (show 0 ≤ x1.toInt from rx1), (show x1.toInt ≤ 11 by first | with_reducible assumption | omega)⟩, ⟨x782, c783, (show 1 ≤ x782.toInt by first | with_reducible assumption | omega), (show x782.toInt ≤ 3205 by first | with_reducible assumption | omega)⟩⟩))⟩ hw dX12_isStreetHere_123
              · replace hM := hM.call (r' := 1) hv789 (by decide)
                have ex784 : x784.toInt = x12.toInt := by rw [← c791.symm.trans c785]
                refine lv_if_ne (tgt := 124) hx hb dX12_isStreetHere_119 (by decide) (fun _ => ?_) (fun c => absurd c (by decide))
                replace hM := hM.pos (by decide)
                refine lv_aload_n hx hb dX12_isStreetHere_124 rfl (lv_at hl 2 rfl) ?_
                refine tk_getA hC hK hw hT hinX12 kM_at0 (by decide) rfl 11 (by decide) (List.mem_cons_of_mem _ uw_6_19) rfl rfl dX12_isStreetHere_125 ?_
                refine lv_iload_n hx hb dX12_isStreetHere_128 rfl (lv_at hl 1 rfl) ?_
                refine lv_iconst (v := 2) hx hb dX12_isStreetHere_129 (by decide) ?_
                refine lv_iadd hx hb dX12_isStreetHere_130 ?_
                refine lv_topi (fun x793 ex793 => ?_)
                have ezx793 := ex793
                have ex793 : x793.toInt = x434.toInt + (2 : Int) := by rw [ex793]; exact wk_add (show (-2147483648) ≤ x434.toInt + (2 : Int) by omega) (show x434.toInt + (2 : Int) ≤ 2147483647 by omega)
                replace hM := hM.lt ex793.symm
                refine lv_aload_n hx hb dX12_isStreetHere_131 rfl (lv_at hl 2 rfl) ?_
                refine tk_geti hC hK hw hT hinX12 kM_at0 (by decide) rfl 16 (by decide) (List.mem_cons_of_mem _ uw_21_12) rfl rfl dX12_isStreetHere_132 (fun x794 c795 rx794 tx794 => ?_)
                refine wk_top x786 (c795.symm.trans c787) ?_
                replace hM := hM.rd (sI_at c787)
                refine tk_iast hC hK hw hT kM_at6 (by decide) rfl rfl (show 0 ≤ x793.toInt by first | with_reducible assumption | omega) (show x793.toInt < 120 by first | with_reducible assumption | omega) (show 0 ≤ x786.toInt by first | with_reducible assumption | omega) (show x786.toInt ≤ 9 by first | with_reducible assumption | omega) dX12_isStreetHere_135 (fun H locs w796 hw hT k798 c797 => ?_)
                replace hM := hM.wr (sI_up k798 c797)
                have hF := hF.put kM_at6 (inE_of (a := 0) (b := 120) (by decide) (show 0 ≤ x793.toInt.toNat by omega) (show x793.toInt.toNat ≤ 120 by omega)) k798
                have c799 := k798.gi (Or.inl (tk_ne kM_at0 kM_at6 (by decide))) c790
                have c800 := k798.gi (Or.inl (tk_ne kM_at0 kM_at6 (by decide))) c791
                have c801 := k798.gi (Or.inl (tk_ne kM_at0 kM_at6 (by decide))) c792
                have c802 := k798.gi (Or.inl (tk_ne kM_at0 kM_at6 (by decide))) c787
                refine lv_aload_n hx hb dX12_isStreetHere_136 rfl (lv_at hl 2 rfl) ?_
                refine lv_iload_n hx hb dX12_isStreetHere_137 rfl (lv_at hl 1 rfl) ?_
                refine lv_iconst (v := 3) hx hb dX12_isStreetHere_138 (by decide) ?_
                refine lv_iadd hx hb dX12_isStreetHere_139 ?_
                refine lv_topi (fun x803 ex803 => ?_)
                have ezx803 := ex803
                have ex803 : x803.toInt = x434.toInt + (3 : Int) := by rw [ex803]; exact wk_add (show (-2147483648) ≤ x434.toInt + (3 : Int) by omega) (show x434.toInt + (3 : Int) ≤ 2147483647 by omega)
                replace hM := hM.lt ex803.symm
                refine tk_Vi hC hK hw hT hA hE hSR kM_at0 (by decide) rfl (kz_X12_areSignsHere_1 l adK adV dC dI cy ad B hB0 (Int.le_trans hB1 (by decide)) qr s1   x803 (show 3 ≤ x803.toInt by first | with_reducible assumption | omega) (show x803.toInt ≤ 113 by first | with_reducible assumption | omega) w796 H.size hT ) (cwV 1 hC.2.2.2.2 uV_RX12_227 rfl rfl rfl (by decide +kernel) ⟨Nat.le_of_ble_eq_true rfl, Nat.le_of_ble_eq_true rfl⟩) rfl hl.1 rfl (Nat.le_of_ble_eq_true rfl) dX12_isStreetHere_140 (fun r804 w806 H locs hp805 hw => ?_)
                obtain ⟨hT, k807, hv821, hg820⟩ := hp805
                have hF := hF.tr k807 (by decide)
                have c822 := k807.gi kM_at0 (by decide) c799
                have c823 := k807.gi kM_at0 (by decide) c800
                have c824 := k807.gi kM_at0 (by decide) c801
                have c825 := k807.gi kM_at0 (by decide) c802
                rcases hg820 with ⟨rfl, ⟨x808, c809, rx808, tx808⟩, ⟨x810, c811, rx810, tx810⟩, ⟨x812, c813, rx812, tx812⟩⟩ | ⟨rfl, ⟨x814, c815, rx814, tx814⟩, ⟨x816, c817, rx816, tx816⟩⟩ | ⟨rfl, ⟨x818, c819, rx818, tx818⟩⟩
                · replace hM := hM.call (r' := 0) hv821 (by decide)
                  have ex808 : x808.toInt = x12.toInt := by rw [← c823.symm.trans c809]
                  refine lv_if_ne (tgt := 148) hx hb dX12_isStreetHere_143 (by decide) (fun c => absurd (by decide) c) (fun _ => ?_)
                  replace hM := hM.neg (by decide)
                  refine lv_iconst (v := 0) hx hb dX12_isStreetHere_146 (by decide) ?_
                  exact tk_zret hC hr rfl hlocks hK ⟨hT, hF, hM.ret (by decide), (Or.inr (Or.inl ⟨rfl, ⟨x12, c823, (show 1 ≤ x12.toInt by first | with_reducible assumption | omega), (show x12.toInt ≤ 400 by first | with_reducible assumption | omega)⟩, ⟨x1, c822, (show 0 ≤ x1.toInt from rx1), (show x1.toInt ≤ 11 by first | with_reducible assumption | omega)⟩, ⟨x812, c813, (show 1 ≤ x812.toInt by first | with_reducible assumption | omega), (show x812.toInt ≤ 3205 by first | with_reducible assumption | omega)⟩⟩))⟩ hw dX12_isStreetHere_147
                · replace hM := hM.call (r' := 0) hv821 (by decide)
                  have ex814 : x814.toInt = x12.toInt := by rw [← c823.symm.trans c815]
                  refine lv_if_ne (tgt := 148) hx hb dX12_isStreetHere_143 (by decide) (fun c => absurd (by decide) c) (fun _ => ?_)
                  replace hM := hM.neg (by decide)
                  refine lv_iconst (v := 0) hx hb dX12_isStreetHere_146 (by decide) ?_
                  exact tk_zret hC hr rfl hlocks hK ⟨hT, hF, hM.ret (by decide), (Or.inr (Or.inl ⟨rfl, ⟨x12, c823, (show 1 ≤ x12.toInt by first | with_reducible assumption | omega), (show x12.toInt ≤ 400 by first | with_reducible assumption | omega)⟩, ⟨x1, c822, (show 0 ≤ x1.toInt from rx1), (show x1.toInt ≤ 11 by first | with_reducible assumption | omega)⟩, ⟨x816, c817, (show 1 ≤ x816.toInt by first | with_reducible assumption | omega), (show x816.toInt ≤ 3205 by first | with_reducible assumption | omega)⟩⟩))⟩ hw dX12_isStreetHere_147
                · replace hM := hM.call (r' := 1) hv821 (by decide)
                  have ex818 : x818.toInt = x12.toInt := by rw [← c823.symm.trans c819]
                  refine lv_if_ne (tgt := 148) hx hb dX12_isStreetHere_143 (by decide) (fun _ => ?_) (fun c => absurd c (by decide))
                  replace hM := hM.pos (by decide)
                  refine lv_aload_n hx hb dX12_isStreetHere_148 rfl (lv_at hl 2 rfl) ?_
                  refine lv_dup hx hb dX12_isStreetHere_149 rfl ?_
                  refine tk_geti hC hK hw hT hinX12 kM_at0 (by decide) rfl 8 (by decide) (List.mem_cons_of_mem _ uw_19_9) rfl rfl dX12_isStreetHere_150 (fun x826 c827 rx826 tx826 => ?_)
                  refine wk_top x1 (c827.symm.trans c822) ?_
                  replace hM := hM.rd (sI_at c822)
                  refine lv_iconst (v := 1) hx hb dX12_isStreetHere_153 (by decide) ?_
                  refine lv_iadd hx hb dX12_isStreetHere_154 ?_
                  refine lv_topi (fun x828 ex828 => ?_)
                  have ezx828 := ex828
                  have ex828 : x828.toInt = x1.toInt + (1 : Int) := by rw [ex828]; exact wk_add (show (-2147483648) ≤ x1.toInt + (1 : Int) by omega) (show x1.toInt + (1 : Int) ≤ 2147483647 by omega)
                  replace hM := hM.lt ex828.symm
                  refine tk_puti hC hK hw hT hinX12 tyX12_ok nmX12 kM_at0 (by decide) rfl rfl 8 (by decide) (List.mem_cons_of_mem _ uw_19_9) rfl rfl rfl rfl (show 0 ≤ x828.toInt by first | with_reducible assumption | omega) (show x828.toInt ≤ 12 by first | with_reducible assumption | omega) dX12_isStreetHere_155 (fun H locs w829 hw hT k831 c830 => ?_)
                  replace hM := hM.wr (sI_up k831 c830)
                  have hF := hF.put kM_at0 (k := 8) (by decide) k831
                  have c832 := k831.gi (Or.inr (by decide)) c823
                  have c833 := k831.gi (Or.inr (by decide)) c824
                  have c834 := k831.gi (Or.inr (by decide)) c825
                  refine lv_iconst (v := 1) hx hb dX12_isStreetHere_158 (by decide) ?_
                  exact tk_zret hC hr rfl hlocks hK ⟨hT, hF, hM.ret (by decide), (Or.inr (Or.inr (Or.inr ⟨rfl, ⟨x12, c832, (show 1 ≤ x12.toInt by first | with_reducible assumption | omega), (show x12.toInt ≤ 400 by first | with_reducible assumption | omega)⟩, ⟨x435, c833, (show 1 ≤ x435.toInt by first | with_reducible assumption | omega), (show x435.toInt ≤ 10 from tx435)⟩, ⟨x828, c830, (show 1 ≤ x828.toInt by first | with_reducible assumption | omega), (show x828.toInt ≤ 12 by first | with_reducible assumption | omega)⟩, ⟨x786, c834, (show 1 ≤ x786.toInt by first | with_reducible assumption | omega), (show x786.toInt ≤ 9 by first | with_reducible assumption | omega)⟩⟩)))⟩ hw dX12_isStreetHere_159
            · have c761 : x750.toInt = x759.toInt := wk_eq.mp c761
              replace hM := hM.neg (fun q => q c761)
              refine lv_aload_n hx hb dX12_isStreetHere_93 rfl (lv_at hl 2 rfl) ?_
              refine lv_iconst (v := 1) hx hb dX12_isStreetHere_94 (by decide) ?_
              refine lv_iload_n hx hb dX12_isStreetHere_95 rfl (lv_at hl 0 rfl) ?_
              refine tk_Vi hC hK hw hT hA hE hSR kM_at0 (by decide) rfl (kz_X12_fails_1 l adK adV dC dI cy ad B hB0 (Int.le_trans hB1 (by decide)) qr s1   1 (by decide) (by decide) x497 (show 0 ≤ x497.toInt by first | with_reducible assumption | omega) (show x497.toInt ≤ 400 by first | with_reducible assumption | omega) w738 H.size hT ) (cwV 2 hC.2.2.2.2 uV_RX12_115 rfl rfl rfl (by decide +kernel) ⟨Nat.le_of_ble_eq_true rfl, Nat.le_of_ble_eq_true rfl⟩) rfl hl.1 rfl (Nat.le_of_ble_eq_true rfl) dX12_isStreetHere_96 (fun r835 w837 H locs hp836 hw => ?_)
              obtain ⟨hT, k838, hv842, hg841⟩ := hp836
              try simp only [show (1 : Int32).toInt = 1 by decide] at hv842
              have hF := hF.tr k838 (by decide)
              have c843 := k838.gi kM_at0 (by decide) c754
              have c844 := k838.gi kM_at0 (by decide) c755
              have c845 := k838.gi kM_at0 (by decide) c756
              have c846 := k838.gi kM_at0 (by decide) c751
              obtain ⟨rfl, ⟨x839, c840, rx839, tx839⟩⟩ := hg841
              replace hM := hM.call (r' := 0) hv842 (by decide)
              exact tk_zret hC hr rfl hlocks hK ⟨hT, hF, hM.ret (by decide), (Or.inr (Or.inl ⟨rfl, ⟨x12, c844, (show 1 ≤ x12.toInt by first | with_reducible assumption | omega), (show x12.toInt ≤ 400 by first | with_reducible assumption | omega)⟩, ⟨x1, c843, (show 0 ≤ x1.toInt from rx1), (show x1.toInt ≤ 11 by first | with_reducible assumption | omega)⟩, ⟨x839, c840, (show 1 ≤ x839.toInt by first | with_reducible assumption | omega), (show x839.toInt ≤ 3205 by first | with_reducible assumption | omega)⟩⟩))⟩ hw dX12_isStreetHere_99
  · have c3 : x1.toInt = (12 : Int) := wk_eq.mp c3
    replace hM := hM.neg (fun q => q c3)
    refine lv_aload_n hx hb dX12_isStreetHere_9 rfl (lv_at hl 0 rfl) ?_
    refine lv_iconst (v := 4) hx hb dX12_isStreetHere_10 (by decide) ?_
    refine lv_iload_n hx hb dX12_isStreetHere_11 rfl (lv_at hl 1 rfl) ?_
    refine tk_Vi hC hK hw hT hA hE hSR kM_at0 (by decide) rfl (kz_X12_fails_1 l adK adV dC dI cy ad B hB0 (Int.le_trans hB1 (by decide)) qr s1   4 (by decide) (by decide) a1 (show 0 ≤ a1.toInt from ra1) (show a1.toInt ≤ 400 from ta1) w0 s.heap.size hT ) (cwV 2 hC.2.2.2.2 uV_RX12_115 rfl rfl rfl (by decide +kernel) ⟨Nat.le_of_ble_eq_true rfl, Nat.le_of_ble_eq_true rfl⟩) rfl hl.1 rfl (Nat.le_of_ble_eq_true rfl) dX12_isStreetHere_12 (fun r847 w849 H locs hp848 hw => ?_)
    obtain ⟨hT, k850, hv854, hg853⟩ := hp848
    try simp only [show (4 : Int32).toInt = 4 by decide] at hv854
    have hF := hF.tr k850 (by decide)
    have c855 := k850.gi kM_at0 (by decide) c2
    obtain ⟨rfl, ⟨x851, c852, rx851, tx851⟩⟩ := hg853
    replace hM := hM.call (r' := 0) hv854 (by decide)
    exact tk_zret hC hr rfl hlocks hK ⟨hT, hF, hM.ret (by decide), (Or.inl ⟨rfl, ⟨x1, c855, (show 12 ≤ x1.toInt by first | with_reducible assumption | omega), (show x1.toInt ≤ 12 from tx1)⟩, ⟨x851, c852, (show 1 ≤ x851.toInt by first | with_reducible assumption | omega), (show x851.toInt ≤ 3205 by first | with_reducible assumption | omega)⟩⟩)⟩ hw dX12_isStreetHere_15
