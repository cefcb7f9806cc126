abbrev Pz_X7_signOn_1 (ad : Nat → Nat) (cy : Nat → ClassId) (B : Int) (qr : Nat) (s1 : Int) (a1 : Int32) (a2 : Int32) (w0 : va_W) : Int32 → va_W → Prop := fun r u => TW ksC ad cy B qr s1 u ∧ FE ksC ([] : List (Nat × Nat × Nat)) w0 u ∧ Ev (fun n => m_X7_signOn n 39 a1.toInt a2.toInt (sI w0)) (r.toInt, sI u) ∧ ((0 ≤ r.toInt ∧ r.toInt ≤ 3))
set_option maxHeartbeats 4000000 in
set_option maxRecDepth 100000 in
theorem kz_X7_signOn_1 (l : Launch) (adK adV : Nat → Nat) (dC : Nat → ClassId) (dI : Nat → Nat → Nat) (cy : Nat → ClassId) (ad : Nat → Nat) (B : Int) (hB0 : 2147483648 ≤ B) (hB1 : B ≤ 1152921504606846976) (qr : Nat) (s1 : Int)  (a1 : Int32) (ra1 : 0 ≤ a1.toInt) (ta1 : a1.toInt ≤ 11) (a2 : Int32) (ra2 : 0 ≤ a2.toInt) (ta2 : a2.toInt ≤ 6) (w0 : va_W) (sz : Nat) (hT : TW ksC ad cy B qr s1 w0)  : Met l yX7_signOn (wu yX7_signOn cX7_signOn 3 (some .int)) ({ frames := 1, cells := 0, slots := 0, locals := 12 }) (va_Pc [.ref (ad 39), .int a1, .int a2] (wpreS adK adV dC dI cy sz w0)) (va_Qi (Pz_X7_signOn_1 ad cy B qr s1 a1 a2 w0) (fun u : va_W => wpost dC dI cy (va_A w0 sz) u) (va_A w0 sz)) 0 0 (va_A w0 sz) := by
  refine Met.ofW (cc := cX7_signOn) (maxL := 3) (ret := (some .int)) (by decide) rfl ?_
  intro p e s m args below meth c s₁ Bk hml hv
  obtain ⟨rfl, ⟨hsz, hP, hK, hD0⟩, hE, hSR⟩ := hv
  have hx := Bk.exec
  have hb := Bk.bytes
  have hr := Bk.returns
  have hlocks := Bk.notSynchronized
  have hC : CallFix p m c cX7_signOn 3 s _ (wu yX7_signOn cX7_signOn 3 (some .int)) RX7 := ⟨hx, hb, hml, findClass_of_methodNamed Bk.named, atoms_spec (ws := (wu yX7_signOn cX7_signOn 3 (some .int))) Bk.pre⟩
  subst hsz
  have hD := hD0.self (sz := s.heap.size)
  generalize hAe : va_A w0 s.heap.size = A at hD hE ⊢
  have hA : ∀ q : Nat, s.heap.size ≤ q → A q := fun q h => by rw [← hAe]; exact Or.inr h
  have hw : Wd dC dI A s.heap s.heap [] w0 := ⟨hP, hD, va_S.rf⟩
  have hF : FE ksC ([] : List (Nat × Nat × Nat)) w0 w0 := FE.rf
  have hl := lv_entry ([.ref (ad 39), .int a1, .int a2]) (n := 3) (Nat.le_of_ble_eq_true rfl)
  rw [lg_entry_eq]
  generalize (lg_sl ([.ref (ad 39), .int a1, .int a2]) ++ List.replicate (3 - (lg_sl ([.ref (ad 39), .int a1, .int a2])).length) Slot.unset).toArray = ls at hl ⊢
  have hl : lv_has ls 3 [(0, .ref (ad 39)), (1, .int a1), (2, .int a2)] := hl
  generalize hloc : ([] : List Loc) = locs at hw ⊢
  have hinX7 : ∀ w ∈ u_ws RX7 TX7 12, w ∈ (wu yX7_signOn cX7_signOn 3 (some .int)) := fun _ h => List.mem_cons_of_mem _ (up_73 h)
  have hM : TT (fun n => m_X7_signOn n 39 a1.toInt a2.toInt (sI w0)) (fun n => m_X7_signOn n 39 a1.toInt a2.toInt (sI w0)) := TT.rf
  refine lv_aload_n hx hb dX7_signOn_0 rfl (lv_at hl 0 rfl) ?_
  refine tk_getO hC hK hw hT hinX7 kC_at39 (by decide) rfl 2 (by decide) (List.mem_cons_of_mem _ uw_2_19) rfl rfl dX7_signOn_1 ?_
  refine lv_bipush (v := 7) hx hb dX7_signOn_4 (by decide) ?_
  refine lv_iload_n hx hb dX7_signOn_6 rfl (lv_at hl 1 rfl) ?_
  refine lv_imul hx hb dX7_signOn_7 ?_
  refine lv_topi (fun x1 ex1 => ?_)
  have ezx1 := ex1
  have ex1 : x1.toInt = (7 : Int) * a1.toInt := by rw [ex1]; exact wk_mul (show (-2147483648) ≤ (7 : Int) * a1.toInt by omega) (show (7 : Int) * a1.toInt ≤ 2147483647 by omega)
  replace hM := hM.lt ex1.symm
  refine lv_iload_n hx hb dX7_signOn_8 rfl (lv_at hl 2 rfl) ?_
  refine lv_iadd hx hb dX7_signOn_9 ?_
  refine lv_topi (fun x2 ex2 => ?_)
  have ezx2 := ex2
  have ex2 : x2.toInt = x1.toInt + a2.toInt := by rw [ex2]; exact wk_add (show (-2147483648) ≤ x1.toInt + a2.toInt by omega) (show x1.toInt + a2.toInt ≤ 2147483647 by omega)
  replace hM := hM.lt ex2.symm
  refine tk_iald hC hK hw hT kC_at42 rfl rfl (show 0 ≤ x2.toInt by first | with_reducible assumption | omega) (show x2.toInt < 91 by first | with_reducible assumption | omega) dX7_signOn_10 (fun x3 c4 rx3 tx3 => ?_)
  have hox3 := c4
  replace hM := hM.rd (sI_at hox3)
  exact tk_iret hC hr hlocks hK ⟨hT, hF, hM.ret rfl, ⟨(show 0 ≤ x3.toInt from rx3), (show x3.toInt ≤ 3 from tx3)⟩⟩ hw dX7_signOn_11
abbrev Pz_X11_street_1 (ad : Nat → Nat) (cy : Nat → ClassId) (B : Int) (qr : Nat) (s1 : Int) (a1 : Int32) (a2 : Int32) (w0 : va_W) : Int32 → va_W → Prop := fun r u => TW ksC ad cy B qr s1 u ∧ FE ksC ([] : List (Nat × Nat × Nat)) w0 u ∧ Ev (fun n => m_X11_street n 0 a1.toInt a2.toInt (sI w0)) (r.toInt, sI u) ∧ ((0 ≤ r.toInt ∧ r.toInt ≤ 9 ∧ 0 ≤ a1.toInt ∧ a1.toInt ≤ 11 ∧ 0 ≤ a2.toInt ∧ a2.toInt ≤ 9 ∧ (∃ y : Int32, gi u 39 9 = y ∧ 1 ≤ y.toInt ∧ y.toInt ≤ 12)) ∨ (r = (-1)))
set_option maxHeartbeats 4000000 in
set_option maxRecDepth 100000 in
theorem kz_X11_street_1 (l : Launch) (adK adV : Nat → Nat) (dC : Nat → ClassId) (dI : Nat → Nat → Nat) (cy : Nat → ClassId) (ad : Nat → Nat) (B : Int) (hB0 : 2147483648 ≤ B) (hB1 : B ≤ 1152921504606846976) (qr : Nat) (s1 : Int)  (a1 : Int32) (a2 : Int32) (w0 : va_W) (sz : Nat) (hT : TW ksC ad cy B qr s1 w0)  : Met l yX11_street (wu yX11_street cX11_street 4 (some .int)) ({ frames := 2, cells := 0, slots := 0, locals := 34 }) (va_Pc [.ref (ad 0), .int a1, .int a2] (wpreS adK adV dC dI cy sz w0)) (va_Qi (Pz_X11_street_1 ad cy B qr s1 a1 a2 w0) (fun u : va_W => wpost dC dI cy (va_A w0 sz) u) (va_A w0 sz)) 0 0 (va_A w0 sz) := by
  refine Met.ofW (cc := cX11_street) (maxL := 4) (ret := (some .int)) (by decide) rfl ?_
  intro p e s m args below meth c s₁ Bk hml hv
  obtain ⟨rfl, ⟨hsz, hP, hK, hD0⟩, hE, hSR⟩ := hv
  have hx := Bk.exec
  have hb := Bk.bytes
  have hr := Bk.returns
  have hlocks := Bk.notSynchronized
  have hC : CallFix p m c cX11_street 4 s _ (wu yX11_street cX11_street 4 (some .int)) RX11 := ⟨hx, hb, hml, findClass_of_methodNamed Bk.named, atoms_spec (ws := (wu yX11_street cX11_street 4 (some .int))) Bk.pre⟩
  subst hsz
  have hD := hD0.self (sz := s.heap.size)
  generalize hAe : va_A w0 s.heap.size = A at hD hE ⊢
  have hA : ∀ q : Nat, s.heap.size ≤ q → A q := fun q h => by rw [← hAe]; exact Or.inr h
  have hw : Wd dC dI A s.heap s.heap [] w0 := ⟨hP, hD, va_S.rf⟩
  have hF : FE ksC ([] : List (Nat × Nat × Nat)) w0 w0 := FE.rf
  have hl := lv_entry ([.ref (ad 0), .int a1, .int a2]) (n := 4) (Nat.le_of_ble_eq_true rfl)
  rw [lg_entry_eq]
  generalize (lg_sl ([.ref (ad 0), .int a1, .int a2]) ++ List.replicate (4 - (lg_sl ([.ref (ad 0), .int a1, .int a2])).length) Slot.unset).toArray = ls at hl ⊢
  have hl : lv_has ls 4 [(0, .ref (ad 0)), (1, .int a1), (2, .int a2)] := hl
  generalize hloc : ([] : List Loc) = locs at hw ⊢
  have hinX11 : ∀ w ∈ u_ws RX11 TX11 13, w ∈ (wu yX11_street cX11_street 4 (some .int)) := fun _ h => List.mem_cons_of_mem _ (up_70 h)
  have hinX5 : ∀ w ∈ u_ws RX5 TX5 14, w ∈ (wu yX11_street cX11_street 4 (some .int)) := fun _ h => List.mem_cons_of_mem _ (up_76 h)
  have hinX7 : ∀ w ∈ u_ws RX7 TX7 12, w ∈ (wu yX11_street cX11_street 4 (some .int)) := fun _ h => List.mem_cons_of_mem _ (up_73 h)
  have J26 : ∀ (H : Heap) (locs : List Loc) (ls : Array Slot) (w1 : va_W), Wd dC dI A s.heap H locs w1 → TW ksC ad cy B qr s1 w1 → FE ksC ([] : List (Nat × Nat × Nat)) w0 w1 → TT (fun n => m_X11_street n 0 a1.toInt a2.toInt (sI w0)) (fun n => b_X11_street_26 n 0 (sI w1)) → lv_has ls 4 [(0, .ref (ad 0)), (1, .int a1), (2, .int a2), (3, .ref (ad 39))] → W p l e ({ frames := 2, cells := 0, slots := 0, locals := 34 }) s m (List.toArray [.ref (ad 0), .int a1, .int a2]) below meth c H locs 0 0 (MQ below (va_Qi (Pz_X11_street_1 ad cy B qr s1 a1 a2 w0) (fun u : va_W => wpost dC dI cy A u) A) (List.toArray [.ref (ad 0), .int a1, .int a2]) s 0 0 A) (F0 m 26 ls []) := by
    intro H locs ls w1 hw hT hF hM hl
    refine lv_iconst (v := (-1)) hx hb dX11_street_26 (by decide) ?_
    exact tk_iret hC hr hlocks hK ⟨hT, hF, hM.ret (by decide), (Or.inr rfl)⟩ hw dX11_street_27
  have hM : TT (fun n => m_X11_street n 0 a1.toInt a2.toInt (sI w0)) (fun n => m_X11_street n 0 a1.toInt a2.toInt (sI w0)) := TT.rf
  refine lv_aload_n hx hb dX11_street_0 rfl (lv_at hl 0 rfl) ?_
  refine tk_getA hC hK hw hT hinX11 kC_at0 (by decide) rfl 4 (by decide) (List.mem_cons_of_mem _ uw_1_7) rfl rfl dX11_street_1 ?_
  refine tk_getO hC hK hw hT hinX5 kC_at38 (by decide) rfl 0 (by decide) (List.mem_cons_of_mem _ uw_9_1) rfl rfl dX11_street_4 ?_
  refine lv_astore_n (lv' := [(3, .ref (ad 39)), (0, .ref (ad 0)), (1, .int a1), (2, .int a2)]) hx hb dX11_street_7 rfl hl (by decide) rfl (fun ls hl => ?_)
  refine lv_aload_n hx hb dX11_street_8 rfl (lv_at hl 0 rfl) ?_
  refine lv_iload_n hx hb dX11_street_9 rfl (lv_at hl 2 rfl) ?_
  refine tk_Vi hC hK hw hT hA hE hSR kC_at39 (by decide) rfl (kz_X7_hasStreet_1 l adK adV dC dI cy ad B hB0 (Int.le_trans hB1 (by decide)) qr s1   a1 w0 s.heap.size hT ) (cwV 1 hC.2.2.2.2 uV_RX11_133 rfl rfl rfl (by decide +kernel) ⟨Nat.le_of_ble_eq_true rfl, Nat.le_of_ble_eq_true rfl⟩) rfl hl.1 rfl (Nat.le_of_ble_eq_true rfl) dX11_street_10 (fun r2 w4 H locs hp3 hw => ?_)
  obtain ⟨hT, k5, hv11, hg10⟩ := hp3
  have hF := hF.tr k5 (by decide)
  rcases hg10 with rfl | ⟨rfl, g6, g7, ⟨x8, c9, rx8, tx8⟩⟩
  · replace hM := hM.call (r' := 0) hv11 (by decide)
    refine lv_if_eq (tgt := 26) hx hb dX11_street_13 (by decide) (fun _ => ?_) (fun c => absurd (by decide) c)
    replace hM := hM.pos (by decide)
    exact J26  H locs ls w4   hw hT hF hM (lv_sub hl [1, 2, 3, 0] rfl)
  · replace hM := hM.call (r' := 1) hv11 (by decide)
    refine lv_if_eq (tgt := 26) hx hb dX11_street_13 (by decide) (fun c => absurd c (by decide)) (fun _ => ?_)
    replace hM := hM.neg (by decide)
    refine lv_iload_n hx hb dX11_street_16 rfl (lv_at hl 3 rfl) ?_
    refine lv_if_lt (tgt := 26) hx hb dX11_street_17 (by decide) (fun c12 => ?_) (fun c12 => ?_)
    · have c12 : a2.toInt < (0 : Int) := wk_lt.mp c12
      replace hM := hM.pos c12
      exact J26  H locs ls w4   hw hT hF hM (lv_sub hl [1, 2, 3, 0] rfl)
    · have c12 : (0 : Int) ≤ a2.toInt := wk_ltF c12
      replace hM := hM.neg (Int.not_lt.mpr c12)
      refine lv_iload_n hx hb dX11_street_20 rfl (lv_at hl 3 rfl) ?_
      refine lv_bipush (v := 9) hx hb dX11_street_21 (by decide) ?_
      refine lv_icmp_le (tgt := 28) hx hb dX11_street_23 (by decide) (fun c13 => ?_) (fun c13 => ?_)
      · have c13 : a2.toInt ≤ (9 : Int) := wk_le.mp c13
        replace hM := hM.pos c13
        refine lv_iload_n hx hb dX11_street_28 rfl (lv_at hl 3 rfl) ?_
        refine lv_iconst (v := 2) hx hb dX11_street_29 (by decide) ?_
        refine lv_icmp_ge (tgt := 44) hx hb dX11_street_30 (by decide) (fun c14 => ?_) (fun c14 => ?_)
        · have c14 : (2 : Int) ≤ a2.toInt := wk_le.mp c14
          replace hM := hM.pos c14
          refine lv_iload_n hx hb dX11_street_44 rfl (lv_at hl 3 rfl) ?_
          refine lv_iconst (v := 2) hx hb dX11_street_45 (by decide) ?_
          refine lv_icmp_ne (tgt := 58) hx hb dX11_street_46 (by decide) (fun c15 => ?_) (fun c15 => ?_)
          · have c15 : ¬ a2.toInt = (2 : Int) := wk_eqF c15
            replace hM := hM.pos c15
            refine lv_aload_n hx hb dX11_street_58 rfl (lv_at hl 0 rfl) ?_
            refine lv_iload_n hx hb dX11_street_59 rfl (lv_at hl 2 rfl) ?_
            refine lv_iload_n hx hb dX11_street_60 rfl (lv_at hl 3 rfl) ?_
            refine lv_iconst (v := 3) hx hb dX11_street_61 (by decide) ?_
            refine lv_isub hx hb dX11_street_62 ?_
            refine lv_topi (fun x16 ex16 => ?_)
            have ezx16 := ex16
            have ex16 : x16.toInt = a2.toInt - (3 : Int) := by rw [ex16]; exact wk_sub (show (-2147483648) ≤ a2.toInt - (3 : Int) by omega) (show a2.toInt - (3 : Int) ≤ 2147483647 by omega)
            replace hM := hM.lt ex16.symm
            refine tk_Vi hC hK hw hT hA hE hSR kC_at39 (by decide) rfl (kz_X7_signOn_1 l adK adV dC dI cy ad B hB0 (Int.le_trans hB1 (by decide)) qr s1   a1 (show 0 ≤ a1.toInt by first | with_reducible assumption | omega) (show a1.toInt ≤ 11 by first | with_reducible assumption | omega) x16 (show 0 ≤ x16.toInt by first | with_reducible assumption | omega) (show x16.toInt ≤ 6 by first | with_reducible assumption | omega) w4 H.size hT ) (cwV 2 hC.2.2.2.2 uV_RX11_144 rfl rfl rfl (by decide +kernel) ⟨Nat.le_of_ble_eq_true rfl, Nat.le_of_ble_eq_true rfl⟩) rfl hl.1 rfl (Nat.le_of_ble_eq_true rfl) dX11_street_63 (fun r17 w19 H locs hp18 hw => ?_)
            obtain ⟨hT, k20, hv24, hg23⟩ := hp18
            have hF := hF.tr k20 (by decide)
            have c25 := k20.gi kC_at39 (by decide) c9
            obtain ⟨g21, g22⟩ := hg23
            replace hM := hM.call hv24 rfl
            exact tk_iret hC hr hlocks hK ⟨hT, hF, hM.ret rfl, (Or.inl ⟨(show 0 ≤ r17.toInt by first | with_reducible assumption | omega), (show r17.toInt ≤ 9 by first | with_reducible assumption | omega), (show 0 ≤ a1.toInt by first | with_reducible assumption | omega), (show a1.toInt ≤ 11 by first | with_reducible assumption | omega), (show 0 ≤ a2.toInt by first | with_reducible assumption | omega), (show a2.toInt ≤ 9 by first | with_reducible assumption | omega), ⟨x8, c25, (show 1 ≤ x8.toInt by first | with_reducible assumption | omega), (show x8.toInt ≤ 12 by first | with_reducible assumption | omega)⟩⟩)⟩ hw dX11_street_66
          · have c15 : a2.toInt = (2 : Int) := wk_eq.mp c15
            replace hM := hM.neg (fun q => q c15)
            refine lv_aload_n hx hb dX11_street_49 rfl (lv_at hl 0 rfl) ?_
            refine tk_getO hC hK hw hT hinX7 kC_at39 (by decide) rfl 1 (by decide) (List.mem_cons_of_mem _ uw_30_3) rfl rfl dX11_street_50 ?_
            refine lv_iload_n hx hb dX11_street_53 rfl (lv_at hl 2 rfl) ?_
            refine tk_iald hC hK hw hT kC_at41 rfl rfl (show 0 ≤ a1.toInt by first | with_reducible assumption | omega) (show a1.toInt < 13 by first | with_reducible assumption | omega) dX11_street_54 (fun x26 c27 rx26 tx26 => ?_)
            have hox26 := c27
            replace hM := hM.rd (sI_at hox26)
            refine lv_goto (tgt := 66) hx hb dX11_street_55 (by decide) ?_
            exact tk_iret hC hr hlocks hK ⟨hT, hF, hM.ret rfl, (Or.inl ⟨(show 0 ≤ x26.toInt from rx26), (show x26.toInt ≤ 9 from tx26), (show 0 ≤ a1.toInt by first | with_reducible assumption | omega), (show a1.toInt ≤ 11 by first | with_reducible assumption | omega), (show 0 ≤ a2.toInt by first | with_reducible assumption | omega), (show a2.toInt ≤ 9 by first | with_reducible assumption | omega), ⟨x8, c9, (show 1 ≤ x8.toInt by first | with_reducible assumption | omega), (show x8.toInt ≤ 12 by first | with_reducible assumption | omega)⟩⟩)⟩ hw dX11_street_66
        · have c14 : a2.toInt < (2 : Int) := wk_leF c14
          replace hM := hM.neg (Int.not_le.mpr c14)
          refine lv_aload_n hx hb dX11_street_33 rfl (lv_at hl 0 rfl) ?_
          refine tk_getO hC hK hw hT hinX7 kC_at39 (by decide) rfl 0 (by decide) (List.mem_cons_of_mem _ uw_30_2) rfl rfl dX11_street_34 ?_
          refine lv_iconst (v := 2) hx hb dX11_street_37 (by decide) ?_
          refine lv_iload_n hx hb dX11_street_38 rfl (lv_at hl 2 rfl) ?_
          refine lv_imul hx hb dX11_street_39 ?_
          refine lv_topi (fun x28 ex28 => ?_)
          have ezx28 := ex28
          have ex28 : x28.toInt = (2 : Int) * a1.toInt := by rw [ex28]; exact wk_mul (show (-2147483648) ≤ (2 : Int) * a1.toInt by omega) (show (2 : Int) * a1.toInt ≤ 2147483647 by omega)
          replace hM := hM.lt ex28.symm
          refine lv_iload_n hx hb dX11_street_40 rfl (lv_at hl 3 rfl) ?_
          refine lv_iadd hx hb dX11_street_41 ?_
          refine lv_topi (fun x29 ex29 => ?_)
          have ezx29 := ex29
          have ex29 : x29.toInt = x28.toInt + a2.toInt := by rw [ex29]; exact wk_add (show (-2147483648) ≤ x28.toInt + a2.toInt by omega) (show x28.toInt + a2.toInt ≤ 2147483647 by omega)
          replace hM := hM.lt ex29.symm
          refine tk_iald hC hK hw hT kC_at40 rfl rfl (show 0 ≤ x29.toInt by first | with_reducible assumption | omega) (show x29.toInt < 26 by first | with_reducible assumption | omega) dX11_street_42 (fun x30 c31 rx30 tx30 => ?_)
          have hox30 := c31
          replace hM := hM.rd (sI_at hox30)
          have c31 : gi w4 40 (1 * x29.toInt + 0).toNat = x30 := (congrArg (gi w4 40) (congrArg Int.toNat (show 1 * x29.toInt + 0 = x29.toInt by first | exact Int.le_antisymm (by omega) (by omega) | omega))).trans c31
          exact tk_iret hC hr hlocks hK ⟨hT, hF, hM.ret rfl, (Or.inl ⟨(show 0 ≤ x30.toInt from rx30), (show x30.toInt ≤ 9 from tx30), (show 0 ≤ a1.toInt by first | with_reducible assumption | omega), (show a1.toInt ≤ 11 by first | with_reducible assumption | omega), (show 0 ≤ a2.toInt by first | with_reducible assumption | omega), (show a2.toInt ≤ 9 by first | with_reducible assumption | omega), ⟨x8, c9, (show 1 ≤ x8.toInt by first | with_reducible assumption | omega), (show x8.toInt ≤ 12 by first | with_reducible assumption | omega)⟩⟩)⟩ hw dX11_street_43
      · have c13 : (9 : Int) < a2.toInt := wk_leF c13
        replace hM := hM.neg (Int.not_le.mpr c13)
        exact J26  H locs ls w4   hw hT hF hM (lv_sub hl [1, 2, 3, 0] rfl)
abbrev Pz_X0_forget_1 (ad : Nat → Nat) (cy : Nat → ClassId) (B : Int) (qr : Nat) (s1 : Int) (a1 : Int32) (w0 : va_W) : va_W → Prop := fun u => TW ksC ad cy B qr s1 u ∧ FE ksC [(44, 0, 11)] w0 u ∧ Ev (fun n => m_X0_forget n 145 a1.toInt (sI w0)) (0, sI u) ∧ ((True))
set_option maxHeartbeats 4000000 in
set_option maxRecDepth 100000 in
theorem kz_X0_forget_1 (l : Launch) (adK adV : Nat → Nat) (dC : Nat → ClassId) (dI : Nat → Nat → Nat) (cy : Nat → ClassId) (ad : Nat → Nat) (B : Int) (hB0 : 2147483648 ≤ B) (hB1 : B ≤ 1152921504606846976) (qr : Nat) (s1 : Int)  (a1 : Int32) (ra1 : 0 ≤ a1.toInt) (ta1 : a1.toInt ≤ 3) (w0 : va_W) (sz : Nat) (hT : TW ksC ad cy B qr s1 w0)  : Met l yX0_forget (wu yX0_forget cX0_forget 2 none) ({ frames := 1, cells := 0, slots := 0, locals := 12 }) (va_Pc [.ref (ad 145), .int a1] (wpreS adK adV dC dI cy sz w0)) (va_Qv (Pz_X0_forget_1 ad cy B qr s1 a1 w0) (fun u : va_W => wpost dC dI cy (va_A w0 sz) u) (va_A w0 sz)) 0 0 (va_A w0 sz) := by
  refine Met.ofW (cc := cX0_forget) (maxL := 2) (ret := none) (by decide) rfl ?_
  intro p e s m args below meth c s₁ Bk hml hv
  obtain ⟨rfl, ⟨hsz, hP, hK, hD0⟩, hE, hSR⟩ := hv
  have hx := Bk.exec
  have hb := Bk.bytes
  have hr := Bk.returns
  have hlocks := Bk.notSynchronized
  have hC : CallFix p m c cX0_forget 2 s _ (wu yX0_forget cX0_forget 2 none) RX0 := ⟨hx, hb, hml, findClass_of_methodNamed Bk.named, atoms_spec (ws := (wu yX0_forget cX0_forget 2 none)) Bk.pre⟩
  subst hsz
  have hD := hD0.self (sz := s.heap.size)
  generalize hAe : va_A w0 s.heap.size = A at hD hE ⊢
  have hA : ∀ q : Nat, s.heap.size ≤ q → A q := fun q h => by rw [← hAe]; exact Or.inr h
  have hw : Wd dC dI A s.heap s.heap [] w0 := ⟨hP, hD, va_S.rf⟩
  have hF : FE ksC [(44, 0, 11)] w0 w0 := FE.rf
  have hl := lv_entry ([.ref (ad 145), .int a1]) (n := 2) (Nat.le_of_ble_eq_true rfl)
  rw [lg_entry_eq]
  generalize (lg_sl ([.ref (ad 145), .int a1]) ++ List.replicate (2 - (lg_sl ([.ref (ad 145), .int a1])).length) Slot.unset).toArray = ls at hl ⊢
  have hl : lv_has ls 2 [(0, .ref (ad 145)), (1, .int a1)] := hl
  generalize hloc : ([] : List Loc) = locs at hw ⊢
  have hinX0 : ∀ w ∈ u_ws RX0 TX0 4, w ∈ (wu yX0_forget cX0_forget 2 none) := fun _ h => List.mem_cons_of_mem _ (up_77 h)
  have hM : TT (fun n => m_X0_forget n 145 a1.toInt (sI w0)) (fun n => m_X0_forget n 145 a1.toInt (sI w0)) := TT.rf
  refine lv_aload_n hx hb dX0_forget_0 rfl (lv_at hl 0 rfl) ?_
  refine tk_getA hC hK hw hT hinX0 kC_at145 (by decide) rfl 3 (by decide) (List.mem_cons_of_mem _ uw_4_16) rfl rfl dX0_forget_1 ?_
  refine lv_iload_n hx hb dX0_forget_4 rfl (lv_at hl 1 rfl) ?_
  refine lv_iconst (v := 0) hx hb dX0_forget_5 (by decide) ?_
  refine tk_zast hC hK hw hT kC_at148 (by decide) rfl rfl (show 0 ≤ a1.toInt from ra1) (show a1.toInt < 11 from Int.lt_of_le_of_lt ta1 (by decide)) (by decide) (by decide) dX0_forget_6 (fun H locs w1 hw hT k3 c2 => ?_)
  replace hM := hM.wr (sI_upc k3 c2 (by decide))
  have hF := hF.put kC_at148 (inE_of (a := 0) (b := 11) (by decide) (show 0 ≤ a1.toInt.toNat by omega) (show a1.toInt.toNat ≤ 11 by omega)) k3
  exact tk_vret hC hr hlocks hK ⟨hT, hF, hM.ret rfl, trivial⟩ hw dX0_forget_7
abbrev Pz_X11_isWeekday_1 (ad : Nat → Nat) (cy : Nat → ClassId) (B : Int) (qr : Nat) (s1 : Int) (a0 : Int32) (w0 : va_W) : Int32 → va_W → Prop := fun r u => TW ksC ad cy B qr s1 u ∧ FE ksC ([] : List (Nat × Nat × Nat)) w0 u ∧ Ev (fun n => m_X11_isWeekday n a0.toInt (sI w0)) (r.toInt, sI u) ∧ ((r = 0) ∨ (r = 1 ∧ 0 ≤ a0.toInt ∧ a0.toInt ≤ 6))
set_option maxHeartbeats 4000000 in
set_option maxRecDepth 100000 in
theorem kz_X11_isWeekday_1 (l : Launch) (adK adV : Nat → Nat) (dC : Nat → ClassId) (dI : Nat → Nat → Nat) (cy : Nat → ClassId) (ad : Nat → Nat) (B : Int) (hB0 : 2147483648 ≤ B) (hB1 : B ≤ 1152921504606846976) (qr : Nat) (s1 : Int)  (a0 : Int32) (w0 : va_W) (sz : Nat) (hT : TW ksC ad cy B qr s1 w0)  : Met l yX11_isWeekday (wu yX11_isWeekday cX11_isWeekday 1 (some .boolean)) ({ frames := 1, cells := 0, slots := 0, locals := 12 }) (va_Pc [.int a0] (wpreS adK adV dC dI cy sz w0)) (va_Qi (Pz_X11_isWeekday_1 ad cy B qr s1 a0 w0) (fun u : va_W => wpost dC dI cy (va_A w0 sz) u) (va_A w0 sz)) 0 0 (va_A w0 sz) := by
  refine Met.ofW (cc := cX11_isWeekday) (maxL := 1) (ret := (some .boolean)) (by decide) rfl ?_
  intro p e s m args below meth c s₁ Bk hml hv
  obtain ⟨rfl, ⟨hsz, hP, hK, hD0⟩, hE, hSR⟩ := hv
  have hx := Bk.exec
  have hb := Bk.bytes
  have hr := Bk.returns
  have hlocks := Bk.notSynchronized
  have hC : CallFix p m c cX11_isWeekday 1 s _ (wu yX11_isWeekday cX11_isWeekday 1 (some .boolean)) RX11 := ⟨hx, hb, hml, findClass_of_methodNamed Bk.named, atoms_spec (ws := (wu yX11_isWeekday cX11_isWeekday 1 (some .boolean))) Bk.pre⟩
  subst hsz
  have hD := hD0.self (sz := s.heap.size)
  generalize hAe : va_A w0 s.heap.size = A at hD hE ⊢
  have hA : ∀ q : Nat, s.heap.size ≤ q → A q := fun q h => by rw [← hAe]; exact Or.inr h
  have hw : Wd dC dI A s.heap s.heap [] w0 := ⟨hP, hD, va_S.rf⟩
  have hF : FE ksC ([] : List (Nat × Nat × Nat)) w0 w0 := FE.rf
  have hl := lv_entry ([.int a0]) (n := 1) (Nat.le_of_ble_eq_true rfl)
  rw [lg_entry_eq]
  generalize (lg_sl ([.int a0]) ++ List.replicate (1 - (lg_sl ([.int a0])).length) Slot.unset).toArray = ls at hl ⊢
  have hl : lv_has ls 1 [(0, .int a0)] := hl
  generalize hloc : ([] : List Loc) = locs at hw ⊢
  have J14 : ∀ (H : Heap) (locs : List Loc) (ls : Array Slot) (w1 : va_W), Wd dC dI A s.heap H locs w1 → TW ksC ad cy B qr s1 w1 → FE ksC ([] : List (Nat × Nat × Nat)) w0 w1 → TT (fun n => m_X11_isWeekday n a0.toInt (sI w0)) (fun n => b_X11_isWeekday_14 n (sI w1)) → lv_has ls 1 [(0, .int a0)] → W p l e ({ frames := 1, cells := 0, slots := 0, locals := 12 }) s m (List.toArray [.int a0]) below meth c H locs 0 0 (MQ below (va_Qi (Pz_X11_isWeekday_1 ad cy B qr s1 a0 w0) (fun u : va_W => wpost dC dI cy A u) A) (List.toArray [.int a0]) s 0 0 A) (F0 m 14 ls []) := by
    intro H locs ls w1 hw hT hF hM hl
    refine lv_iconst (v := 0) hx hb dX11_isWeekday_14 (by decide) ?_
    exact tk_zret hC hr rfl hlocks hK ⟨hT, hF, hM.ret (by decide), (Or.inl rfl)⟩ hw dX11_isWeekday_15
  have hM : TT (fun n => m_X11_isWeekday n a0.toInt (sI w0)) (fun n => m_X11_isWeekday n a0.toInt (sI w0)) := TT.rf
  refine lv_iload_n hx hb dX11_isWeekday_0 rfl (lv_at hl 0 rfl) ?_
  refine lv_if_lt (tgt := 14) hx hb dX11_isWeekday_1 (by decide) (fun c2 => ?_) (fun c2 => ?_)
  · have c2 : a0.toInt < (0 : Int) := wk_lt.mp c2
    replace hM := hM.pos c2
    exact J14  s.heap locs ls w0   hw hT hF hM (lv_sub hl [0] rfl)
  · have c2 : (0 : Int) ≤ a0.toInt := wk_ltF c2
    replace hM := hM.neg (Int.not_lt.mpr c2)
    refine lv_iload_n hx hb dX11_isWeekday_4 rfl (lv_at hl 0 rfl) ?_
    refine lv_bipush (v := 7) hx hb dX11_isWeekday_5 (by decide) ?_
    refine lv_icmp_ge (tgt := 14) hx hb dX11_isWeekday_7 (by decide) (fun c3 => ?_) (fun c3 => ?_)
    · have c3 : (7 : Int) ≤ a0.toInt := wk_le.mp c3
      replace hM := hM.pos c3
      exact J14  s.heap locs ls w0   hw hT hF hM (lv_sub hl [0] rfl)
    · have c3 : a0.toInt < (7 : Int) := wk_leF c3
      replace hM := hM.neg (Int.not_le.mpr c3)
      refine lv_iconst (v := 1) hx hb dX11_isWeekday_10 (by decide) ?_
      refine lv_goto (tgt := 15) hx hb dX11_isWeekday_11 (by decide) ?_
      exact tk_zret hC hr rfl hlocks hK ⟨hT, hF, hM.ret (by decide), (Or.inr ⟨rfl, (show 0 ≤ a0.toInt by first | with_reducible assumption | omega), (show a0.toInt ≤ 6 by first | with_reducible assumption | omega)⟩)⟩ hw dX11_isWeekday_15
abbrev Pz_X5_hasTown_1 (ad : Nat → Nat) (cy : Nat → ClassId) (B : Int) (qr : Nat) (s1 : Int)  (w0 : va_W) : Int32 → va_W → Prop := fun r u => TW ksC ad cy B qr s1 u ∧ FE ksC ([] : List (Nat × Nat × Nat)) w0 u ∧ Ev (fun n => m_X5_hasTown n 38 (sI w0)) (r.toInt, sI u) ∧ ((r = 0 ∧ (∃ y : Int32, gi u 39 8 = y ∧ (-1) ≤ y.toInt ∧ y.toInt ≤ 0)) ∨ (r = 1 ∧ (∃ y : Int32, gi u 39 8 = y ∧ 1 ≤ y.toInt ∧ y.toInt ≤ 10)))
set_option maxHeartbeats 4000000 in
set_option maxRecDepth 100000 in
theorem kz_X5_hasTown_1 (l : Launch) (adK adV : Nat → Nat) (dC : Nat → ClassId) (dI : Nat → Nat → Nat) (cy : Nat → ClassId) (ad : Nat → Nat) (B : Int) (hB0 : 2147483648 ≤ B) (hB1 : B ≤ 1152921504606846976) (qr : Nat) (s1 : Int)   (w0 : va_W) (sz : Nat) (hT : TW ksC ad cy B qr s1 w0)  : Met l yX5_hasTown (wu yX5_hasTown cX5_hasTown 1 (some .boolean)) ({ frames := 1, cells := 0, slots := 0, locals := 12 }) (va_Pc [.ref (ad 38)] (wpreS adK adV dC dI cy sz w0)) (va_Qi (Pz_X5_hasTown_1 ad cy B qr s1  w0) (fun u : va_W => wpost dC dI cy (va_A w0 sz) u) (va_A w0 sz)) 0 0 (va_A w0 sz) := by
  refine Met.ofW (cc := cX5_hasTown) (maxL := 1) (ret := (some .boolean)) (by decide) rfl ?_
  intro p e s m args below meth c s₁ Bk hml hv
  obtain ⟨rfl, ⟨hsz, hP, hK, hD0⟩, hE, hSR⟩ := hv
  have hx := Bk.exec
  have hb := Bk.bytes
  have hr := Bk.returns
  have hlocks := Bk.notSynchronized
  have hC : CallFix p m c cX5_hasTown 1 s _ (wu yX5_hasTown cX5_hasTown 1 (some .boolean)) RX5 := ⟨hx, hb, hml, findClass_of_methodNamed Bk.named, atoms_spec (ws := (wu yX5_hasTown cX5_hasTown 1 (some .boolean))) Bk.pre⟩
  subst hsz
  have hD := hD0.self (sz := s.heap.size)
  generalize hAe : va_A w0 s.heap.size = A at hD hE ⊢
  have hA : ∀ q : Nat, s.heap.size ≤ q → A q := fun q h => by rw [← hAe]; exact Or.inr h
  have hw : Wd dC dI A s.heap s.heap [] w0 := ⟨hP, hD, va_S.rf⟩
  have hF : FE ksC ([] : List (Nat × Nat × Nat)) w0 w0 := FE.rf
  have hl := lv_entry ([.ref (ad 38)]) (n := 1) (Nat.le_of_ble_eq_true rfl)
  rw [lg_entry_eq]
  generalize (lg_sl ([.ref (ad 38)]) ++ List.replicate (1 - (lg_sl ([.ref (ad 38)])).length) Slot.unset).toArray = ls at hl ⊢
  have hl : lv_has ls 1 [(0, .ref (ad 38))] := hl
  generalize hloc : ([] : List Loc) = locs at hw ⊢
  have hinX5 : ∀ w ∈ u_ws RX5 TX5 14, w ∈ (wu yX5_hasTown cX5_hasTown 1 (some .boolean)) := fun _ h => List.mem_cons_of_mem _ (up_76 h)
  have hinX7 : ∀ w ∈ u_ws RX7 TX7 12, w ∈ (wu yX5_hasTown cX5_hasTown 1 (some .boolean)) := fun _ h => List.mem_cons_of_mem _ (up_73 h)
  have hM : TT (fun n => m_X5_hasTown n 38 (sI w0)) (fun n => m_X5_hasTown n 38 (sI w0)) := TT.rf
  refine lv_aload_n hx hb dX5_hasTown_0 rfl (lv_at hl 0 rfl) ?_
  refine tk_getO hC hK hw hT hinX5 kC_at38 (by decide) rfl 0 (by decide) (List.mem_cons_of_mem _ uw_3_18) rfl rfl dX5_hasTown_1 ?_
  refine tk_geti hC hK hw hT hinX7 kC_at39 (by decide) rfl 8 (by decide) (List.mem_cons_of_mem _ uw_33_21) rfl rfl dX5_hasTown_4 (fun x1 c2 rx1 tx1 => ?_)
  replace hM := hM.rd (sI_at c2)
  refine lv_if_le (tgt := 14) hx hb dX5_hasTown_7 (by decide) (fun c3 => ?_) (fun c3 => ?_)
  · have c3 : x1.toInt ≤ (0 : Int) := wk_le.mp c3
    replace hM := hM.pos c3
    refine lv_iconst (v := 0) hx hb dX5_hasTown_14 (by decide) ?_
    exact tk_zret hC hr rfl hlocks hK ⟨hT, hF, hM.ret (by decide), (Or.inl ⟨rfl, ⟨x1, c2, (show (-1) ≤ x1.toInt from rx1), (show x1.toInt ≤ 0 by first | with_reducible assumption | omega)⟩⟩)⟩ hw dX5_hasTown_15
  · have c3 : (0 : Int) < x1.toInt := wk_leF c3
    replace hM := hM.neg (Int.not_le.mpr c3)
    refine lv_iconst (v := 1) hx hb dX5_hasTown_10 (by decide) ?_
    refine lv_goto (tgt := 15) hx hb dX5_hasTown_11 (by decide) ?_
    exact tk_zret hC hr rfl hlocks hK ⟨hT, hF, hM.ret (by decide), (Or.inr ⟨rfl, ⟨x1, c2, (show 1 ≤ x1.toInt by first | with_reducible assumption | omega), (show x1.toInt ≤ 10 from tx1)⟩⟩)⟩ hw dX5_hasTown_15
abbrev Pz_X11_print_1 (ad : Nat → Nat) (cy : Nat → ClassId) (B : Int) (qr : Nat) (s1 : Int) (a1 : Int32) (w0 : va_W) : Int32 → va_W → Prop := fun r u => TW ksC ad cy B qr s1 u ∧ FE ksC [(5, 8, 8), (32, 0, 48), (44, 0, 11)] w0 u ∧ Ev (fun n => m_X11_print n 0 a1.toInt (sI w0)) (r.toInt, sI u) ∧ ((r = (-2)) ∨ (0 ≤ r.toInt ∧ r.toInt ≤ 3 ∧ 0 ≤ a1.toInt ∧ a1.toInt ≤ 6 ∧ (∃ y : Int32, gi u 38 8 = y ∧ 1 ≤ y.toInt ∧ y.toInt ≤ 4) ∧ (∃ y : Int32, gi u 39 8 = y ∧ 1 ≤ y.toInt ∧ y.toInt ≤ 10)))
set_option maxHeartbeats 4000000 in
set_option maxRecDepth 100000 in
theorem kz_X11_print_1 (l : Launch) (adK adV : Nat → Nat) (dC : Nat → ClassId) (dI : Nat → Nat → Nat) (cy : Nat → ClassId) (ad : Nat → Nat) (B : Int) (hB0 : 2147483648 ≤ B) (hB1 : B ≤ 1152921504606846976) (qr : Nat) (s1 : Int)  (a1 : Int32) (w0 : va_W) (sz : Nat) (hT : TW ksC ad cy B qr s1 w0)  : Met l yX11_print (wu yX11_print cX11_print 4 (some .int)) ({ frames := 2, cells := 0, slots := 0, locals := 34 }) (va_Pc [.ref (ad 0), .int a1] (wpreS adK adV dC dI cy sz w0)) (va_Qi (Pz_X11_print_1 ad cy B qr s1 a1 w0) (fun u : va_W => wpost dC dI cy (va_A w0 sz) u) (va_A w0 sz)) 0 0 (va_A w0 sz) := by
  refine Met.ofW (cc := cX11_print) (maxL := 4) (ret := (some .int)) (by decide) rfl ?_
  intro p e s m args below meth c s₁ Bk hml hv
  obtain ⟨rfl, ⟨hsz, hP, hK, hD0⟩, hE, hSR⟩ := hv
  have hx := Bk.exec
  have hb := Bk.bytes
  have hr := Bk.returns
  have hlocks := Bk.notSynchronized
  have hC : CallFix p m c cX11_print 4 s _ (wu yX11_print cX11_print 4 (some .int)) RX11 := ⟨hx, hb, hml, findClass_of_methodNamed Bk.named, atoms_spec (ws := (wu yX11_print cX11_print 4 (some .int))) Bk.pre⟩
  subst hsz
  have hD := hD0.self (sz := s.heap.size)
  generalize hAe : va_A w0 s.heap.size = A at hD hE ⊢
  have hA : ∀ q : Nat, s.heap.size ≤ q → A q := fun q h => by rw [← hAe]; exact Or.inr h
  have hw : Wd dC dI A s.heap s.heap [] w0 := ⟨hP, hD, va_S.rf⟩
  have hF : FE ksC [(5, 8, 8), (32, 0, 48), (44, 0, 11)] w0 w0 := FE.rf
  have hl := lv_entry ([.ref (ad 0), .int a1]) (n := 4) (Nat.le_of_ble_eq_true rfl)
  rw [lg_entry_eq]
  generalize (lg_sl ([.ref (ad 0), .int a1]) ++ List.replicate (4 - (lg_sl ([.ref (ad 0), .int a1])).length) Slot.unset).toArray = ls at hl ⊢
  have hl : lv_has ls 4 [(0, .ref (ad 0)), (1, .int a1)] := hl
  generalize hloc : ([] : List Loc) = locs at hw ⊢
  have hinX11 : ∀ w ∈ u_ws RX11 TX11 13, w ∈ (wu yX11_print cX11_print 4 (some .int)) := fun _ h => List.mem_cons_of_mem _ (up_70 h)
  have hinX5 : ∀ w ∈ u_ws RX5 TX5 14, w ∈ (wu yX11_print cX11_print 4 (some .int)) := fun _ h => List.mem_cons_of_mem _ (up_76 h)
  have hinX7 : ∀ w ∈ u_ws RX7 TX7 12, w ∈ (wu yX11_print cX11_print 4 (some .int)) := fun _ h => List.mem_cons_of_mem _ (up_73 h)
  have J28 : ∀ (H : Heap) (locs : List Loc) (ls : Array Slot) (w1 : va_W), Wd dC dI A s.heap H locs w1 → TW ksC ad cy B qr s1 w1 → FE ksC [(5, 8, 8), (32, 0, 48), (44, 0, 11)] w0 w1 → TT (fun n => m_X11_print n 0 a1.toInt (sI w0)) (fun n => b_X11_print_28 (j_X11_print 0 n) n 0 (sI w1)) → lv_has ls 4 [(0, .ref (ad 0)), (1, .int a1)] → W p l e ({ frames := 2, cells := 0, slots := 0, locals := 34 }) s m (List.toArray [.ref (ad 0), .int a1]) below meth c H locs 0 0 (MQ below (va_Qi (Pz_X11_print_1 ad cy B qr s1 a1 w0) (fun u : va_W => wpost dC dI cy A u) A) (List.toArray [.ref (ad 0), .int a1]) s 0 0 A) (F0 m 28 ls []) := by
    intro H locs ls w1 hw hT hF hM hl
    refine lv_bipush (v := (-2)) hx hb dX11_print_28 (by decide) ?_
    exact tk_iret hC hr hlocks hK ⟨hT, hF, hM.ret (by decide), (Or.inl rfl)⟩ hw dX11_print_30
  have L41 : ∀ (n41 : Nat) (v41_2 : Int32) (v41_3 : Int32) (f41_38_8 : Int32) (f41_39_8 : Int32) (H : Heap) (locs : List Loc) (ls : Array Slot) (w2 : va_W), 0 ≤ a1.toInt → a1.toInt ≤ 6 → 0 ≤ v41_2.toInt → v41_2.toInt ≤ 3 → 0 ≤ v41_3.toInt → v41_3.toInt ≤ 12 → 0 ≤ f41_38_8.toInt → f41_38_8.toInt ≤ 3 → 1 ≤ f41_39_8.toInt → f41_39_8.toInt ≤ 10 → (12 - v41_3.toInt).toNat < n41 → Wd dC dI A s.heap H locs w2 → TW ksC ad cy B qr s1 w2 → FE ksC [(5, 8, 8), (32, 0, 48), (44, 0, 11)] w0 w2 → gi w2 38 8 = f41_38_8 → gi w2 39 8 = f41_39_8 → TT (fun n => m_X11_print n 0 a1.toInt (sI w0)) (fun n => j_X11_print 0 n 41 [a1.toInt, v41_2.toInt, v41_3.toInt] (sI w2)) → lv_has ls 4 [(0, .ref (ad 0)), (1, .int a1), (2, .int v41_2), (3, .int v41_3)] → W p l e ({ frames := 2, cells := 0, slots := 0, locals := 34 }) s m (List.toArray [.ref (ad 0), .int a1]) below meth c H locs 0 0 (MQ below (va_Qi (Pz_X11_print_1 ad cy B qr s1 a1 w0) (fun u : va_W => wpost dC dI cy A u) A) (List.toArray [.ref (ad 0), .int a1]) s 0 0 A) (F0 m 41 ls []) := by
    intro n41
    induction n41 with
    | zero => intro v41_2 v41_3 f41_38_8 f41_39_8 H locs ls w2 r3 t4 r5 t6 r7 t8 r9 t10 r12 t13 hm41 hw hT hF c11 c14 hM hl; omega
    | succ n41 ih41 =>
      intro v41_2 v41_3 f41_38_8 f41_39_8 H locs ls w2 r3 t4 r5 t6 r7 t8 r9 t10 r12 t13 hm41 hw hT hF c11 c14 hM hl
      replace hM := hM.suc (fun _ => e_X11_print_41)
      refine lv_iload_n hx hb dX11_print_41 rfl (lv_at hl 3 rfl) ?_
      refine lv_aload_n hx hb dX11_print_42 rfl (lv_at hl 0 rfl) ?_
      refine tk_getA hC hK hw hT hinX11 kC_at0 (by decide) rfl 4 (by decide) (List.mem_cons_of_mem _ uw_1_7) rfl rfl dX11_print_43 ?_
      refine tk_getO hC hK hw hT hinX5 kC_at38 (by decide) rfl 0 (by decide) (List.mem_cons_of_mem _ uw_9_1) rfl rfl dX11_print_46 ?_
      refine tk_geti hC hK hw hT hinX7 kC_at39 (by decide) rfl 9 (by decide) (List.mem_cons_of_mem _ uw_9_2) rfl rfl dX11_print_49 (fun x15 c16 rx15 tx15 => ?_)
      replace hM := hM.rd (sI_at c16)
      refine lv_icmp_ge (tgt := 87) hx hb dX11_print_52 (by decide) (fun c17 => ?_) (fun c17 => ?_)
      · have c17 : x15.toInt ≤ v41_3.toInt := wk_le.mp c17
        replace hM := hM.pos c17
        refine lv_aload_n hx hb dX11_print_87 rfl (lv_at hl 0 rfl) ?_
        refine tk_getA hC hK hw hT hinX11 kC_at0 (by decide) rfl 4 (by decide) (List.mem_cons_of_mem _ uw_1_7) rfl rfl dX11_print_88 ?_
        refine lv_dup hx hb dX11_print_91 rfl ?_
        refine tk_geti hC hK hw hT hinX5 kC_at38 (by decide) rfl 8 (by decide) (List.mem_cons_of_mem _ uw_33_12) rfl rfl dX11_print_92 (fun x18 c19 rx18 tx18 => ?_)
        refine wk_top f41_38_8 (c19.symm.trans c11) ?_
        replace hM := hM.rd (sI_at c11)
        refine lv_iconst (v := 1) hx hb dX11_print_95 (by decide) ?_
        refine lv_iadd hx hb dX11_print_96 ?_
        refine lv_topi (fun x20 ex20 => ?_)
        have ezx20 := ex20
        have ex20 : x20.toInt = f41_38_8.toInt + (1 : Int) := by rw [ex20]; exact wk_add (show (-2147483648) ≤ f41_38_8.toInt + (1 : Int) by omega) (show f41_38_8.toInt + (1 : Int) ≤ 2147483647 by omega)
        replace hM := hM.lt ex20.symm
        refine tk_puti hC hK hw hT hinX5 tyX5_ok nmX5 kC_at38 (by decide) rfl rfl 8 (by decide) (List.mem_cons_of_mem _ uw_33_12) rfl rfl rfl rfl (show 0 ≤ x20.toInt by first | with_reducible assumption | omega) (show x20.toInt ≤ 4 by first | with_reducible assumption | omega) dX11_print_97 (fun H locs w21 hw hT k23 c22 => ?_)
        replace hM := hM.wr (sI_up k23 c22)
        have hF := hF.put kC_at38 (k := 8) (by decide) k23
        have c24 := k23.gi (Or.inl (tk_ne kC_at39 kC_at38 (by decide))) c14
        have c25 := k23.gi (Or.inr (by decide)) c16
        refine lv_aload_n hx hb dX11_print_100 rfl (lv_at hl 0 rfl) ?_
        refine tk_getA hC hK hw hT hinX11 kC_at0 (by decide) rfl 7 (by decide) (List.mem_cons_of_mem _ uw_1_14) rfl rfl dX11_print_101 ?_
        refine lv_iload_n hx hb dX11_print_104 rfl (lv_at hl 2 rfl) ?_
        refine tk_Vv hC hK hw hT hA hE hSR kC_at145 (by decide) rfl (kz_X0_forget_1 l adK adV dC dI cy ad B hB0 (Int.le_trans hB1 (by decide)) qr s1   v41_2 (show 0 ≤ v41_2.toInt from r5) (show v41_2.toInt ≤ 3 from t6) w21 H.size hT ) (cwV 1 hC.2.2.2.2 uV_RX11_167 rfl rfl rfl (by decide +kernel) ⟨Nat.le_of_ble_eq_true rfl, Nat.le_of_ble_eq_true rfl⟩) rfl hl.1 rfl (Nat.le_of_ble_eq_true rfl) dX11_print_105 (fun w28 H locs hp27 hw => ?_)
        obtain ⟨hT, k29, hv31, hg30⟩ := hp27
        have hF := hF.tr k29 (by decide)
        have c32 := k29.gi kC_at39 (by decide) c24
        have c33 := k29.gi kC_at39 (by decide) c25
        have c34 := k29.gi kC_at38 (by decide) c22
        clear hg30
        replace hM := hM.call hv31 rfl
        refine lv_iload_n hx hb dX11_print_108 rfl (lv_at hl 2 rfl) ?_
        exact tk_iret hC hr hlocks hK ⟨hT, hF, hM.ret rfl, (Or.inr ⟨(show 0 ≤ v41_2.toInt from r5), (show v41_2.toInt ≤ 3 from t6), (show 0 ≤ a1.toInt from r3), (show a1.toInt ≤ 6 from t4), ⟨x20, c34, (show 1 ≤ x20.toInt by first | with_reducible assumption | omega), (show x20.toInt ≤ 4 by first | with_reducible assumption | omega)⟩, ⟨f41_39_8, c32, (show 1 ≤ f41_39_8.toInt from r12), (show f41_39_8.toInt ≤ 10 from t13)⟩⟩)⟩ hw dX11_print_109
      · have c17 : v41_3.toInt < x15.toInt := wk_leF c17
        replace hM := hM.neg (Int.not_le.mpr c17)
        refine lv_aload_n hx hb dX11_print_55 rfl (lv_at hl 0 rfl) ?_
        refine tk_getA hC hK hw hT hinX11 kC_at0 (by decide) rfl 4 (by decide) (List.mem_cons_of_mem _ uw_1_7) rfl rfl dX11_print_56 ?_
        refine tk_getO hC hK hw hT hinX5 kC_at38 (by decide) rfl 1 (by decide) (List.mem_cons_of_mem _ uw_33_13) rfl rfl dX11_print_59 ?_
        refine lv_iload_n hx hb dX11_print_62 rfl (lv_at hl 2 rfl) ?_
        refine lv_bipush (v := 12) hx hb dX11_print_63 (by decide) ?_
        refine lv_imul hx hb dX11_print_65 ?_
        refine lv_topi (fun x35 ex35 => ?_)
        have ezx35 := ex35
        have ex35 : x35.toInt = v41_2.toInt * (12 : Int) := by rw [ex35]; exact wk_mul (show (-2147483648) ≤ v41_2.toInt * (12 : Int) by omega) (show v41_2.toInt * (12 : Int) ≤ 2147483647 by omega)
        replace hM := hM.lt ex35.symm
        refine lv_iload_n hx hb dX11_print_66 rfl (lv_at hl 3 rfl) ?_
        refine lv_iadd hx hb dX11_print_67 ?_
        refine lv_topi (fun x36 ex36 => ?_)
        have ezx36 := ex36
        have ex36 : x36.toInt = x35.toInt + v41_3.toInt := by rw [ex36]; exact wk_add (show (-2147483648) ≤ x35.toInt + v41_3.toInt by omega) (show x35.toInt + v41_3.toInt ≤ 2147483647 by omega)
        replace hM := hM.lt ex36.symm
        refine lv_aload_n hx hb dX11_print_68 rfl (lv_at hl 0 rfl) ?_
        refine tk_getA hC hK hw hT hinX11 kC_at0 (by decide) rfl 4 (by decide) (List.mem_cons_of_mem _ uw_1_7) rfl rfl dX11_print_69 ?_
        refine tk_getO hC hK hw hT hinX5 kC_at38 (by decide) rfl 0 (by decide) (List.mem_cons_of_mem _ uw_9_1) rfl rfl dX11_print_72 ?_
        refine lv_iload_n hx hb dX11_print_75 rfl (lv_at hl 3 rfl) ?_
        refine lv_iload_n hx hb dX11_print_76 rfl (lv_at hl 1 rfl) ?_
        refine tk_Vi hC hK hw hT hA hE hSR kC_at39 (by decide) rfl (kz_X7_signOn_1 l adK adV dC dI cy ad B hB0 (Int.le_trans hB1 (by decide)) qr s1   v41_3 (show 0 ≤ v41_3.toInt from r7) (show v41_3.toInt ≤ 11 by first | with_reducible assumption | omega) a1 (show 0 ≤ a1.toInt from r3) (show a1.toInt ≤ 6 from t4) w2 H.size hT ) (cwV 2 hC.2.2.2.2 uV_RX11_144 rfl rfl rfl (by decide +kernel) ⟨Nat.le_of_ble_eq_true rfl, Nat.le_of_ble_eq_true rfl⟩) rfl hl.1 rfl (Nat.le_of_ble_eq_true rfl) dX11_print_77 (fun r37 w39 H locs hp38 hw => ?_)
        obtain ⟨hT, k40, hv44, hg43⟩ := hp38
        have hF := hF.tr k40 (by decide)
        have c45 := k40.gi kC_at38 (by decide) c11
        have c46 := k40.gi kC_at39 (by decide) c14
        have c47 := k40.gi kC_at39 (by decide) c16
        obtain ⟨g41, g42⟩ := hg43
        replace hM := hM.call hv44 rfl
        refine tk_iast hC hK hw hT kC_at48 (by decide) rfl rfl (show 0 ≤ x36.toInt by first | with_reducible assumption | omega) (show x36.toInt < 48 by first | with_reducible assumption | omega) (wk_i32 r37).1 (wk_i32 r37).2 dX11_print_80 (fun H locs w48 hw hT k50 c49 => ?_)
        replace hM := hM.wr (sI_up k50 c49)
        have hF := hF.put kC_at48 (inE_of (a := 0) (b := 48) (by decide) (show 0 ≤ x36.toInt.toNat by omega) (show x36.toInt.toNat ≤ 48 by omega)) k50
        have c51 := k50.gi (Or.inl (tk_ne kC_at38 kC_at48 (by decide))) c45
        have c52 := k50.gi (Or.inl (tk_ne kC_at39 kC_at48 (by decide))) c46
        have c53 := k50.gi (Or.inl (tk_ne kC_at39 kC_at48 (by decide))) c47
        obtain ⟨x54, ex54⟩ : ∃ y : Int32, y = v41_3 + Int32.ofInt 1 := ⟨_, rfl⟩
        have erx54 := ex54
        refine lv_iinc (v := x54) (lv' := [(3, .int x54), (0, .ref (ad 0)), (1, .int a1), (2, .int v41_2)]) hx hb dX11_print_81 hl (k := 3) rfl ex54.symm (by decide) rfl (fun ls hl => ?_)
        have ex54 : x54.toInt = v41_3.toInt + 1 := by rw [ex54]; exact wk_add (y := 1) (show -2147483648 ≤ v41_3.toInt + 1 by omega) (show v41_3.toInt + 1 ≤ 2147483647 by omega)
        replace hM := hM.lt ex54.symm
        refine lv_goto (tgt := 41) hx hb dX11_print_84 (by decide) ?_
        exact ih41 v41_2 x54 f41_38_8 f41_39_8 H locs ls w48 (show 0 ≤ a1.toInt from r3) (show a1.toInt ≤ 6 from t4) (show 0 ≤ v41_2.toInt from r5) (show v41_2.toInt ≤ 3 from t6) (show 0 ≤ x54.toInt by first | with_reducible assumption | omega) (show x54.toInt ≤ 12 by first | with_reducible assumption | omega) (show 0 ≤ f41_38_8.toInt from r9) (show f41_38_8.toInt ≤ 3 from t10) (show 1 ≤ f41_39_8.toInt from r12) (show f41_39_8.toInt ≤ 10 from t13) (show (12 - x54.toInt).toNat < n41 by first | exact tn_lt hm41 (by omega) (by omega) | omega) hw hT hF c51 c52 hM (lv_sub hl [1, 2, 3, 0] rfl)
  have hM : TT (fun n => m_X11_print n 0 a1.toInt (sI w0)) (fun n => m_X11_print n 0 a1.toInt (sI w0)) := TT.rf
  refine lv_iload_n hx hb dX11_print_0 rfl (lv_at hl 1 rfl) ?_
  refine tk_Si hC hK hw hT hA hE hSR (kz_X11_isWeekday_1 l adK adV dC dI cy ad B hB0 (Int.le_trans hB1 (by decide)) qr s1   a1 w0 s.heap.size hT ) (va_cwS 1 hC.2.2.2.2 uS_RX11_155 rfl rfl rfl (by decide +kernel) ⟨Nat.le_of_ble_eq_true rfl, Nat.le_of_ble_eq_true rfl⟩) rfl hl.1 rfl (Nat.le_of_ble_eq_true rfl) dX11_print_1 (fun r55 w57 H locs hp56 hw => ?_)
  obtain ⟨hT, k58, hv62, hg61⟩ := hp56
  have hF := hF.tr k58 (by decide)
  rcases hg61 with rfl | ⟨rfl, g59, g60⟩
  · replace hM := hM.call (r' := 0) hv62 (by decide)
    refine lv_if_eq (tgt := 28) hx hb dX11_print_4 (by decide) (fun _ => ?_) (fun c => absurd (by decide) c)
    replace hM := hM.pos (by decide)
    exact J28  H locs ls w57   hw hT hF hM (lv_sub hl [0, 1] rfl)
  · replace hM := hM.call (r' := 1) hv62 (by decide)
    refine lv_if_eq (tgt := 28) hx hb dX11_print_4 (by decide) (fun c => absurd c (by decide)) (fun _ => ?_)
    replace hM := hM.neg (by decide)
    refine lv_aload_n hx hb dX11_print_7 rfl (lv_at hl 0 rfl) ?_
    refine tk_getA hC hK hw hT hinX11 kC_at0 (by decide) rfl 4 (by decide) (List.mem_cons_of_mem _ uw_1_7) rfl rfl dX11_print_8 ?_
    refine tk_Vi hC hK hw hT hA hE hSR kC_at38 (by decide) rfl (kz_X5_hasTown_1 l adK adV dC dI cy ad B hB0 (Int.le_trans hB1 (by decide)) qr s1    w57 H.size hT ) (cwV 0 hC.2.2.2.2 uV_RX11_158 rfl rfl rfl (by decide +kernel) ⟨Nat.le_of_ble_eq_true rfl, Nat.le_of_ble_eq_true rfl⟩) rfl hl.1 rfl (Nat.le_of_ble_eq_true rfl) dX11_print_11 (fun r63 w65 H locs hp64 hw => ?_)
    obtain ⟨hT, k66, hv72, hg71⟩ := hp64
    have hF := hF.tr k66 (by decide)
    rcases hg71 with ⟨rfl, ⟨x67, c68, rx67, tx67⟩⟩ | ⟨rfl, ⟨x69, c70, rx69, tx69⟩⟩
    · replace hM := hM.call (r' := 0) hv72 (by decide)
      refine lv_if_eq (tgt := 28) hx hb dX11_print_14 (by decide) (fun _ => ?_) (fun c => absurd (by decide) c)
      replace hM := hM.pos (by decide)
      exact J28  H locs ls w65   hw hT hF hM (lv_sub hl [0, 1] rfl)
    · replace hM := hM.call (r' := 1) hv72 (by decide)
      refine lv_if_eq (tgt := 28) hx hb dX11_print_14 (by decide) (fun c => absurd c (by decide)) (fun _ => ?_)
      replace hM := hM.neg (by decide)
      refine lv_aload_n hx hb dX11_print_17 rfl (lv_at hl 0 rfl) ?_
      refine tk_getA hC hK hw hT hinX11 kC_at0 (by decide) rfl 4 (by decide) (List.mem_cons_of_mem _ uw_1_7) rfl rfl dX11_print_18 ?_
      refine tk_geti hC hK hw hT hinX5 kC_at38 (by decide) rfl 8 (by decide) (List.mem_cons_of_mem _ uw_33_12) rfl rfl dX11_print_21 (fun x73 c74 rx73 tx73 => ?_)
      replace hM := hM.rd (sI_at c74)
      refine lv_iconst (v := 4) hx hb dX11_print_24 (by decide) ?_
      refine lv_icmp_lt (tgt := 31) hx hb dX11_print_25 (by decide) (fun c75 => ?_) (fun c75 => ?_)
      · have c75 : x73.toInt < (4 : Int) := wk_lt.mp c75
        replace hM := hM.pos c75
        refine lv_aload_n hx hb dX11_print_31 rfl (lv_at hl 0 rfl) ?_
        refine tk_getA hC hK hw hT hinX11 kC_at0 (by decide) rfl 4 (by decide) (List.mem_cons_of_mem _ uw_1_7) rfl rfl dX11_print_32 ?_
        refine tk_geti hC hK hw hT hinX5 kC_at38 (by decide) rfl 8 (by decide) (List.mem_cons_of_mem _ uw_33_12) rfl rfl dX11_print_35 (fun x76 c77 rx76 tx76 => ?_)
        refine wk_top x73 (c77.symm.trans c74) ?_
        replace hM := hM.rd (sI_at c74)
        refine lv_istore_n (lv' := [(2, .int x73), (0, .ref (ad 0)), (1, .int a1)]) hx hb dX11_print_38 rfl hl (by decide) rfl (fun ls hl => ?_)
        refine lv_iconst (v := 0) hx hb dX11_print_39 (by decide) ?_
        refine lv_istore_n (lv' := [(3, .int 0), (2, .int x73), (0, .ref (ad 0)), (1, .int a1)]) hx hb dX11_print_40 rfl hl (by decide) rfl (fun ls hl => ?_)
        exact L41 ((12 - (0 : Int)).toNat + 1) x73 0 x73 x69 H locs ls w65 (show 0 ≤ a1.toInt by first | with_reducible assumption | omega) (show a1.toInt ≤ 6 by first | with_reducible assumption | omega) (show 0 ≤ x73.toInt from rx73) (show x73.toInt ≤ 3 by first | with_reducible assumption | omega) (by decide) (by decide) (show 0 ≤ x73.toInt from rx73) (show x73.toInt ≤ 3 by first | with_reducible assumption | omega) (show 1 ≤ x69.toInt by first | with_reducible assumption | omega) (show x69.toInt ≤ 10 by first | with_reducible assumption | omega) (Nat.lt_succ_self _) hw hT hF c74 c70 hM (lv_sub hl [2, 3, 1, 0] rfl)
      · have c75 : (4 : Int) ≤ x73.toInt := wk_ltF c75
        replace hM := hM.neg (Int.not_lt.mpr c75)
        exact J28  H locs ls w65   hw hT hF hM (lv_sub hl [0, 1] rfl)
abbrev Pz_X11_hasMap_1 (ad : Nat → Nat) (cy : Nat → ClassId) (B : Int) (qr : Nat) (s1 : Int) (a1 : Int32) (w0 : va_W) : Int32 → va_W → Prop := fun r u => TW ksC ad cy B qr s1 u ∧ FE ksC ([] : List (Nat × Nat × Nat)) w0 u ∧ Ev (fun n => m_X11_hasMap n 0 a1.toInt (sI w0)) (r.toInt, sI u) ∧ ((r = 0) ∨ (r = 1 ∧ 0 ≤ a1.toInt ∧ a1.toInt ≤ 3 ∧ (∃ y : Int32, gi u 38 8 = y ∧ 1 ≤ y.toInt ∧ y.toInt ≤ 4)))
set_option maxHeartbeats 4000000 in
set_option maxRecDepth 100000 in
theorem kz_X11_hasMap_1 (l : Launch) (adK adV : Nat → Nat) (dC : Nat → ClassId) (dI : Nat → Nat → Nat) (cy : Nat → ClassId) (ad : Nat → Nat) (B : Int) (hB0 : 2147483648 ≤ B) (hB1 : B ≤ 1152921504606846976) (qr : Nat) (s1 : Int)  (a1 : Int32) (w0 : va_W) (sz : Nat) (hT : TW ksC ad cy B qr s1 w0)  : Met l yX11_hasMap (wu yX11_hasMap cX11_hasMap 2 (some .boolean)) ({ frames := 1, cells := 0, slots := 0, locals := 12 }) (va_Pc [.ref (ad 0), .int a1] (wpreS adK adV dC dI cy sz w0)) (va_Qi (Pz_X11_hasMap_1 ad cy B qr s1 a1 w0) (fun u : va_W => wpost dC dI cy (va_A w0 sz) u) (va_A w0 sz)) 0 0 (va_A w0 sz) := by
  refine Met.ofW (cc := cX11_hasMap) (maxL := 2) (ret := (some .boolean)) (by decide) rfl ?_
  intro p e s m args below meth c s₁ Bk hml hv
  obtain ⟨rfl, ⟨hsz, hP, hK, hD0⟩, hE, hSR⟩ := hv
  have hx := Bk.exec
  have hb := Bk.bytes
  have hr := Bk.returns
  have hlocks := Bk.notSynchronized
  have hC : CallFix p m c cX11_hasMap 2 s _ (wu yX11_hasMap cX11_hasMap 2 (some .boolean)) RX11 := ⟨hx, hb, hml, findClass_of_methodNamed Bk.named, atoms_spec (ws := (wu yX11_hasMap cX11_hasMap 2 (some .boolean))) Bk.pre⟩
  subst hsz
  have hD := hD0.self (sz := s.heap.size)
  generalize hAe : va_A w0 s.heap.size = A at hD hE ⊢
  have hA : ∀ q : Nat, s.heap.size ≤ q → A q := fun q h => by rw [← hAe]; exact Or.inr h
  have hw : Wd dC dI A s.heap s.heap [] w0 := ⟨hP, hD, va_S.rf⟩
  have hF : FE ksC ([] : List (Nat × Nat × Nat)) w0 w0 := FE.rf
  have hl := lv_entry ([.ref (ad 0), .int a1]) (n := 2) (Nat.le_of_ble_eq_true rfl)
  rw [lg_entry_eq]
  generalize (lg_sl ([.ref (ad 0), .int a1]) ++ List.replicate (2 - (lg_sl ([.ref (ad 0), .int a1])).length) Slot.unset).toArray = ls at hl ⊢
  have hl : lv_has ls 2 [(0, .ref (ad 0)), (1, .int a1)] := hl
  generalize hloc : ([] : List Loc) = locs at hw ⊢
  have hinX11 : ∀ w ∈ u_ws RX11 TX11 13, w ∈ (wu yX11_hasMap cX11_hasMap 2 (some .boolean)) := fun _ h => List.mem_cons_of_mem _ (up_70 h)
  have hinX5 : ∀ w ∈ u_ws RX5 TX5 14, w ∈ (wu yX11_hasMap cX11_hasMap 2 (some .boolean)) := fun _ h => List.mem_cons_of_mem _ (up_76 h)
  have J19 : ∀ (H : Heap) (locs : List Loc) (ls : Array Slot) (w1 : va_W), Wd dC dI A s.heap H locs w1 → TW ksC ad cy B qr s1 w1 → FE ksC ([] : List (Nat × Nat × Nat)) w0 w1 → TT (fun n => m_X11_hasMap n 0 a1.toInt (sI w0)) (fun n => b_X11_hasMap_19 n 0 (sI w1)) → lv_has ls 2 [(0, .ref (ad 0)), (1, .int a1)] → W p l e ({ frames := 1, cells := 0, slots := 0, locals := 12 }) s m (List.toArray [.ref (ad 0), .int a1]) below meth c H locs 0 0 (MQ below (va_Qi (Pz_X11_hasMap_1 ad cy B qr s1 a1 w0) (fun u : va_W => wpost dC dI cy A u) A) (List.toArray [.ref (ad 0), .int a1]) s 0 0 A) (F0 m 19 ls []) := by
    intro H locs ls w1 hw hT hF hM hl
    refine lv_iconst (v := 0) hx hb dX11_hasMap_19 (by decide) ?_
    exact tk_zret hC hr rfl hlocks hK ⟨hT, hF, hM.ret (by decide), (Or.inl rfl)⟩ hw dX11_hasMap_20
  have hM : TT (fun n => m_X11_hasMap n 0 a1.toInt (sI w0)) (fun n => m_X11_hasMap n 0 a1.toInt (sI w0)) := TT.rf
  refine lv_iload_n hx hb dX11_hasMap_0 rfl (lv_at hl 1 rfl) ?_
  refine lv_if_lt (tgt := 19) hx hb dX11_hasMap_1 (by decide) (fun c2 => ?_) (fun c2 => ?_)
  · have c2 : a1.toInt < (0 : Int) := wk_lt.mp c2
    replace hM := hM.pos c2
    exact J19  s.heap locs ls w0   hw hT hF hM (lv_sub hl [0, 1] rfl)
  · have c2 : (0 : Int) ≤ a1.toInt := wk_ltF c2
    replace hM := hM.neg (Int.not_lt.mpr c2)
    refine lv_iload_n hx hb dX11_hasMap_4 rfl (lv_at hl 1 rfl) ?_
    refine lv_aload_n hx hb dX11_hasMap_5 rfl (lv_at hl 0 rfl) ?_
    refine tk_getA hC hK hw hT hinX11 kC_at0 (by decide) rfl 4 (by decide) (List.mem_cons_of_mem _ uw_1_7) rfl rfl dX11_hasMap_6 ?_
    refine tk_geti hC hK hw hT hinX5 kC_at38 (by decide) rfl 8 (by decide) (List.mem_cons_of_mem _ uw_33_12) rfl rfl dX11_hasMap_9 (fun x3 c4 rx3 tx3 => ?_)
    replace hM := hM.rd (sI_at c4)
    refine lv_icmp_ge (tgt := 19) hx hb dX11_hasMap_12 (by decide) (fun c5 => ?_) (fun c5 => ?_)
    · have c5 : x3.toInt ≤ a1.toInt := wk_le.mp c5
      replace hM := hM.pos c5
      exact J19  s.heap locs ls w0   hw hT hF hM (lv_sub hl [0, 1] rfl)
    · have c5 : a1.toInt < x3.toInt := wk_leF c5
      replace hM := hM.neg (Int.not_le.mpr c5)
      refine lv_iconst (v := 1) hx hb dX11_hasMap_15 (by decide) ?_
      refine lv_goto (tgt := 20) hx hb dX11_hasMap_16 (by decide) ?_
      exact tk_zret hC hr rfl hlocks hK ⟨hT, hF, hM.ret (by decide), (Or.inr ⟨rfl, (show 0 ≤ a1.toInt by first | with_reducible assumption | omega), (show a1.toInt ≤ 3 by first | with_reducible assumption | omega), ⟨x3, c4, (show 1 ≤ x3.toInt by first | with_reducible assumption | omega), (show x3.toInt ≤ 4 from tx3)⟩⟩)⟩ hw dX11_hasMap_20
abbrev Pz_X11_isSign_1 (ad : Nat → Nat) (cy : Nat → ClassId) (B : Int) (qr : Nat) (s1 : Int) (a0 : Int32) (w0 : va_W) : Int32 → va_W → Prop := fun r u => TW ksC ad cy B qr s1 u ∧ FE ksC ([] : List (Nat × Nat × Nat)) w0 u ∧ Ev (fun n => m_X11_isSign n a0.toInt (sI w0)) (r.toInt, sI u) ∧ ((r = 0) ∨ (r = 1 ∧ 0 ≤ a0.toInt ∧ a0.toInt ≤ 3))
set_option maxHeartbeats 4000000 in
set_option maxRecDepth 100000 in
theorem kz_X11_isSign_1 (l : Launch) (adK adV : Nat → Nat) (dC : Nat → ClassId) (dI : Nat → Nat → Nat) (cy : Nat → ClassId) (ad : Nat → Nat) (B : Int) (hB0 : 2147483648 ≤ B) (hB1 : B ≤ 1152921504606846976) (qr : Nat) (s1 : Int)  (a0 : Int32) (w0 : va_W) (sz : Nat) (hT : TW ksC ad cy B qr s1 w0)  : Met l yX11_isSign (wu yX11_isSign cX11_isSign 1 (some .boolean)) ({ frames := 1, cells := 0, slots := 0, locals := 12 }) (va_Pc [.int a0] (wpreS adK adV dC dI cy sz w0)) (va_Qi (Pz_X11_isSign_1 ad cy B qr s1 a0 w0) (fun u : va_W => wpost dC dI cy (va_A w0 sz) u) (va_A w0 sz)) 0 0 (va_A w0 sz) := by
  refine Met.ofW (cc := cX11_isSign) (maxL := 1) (ret := (some .boolean)) (by decide) rfl ?_
  intro p e s m args below meth c s₁ Bk hml hv
  obtain ⟨rfl, ⟨hsz, hP, hK, hD0⟩, hE, hSR⟩ := hv
  have hx := Bk.exec
  have hb := Bk.bytes
  have hr := Bk.returns
  have hlocks := Bk.notSynchronized
  have hC : CallFix p m c cX11_isSign 1 s _ (wu yX11_isSign cX11_isSign 1 (some .boolean)) RX11 := ⟨hx, hb, hml, findClass_of_methodNamed Bk.named, atoms_spec (ws := (wu yX11_isSign cX11_isSign 1 (some .boolean))) Bk.pre⟩
  subst hsz
  have hD := hD0.self (sz := s.heap.size)
  generalize hAe : va_A w0 s.heap.size = A at hD hE ⊢
  have hA : ∀ q : Nat, s.heap.size ≤ q → A q := fun q h => by rw [← hAe]; exact Or.inr h
  have hw : Wd dC dI A s.heap s.heap [] w0 := ⟨hP, hD, va_S.rf⟩
  have hF : FE ksC ([] : List (Nat × Nat × Nat)) w0 w0 := FE.rf
  have hl := lv_entry ([.int a0]) (n := 1) (Nat.le_of_ble_eq_true rfl)
  rw [lg_entry_eq]
  generalize (lg_sl ([.int a0]) ++ List.replicate (1 - (lg_sl ([.int a0])).length) Slot.unset).toArray = ls at hl ⊢
  have hl : lv_has ls 1 [(0, .int a0)] := hl
  generalize hloc : ([] : List Loc) = locs at hw ⊢
  have J13 : ∀ (H : Heap) (locs : List Loc) (ls : Array Slot) (w1 : va_W), Wd dC dI A s.heap H locs w1 → TW ksC ad cy B qr s1 w1 → FE ksC ([] : List (Nat × Nat × Nat)) w0 w1 → TT (fun n => m_X11_isSign n a0.toInt (sI w0)) (fun n => b_X11_isSign_13 n (sI w1)) → lv_has ls 1 [(0, .int a0)] → W p l e ({ frames := 1, cells := 0, slots := 0, locals := 12 }) s m (List.toArray [.int a0]) below meth c H locs 0 0 (MQ below (va_Qi (Pz_X11_isSign_1 ad cy B qr s1 a0 w0) (fun u : va_W => wpost dC dI cy A u) A) (List.toArray [.int a0]) s 0 0 A) (F0 m 13 ls []) := by
    intro H locs ls w1 hw hT hF hM hl
    refine lv_iconst (v := 0) hx hb dX11_isSign_13 (by decide) ?_
    exact tk_zret hC hr rfl hlocks hK ⟨hT, hF, hM.ret (by decide), (Or.inl rfl)⟩ hw dX11_isSign_14
  have hM : TT (fun n => m_X11_isSign n a0.toInt (sI w0)) (fun n => m_X11_isSign n a0.toInt (sI w0)) := TT.rf
  refine lv_iload_n hx hb dX11_isSign_0 rfl (lv_at hl 0 rfl) ?_
  refine lv_if_lt (tgt := 13) hx hb dX11_isSign_1 (by decide) (fun c2 => ?_) (fun c2 => ?_)
  · have c2 : a0.toInt < (0 : Int) := wk_lt.mp c2
    replace hM := hM.pos c2
    exact J13  s.heap locs ls w0   hw hT hF hM (lv_sub hl [0] rfl)
  · have c2 : (0 : Int) ≤ a0.toInt := wk_ltF c2
    replace hM := hM.neg (Int.not_lt.mpr c2)
    refine lv_iload_n hx hb dX11_isSign_4 rfl (lv_at hl 0 rfl) ?_
    refine lv_iconst (v := 3) hx hb dX11_isSign_5 (by decide) ?_
    refine lv_icmp_gt (tgt := 13) hx hb dX11_isSign_6 (by decide) (fun c3 => ?_) (fun c3 => ?_)
    · have c3 : (3 : Int) < a0.toInt := wk_lt.mp c3
      replace hM := hM.pos c3
      exact J13  s.heap locs ls w0   hw hT hF hM (lv_sub hl [0] rfl)
    · have c3 : a0.toInt ≤ (3 : Int) := wk_ltF c3
      replace hM := hM.neg (Int.not_lt.mpr c3)
      refine lv_iconst (v := 1) hx hb dX11_isSign_9 (by decide) ?_
      refine lv_goto (tgt := 14) hx hb dX11_isSign_10 (by decide) ?_
      exact tk_zret hC hr rfl hlocks hK ⟨hT, hF, hM.ret (by decide), (Or.inr ⟨rfl, (show 0 ≤ a0.toInt by first | with_reducible assumption | omega), (show a0.toInt ≤ 3 by first | with_reducible assumption | omega)⟩)⟩ hw dX11_isSign_14
abbrev Pz_X11_misprint_1 (ad : Nat → Nat) (cy : Nat → ClassId) (B : Int) (qr : Nat) (s1 : Int) (a1 : Int32) (a2 : Int32) (a3 : Int32) (w0 : va_W) : Int32 → va_W → Prop := fun r u => TW ksC ad cy B qr s1 u ∧ FE ksC [(32, 0, 48), (44, 0, 11)] w0 u ∧ Ev (fun n => m_X11_misprint n 0 a1.toInt a2.toInt a3.toInt (sI w0)) (r.toInt, sI u) ∧ ((0 ≤ a1.toInt ∧ a1.toInt ≤ 3 ∧ 0 ≤ a2.toInt ∧ a2.toInt ≤ 11 ∧ 0 ≤ a3.toInt ∧ a3.toInt ≤ 3 ∧ (∃ y : Int32, gi u 38 8 = y ∧ 1 ≤ y.toInt ∧ y.toInt ≤ 4) ∧ (∃ y : Int32, gi u 39 9 = y ∧ 1 ≤ y.toInt ∧ y.toInt ≤ 12)) ∨ (r = (-1)))
set_option maxHeartbeats 4000000 in
set_option maxRecDepth 100000 in
theorem kz_X11_misprint_1 (l : Launch) (adK adV : Nat → Nat) (dC : Nat → ClassId) (dI : Nat → Nat → Nat) (cy : Nat → ClassId) (ad : Nat → Nat) (B : Int) (hB0 : 2147483648 ≤ B) (hB1 : B ≤ 1152921504606846976) (qr : Nat) (s1 : Int)  (a1 : Int32) (a2 : Int32) (a3 : Int32) (w0 : va_W) (sz : Nat) (hT : TW ksC ad cy B qr s1 w0)  : Met l yX11_misprint (wu yX11_misprint cX11_misprint 6 (some .int)) ({ frames := 2, cells := 0, slots := 0, locals := 33 }) (va_Pc [.ref (ad 0), .int a1, .int a2, .int a3] (wpreS adK adV dC dI cy sz w0)) (va_Qi (Pz_X11_misprint_1 ad cy B qr s1 a1 a2 a3 w0) (fun u : va_W => wpost dC dI cy (va_A w0 sz) u) (va_A w0 sz)) 0 0 (va_A w0 sz) := by
  refine Met.ofW (cc := cX11_misprint) (maxL := 6) (ret := (some .int)) (by decide) rfl ?_
  intro p e s m args below meth c s₁ Bk hml hv
  obtain ⟨rfl, ⟨hsz, hP, hK, hD0⟩, hE, hSR⟩ := hv
  have hx := Bk.exec
  have hb := Bk.bytes
  have hr := Bk.returns
  have hlocks := Bk.notSynchronized
  have hC : CallFix p m c cX11_misprint 6 s _ (wu yX11_misprint cX11_misprint 6 (some .int)) RX11 := ⟨hx, hb, hml, findClass_of_methodNamed Bk.named, atoms_spec (ws := (wu yX11_misprint cX11_misprint 6 (some .int))) Bk.pre⟩
  subst hsz
  have hD := hD0.self (sz := s.heap.size)
  generalize hAe : va_A w0 s.heap.size = A at hD hE ⊢
  have hA : ∀ q : Nat, s.heap.size ≤ q → A q := fun q h => by rw [← hAe]; exact Or.inr h
  have hw : Wd dC dI A s.heap s.heap [] w0 := ⟨hP, hD, va_S.rf⟩
  have hF : FE ksC [(32, 0, 48), (44, 0, 11)] w0 w0 := FE.rf
  have hl := lv_entry ([.ref (ad 0), .int a1, .int a2, .int a3]) (n := 6) (Nat.le_of_ble_eq_true rfl)
  rw [lg_entry_eq]
  generalize (lg_sl ([.ref (ad 0), .int a1, .int a2, .int a3]) ++ List.replicate (6 - (lg_sl ([.ref (ad 0), .int a1, .int a2, .int a3])).length) Slot.unset).toArray = ls at hl ⊢
  have hl : lv_has ls 6 [(0, .ref (ad 0)), (1, .int a1), (2, .int a2), (3, .int a3)] := hl
  generalize hloc : ([] : List Loc) = locs at hw ⊢
  have hinX11 : ∀ w ∈ u_ws RX11 TX11 13, w ∈ (wu yX11_misprint cX11_misprint 6 (some .int)) := fun _ h => List.mem_cons_of_mem _ (up_70 h)
  have hinX5 : ∀ w ∈ u_ws RX5 TX5 14, w ∈ (wu yX11_misprint cX11_misprint 6 (some .int)) := fun _ h => List.mem_cons_of_mem _ (up_76 h)
  have J29 : ∀ (H : Heap) (locs : List Loc) (ls : Array Slot) (w1 : va_W), Wd dC dI A s.heap H locs w1 → TW ksC ad cy B qr s1 w1 → FE ksC [(32, 0, 48), (44, 0, 11)] w0 w1 → TT (fun n => m_X11_misprint n 0 a1.toInt a2.toInt a3.toInt (sI w0)) (fun n => b_X11_misprint_29 n 0 (sI w1)) → lv_has ls 6 [(0, .ref (ad 0)), (1, .int a1), (2, .int a2), (3, .int a3)] → W p l e ({ frames := 2, cells := 0, slots := 0, locals := 33 }) s m (List.toArray [.ref (ad 0), .int a1, .int a2, .int a3]) below meth c H locs 0 0 (MQ below (va_Qi (Pz_X11_misprint_1 ad cy B qr s1 a1 a2 a3 w0) (fun u : va_W => wpost dC dI cy A u) A) (List.toArray [.ref (ad 0), .int a1, .int a2, .int a3]) s 0 0 A) (F0 m 29 ls []) := by
    intro H locs ls w1 hw hT hF hM hl
    refine lv_iconst (v := (-1)) hx hb dX11_misprint_29 (by decide) ?_
    exact tk_iret hC hr hlocks hK ⟨hT, hF, hM.ret (by decide), (Or.inr rfl)⟩ hw dX11_misprint_30
  have hM : TT (fun n => m_X11_misprint n 0 a1.toInt a2.toInt a3.toInt (sI w0)) (fun n => m_X11_misprint n 0 a1.toInt a2.toInt a3.toInt (sI w0)) := TT.rf
  refine lv_aload_n hx hb dX11_misprint_0 rfl (lv_at hl 0 rfl) ?_
  refine lv_iload_n hx hb dX11_misprint_1 rfl (lv_at hl 1 rfl) ?_
  refine tk_Vi hC hK hw hT hA hE hSR kC_at0 (by decide) rfl (kz_X11_hasMap_1 l adK adV dC dI cy ad B hB0 (Int.le_trans hB1 (by decide)) qr s1   a1 w0 s.heap.size hT ) (cwV 1 hC.2.2.2.2 uV_RX11_170 rfl rfl rfl (by decide +kernel) ⟨Nat.le_of_ble_eq_true rfl, Nat.le_of_ble_eq_true rfl⟩) rfl hl.1 rfl (Nat.le_of_ble_eq_true rfl) dX11_misprint_2 (fun r2 w4 H locs hp3 hw => ?_)
  obtain ⟨hT, k5, hv11, hg10⟩ := hp3
  have hF := hF.tr k5 (by decide)
  rcases hg10 with rfl | ⟨rfl, g6, g7, ⟨x8, c9, rx8, tx8⟩⟩
  · replace hM := hM.call (r' := 0) hv11 (by decide)
    refine lv_if_eq (tgt := 29) hx hb dX11_misprint_5 (by decide) (fun _ => ?_) (fun c => absurd (by decide) c)
    replace hM := hM.pos (by decide)
    exact J29  H locs ls w4   hw hT hF hM (lv_sub hl [0, 1, 2, 3] rfl)
  · replace hM := hM.call (r' := 1) hv11 (by decide)
    refine lv_if_eq (tgt := 29) hx hb dX11_misprint_5 (by decide) (fun c => absurd c (by decide)) (fun _ => ?_)
    replace hM := hM.neg (by decide)
    refine lv_aload_n hx hb dX11_misprint_8 rfl (lv_at hl 0 rfl) ?_
    refine tk_getA hC hK hw hT hinX11 kC_at0 (by decide) rfl 4 (by decide) (List.mem_cons_of_mem _ uw_1_7) rfl rfl dX11_misprint_9 ?_
    refine tk_getO hC hK hw hT hinX5 kC_at38 (by decide) rfl 0 (by decide) (List.mem_cons_of_mem _ uw_9_1) rfl rfl dX11_misprint_12 ?_
    refine lv_iload_n hx hb dX11_misprint_15 rfl (lv_at hl 2 rfl) ?_
    refine tk_Vi hC hK hw hT hA hE hSR kC_at39 (by decide) rfl (kz_X7_hasStreet_1 l adK adV dC dI cy ad B hB0 (Int.le_trans hB1 (by decide)) qr s1   a2 w4 H.size hT ) (cwV 1 hC.2.2.2.2 uV_RX11_133 rfl rfl rfl (by decide +kernel) ⟨Nat.le_of_ble_eq_true rfl, Nat.le_of_ble_eq_true rfl⟩) rfl hl.1 rfl (Nat.le_of_ble_eq_true rfl) dX11_misprint_16 (fun r12 w14 H locs hp13 hw => ?_)
    obtain ⟨hT, k15, hv21, hg20⟩ := hp13
    have hF := hF.tr k15 (by decide)
    have c22 := k15.gi kC_at38 (by decide) c9
    rcases hg20 with rfl | ⟨rfl, g16, g17, ⟨x18, c19, rx18, tx18⟩⟩
    · replace hM := hM.call (r' := 0) hv21 (by decide)
      refine lv_if_eq (tgt := 29) hx hb dX11_misprint_19 (by decide) (fun _ => ?_) (fun c => absurd (by decide) c)
      replace hM := hM.pos (by decide)
      exact J29  H locs ls w14   hw hT hF hM (lv_sub hl [0, 1, 2, 3] rfl)
    · replace hM := hM.call (r' := 1) hv21 (by decide)
      refine lv_if_eq (tgt := 29) hx hb dX11_misprint_19 (by decide) (fun c => absurd c (by decide)) (fun _ => ?_)
      replace hM := hM.neg (by decide)
      refine lv_iload_n hx hb dX11_misprint_22 rfl (lv_at hl 3 rfl) ?_
      refine tk_Si hC hK hw hT hA hE hSR (kz_X11_isSign_1 l adK adV dC dI cy ad B hB0 (Int.le_trans hB1 (by decide)) qr s1   a3 w14 H.size hT ) (va_cwS 1 hC.2.2.2.2 uS_RX11_173 rfl rfl rfl (by decide +kernel) ⟨Nat.le_of_ble_eq_true rfl, Nat.le_of_ble_eq_true rfl⟩) rfl hl.1 rfl (Nat.le_of_ble_eq_true rfl) dX11_misprint_23 (fun r23 w25 H locs hp24 hw => ?_)
      obtain ⟨hT, k26, hv30, hg29⟩ := hp24
      have hF := hF.tr k26 (by decide)
      have c31 := k26.gi kC_at38 (by decide) c22
      have c32 := k26.gi kC_at39 (by decide) c19
      rcases hg29 with rfl | ⟨rfl, g27, g28⟩
      · replace hM := hM.call (r' := 0) hv30 (by decide)
        refine lv_if_ne (tgt := 31) hx hb dX11_misprint_26 (by decide) (fun c => absurd (by decide) c) (fun _ => ?_)
        replace hM := hM.neg (by decide)
        exact J29  H locs ls w25   hw hT hF hM (lv_sub hl [0, 1, 2, 3] rfl)
      · replace hM := hM.call (r' := 1) hv30 (by decide)
        refine lv_if_ne (tgt := 31) hx hb dX11_misprint_26 (by decide) (fun _ => ?_) (fun c => absurd c (by decide))
        replace hM := hM.pos (by decide)
        refine lv_iload_n hx hb dX11_misprint_31 rfl (lv_at hl 1 rfl) ?_
        refine lv_bipush (v := 12) hx hb dX11_misprint_32 (by decide) ?_
        refine lv_imul hx hb dX11_misprint_34 ?_
        refine lv_topi (fun x33 ex33 => ?_)
        have ezx33 := ex33
        have ex33 : x33.toInt = a1.toInt * (12 : Int) := by rw [ex33]; exact wk_mul (show (-2147483648) ≤ a1.toInt * (12 : Int) by omega) (show a1.toInt * (12 : Int) ≤ 2147483647 by omega)
        replace hM := hM.lt ex33.symm
        refine lv_iload_n hx hb dX11_misprint_35 rfl (lv_at hl 2 rfl) ?_
        refine lv_iadd hx hb dX11_misprint_36 ?_
        refine lv_topi (fun x34 ex34 => ?_)
        have ezx34 := ex34
        have ex34 : x34.toInt = x33.toInt + a2.toInt := by rw [ex34]; exact wk_add (show (-2147483648) ≤ x33.toInt + a2.toInt by omega) (show x33.toInt + a2.toInt ≤ 2147483647 by omega)
        replace hM := hM.lt ex34.symm
        refine lv_istore (lv' := [(4, .int x34), (0, .ref (ad 0)), (1, .int a1), (2, .int a2), (3, .int a3)]) hx hb dX11_misprint_37 hl (by decide) rfl (fun ls hl => ?_)
        refine lv_aload_n hx hb dX11_misprint_39 rfl (lv_at hl 1 rfl) ?_
        refine tk_getA hC hK hw hT hinX11 kC_at0 (by decide) rfl 4 (by decide) (List.mem_cons_of_mem _ uw_1_7) rfl rfl dX11_misprint_40 ?_
        refine tk_getO hC hK hw hT hinX5 kC_at38 (by decide) rfl 1 (by decide) (List.mem_cons_of_mem _ uw_33_13) rfl rfl dX11_misprint_43 ?_
        refine lv_iload hx hb dX11_misprint_46 (lv_at hl 0 rfl) ?_
        refine tk_iald hC hK hw hT kC_at48 rfl rfl (show 0 ≤ x34.toInt by first | with_reducible assumption | omega) (show x34.toInt < 48 by first | with_reducible assumption | omega) dX11_misprint_48 (fun x35 c36 rx35 tx35 => ?_)
        have hox35 := c36
        replace hM := hM.rd (sI_at hox35)
        refine lv_istore (lv' := [(5, .int x35), (4, .int x34), (0, .ref (ad 0)), (1, .int a1), (2, .int a2), (3, .int a3)]) hx hb dX11_misprint_49 hl (by decide) rfl (fun ls hl => ?_)
        refine lv_aload_n hx hb dX11_misprint_51 rfl (lv_at hl 2 rfl) ?_
        refine tk_getA hC hK hw hT hinX11 kC_at0 (by decide) rfl 4 (by decide) (List.mem_cons_of_mem _ uw_1_7) rfl rfl dX11_misprint_52 ?_
        refine tk_getO hC hK hw hT hinX5 kC_at38 (by decide) rfl 1 (by decide) (List.mem_cons_of_mem _ uw_33_13) rfl rfl dX11_misprint_55 ?_
        refine lv_iload hx hb dX11_misprint_58 (lv_at hl 1 rfl) ?_
        refine lv_iload_n hx hb dX11_misprint_60 rfl (lv_at hl 5 rfl) ?_
        refine tk_iast hC hK hw hT kC_at48 (by decide) rfl rfl (show 0 ≤ x34.toInt by first | with_reducible assumption | omega) (show x34.toInt < 48 by first | with_reducible assumption | omega) (wk_i32 a3).1 (wk_i32 a3).2 dX11_misprint_61 (fun H locs w37 hw hT k39 c38 => ?_)
        replace hM := hM.wr (sI_up k39 c38)
        have hF := hF.put kC_at48 (inE_of (a := 0) (b := 48) (by decide) (show 0 ≤ x34.toInt.toNat by omega) (show x34.toInt.toNat ≤ 48 by omega)) k39
        have c40 := k39.gi (Or.inl (tk_ne kC_at38 kC_at48 (by decide))) c31
        have c41 := k39.gi (Or.inl (tk_ne kC_at39 kC_at48 (by decide))) c32
        refine lv_aload_n hx hb dX11_misprint_62 rfl (lv_at hl 2 rfl) ?_
        refine tk_getA hC hK hw hT hinX11 kC_at0 (by decide) rfl 7 (by decide) (List.mem_cons_of_mem _ uw_1_14) rfl rfl dX11_misprint_63 ?_
        refine lv_iload_n hx hb dX11_misprint_66 rfl (lv_at hl 3 rfl) ?_
        refine tk_Vv hC hK hw hT hA hE hSR kC_at145 (by decide) rfl (kz_X0_forget_1 l adK adV dC dI cy ad B hB0 (Int.le_trans hB1 (by decide)) qr s1   a1 (show 0 ≤ a1.toInt by first | with_reducible assumption | omega) (show a1.toInt ≤ 3 by first | with_reducible assumption | omega) w37 H.size hT ) (cwV 1 hC.2.2.2.2 uV_RX11_167 rfl rfl rfl (by decide +kernel) ⟨Nat.le_of_ble_eq_true rfl, Nat.le_of_ble_eq_true rfl⟩) rfl hl.1 rfl (Nat.le_of_ble_eq_true rfl) dX11_misprint_67 (fun w44 H locs hp43 hw => ?_)
        obtain ⟨hT, k45, hv47, hg46⟩ := hp43
        have hF := hF.tr k45 (by decide)
        have c48 := k45.gi kC_at38 (by decide) c40
        have c49 := k45.gi kC_at39 (by decide) c41
        clear hg46
        replace hM := hM.call hv47 rfl
        refine lv_iload hx hb dX11_misprint_70 (lv_at hl 0 rfl) ?_
        exact tk_iret hC hr hlocks hK ⟨hT, hF, hM.ret rfl, (Or.inl ⟨(show 0 ≤ a1.toInt by first | with_reducible assumption | omega), (show a1.toInt ≤ 3 by first | with_reducible assumption | omega), (show 0 ≤ a2.toInt by first | with_reducible assumption | omega), (show a2.toInt ≤ 11 by first | with_reducible assumption | omega), (show 0 ≤ a3.toInt by first | with_reducible assumption | omega), (show a3.toInt ≤ 3 by first | with_reducible assumption | omega), ⟨x8, c48, (show 1 ≤ x8.toInt by first | with_reducible assumption | omega), (show x8.toInt ≤ 4 by first | with_reducible assumption | omega)⟩, ⟨x18, c49, (show 1 ≤ x18.toInt by first | with_reducible assumption | omega), (show x18.toInt ≤ 12 by first | with_reducible assumption | omega)⟩⟩)⟩ hw dX11_misprint_72
abbrev Pz_X11_shown_1 (ad : Nat → Nat) (cy : Nat → ClassId) (B : Int) (qr : Nat) (s1 : Int) (a1 : Int32) (a2 : Int32) (w0 : va_W) : Int32 → va_W → Prop := fun r u => TW ksC ad cy B qr s1 u ∧ FE ksC ([] : List (Nat × Nat × Nat)) w0 u ∧ Ev (fun n => m_X11_shown n 0 a1.toInt a2.toInt (sI w0)) (r.toInt, sI u) ∧ ((0 ≤ a1.toInt ∧ a1.toInt ≤ 3 ∧ 0 ≤ a2.toInt ∧ a2.toInt ≤ 11 ∧ (∃ y : Int32, gi u 38 8 = y ∧ 1 ≤ y.toInt ∧ y.toInt ≤ 4) ∧ (∃ y : Int32, gi u 39 9 = y ∧ 1 ≤ y.toInt ∧ y.toInt ≤ 12)) ∨ (r = (-1)))
set_option maxHeartbeats 4000000 in
set_option maxRecDepth 100000 in
theorem kz_X11_shown_1 (l : Launch) (adK adV : Nat → Nat) (dC : Nat → ClassId) (dI : Nat → Nat → Nat) (cy : Nat → ClassId) (ad : Nat → Nat) (B : Int) (hB0 : 2147483648 ≤ B) (hB1 : B ≤ 1152921504606846976) (qr : Nat) (s1 : Int)  (a1 : Int32) (a2 : Int32) (w0 : va_W) (sz : Nat) (hT : TW ksC ad cy B qr s1 w0)  : Met l yX11_shown (wu yX11_shown cX11_shown 3 (some .int)) ({ frames := 2, cells := 0, slots := 0, locals := 33 }) (va_Pc [.ref (ad 0), .int a1, .int a2] (wpreS adK adV dC dI cy sz w0)) (va_Qi (Pz_X11_shown_1 ad cy B qr s1 a1 a2 w0) (fun u : va_W => wpost dC dI cy (va_A w0 sz) u) (va_A w0 sz)) 0 0 (va_A w0 sz) := by
  refine Met.ofW (cc := cX11_shown) (maxL := 3) (ret := (some .int)) (by decide) rfl ?_
  intro p e s m args below meth c s₁ Bk hml hv
  obtain ⟨rfl, ⟨hsz, hP, hK, hD0⟩, hE, hSR⟩ := hv
  have hx := Bk.exec
  have hb := Bk.bytes
  have hr := Bk.returns
  have hlocks := Bk.notSynchronized
  have hC : CallFix p m c cX11_shown 3 s _ (wu yX11_shown cX11_shown 3 (some .int)) RX11 := ⟨hx, hb, hml, findClass_of_methodNamed Bk.named, atoms_spec (ws := (wu yX11_shown cX11_shown 3 (some .int))) Bk.pre⟩
  subst hsz
  have hD := hD0.self (sz := s.heap.size)
  generalize hAe : va_A w0 s.heap.size = A at hD hE ⊢
  have hA : ∀ q : Nat, s.heap.size ≤ q → A q := fun q h => by rw [← hAe]; exact Or.inr h
  have hw : Wd dC dI A s.heap s.heap [] w0 := ⟨hP, hD, va_S.rf⟩
  have hF : FE ksC ([] : List (Nat × Nat × Nat)) w0 w0 := FE.rf
  have hl := lv_entry ([.ref (ad 0), .int a1, .int a2]) (n := 3) (Nat.le_of_ble_eq_true rfl)
  rw [lg_entry_eq]
  generalize (lg_sl ([.ref (ad 0), .int a1, .int a2]) ++ List.replicate (3 - (lg_sl ([.ref (ad 0), .int a1, .int a2])).length) Slot.unset).toArray = ls at hl ⊢
  have hl : lv_has ls 3 [(0, .ref (ad 0)), (1, .int a1), (2, .int a2)] := hl
  generalize hloc : ([] : List Loc) = locs at hw ⊢
  have hinX11 : ∀ w ∈ u_ws RX11 TX11 13, w ∈ (wu yX11_shown cX11_shown 3 (some .int)) := fun _ h => List.mem_cons_of_mem _ (up_70 h)
  have hinX5 : ∀ w ∈ u_ws RX5 TX5 14, w ∈ (wu yX11_shown cX11_shown 3 (some .int)) := fun _ h => List.mem_cons_of_mem _ (up_76 h)
  have J22 : ∀ (H : Heap) (locs : List Loc) (ls : Array Slot) (w1 : va_W), Wd dC dI A s.heap H locs w1 → TW ksC ad cy B qr s1 w1 → FE ksC ([] : List (Nat × Nat × Nat)) w0 w1 → TT (fun n => m_X11_shown n 0 a1.toInt a2.toInt (sI w0)) (fun n => b_X11_shown_22 n 0 (sI w1)) → lv_has ls 3 [(0, .ref (ad 0)), (1, .int a1), (2, .int a2)] → W p l e ({ frames := 2, cells := 0, slots := 0, locals := 33 }) s m (List.toArray [.ref (ad 0), .int a1, .int a2]) below meth c H locs 0 0 (MQ below (va_Qi (Pz_X11_shown_1 ad cy B qr s1 a1 a2 w0) (fun u : va_W => wpost dC dI cy A u) A) (List.toArray [.ref (ad 0), .int a1, .int a2]) s 0 0 A) (F0 m 22 ls []) := by
    intro H locs ls w1 hw hT hF hM hl
    refine lv_iconst (v := (-1)) hx hb dX11_shown_22 (by decide) ?_
    exact tk_iret hC hr hlocks hK ⟨hT, hF, hM.ret (by decide), (Or.inr rfl)⟩ hw dX11_shown_23
  have hM : TT (fun n => m_X11_shown n 0 a1.toInt a2.toInt (sI w0)) (fun n => m_X11_shown n 0 a1.toInt a2.toInt (sI w0)) := TT.rf
  refine lv_aload_n hx hb dX11_shown_0 rfl (lv_at hl 0 rfl) ?_
  refine lv_iload_n hx hb dX11_shown_1 rfl (lv_at hl 1 rfl) ?_
  refine tk_Vi hC hK hw hT hA hE hSR kC_at0 (by decide) rfl (kz_X11_hasMap_1 l adK adV dC dI cy ad B hB0 (Int.le_trans hB1 (by decide)) qr s1   a1 w0 s.heap.size hT ) (cwV 1 hC.2.2.2.2 uV_RX11_170 rfl rfl rfl (by decide +kernel) ⟨Nat.le_of_ble_eq_true rfl, Nat.le_of_ble_eq_true rfl⟩) rfl hl.1 rfl (Nat.le_of_ble_eq_true rfl) dX11_shown_2 (fun r2 w4 H locs hp3 hw => ?_)
  obtain ⟨hT, k5, hv11, hg10⟩ := hp3
  have hF := hF.tr k5 (by decide)
  rcases hg10 with rfl | ⟨rfl, g6, g7, ⟨x8, c9, rx8, tx8⟩⟩
  · replace hM := hM.call (r' := 0) hv11 (by decide)
    refine lv_if_eq (tgt := 22) hx hb dX11_shown_5 (by decide) (fun _ => ?_) (fun c => absurd (by decide) c)
    replace hM := hM.pos (by decide)
    exact J22  H locs ls w4   hw hT hF hM (lv_sub hl [0, 1, 2] rfl)
  · replace hM := hM.call (r' := 1) hv11 (by decide)
    refine lv_if_eq (tgt := 22) hx hb dX11_shown_5 (by decide) (fun c => absurd c (by decide)) (fun _ => ?_)
    replace hM := hM.neg (by decide)
    refine lv_aload_n hx hb dX11_shown_8 rfl (lv_at hl 0 rfl) ?_
    refine tk_getA hC hK hw hT hinX11 kC_at0 (by decide) rfl 4 (by decide) (List.mem_cons_of_mem _ uw_1_7) rfl rfl dX11_shown_9 ?_
    refine tk_getO hC hK hw hT hinX5 kC_at38 (by decide) rfl 0 (by decide) (List.mem_cons_of_mem _ uw_9_1) rfl rfl dX11_shown_12 ?_
    refine lv_iload_n hx hb dX11_shown_15 rfl (lv_at hl 2 rfl) ?_
    refine tk_Vi hC hK hw hT hA hE hSR kC_at39 (by decide) rfl (kz_X7_hasStreet_1 l adK adV dC dI cy ad B hB0 (Int.le_trans hB1 (by decide)) qr s1   a2 w4 H.size hT ) (cwV 1 hC.2.2.2.2 uV_RX11_133 rfl rfl rfl (by decide +kernel) ⟨Nat.le_of_ble_eq_true rfl, Nat.le_of_ble_eq_true rfl⟩) rfl hl.1 rfl (Nat.le_of_ble_eq_true rfl) dX11_shown_16 (fun r12 w14 H locs hp13 hw => ?_)
    obtain ⟨hT, k15, hv21, hg20⟩ := hp13
    have hF := hF.tr k15 (by decide)
    have c22 := k15.gi kC_at38 (by decide) c9
    rcases hg20 with rfl | ⟨rfl, g16, g17, ⟨x18, c19, rx18, tx18⟩⟩
    · replace hM := hM.call (r' := 0) hv21 (by decide)
      refine lv_if_ne (tgt := 24) hx hb dX11_shown_19 (by decide) (fun c => absurd (by decide) c) (fun _ => ?_)
      replace hM := hM.neg (by decide)
      exact J22  H locs ls w14   hw hT hF hM (lv_sub hl [0, 1, 2] rfl)
    · replace hM := hM.call (r' := 1) hv21 (by decide)
      refine lv_if_ne (tgt := 24) hx hb dX11_shown_19 (by decide) (fun _ => ?_) (fun c => absurd c (by decide))
      replace hM := hM.pos (by decide)
      refine lv_aload_n hx hb dX11_shown_24 rfl (lv_at hl 0 rfl) ?_
      refine tk_getA hC hK hw hT hinX11 kC_at0 (by decide) rfl 4 (by decide) (List.mem_cons_of_mem _ uw_1_7) rfl rfl dX11_shown_25 ?_
      refine tk_getO hC hK hw hT hinX5 kC_at38 (by decide) rfl 1 (by decide) (List.mem_cons_of_mem _ uw_33_13) rfl rfl dX11_shown_28 ?_
      refine lv_iload_n hx hb dX11_shown_31 rfl (lv_at hl 1 rfl) ?_
      refine lv_bipush (v := 12) hx hb dX11_shown_32 (by decide) ?_
      refine lv_imul hx hb dX11_shown_34 ?_
      refine lv_topi (fun x23 ex23 => ?_)
      have ezx23 := ex23
      have ex23 : x23.toInt = a1.toInt * (12 : Int) := by rw [ex23]; exact wk_mul (show (-2147483648) ≤ a1.toInt * (12 : Int) by omega) (show a1.toInt * (12 : Int) ≤ 2147483647 by omega)
      replace hM := hM.lt ex23.symm
      refine lv_iload_n hx hb dX11_shown_35 rfl (lv_at hl 2 rfl) ?_
      refine lv_iadd hx hb dX11_shown_36 ?_
      refine lv_topi (fun x24 ex24 => ?_)
      have ezx24 := ex24
      have ex24 : x24.toInt = x23.toInt + a2.toInt := by rw [ex24]; exact wk_add (show (-2147483648) ≤ x23.toInt + a2.toInt by omega) (show x23.toInt + a2.toInt ≤ 2147483647 by omega)
      replace hM := hM.lt ex24.symm
      refine tk_iald hC hK hw hT kC_at48 rfl rfl (show 0 ≤ x24.toInt by first | with_reducible assumption | omega) (show x24.toInt < 48 by first | with_reducible assumption | omega) dX11_shown_37 (fun x25 c26 rx25 tx25 => ?_)
      have hox25 := c26
      replace hM := hM.rd (sI_at hox25)
      exact tk_iret hC hr hlocks hK ⟨hT, hF, hM.ret rfl, (Or.inl ⟨(show 0 ≤ a1.toInt by first | with_reducible assumption | omega), (show a1.toInt ≤ 3 by first | with_reducible assumption | omega), (show 0 ≤ a2.toInt by first | with_reducible assumption | omega), (show a2.toInt ≤ 11 by first | with_reducible assumption | omega), ⟨x8, c22, (show 1 ≤ x8.toInt by first | with_reducible assumption | omega), (show x8.toInt ≤ 4 by first | with_reducible assumption | omega)⟩, ⟨x18, c19, (show 1 ≤ x18.toInt by first | with_reducible assumption | omega), (show x18.toInt ≤ 12 by first | with_reducible assumption | omega)⟩⟩)⟩ hw dX11_shown_38
abbrev Pz_X11_hasCorner_1 (ad : Nat → Nat) (cy : Nat → ClassId) (B : Int) (qr : Nat) (s1 : Int) (a1 : Int32) (w0 : va_W) : Int32 → va_W → Prop := fun r u => TW ksC ad cy B qr s1 u ∧ FE ksC ([] : List (Nat × Nat × Nat)) w0 u ∧ Ev (fun n => m_X11_hasCorner n 0 a1.toInt (sI w0)) (r.toInt, sI u) ∧ ((r = 0) ∨ (r = 1 ∧ 0 ≤ a1.toInt ∧ a1.toInt ≤ 9 ∧ (∃ y : Int32, gi u 39 8 = y ∧ 1 ≤ y.toInt ∧ y.toInt ≤ 10)))
set_option maxHeartbeats 4000000 in
set_option maxRecDepth 100000 in
theorem kz_X11_hasCorner_1 (l : Launch) (adK adV : Nat → Nat) (dC : Nat → ClassId) (dI : Nat → Nat → Nat) (cy : Nat → ClassId) (ad : Nat → Nat) (B : Int) (hB0 : 2147483648 ≤ B) (hB1 : B ≤ 1152921504606846976) (qr : Nat) (s1 : Int)  (a1 : Int32) (w0 : va_W) (sz : Nat) (hT : TW ksC ad cy B qr s1 w0)  : Met l yX11_hasCorner (wu yX11_hasCorner cX11_hasCorner 2 (some .boolean)) ({ frames := 1, cells := 0, slots := 0, locals := 12 }) (va_Pc [.ref (ad 0), .int a1] (wpreS adK adV dC dI cy sz w0)) (va_Qi (Pz_X11_hasCorner_1 ad cy B qr s1 a1 w0) (fun u : va_W => wpost dC dI cy (va_A w0 sz) u) (va_A w0 sz)) 0 0 (va_A w0 sz) := by
  refine Met.ofW (cc := cX11_hasCorner) (maxL := 2) (ret := (some .boolean)) (by decide) rfl ?_
  intro p e s m args below meth c s₁ Bk hml hv
  obtain ⟨rfl, ⟨hsz, hP, hK, hD0⟩, hE, hSR⟩ := hv
  have hx := Bk.exec
  have hb := Bk.bytes
  have hr := Bk.returns
  have hlocks := Bk.notSynchronized
  have hC : CallFix p m c cX11_hasCorner 2 s _ (wu yX11_hasCorner cX11_hasCorner 2 (some .boolean)) RX11 := ⟨hx, hb, hml, findClass_of_methodNamed Bk.named, atoms_spec (ws := (wu yX11_hasCorner cX11_hasCorner 2 (some .boolean))) Bk.pre⟩
  subst hsz
  have hD := hD0.self (sz := s.heap.size)
  generalize hAe : va_A w0 s.heap.size = A at hD hE ⊢
  have hA : ∀ q : Nat, s.heap.size ≤ q → A q := fun q h => by rw [← hAe]; exact Or.inr h
  have hw : Wd dC dI A s.heap s.heap [] w0 := ⟨hP, hD, va_S.rf⟩
  have hF : FE ksC ([] : List (Nat × Nat × Nat)) w0 w0 := FE.rf
  have hl := lv_entry ([.ref (ad 0), .int a1]) (n := 2) (Nat.le_of_ble_eq_true rfl)
  rw [lg_entry_eq]
  generalize (lg_sl ([.ref (ad 0), .int a1]) ++ List.replicate (2 - (lg_sl ([.ref (ad 0), .int a1])).length) Slot.unset).toArray = ls at hl ⊢
  have hl : lv_has ls 2 [(0, .ref (ad 0)), (1, .int a1)] := hl
  generalize hloc : ([] : List Loc) = locs at hw ⊢
  have hinX11 : ∀ w ∈ u_ws RX11 TX11 13, w ∈ (wu yX11_hasCorner cX11_hasCorner 2 (some .boolean)) := fun _ h => List.mem_cons_of_mem _ (up_70 h)
  have hinX5 : ∀ w ∈ u_ws RX5 TX5 14, w ∈ (wu yX11_hasCorner cX11_hasCorner 2 (some .boolean)) := fun _ h => List.mem_cons_of_mem _ (up_76 h)
  have hinX7 : ∀ w ∈ u_ws RX7 TX7 12, w ∈ (wu yX11_hasCorner cX11_hasCorner 2 (some .boolean)) := fun _ h => List.mem_cons_of_mem _ (up_73 h)
  have J22 : ∀ (H : Heap) (locs : List Loc) (ls : Array Slot) (w1 : va_W), Wd dC dI A s.heap H locs w1 → TW ksC ad cy B qr s1 w1 → FE ksC ([] : List (Nat × Nat × Nat)) w0 w1 → TT (fun n => m_X11_hasCorner n 0 a1.toInt (sI w0)) (fun n => b_X11_hasCorner_22 n 0 (sI w1)) → lv_has ls 2 [(0, .ref (ad 0)), (1, .int a1)] → W p l e ({ frames := 1, cells := 0, slots := 0, locals := 12 }) s m (List.toArray [.ref (ad 0), .int a1]) below meth c H locs 0 0 (MQ below (va_Qi (Pz_X11_hasCorner_1 ad cy B qr s1 a1 w0) (fun u : va_W => wpost dC dI cy A u) A) (List.toArray [.ref (ad 0), .int a1]) s 0 0 A) (F0 m 22 ls []) := by
    intro H locs ls w1 hw hT hF hM hl
    refine lv_iconst (v := 0) hx hb dX11_hasCorner_22 (by decide) ?_
    exact tk_zret hC hr rfl hlocks hK ⟨hT, hF, hM.ret (by decide), (Or.inl rfl)⟩ hw dX11_hasCorner_23
  have hM : TT (fun n => m_X11_hasCorner n 0 a1.toInt (sI w0)) (fun n => m_X11_hasCorner n 0 a1.toInt (sI w0)) := TT.rf
  refine lv_iload_n hx hb dX11_hasCorner_0 rfl (lv_at hl 1 rfl) ?_
  refine lv_if_lt (tgt := 22) hx hb dX11_hasCorner_1 (by decide) (fun c2 => ?_) (fun c2 => ?_)
  · have c2 : a1.toInt < (0 : Int) := wk_lt.mp c2
    replace hM := hM.pos c2
    exact J22  s.heap locs ls w0   hw hT hF hM (lv_sub hl [0, 1] rfl)
  · have c2 : (0 : Int) ≤ a1.toInt := wk_ltF c2
    replace hM := hM.neg (Int.not_lt.mpr c2)
    refine lv_iload_n hx hb dX11_hasCorner_4 rfl (lv_at hl 1 rfl) ?_
    refine lv_aload_n hx hb dX11_hasCorner_5 rfl (lv_at hl 0 rfl) ?_
    refine tk_getA hC hK hw hT hinX11 kC_at0 (by decide) rfl 4 (by decide) (List.mem_cons_of_mem _ uw_1_7) rfl rfl dX11_hasCorner_6 ?_
    refine tk_getO hC hK hw hT hinX5 kC_at38 (by decide) rfl 0 (by decide) (List.mem_cons_of_mem _ uw_9_1) rfl rfl dX11_hasCorner_9 ?_
    refine tk_geti hC hK hw hT hinX7 kC_at39 (by decide) rfl 8 (by decide) (List.mem_cons_of_mem _ uw_35_23) rfl rfl dX11_hasCorner_12 (fun x3 c4 rx3 tx3 => ?_)
    replace hM := hM.rd (sI_at c4)
    refine lv_icmp_ge (tgt := 22) hx hb dX11_hasCorner_15 (by decide) (fun c5 => ?_) (fun c5 => ?_)
    · have c5 : x3.toInt ≤ a1.toInt := wk_le.mp c5
      replace hM := hM.pos c5
      exact J22  s.heap locs ls w0   hw hT hF hM (lv_sub hl [0, 1] rfl)
    · have c5 : a1.toInt < x3.toInt := wk_leF c5
      replace hM := hM.neg (Int.not_le.mpr c5)
      refine lv_iconst (v := 1) hx hb dX11_hasCorner_18 (by decide) ?_
      refine lv_goto (tgt := 23) hx hb dX11_hasCorner_19 (by decide) ?_
      exact tk_zret hC hr rfl hlocks hK ⟨hT, hF, hM.ret (by decide), (Or.inr ⟨rfl, (show 0 ≤ a1.toInt by first | with_reducible assumption | omega), (show a1.toInt ≤ 9 by first | with_reducible assumption | omega), ⟨x3, c4, (show 1 ≤ x3.toInt by first | with_reducible assumption | omega), (show x3.toInt ≤ 10 from tx3)⟩⟩)⟩ hw dX11_hasCorner_23
abbrev Pz_X11_errand_1 (ad : Nat → Nat) (cy : Nat → ClassId) (B : Int) (qr : Nat) (s1 : Int) (a1 : Int32) (a2 : Int32) (w0 : va_W) : Int32 → va_W → Prop := fun r u => TW ksC ad cy B qr s1 u ∧ FE ksC [(5, 10, 10), (34, 0, 6), (35, 0, 6)] w0 u ∧ Ev (fun n => m_X11_errand n 0 a1.toInt a2.toInt (sI w0)) (r.toInt, sI u) ∧ ((r = (-2)) ∨ (0 ≤ r.toInt ∧ r.toInt ≤ 6 ∧ (-1) ≤ a1.toInt ∧ a1.toInt ≤ 9 ∧ (∃ y : Int32, gi u 38 10 = y ∧ 0 ≤ y.toInt ∧ y.toInt ≤ 6)))
set_option maxHeartbeats 4000000 in
set_option maxRecDepth 100000 in
theorem kz_X11_errand_1 (l : Launch) (adK adV : Nat → Nat) (dC : Nat → ClassId) (dI : Nat → Nat → Nat) (cy : Nat → ClassId) (ad : Nat → Nat) (B : Int) (hB0 : 2147483648 ≤ B) (hB1 : B ≤ 1152921504606846976) (qr : Nat) (s1 : Int)  (a1 : Int32) (a2 : Int32) (w0 : va_W) (sz : Nat) (hT : TW ksC ad cy B qr s1 w0)  : Met l yX11_errand (wu yX11_errand cX11_errand 3 (some .int)) ({ frames := 2, cells := 0, slots := 0, locals := 33 }) (va_Pc [.ref (ad 0), .int a1, .int a2] (wpreS adK adV dC dI cy sz w0)) (va_Qi (Pz_X11_errand_1 ad cy B qr s1 a1 a2 w0) (fun u : va_W => wpost dC dI cy (va_A w0 sz) u) (va_A w0 sz)) 0 0 (va_A w0 sz) := by
  refine Met.ofW (cc := cX11_errand) (maxL := 3) (ret := (some .int)) (by decide) rfl ?_
  intro p e s m args below meth c s₁ Bk hml hv
  obtain ⟨rfl, ⟨hsz, hP, hK, hD0⟩, hE, hSR⟩ := hv
  have hx := Bk.exec
  have hb := Bk.bytes
  have hr := Bk.returns
  have hlocks := Bk.notSynchronized
  have hC : CallFix p m c cX11_errand 3 s _ (wu yX11_errand cX11_errand 3 (some .int)) RX11 := ⟨hx, hb, hml, findClass_of_methodNamed Bk.named, atoms_spec (ws := (wu yX11_errand cX11_errand 3 (some .int))) Bk.pre⟩
  subst hsz
  have hD := hD0.self (sz := s.heap.size)
  generalize hAe : va_A w0 s.heap.size = A at hD hE ⊢
  have hA : ∀ q : Nat, s.heap.size ≤ q → A q := fun q h => by rw [← hAe]; exact Or.inr h
  have hw : Wd dC dI A s.heap s.heap [] w0 := ⟨hP, hD, va_S.rf⟩
  have hF : FE ksC [(5, 10, 10), (34, 0, 6), (35, 0, 6)] w0 w0 := FE.rf
  have hl := lv_entry ([.ref (ad 0), .int a1, .int a2]) (n := 3) (Nat.le_of_ble_eq_true rfl)
  rw [lg_entry_eq]
  generalize (lg_sl ([.ref (ad 0), .int a1, .int a2]) ++ List.replicate (3 - (lg_sl ([.ref (ad 0), .int a1, .int a2])).length) Slot.unset).toArray = ls at hl ⊢
  have hl : lv_has ls 3 [(0, .ref (ad 0)), (1, .int a1), (2, .int a2)] := hl
  generalize hloc : ([] : List Loc) = locs at hw ⊢
  have hinX11 : ∀ w ∈ u_ws RX11 TX11 13, w ∈ (wu yX11_errand cX11_errand 3 (some .int)) := fun _ h => List.mem_cons_of_mem _ (up_70 h)
  have hinX5 : ∀ w ∈ u_ws RX5 TX5 14, w ∈ (wu yX11_errand cX11_errand 3 (some .int)) := fun _ h => List.mem_cons_of_mem _ (up_76 h)
  have J48 : ∀ (H : Heap) (locs : List Loc) (ls : Array Slot) (w1 : va_W), Wd dC dI A s.heap H locs w1 → TW ksC ad cy B qr s1 w1 → FE ksC [(5, 10, 10), (34, 0, 6), (35, 0, 6)] w0 w1 → TT (fun n => m_X11_errand n 0 a1.toInt a2.toInt (sI w0)) (fun n => b_X11_errand_48 n 0 (sI w1)) → lv_has ls 3 [(0, .ref (ad 0)), (1, .int a1), (2, .int a2)] → W p l e ({ frames := 2, cells := 0, slots := 0, locals := 33 }) s m (List.toArray [.ref (ad 0), .int a1, .int a2]) below meth c H locs 0 0 (MQ below (va_Qi (Pz_X11_errand_1 ad cy B qr s1 a1 a2 w0) (fun u : va_W => wpost dC dI cy A u) A) (List.toArray [.ref (ad 0), .int a1, .int a2]) s 0 0 A) (F0 m 48 ls []) := by
    intro H locs ls w1 hw hT hF hM hl
    refine lv_bipush (v := (-2)) hx hb dX11_errand_48 (by decide) ?_
    exact tk_iret hC hr hlocks hK ⟨hT, hF, hM.ret (by decide), (Or.inl rfl)⟩ hw dX11_errand_50
  have hM : TT (fun n => m_X11_errand n 0 a1.toInt a2.toInt (sI w0)) (fun n => m_X11_errand n 0 a1.toInt a2.toInt (sI w0)) := TT.rf
  refine lv_iload_n hx hb dX11_errand_0 rfl (lv_at hl 1 rfl) ?_
  refine lv_iconst (v := (-1)) hx hb dX11_errand_1 (by decide) ?_
  refine lv_icmp_ne (tgt := 15) hx hb dX11_errand_2 (by decide) (fun c2 => ?_) (fun c2 => ?_)
  · have c2 : ¬ a1.toInt = (-1 : Int) := wk_eqF c2
    replace hM := hM.pos c2
    refine lv_aload_n hx hb dX11_errand_15 rfl (lv_at hl 0 rfl) ?_
    refine lv_iload_n hx hb dX11_errand_16 rfl (lv_at hl 1 rfl) ?_
    refine tk_Vi hC hK hw hT hA hE hSR kC_at0 (by decide) rfl (kz_X11_hasCorner_1 l adK adV dC dI cy ad B hB0 (Int.le_trans hB1 (by decide)) qr s1   a1 w0 s.heap.size hT ) (cwV 1 hC.2.2.2.2 uV_RX11_176 rfl rfl rfl (by decide +kernel) ⟨Nat.le_of_ble_eq_true rfl, Nat.le_of_ble_eq_true rfl⟩) rfl hl.1 rfl (Nat.le_of_ble_eq_true rfl) dX11_errand_17 (fun r3 w5 H locs hp4 hw => ?_)
    obtain ⟨hT, k6, hv12, hg11⟩ := hp4
    have hF := hF.tr k6 (by decide)
    rcases hg11 with rfl | ⟨rfl, g7, g8, ⟨x9, c10, rx9, tx9⟩⟩
    · replace hM := hM.call (r' := 0) hv12 (by decide)
      refine lv_if_eq (tgt := 48) hx hb dX11_errand_20 (by decide) (fun _ => ?_) (fun c => absurd (by decide) c)
      replace hM := hM.pos (by decide)
      exact J48  H locs ls w5   hw hT hF hM (lv_sub hl [0, 1, 2] rfl)
    · replace hM := hM.call (r' := 1) hv12 (by decide)
      refine lv_if_eq (tgt := 48) hx hb dX11_errand_20 (by decide) (fun c => absurd c (by decide)) (fun _ => ?_)
      replace hM := hM.neg (by decide)
      refine lv_aload_n hx hb dX11_errand_23 rfl (lv_at hl 0 rfl) ?_
      refine lv_iload_n hx hb dX11_errand_24 rfl (lv_at hl 2 rfl) ?_
      refine tk_Vi hC hK hw hT hA hE hSR kC_at0 (by decide) rfl (kz_X11_hasCorner_1 l adK adV dC dI cy ad B hB0 (Int.le_trans hB1 (by decide)) qr s1   a2 w5 H.size hT ) (cwV 1 hC.2.2.2.2 uV_RX11_176 rfl rfl rfl (by decide +kernel) ⟨Nat.le_of_ble_eq_true rfl, Nat.le_of_ble_eq_true rfl⟩) rfl hl.1 rfl (Nat.le_of_ble_eq_true rfl) dX11_errand_25 (fun r13 w15 H locs hp14 hw => ?_)
      obtain ⟨hT, k16, hv22, hg21⟩ := hp14
      have hF := hF.tr k16 (by decide)
      have c23 := k16.gi kC_at39 (by decide) c10
      rcases hg21 with rfl | ⟨rfl, g17, g18, ⟨x19, c20, rx19, tx19⟩⟩
      · replace hM := hM.call (r' := 0) hv22 (by decide)
        refine lv_if_eq (tgt := 48) hx hb dX11_errand_28 (by decide) (fun _ => ?_) (fun c => absurd (by decide) c)
        replace hM := hM.pos (by decide)
        exact J48  H locs ls w15   hw hT hF hM (lv_sub hl [0, 1, 2] rfl)
      · replace hM := hM.call (r' := 1) hv22 (by decide)
        have ex19 : x19.toInt = x9.toInt := by rw [← c23.symm.trans c20]
        refine lv_if_eq (tgt := 48) hx hb dX11_errand_28 (by decide) (fun c => absurd c (by decide)) (fun _ => ?_)
        replace hM := hM.neg (by decide)
        refine lv_iload_n hx hb dX11_errand_31 rfl (lv_at hl 1 rfl) ?_
        refine lv_iload_n hx hb dX11_errand_32 rfl (lv_at hl 2 rfl) ?_
        refine lv_icmp_eq (tgt := 48) hx hb dX11_errand_33 (by decide) (fun c24 => ?_) (fun c24 => ?_)
        · have c24 : a1.toInt = a2.toInt := wk_eq.mp c24
          replace hM := hM.pos c24
          exact J48  H locs ls w15   hw hT hF hM (lv_sub hl [0, 1, 2] rfl)
        · have c24 : ¬ a1.toInt = a2.toInt := wk_eqF c24
          replace hM := hM.neg c24
          refine lv_aload_n hx hb dX11_errand_36 rfl (lv_at hl 0 rfl) ?_
          refine tk_getA hC hK hw hT hinX11 kC_at0 (by decide) rfl 4 (by decide) (List.mem_cons_of_mem _ uw_1_7) rfl rfl dX11_errand_37 ?_
          refine tk_geti hC hK hw hT hinX5 kC_at38 (by decide) rfl 10 (by decide) (List.mem_cons_of_mem _ uw_59_8) rfl rfl dX11_errand_40 (fun x25 c26 rx25 tx25 => ?_)
          replace hM := hM.rd (sI_at c26)
          refine lv_bipush (v := 6) hx hb dX11_errand_43 (by decide) ?_
          refine lv_icmp_lt (tgt := 51) hx hb dX11_errand_45 (by decide) (fun c27 => ?_) (fun c27 => ?_)
          · have c27 : x25.toInt < (6 : Int) := wk_lt.mp c27
            replace hM := hM.pos c27
            refine lv_aload_n hx hb dX11_errand_51 rfl (lv_at hl 0 rfl) ?_
            refine tk_getA hC hK hw hT hinX11 kC_at0 (by decide) rfl 4 (by decide) (List.mem_cons_of_mem _ uw_1_7) rfl rfl dX11_errand_52 ?_
            refine tk_getO hC hK hw hT hinX5 kC_at38 (by decide) rfl 3 (by decide) (List.mem_cons_of_mem _ uw_59_9) rfl rfl dX11_errand_55 ?_
            refine lv_aload_n hx hb dX11_errand_58 rfl (lv_at hl 0 rfl) ?_
            refine tk_getA hC hK hw hT hinX11 kC_at0 (by decide) rfl 4 (by decide) (List.mem_cons_of_mem _ uw_1_7) rfl rfl dX11_errand_59 ?_
            refine tk_geti hC hK hw hT hinX5 kC_at38 (by decide) rfl 10 (by decide) (List.mem_cons_of_mem _ uw_59_8) rfl rfl dX11_errand_62 (fun x28 c29 rx28 tx28 => ?_)
            refine wk_top x25 (c29.symm.trans c26) ?_
            replace hM := hM.rd (sI_at c26)
            refine lv_iload_n hx hb dX11_errand_65 rfl (lv_at hl 1 rfl) ?_
            refine tk_iast hC hK hw hT kC_at50 (by decide) rfl rfl (show 0 ≤ x25.toInt from rx25) (show x25.toInt < 6 by first | with_reducible assumption | omega) (show 0 ≤ a1.toInt by first | with_reducible assumption | omega) (show a1.toInt ≤ 9 by first | with_reducible assumption | omega) dX11_errand_66 (fun H locs w30 hw hT k32 c31 => ?_)
            replace hM := hM.wr (sI_up k32 c31)
            have hF := hF.put kC_at50 (inE_of (a := 0) (b := 6) (by decide) (show 0 ≤ x25.toInt.toNat by omega) (show x25.toInt.toNat ≤ 6 by omega)) k32
            have c33 := k32.gi (Or.inl (tk_ne kC_at39 kC_at50 (by decide))) c23
            have c34 := k32.gi (Or.inl (tk_ne kC_at38 kC_at50 (by decide))) c26
            refine lv_aload_n hx hb dX11_errand_67 rfl (lv_at hl 0 rfl) ?_
            refine tk_getA hC hK hw hT hinX11 kC_at0 (by decide) rfl 4 (by decide) (List.mem_cons_of_mem _ uw_1_7) rfl rfl dX11_errand_68 ?_
            refine tk_getO hC hK hw hT hinX5 kC_at38 (by decide) rfl 4 (by decide) (List.mem_cons_of_mem _ uw_59_10) rfl rfl dX11_errand_71 ?_
            refine lv_aload_n hx hb dX11_errand_74 rfl (lv_at hl 0 rfl) ?_
            refine tk_getA hC hK hw hT hinX11 kC_at0 (by decide) rfl 4 (by decide) (List.mem_cons_of_mem _ uw_1_7) rfl rfl dX11_errand_75 ?_
            refine tk_geti hC hK hw hT hinX5 kC_at38 (by decide) rfl 10 (by decide) (List.mem_cons_of_mem _ uw_59_8) rfl rfl dX11_errand_78 (fun x35 c36 rx35 tx35 => ?_)
            refine wk_top x25 (c36.symm.trans c34) ?_
            replace hM := hM.rd (sI_at c34)
            refine lv_iload_n hx hb dX11_errand_81 rfl (lv_at hl 2 rfl) ?_
            refine tk_iast hC hK hw hT kC_at51 (by decide) rfl rfl (show 0 ≤ x25.toInt from rx25) (show x25.toInt < 6 by first | with_reducible assumption | omega) (show 0 ≤ a2.toInt by first | with_reducible assumption | omega) (show a2.toInt ≤ 9 by first | with_reducible assumption | omega) dX11_errand_82 (fun H locs w37 hw hT k39 c38 => ?_)
            replace hM := hM.wr (sI_up k39 c38)
            have hF := hF.put kC_at51 (inE_of (a := 0) (b := 6) (by decide) (show 0 ≤ x25.toInt.toNat by omega) (show x25.toInt.toNat ≤ 6 by omega)) k39
            have c40 := k39.gi (Or.inl (tk_ne kC_at39 kC_at51 (by decide))) c33
            have c41 := k39.gi (Or.inl (tk_ne kC_at38 kC_at51 (by decide))) c34
            refine lv_aload_n hx hb dX11_errand_83 rfl (lv_at hl 0 rfl) ?_
            refine tk_getA hC hK hw hT hinX11 kC_at0 (by decide) rfl 4 (by decide) (List.mem_cons_of_mem _ uw_1_7) rfl rfl dX11_errand_84 ?_
            refine lv_dup hx hb dX11_errand_87 rfl ?_
            refine tk_geti hC hK hw hT hinX5 kC_at38 (by decide) rfl 10 (by decide) (List.mem_cons_of_mem _ uw_59_8) rfl rfl dX11_errand_88 (fun x42 c43 rx42 tx42 => ?_)
            refine wk_top x25 (c43.symm.trans c41) ?_
            replace hM := hM.rd (sI_at c41)
            refine lv_iconst (v := 1) hx hb dX11_errand_91 (by decide) ?_
            refine lv_iadd hx hb dX11_errand_92 ?_
            refine lv_topi (fun x44 ex44 => ?_)
            have ezx44 := ex44
            have ex44 : x44.toInt = x25.toInt + (1 : Int) := by rw [ex44]; exact wk_add (show (-2147483648) ≤ x25.toInt + (1 : Int) by omega) (show x25.toInt + (1 : Int) ≤ 2147483647 by omega)
            replace hM := hM.lt ex44.symm
            refine tk_puti hC hK hw hT hinX5 tyX5_ok nmX5 kC_at38 (by decide) rfl rfl 10 (by decide) (List.mem_cons_of_mem _ uw_59_8) rfl rfl rfl rfl (show 0 ≤ x44.toInt by first | with_reducible assumption | omega) (show x44.toInt ≤ 6 by first | with_reducible assumption | omega) dX11_errand_93 (fun H locs w45 hw hT k47 c46 => ?_)
            replace hM := hM.wr (sI_up k47 c46)
            have hF := hF.put kC_at38 (k := 10) (by decide) k47
            have c48 := k47.gi (Or.inr (by decide)) c40
            refine lv_aload_n hx hb dX11_errand_96 rfl (lv_at hl 0 rfl) ?_
            refine tk_getA hC hK hw hT hinX11 kC_at0 (by decide) rfl 4 (by decide) (List.mem_cons_of_mem _ uw_1_7) rfl rfl dX11_errand_97 ?_
            refine tk_geti hC hK hw hT hinX5 kC_at38 (by decide) rfl 10 (by decide) (List.mem_cons_of_mem _ uw_59_8) rfl rfl dX11_errand_100 (fun x49 c50 rx49 tx49 => ?_)
            refine wk_top x44 (c50.symm.trans c46) ?_
            replace hM := hM.rd (sI_at c46)
            exact tk_iret hC hr hlocks hK ⟨hT, hF, hM.ret rfl, (Or.inr ⟨(show 0 ≤ x44.toInt by first | with_reducible assumption | omega), (show x44.toInt ≤ 6 by first | with_reducible assumption | omega), (show (-1) ≤ a1.toInt by first | with_reducible assumption | omega), (show a1.toInt ≤ 9 by first | with_reducible assumption | omega), ⟨x44, c46, (show 0 ≤ x44.toInt by first | with_reducible assumption | omega), (show x44.toInt ≤ 6 by first | with_reducible assumption | omega)⟩⟩)⟩ hw dX11_errand_103
          · have c27 : (6 : Int) ≤ x25.toInt := wk_ltF c27
            replace hM := hM.neg (Int.not_lt.mpr c27)
            exact J48  H locs ls w15   hw hT hF hM (lv_sub hl [0, 1, 2] rfl)
  · have c2 : a1.toInt = (-1 : Int) := wk_eq.mp c2
    replace hM := hM.neg (fun q => q c2)
    refine lv_aload_n hx hb dX11_errand_5 rfl (lv_at hl 0 rfl) ?_
    refine tk_getA hC hK hw hT hinX11 kC_at0 (by decide) rfl 4 (by decide) (List.mem_cons_of_mem _ uw_1_7) rfl rfl dX11_errand_6 ?_
    refine lv_iconst (v := 0) hx hb dX11_errand_9 (by decide) ?_
    refine tk_puti hC hK hw hT hinX5 tyX5_ok nmX5 kC_at38 (by decide) rfl rfl 10 (by decide) (List.mem_cons_of_mem _ uw_59_8) rfl rfl rfl rfl (by decide) (by decide) dX11_errand_10 (fun H locs w51 hw hT k53 c52 => ?_)
    replace hM := hM.wr (sI_upc k53 c52 (by decide))
    have hF := hF.put kC_at38 (k := 10) (by decide) k53
    refine lv_iconst (v := 0) hx hb dX11_errand_13 (by decide) ?_
    exact tk_iret hC hr hlocks hK ⟨hT, hF, hM.ret (by decide), (Or.inr ⟨(by decide), (by decide), (show (-1) ≤ a1.toInt by first | with_reducible assumption | omega), (show a1.toInt ≤ 9 by first | with_reducible assumption | omega), ⟨0, c52, (by decide), (by decide)⟩⟩)⟩ hw dX11_errand_14
abbrev Pz_X11_sight_1 (ad : Nat → Nat) (cy : Nat → ClassId) (B : Int) (qr : Nat) (s1 : Int) (a1 : Int32) (a2 : Int32) (w0 : va_W) : Int32 → va_W → Prop := fun r u => TW ksC ad cy B qr s1 u ∧ FE ksC [(5, 11, 11), (36, 0, 12), (37, 0, 12)] w0 u ∧ Ev (fun n => m_X11_sight n 0 a1.toInt a2.toInt (sI w0)) (r.toInt, sI u) ∧ ((r = (-2)) ∨ (0 ≤ r.toInt ∧ r.toInt ≤ 12 ∧ (-1) ≤ a1.toInt ∧ a1.toInt ≤ 11 ∧ (∃ y : Int32, gi u 38 11 = y ∧ 0 ≤ y.toInt ∧ y.toInt ≤ 12)))
set_option maxHeartbeats 4000000 in
set_option maxRecDepth 100000 in
theorem kz_X11_sight_1 (l : Launch) (adK adV : Nat → Nat) (dC : Nat → ClassId) (dI : Nat → Nat → Nat) (cy : Nat → ClassId) (ad : Nat → Nat) (B : Int) (hB0 : 2147483648 ≤ B) (hB1 : B ≤ 1152921504606846976) (qr : Nat) (s1 : Int)  (a1 : Int32) (a2 : Int32) (w0 : va_W) (sz : Nat) (hT : TW ksC ad cy B qr s1 w0)  : Met l yX11_sight (wu yX11_sight cX11_sight 3 (some .int)) ({ frames := 2, cells := 0, slots := 0, locals := 33 }) (va_Pc [.ref (ad 0), .int a1, .int a2] (wpreS adK adV dC dI cy sz w0)) (va_Qi (Pz_X11_sight_1 ad cy B qr s1 a1 a2 w0) (fun u : va_W => wpost dC dI cy (va_A w0 sz) u) (va_A w0 sz)) 0 0 (va_A w0 sz) := by
  refine Met.ofW (cc := cX11_sight) (maxL := 3) (ret := (some .int)) (by decide) rfl ?_
  intro p e s m args below meth c s₁ Bk hml hv
  obtain ⟨rfl, ⟨hsz, hP, hK, hD0⟩, hE, hSR⟩ := hv
  have hx := Bk.exec
  have hb := Bk.bytes
  have hr := Bk.returns
  have hlocks := Bk.notSynchronized
  have hC : CallFix p m c cX11_sight 3 s _ (wu yX11_sight cX11_sight 3 (some .int)) RX11 := ⟨hx, hb, hml, findClass_of_methodNamed Bk.named, atoms_spec (ws := (wu yX11_sight cX11_sight 3 (some .int))) Bk.pre⟩
  subst hsz
  have hD := hD0.self (sz := s.heap.size)
  generalize hAe : va_A w0 s.heap.size = A at hD hE ⊢
  have hA : ∀ q : Nat, s.heap.size ≤ q → A q := fun q h => by rw [← hAe]; exact Or.inr h
  have hw : Wd dC dI A s.heap s.heap [] w0 := ⟨hP, hD, va_S.rf⟩
  have hF : FE ksC [(5, 11, 11), (36, 0, 12), (37, 0, 12)] w0 w0 := FE.rf
  have hl := lv_entry ([.ref (ad 0), .int a1, .int a2]) (n := 3) (Nat.le_of_ble_eq_true rfl)
  rw [lg_entry_eq]
  generalize (lg_sl ([.ref (ad 0), .int a1, .int a2]) ++ List.replicate (3 - (lg_sl ([.ref (ad 0), .int a1, .int a2])).length) Slot.unset).toArray = ls at hl ⊢
  have hl : lv_has ls 3 [(0, .ref (ad 0)), (1, .int a1), (2, .int a2)] := hl
  generalize hloc : ([] : List Loc) = locs at hw ⊢
  have hinX11 : ∀ w ∈ u_ws RX11 TX11 13, w ∈ (wu yX11_sight cX11_sight 3 (some .int)) := fun _ h => List.mem_cons_of_mem _ (up_70 h)
  have hinX5 : ∀ w ∈ u_ws RX5 TX5 14, w ∈ (wu yX11_sight cX11_sight 3 (some .int)) := fun _ h => List.mem_cons_of_mem _ (up_76 h)
  have J48 : ∀ (H : Heap) (locs : List Loc) (ls : Array Slot) (w1 : va_W), Wd dC dI A s.heap H locs w1 → TW ksC ad cy B qr s1 w1 → FE ksC [(5, 11, 11), (36, 0, 12), (37, 0, 12)] w0 w1 → TT (fun n => m_X11_sight n 0 a1.toInt a2.toInt (sI w0)) (fun n => b_X11_sight_48 n 0 (sI w1)) → lv_has ls 3 [(0, .ref (ad 0)), (1, .int a1), (2, .int a2)] → W p l e ({ frames := 2, cells := 0, slots := 0, locals := 33 }) s m (List.toArray [.ref (ad 0), .int a1, .int a2]) below meth c H locs 0 0 (MQ below (va_Qi (Pz_X11_sight_1 ad cy B qr s1 a1 a2 w0) (fun u : va_W => wpost dC dI cy A u) A) (List.toArray [.ref (ad 0), .int a1, .int a2]) s 0 0 A) (F0 m 48 ls []) := by
    intro H locs ls w1 hw hT hF hM hl
    refine lv_bipush (v := (-2)) hx hb dX11_sight_48 (by decide) ?_
    exact tk_iret hC hr hlocks hK ⟨hT, hF, hM.ret (by decide), (Or.inl rfl)⟩ hw dX11_sight_50
  have hM : TT (fun n => m_X11_sight n 0 a1.toInt a2.toInt (sI w0)) (fun n => m_X11_sight n 0 a1.toInt a2.toInt (sI w0)) := TT.rf
  refine lv_iload_n hx hb dX11_sight_0 rfl (lv_at hl 1 rfl) ?_
  refine lv_iconst (v := (-1)) hx hb dX11_sight_1 (by decide) ?_
  refine lv_icmp_ne (tgt := 15) hx hb dX11_sight_2 (by decide) (fun c2 => ?_) (fun c2 => ?_)
  · have c2 : ¬ a1.toInt = (-1 : Int) := wk_eqF c2
    replace hM := hM.pos c2
    refine lv_aload_n hx hb dX11_sight_15 rfl (lv_at hl 0 rfl) ?_
    refine tk_getA hC hK hw hT hinX11 kC_at0 (by decide) rfl 4 (by decide) (List.mem_cons_of_mem _ uw_1_7) rfl rfl dX11_sight_16 ?_
    refine tk_getO hC hK hw hT hinX5 kC_at38 (by decide) rfl 0 (by decide) (List.mem_cons_of_mem _ uw_9_1) rfl rfl dX11_sight_19 ?_
    refine lv_iload_n hx hb dX11_sight_22 rfl (lv_at hl 1 rfl) ?_
    refine tk_Vi hC hK hw hT hA hE hSR kC_at39 (by decide) rfl (kz_X7_hasStreet_1 l adK adV dC dI cy ad B hB0 (Int.le_trans hB1 (by decide)) qr s1   a1 w0 s.heap.size hT ) (cwV 1 hC.2.2.2.2 uV_RX11_133 rfl rfl rfl (by decide +kernel) ⟨Nat.le_of_ble_eq_true rfl, Nat.le_of_ble_eq_true rfl⟩) rfl hl.1 rfl (Nat.le_of_ble_eq_true rfl) dX11_sight_23 (fun r3 w5 H locs hp4 hw => ?_)
    obtain ⟨hT, k6, hv12, hg11⟩ := hp4
    have hF := hF.tr k6 (by decide)
    rcases hg11 with rfl | ⟨rfl, g7, g8, ⟨x9, c10, rx9, tx9⟩⟩
    · replace hM := hM.call (r' := 0) hv12 (by decide)
      refine lv_if_eq (tgt := 48) hx hb dX11_sight_26 (by decide) (fun _ => ?_) (fun c => absurd (by decide) c)
      replace hM := hM.pos (by decide)
      exact J48  H locs ls w5   hw hT hF hM (lv_sub hl [0, 1, 2] rfl)
    · replace hM := hM.call (r' := 1) hv12 (by decide)
      refine lv_if_eq (tgt := 48) hx hb dX11_sight_26 (by decide) (fun c => absurd c (by decide)) (fun _ => ?_)
      replace hM := hM.neg (by decide)
      refine lv_iload_n hx hb dX11_sight_29 rfl (lv_at hl 2 rfl) ?_
      refine tk_Si hC hK hw hT hA hE hSR (kz_X11_isSign_1 l adK adV dC dI cy ad B hB0 (Int.le_trans hB1 (by decide)) qr s1   a2 w5 H.size hT ) (va_cwS 1 hC.2.2.2.2 uS_RX11_173 rfl rfl rfl (by decide +kernel) ⟨Nat.le_of_ble_eq_true rfl, Nat.le_of_ble_eq_true rfl⟩) rfl hl.1 rfl (Nat.le_of_ble_eq_true rfl) dX11_sight_30 (fun r13 w15 H locs hp14 hw => ?_)
      obtain ⟨hT, k16, hv20, hg19⟩ := hp14
      have hF := hF.tr k16 (by decide)
      have c21 := k16.gi kC_at39 (by decide) c10
      rcases hg19 with rfl | ⟨rfl, g17, g18⟩
      · replace hM := hM.call (r' := 0) hv20 (by decide)
        refine lv_if_eq (tgt := 48) hx hb dX11_sight_33 (by decide) (fun _ => ?_) (fun c => absurd (by decide) c)
        replace hM := hM.pos (by decide)
        exact J48  H locs ls w15   hw hT hF hM (lv_sub hl [0, 1, 2] rfl)
      · replace hM := hM.call (r' := 1) hv20 (by decide)
        refine lv_if_eq (tgt := 48) hx hb dX11_sight_33 (by decide) (fun c => absurd c (by decide)) (fun _ => ?_)
        replace hM := hM.neg (by decide)
        refine lv_aload_n hx hb dX11_sight_36 rfl (lv_at hl 0 rfl) ?_
        refine tk_getA hC hK hw hT hinX11 kC_at0 (by decide) rfl 4 (by decide) (List.mem_cons_of_mem _ uw_1_7) rfl rfl dX11_sight_37 ?_
        refine tk_geti hC hK hw hT hinX5 kC_at38 (by decide) rfl 11 (by decide) (List.mem_cons_of_mem _ uw_62_14) rfl rfl dX11_sight_40 (fun x22 c23 rx22 tx22 => ?_)
        replace hM := hM.rd (sI_at c23)
        refine lv_bipush (v := 12) hx hb dX11_sight_43 (by decide) ?_
        refine lv_icmp_lt (tgt := 51) hx hb dX11_sight_45 (by decide) (fun c24 => ?_) (fun c24 => ?_)
        · have c24 : x22.toInt < (12 : Int) := wk_lt.mp c24
          replace hM := hM.pos c24
          refine lv_aload_n hx hb dX11_sight_51 rfl (lv_at hl 0 rfl) ?_
          refine tk_getA hC hK hw hT hinX11 kC_at0 (by decide) rfl 4 (by decide) (List.mem_cons_of_mem _ uw_1_7) rfl rfl dX11_sight_52 ?_
          refine tk_getO hC hK hw hT hinX5 kC_at38 (by decide) rfl 5 (by decide) (List.mem_cons_of_mem _ uw_62_15) rfl rfl dX11_sight_55 ?_
          refine lv_aload_n hx hb dX11_sight_58 rfl (lv_at hl 0 rfl) ?_
          refine tk_getA hC hK hw hT hinX11 kC_at0 (by decide) rfl 4 (by decide) (List.mem_cons_of_mem _ uw_1_7) rfl rfl dX11_sight_59 ?_
          refine tk_geti hC hK hw hT hinX5 kC_at38 (by decide) rfl 11 (by decide) (List.mem_cons_of_mem _ uw_62_14) rfl rfl dX11_sight_62 (fun x25 c26 rx25 tx25 => ?_)
          refine wk_top x22 (c26.symm.trans c23) ?_
          replace hM := hM.rd (sI_at c23)
          refine lv_iload_n hx hb dX11_sight_65 rfl (lv_at hl 1 rfl) ?_
          refine tk_iast hC hK hw hT kC_at52 (by decide) rfl rfl (show 0 ≤ x22.toInt from rx22) (show x22.toInt < 12 by first | with_reducible assumption | omega) (show 0 ≤ a1.toInt by first | with_reducible assumption | omega) (show a1.toInt ≤ 11 by first | with_reducible assumption | omega) dX11_sight_66 (fun H locs w27 hw hT k29 c28 => ?_)
          replace hM := hM.wr (sI_up k29 c28)
          have hF := hF.put kC_at52 (inE_of (a := 0) (b := 12) (by decide) (show 0 ≤ x22.toInt.toNat by omega) (show x22.toInt.toNat ≤ 12 by omega)) k29
          have c30 := k29.gi (Or.inl (tk_ne kC_at39 kC_at52 (by decide))) c21
          have c31 := k29.gi (Or.inl (tk_ne kC_at38 kC_at52 (by decide))) c23
          refine lv_aload_n hx hb dX11_sight_67 rfl (lv_at hl 0 rfl) ?_
          refine tk_getA hC hK hw hT hinX11 kC_at0 (by decide) rfl 4 (by decide) (List.mem_cons_of_mem _ uw_1_7) rfl rfl dX11_sight_68 ?_
          refine tk_getO hC hK hw hT hinX5 kC_at38 (by decide) rfl 6 (by decide) (List.mem_cons_of_mem _ uw_62_16) rfl rfl dX11_sight_71 ?_
          refine lv_aload_n hx hb dX11_sight_74 rfl (lv_at hl 0 rfl) ?_
          refine tk_getA hC hK hw hT hinX11 kC_at0 (by decide) rfl 4 (by decide) (List.mem_cons_of_mem _ uw_1_7) rfl rfl dX11_sight_75 ?_
          refine tk_geti hC hK hw hT hinX5 kC_at38 (by decide) rfl 11 (by decide) (List.mem_cons_of_mem _ uw_62_14) rfl rfl dX11_sight_78 (fun x32 c33 rx32 tx32 => ?_)
          refine wk_top x22 (c33.symm.trans c31) ?_
          replace hM := hM.rd (sI_at c31)
          refine lv_iload_n hx hb dX11_sight_81 rfl (lv_at hl 2 rfl) ?_
          refine tk_iast hC hK hw hT kC_at53 (by decide) rfl rfl (show 0 ≤ x22.toInt from rx22) (show x22.toInt < 12 by first | with_reducible assumption | omega) (wk_i32 a2).1 (wk_i32 a2).2 dX11_sight_82 (fun H locs w34 hw hT k36 c35 => ?_)
          replace hM := hM.wr (sI_up k36 c35)
          have hF := hF.put kC_at53 (inE_of (a := 0) (b := 12) (by decide) (show 0 ≤ x22.toInt.toNat by omega) (show x22.toInt.toNat ≤ 12 by omega)) k36
          have c37 := k36.gi (Or.inl (tk_ne kC_at39 kC_at53 (by decide))) c30
          have c38 := k36.gi (Or.inl (tk_ne kC_at38 kC_at53 (by decide))) c31
          refine lv_aload_n hx hb dX11_sight_83 rfl (lv_at hl 0 rfl) ?_
          refine tk_getA hC hK hw hT hinX11 kC_at0 (by decide) rfl 4 (by decide) (List.mem_cons_of_mem _ uw_1_7) rfl rfl dX11_sight_84 ?_
          refine lv_dup hx hb dX11_sight_87 rfl ?_
          refine tk_geti hC hK hw hT hinX5 kC_at38 (by decide) rfl 11 (by decide) (List.mem_cons_of_mem _ uw_62_14) rfl rfl dX11_sight_88 (fun x39 c40 rx39 tx39 => ?_)
          refine wk_top x22 (c40.symm.trans c38) ?_
          replace hM := hM.rd (sI_at c38)
          refine lv_iconst (v := 1) hx hb dX11_sight_91 (by decide) ?_
          refine lv_iadd hx hb dX11_sight_92 ?_
          refine lv_topi (fun x41 ex41 => ?_)
          have ezx41 := ex41
          have ex41 : x41.toInt = x22.toInt + (1 : Int) := by rw [ex41]; exact wk_add (show (-2147483648) ≤ x22.toInt + (1 : Int) by omega) (show x22.toInt + (1 : Int) ≤ 2147483647 by omega)
          replace hM := hM.lt ex41.symm
          refine tk_puti hC hK hw hT hinX5 tyX5_ok nmX5 kC_at38 (by decide) rfl rfl 11 (by decide) (List.mem_cons_of_mem _ uw_62_14) rfl rfl rfl rfl (show 0 ≤ x41.toInt by first | with_reducible assumption | omega) (show x41.toInt ≤ 12 by first | with_reducible assumption | omega) dX11_sight_93 (fun H locs w42 hw hT k44 c43 => ?_)
          replace hM := hM.wr (sI_up k44 c43)
          have hF := hF.put kC_at38 (k := 11) (by decide) k44
          have c45 := k44.gi (Or.inr (by decide)) c37
          refine lv_aload_n hx hb dX11_sight_96 rfl (lv_at hl 0 rfl) ?_
          refine tk_getA hC hK hw hT hinX11 kC_at0 (by decide) rfl 4 (by decide) (List.mem_cons_of_mem _ uw_1_7) rfl rfl dX11_sight_97 ?_
          refine tk_geti hC hK hw hT hinX5 kC_at38 (by decide) rfl 11 (by decide) (List.mem_cons_of_mem _ uw_62_14) rfl rfl dX11_sight_100 (fun x46 c47 rx46 tx46 => ?_)
          refine wk_top x41 (c47.symm.trans c43) ?_
          replace hM := hM.rd (sI_at c43)
          exact tk_iret hC hr hlocks hK ⟨hT, hF, hM.ret rfl, (Or.inr ⟨(show 0 ≤ x41.toInt by first | with_reducible assumption | omega), (show x41.toInt ≤ 12 by first | with_reducible assumption | omega), (show (-1) ≤ a1.toInt by first | with_reducible assumption | omega), (show a1.toInt ≤ 11 by first | with_reducible assumption | omega), ⟨x41, c43, (show 0 ≤ x41.toInt by first | with_reducible assumption | omega), (show x41.toInt ≤ 12 by first | with_reducible assumption | omega)⟩⟩)⟩ hw dX11_sight_103
        · have c24 : (12 : Int) ≤ x22.toInt := wk_ltF c24
          replace hM := hM.neg (Int.not_lt.mpr c24)
          exact J48  H locs ls w15   hw hT hF hM (lv_sub hl [0, 1, 2] rfl)
  · have c2 : a1.toInt = (-1 : Int) := wk_eq.mp c2
    replace hM := hM.neg (fun q => q c2)
    refine lv_aload_n hx hb dX11_sight_5 rfl (lv_at hl 0 rfl) ?_
    refine tk_getA hC hK hw hT hinX11 kC_at0 (by decide) rfl 4 (by decide) (List.mem_cons_of_mem _ uw_1_7) rfl rfl dX11_sight_6 ?_
    refine lv_iconst (v := 0) hx hb dX11_sight_9 (by decide) ?_
    refine tk_puti hC hK hw hT hinX5 tyX5_ok nmX5 kC_at38 (by decide) rfl rfl 11 (by decide) (List.mem_cons_of_mem _ uw_62_14) rfl rfl rfl rfl (by decide) (by decide) dX11_sight_10 (fun H locs w48 hw hT k50 c49 => ?_)
    replace hM := hM.wr (sI_upc k50 c49 (by decide))
    have hF := hF.put kC_at38 (k := 11) (by decide) k50
    refine lv_iconst (v := 0) hx hb dX11_sight_13 (by decide) ?_
    exact tk_iret hC hr hlocks hK ⟨hT, hF, hM.ret (by decide), (Or.inr ⟨(by decide), (by decide), (show (-1) ≤ a1.toInt by first | with_reducible assumption | omega), (show a1.toInt ≤ 11 by first | with_reducible assumption | omega), ⟨0, c49, (by decide), (by decide)⟩⟩)⟩ hw dX11_sight_14
abbrev Pz_X11_came_1 (ad : Nat → Nat) (cy : Nat → ClassId) (B : Int) (qr : Nat) (s1 : Int) (a1 : Int32) (w0 : va_W) : Int32 → va_W → Prop := fun r u => TW ksC ad cy B qr s1 u ∧ FE ksC [(5, 12, 12), (38, 0, 8)] w0 u ∧ Ev (fun n => m_X11_came n 0 a1.toInt (sI w0)) (r.toInt, sI u) ∧ ((r = (-2)) ∨ (0 ≤ r.toInt ∧ r.toInt ≤ 8 ∧ (-1) ≤ a1.toInt ∧ a1.toInt ≤ 9 ∧ (∃ y : Int32, gi u 38 12 = y ∧ 0 ≤ y.toInt ∧ y.toInt ≤ 8)))
set_option maxHeartbeats 4000000 in
set_option maxRecDepth 100000 in
theorem kz_X11_came_1 (l : Launch) (adK adV : Nat → Nat) (dC : Nat → ClassId) (dI : Nat → Nat → Nat) (cy : Nat → ClassId) (ad : Nat → Nat) (B : Int) (hB0 : 2147483648 ≤ B) (hB1 : B ≤ 1152921504606846976) (qr : Nat) (s1 : Int)  (a1 : Int32) (w0 : va_W) (sz : Nat) (hT : TW ksC ad cy B qr s1 w0)  : Met l yX11_came (wu yX11_came cX11_came 2 (some .int)) ({ frames := 2, cells := 0, slots := 0, locals := 33 }) (va_Pc [.ref (ad 0), .int a1] (wpreS adK adV dC dI cy sz w0)) (va_Qi (Pz_X11_came_1 ad cy B qr s1 a1 w0) (fun u : va_W => wpost dC dI cy (va_A w0 sz) u) (va_A w0 sz)) 0 0 (va_A w0 sz) := by
  refine Met.ofW (cc := cX11_came) (maxL := 2) (ret := (some .int)) (by decide) rfl ?_
  intro p e s m args below meth c s₁ Bk hml hv
  obtain ⟨rfl, ⟨hsz, hP, hK, hD0⟩, hE, hSR⟩ := hv
  have hx := Bk.exec
  have hb := Bk.bytes
  have hr := Bk.returns
  have hlocks := Bk.notSynchronized
  have hC : CallFix p m c cX11_came 2 s _ (wu yX11_came cX11_came 2 (some .int)) RX11 := ⟨hx, hb, hml, findClass_of_methodNamed Bk.named, atoms_spec (ws := (wu yX11_came cX11_came 2 (some .int))) Bk.pre⟩
  subst hsz
  have hD := hD0.self (sz := s.heap.size)
  generalize hAe : va_A w0 s.heap.size = A at hD hE ⊢
  have hA : ∀ q : Nat, s.heap.size ≤ q → A q := fun q h => by rw [← hAe]; exact Or.inr h
  have hw : Wd dC dI A s.heap s.heap [] w0 := ⟨hP, hD, va_S.rf⟩
  have hF : FE ksC [(5, 12, 12), (38, 0, 8)] w0 w0 := FE.rf
  have hl := lv_entry ([.ref (ad 0), .int a1]) (n := 2) (Nat.le_of_ble_eq_true rfl)
  rw [lg_entry_eq]
  generalize (lg_sl ([.ref (ad 0), .int a1]) ++ List.replicate (2 - (lg_sl ([.ref (ad 0), .int a1])).length) Slot.unset).toArray = ls at hl ⊢
  have hl : lv_has ls 2 [(0, .ref (ad 0)), (1, .int a1)] := hl
  generalize hloc : ([] : List Loc) = locs at hw ⊢
  have hinX11 : ∀ w ∈ u_ws RX11 TX11 13, w ∈ (wu yX11_came cX11_came 2 (some .int)) := fun _ h => List.mem_cons_of_mem _ (up_70 h)
  have hinX5 : ∀ w ∈ u_ws RX5 TX5 14, w ∈ (wu yX11_came cX11_came 2 (some .int)) := fun _ h => List.mem_cons_of_mem _ (up_76 h)
  have J35 : ∀ (H : Heap) (locs : List Loc) (ls : Array Slot) (w1 : va_W), Wd dC dI A s.heap H locs w1 → TW ksC ad cy B qr s1 w1 → FE ksC [(5, 12, 12), (38, 0, 8)] w0 w1 → TT (fun n => m_X11_came n 0 a1.toInt (sI w0)) (fun n => b_X11_came_35 n 0 (sI w1)) → lv_has ls 2 [(0, .ref (ad 0)), (1, .int a1)] → W p l e ({ frames := 2, cells := 0, slots := 0, locals := 33 }) s m (List.toArray [.ref (ad 0), .int a1]) below meth c H locs 0 0 (MQ below (va_Qi (Pz_X11_came_1 ad cy B qr s1 a1 w0) (fun u : va_W => wpost dC dI cy A u) A) (List.toArray [.ref (ad 0), .int a1]) s 0 0 A) (F0 m 35 ls []) := by
    intro H locs ls w1 hw hT hF hM hl
    refine lv_bipush (v := (-2)) hx hb dX11_came_35 (by decide) ?_
    exact tk_iret hC hr hlocks hK ⟨hT, hF, hM.ret (by decide), (Or.inl rfl)⟩ hw dX11_came_37
  have hM : TT (fun n => m_X11_came n 0 a1.toInt (sI w0)) (fun n => m_X11_came n 0 a1.toInt (sI w0)) := TT.rf
  refine lv_iload_n hx hb dX11_came_0 rfl (lv_at hl 1 rfl) ?_
  refine lv_iconst (v := (-1)) hx hb dX11_came_1 (by decide) ?_
  refine lv_icmp_ne (tgt := 15) hx hb dX11_came_2 (by decide) (fun c2 => ?_) (fun c2 => ?_)
  · have c2 : ¬ a1.toInt = (-1 : Int) := wk_eqF c2
    replace hM := hM.pos c2
    refine lv_aload_n hx hb dX11_came_15 rfl (lv_at hl 0 rfl) ?_
    refine lv_iload_n hx hb dX11_came_16 rfl (lv_at hl 1 rfl) ?_
    refine tk_Vi hC hK hw hT hA hE hSR kC_at0 (by decide) rfl (kz_X11_hasCorner_1 l adK adV dC dI cy ad B hB0 (Int.le_trans hB1 (by decide)) qr s1   a1 w0 s.heap.size hT ) (cwV 1 hC.2.2.2.2 uV_RX11_176 rfl rfl rfl (by decide +kernel) ⟨Nat.le_of_ble_eq_true rfl, Nat.le_of_ble_eq_true rfl⟩) rfl hl.1 rfl (Nat.le_of_ble_eq_true rfl) dX11_came_17 (fun r3 w5 H locs hp4 hw => ?_)
    obtain ⟨hT, k6, hv12, hg11⟩ := hp4
    have hF := hF.tr k6 (by decide)
    rcases hg11 with rfl | ⟨rfl, g7, g8, ⟨x9, c10, rx9, tx9⟩⟩
    · replace hM := hM.call (r' := 0) hv12 (by decide)
      refine lv_if_eq (tgt := 35) hx hb dX11_came_20 (by decide) (fun _ => ?_) (fun c => absurd (by decide) c)
      replace hM := hM.pos (by decide)
      exact J35  H locs ls w5   hw hT hF hM (lv_sub hl [0, 1] rfl)
    · replace hM := hM.call (r' := 1) hv12 (by decide)
      refine lv_if_eq (tgt := 35) hx hb dX11_came_20 (by decide) (fun c => absurd c (by decide)) (fun _ => ?_)
      replace hM := hM.neg (by decide)
      refine lv_aload_n hx hb dX11_came_23 rfl (lv_at hl 0 rfl) ?_
      refine tk_getA hC hK hw hT hinX11 kC_at0 (by decide) rfl 4 (by decide) (List.mem_cons_of_mem _ uw_1_7) rfl rfl dX11_came_24 ?_
      refine tk_geti hC hK hw hT hinX5 kC_at38 (by decide) rfl 12 (by decide) (List.mem_cons_of_mem _ uw_64_12) rfl rfl dX11_came_27 (fun x13 c14 rx13 tx13 => ?_)
      replace hM := hM.rd (sI_at c14)
      refine lv_bipush (v := 8) hx hb dX11_came_30 (by decide) ?_
      refine lv_icmp_lt (tgt := 38) hx hb dX11_came_32 (by decide) (fun c15 => ?_) (fun c15 => ?_)
      · have c15 : x13.toInt < (8 : Int) := wk_lt.mp c15
        replace hM := hM.pos c15
        refine lv_aload_n hx hb dX11_came_38 rfl (lv_at hl 0 rfl) ?_
        refine tk_getA hC hK hw hT hinX11 kC_at0 (by decide) rfl 4 (by decide) (List.mem_cons_of_mem _ uw_1_7) rfl rfl dX11_came_39 ?_
        refine tk_getO hC hK hw hT hinX5 kC_at38 (by decide) rfl 7 (by decide) (List.mem_cons_of_mem _ uw_64_13) rfl rfl dX11_came_42 ?_
        refine lv_aload_n hx hb dX11_came_45 rfl (lv_at hl 0 rfl) ?_
        refine tk_getA hC hK hw hT hinX11 kC_at0 (by decide) rfl 4 (by decide) (List.mem_cons_of_mem _ uw_1_7) rfl rfl dX11_came_46 ?_
        refine tk_geti hC hK hw hT hinX5 kC_at38 (by decide) rfl 12 (by decide) (List.mem_cons_of_mem _ uw_64_12) rfl rfl dX11_came_49 (fun x16 c17 rx16 tx16 => ?_)
        refine wk_top x13 (c17.symm.trans c14) ?_
        replace hM := hM.rd (sI_at c14)
        refine lv_iload_n hx hb dX11_came_52 rfl (lv_at hl 1 rfl) ?_
        refine tk_iast hC hK hw hT kC_at54 (by decide) rfl rfl (show 0 ≤ x13.toInt from rx13) (show x13.toInt < 8 by first | with_reducible assumption | omega) (wk_i32 a1).1 (wk_i32 a1).2 dX11_came_53 (fun H locs w18 hw hT k20 c19 => ?_)
        replace hM := hM.wr (sI_up k20 c19)
        have hF := hF.put kC_at54 (inE_of (a := 0) (b := 8) (by decide) (show 0 ≤ x13.toInt.toNat by omega) (show x13.toInt.toNat ≤ 8 by omega)) k20
        have c21 := k20.gi (Or.inl (tk_ne kC_at39 kC_at54 (by decide))) c10
        have c22 := k20.gi (Or.inl (tk_ne kC_at38 kC_at54 (by decide))) c14
        refine lv_aload_n hx hb dX11_came_54 rfl (lv_at hl 0 rfl) ?_
        refine tk_getA hC hK hw hT hinX11 kC_at0 (by decide) rfl 4 (by decide) (List.mem_cons_of_mem _ uw_1_7) rfl rfl dX11_came_55 ?_
        refine lv_dup hx hb dX11_came_58 rfl ?_
        refine tk_geti hC hK hw hT hinX5 kC_at38 (by decide) rfl 12 (by decide) (List.mem_cons_of_mem _ uw_64_12) rfl rfl dX11_came_59 (fun x23 c24 rx23 tx23 => ?_)
        refine wk_top x13 (c24.symm.trans c22) ?_
        replace hM := hM.rd (sI_at c22)
        refine lv_iconst (v := 1) hx hb dX11_came_62 (by decide) ?_
        refine lv_iadd hx hb dX11_came_63 ?_
        refine lv_topi (fun x25 ex25 => ?_)
        have ezx25 := ex25
        have ex25 : x25.toInt = x13.toInt + (1 : Int) := by rw [ex25]; exact wk_add (show (-2147483648) ≤ x13.toInt + (1 : Int) by omega) (show x13.toInt + (1 : Int) ≤ 2147483647 by omega)
        replace hM := hM.lt ex25.symm
        refine tk_puti hC hK hw hT hinX5 tyX5_ok nmX5 kC_at38 (by decide) rfl rfl 12 (by decide) (List.mem_cons_of_mem _ uw_64_12) rfl rfl rfl rfl (show 0 ≤ x25.toInt by first | with_reducible assumption | omega) (show x25.toInt ≤ 8 by first | with_reducible assumption | omega) dX11_came_64 (fun H locs w26 hw hT k28 c27 => ?_)
        replace hM := hM.wr (sI_up k28 c27)
        have hF := hF.put kC_at38 (k := 12) (by decide) k28
        have c29 := k28.gi (Or.inr (by decide)) c21
        refine lv_aload_n hx hb dX11_came_67 rfl (lv_at hl 0 rfl) ?_
        refine tk_getA hC hK hw hT hinX11 kC_at0 (by decide) rfl 4 (by decide) (List.mem_cons_of_mem _ uw_1_7) rfl rfl dX11_came_68 ?_
        refine tk_geti hC hK hw hT hinX5 kC_at38 (by decide) rfl 12 (by decide) (List.mem_cons_of_mem _ uw_64_12) rfl rfl dX11_came_71 (fun x30 c31 rx30 tx30 => ?_)
        refine wk_top x25 (c31.symm.trans c27) ?_
        replace hM := hM.rd (sI_at c27)
        exact tk_iret hC hr hlocks hK ⟨hT, hF, hM.ret rfl, (Or.inr ⟨(show 0 ≤ x25.toInt by first | with_reducible assumption | omega), (show x25.toInt ≤ 8 by first | with_reducible assumption | omega), (show (-1) ≤ a1.toInt by first | with_reducible assumption | omega), (show a1.toInt ≤ 9 by first | with_reducible assumption | omega), ⟨x25, c27, (show 0 ≤ x25.toInt by first | with_reducible assumption | omega), (show x25.toInt ≤ 8 by first | with_reducible assumption | omega)⟩⟩)⟩ hw dX11_came_74
      · have c15 : (8 : Int) ≤ x13.toInt := wk_ltF c15
        replace hM := hM.neg (Int.not_lt.mpr c15)
        exact J35  H locs ls w5   hw hT hF hM (lv_sub hl [0, 1] rfl)
  · have c2 : a1.toInt = (-1 : Int) := wk_eq.mp c2
    replace hM := hM.neg (fun q => q c2)
    refine lv_aload_n hx hb dX11_came_5 rfl (lv_at hl 0 rfl) ?_
    refine tk_getA hC hK hw hT hinX11 kC_at0 (by decide) rfl 4 (by decide) (List.mem_cons_of_mem _ uw_1_7) rfl rfl dX11_came_6 ?_
    refine lv_iconst (v := 0) hx hb dX11_came_9 (by decide) ?_
    refine tk_puti hC hK hw hT hinX5 tyX5_ok nmX5 kC_at38 (by decide) rfl rfl 12 (by decide) (List.mem_cons_of_mem _ uw_64_12) rfl rfl rfl rfl (by decide) (by decide) dX11_came_10 (fun H locs w32 hw hT k34 c33 => ?_)
    replace hM := hM.wr (sI_upc k34 c33 (by decide))
    have hF := hF.put kC_at38 (k := 12) (by decide) k34
    refine lv_iconst (v := 0) hx hb dX11_came_13 (by decide) ?_
    exact tk_iret hC hr hlocks hK ⟨hT, hF, hM.ret (by decide), (Or.inr ⟨(by decide), (by decide), (show (-1) ≤ a1.toInt by first | with_reducible assumption | omega), (show a1.toInt ≤ 9 by first | with_reducible assumption | omega), ⟨0, c33, (by decide), (by decide)⟩⟩)⟩ hw dX11_came_14
abbrev Pz_X7_daysWith_1 (ad : Nat → Nat) (cy : Nat → ClassId) (B : Int) (qr : Nat) (s1 : Int) (a1 : Int32) (a2 : Int32) (w0 : va_W) : Int32 → va_W → Prop := fun r u => TW ksC ad cy B qr s1 u ∧ FE ksC ([] : List (Nat × Nat × Nat)) w0 u ∧ Ev (fun n => m_X7_daysWith n 39 a1.toInt a2.toInt (sI w0)) (r.toInt, sI u) ∧ ((True))
set_option maxHeartbeats 4000000 in
set_option maxRecDepth 100000 in
theorem kz_X7_daysWith_1 (l : Launch) (adK adV : Nat → Nat) (dC : Nat → ClassId) (dI : Nat → Nat → Nat) (cy : Nat → ClassId) (ad : Nat → Nat) (B : Int) (hB0 : 2147483648 ≤ B) (hB1 : B ≤ 1152921504606846976) (qr : Nat) (s1 : Int)  (a1 : Int32) (ra1 : 0 ≤ a1.toInt) (ta1 : a1.toInt ≤ 11) (a2 : Int32) (ra2 : 1 ≤ a2.toInt) (ta2 : a2.toInt ≤ 3) (w0 : va_W) (sz : Nat) (hT : TW ksC ad cy B qr s1 w0)  : Met l yX7_daysWith (wu yX7_daysWith cX7_daysWith 5 (some .int)) ({ frames := 2, cells := 0, slots := 0, locals := 34 }) (va_Pc [.ref (ad 39), .int a1, .int a2] (wpreS adK adV dC dI cy sz w0)) (va_Qi (Pz_X7_daysWith_1 ad cy B qr s1 a1 a2 w0) (fun u : va_W => wpost dC dI cy (va_A w0 sz) u) (va_A w0 sz)) 0 0 (va_A w0 sz) := by
  refine Met.ofW (cc := cX7_daysWith) (maxL := 5) (ret := (some .int)) (by decide) rfl ?_
  intro p e s m args below meth c s₁ Bk hml hv
  obtain ⟨rfl, ⟨hsz, hP, hK, hD0⟩, hE, hSR⟩ := hv
  have hx := Bk.exec
  have hb := Bk.bytes
  have hr := Bk.returns
  have hlocks := Bk.notSynchronized
  have hC : CallFix p m c cX7_daysWith 5 s _ (wu yX7_daysWith cX7_daysWith 5 (some .int)) RX7 := ⟨hx, hb, hml, findClass_of_methodNamed Bk.named, atoms_spec (ws := (wu yX7_daysWith cX7_daysWith 5 (some .int))) Bk.pre⟩
  subst hsz
  have hD := hD0.self (sz := s.heap.size)
  generalize hAe : va_A w0 s.heap.size = A at hD hE ⊢
  have hA : ∀ q : Nat, s.heap.size ≤ q → A q := fun q h => by rw [← hAe]; exact Or.inr h
  have hw : Wd dC dI A s.heap s.heap [] w0 := ⟨hP, hD, va_S.rf⟩
  have hF : FE ksC ([] : List (Nat × Nat × Nat)) w0 w0 := FE.rf
  have hl := lv_entry ([.ref (ad 39), .int a1, .int a2]) (n := 5) (Nat.le_of_ble_eq_true rfl)
  rw [lg_entry_eq]
  generalize (lg_sl ([.ref (ad 39), .int a1, .int a2]) ++ List.replicate (5 - (lg_sl ([.ref (ad 39), .int a1, .int a2])).length) Slot.unset).toArray = ls at hl ⊢
  have hl : lv_has ls 5 [(0, .ref (ad 39)), (1, .int a1), (2, .int a2)] := hl
  generalize hloc : ([] : List Loc) = locs at hw ⊢
  have L5 : ∀ (n5 : Nat) (v5_3 : Int32) (v5_4 : Int32) (H : Heap) (locs : List Loc) (ls : Array Slot) (w1 : va_W), 0 ≤ a1.toInt → a1.toInt ≤ 11 → 1 ≤ a2.toInt → a2.toInt ≤ 3 → 0 ≤ v5_4.toInt → v5_4.toInt ≤ 7 → (7 - v5_4.toInt).toNat < n5 → Wd dC dI A s.heap H locs w1 → TW ksC ad cy B qr s1 w1 → FE ksC ([] : List (Nat × Nat × Nat)) w0 w1 → TT (fun n => m_X7_daysWith n 39 a1.toInt a2.toInt (sI w0)) (fun n => j_X7_daysWith 39 n 5 [a1.toInt, a2.toInt, v5_3.toInt, v5_4.toInt] (sI w1)) → lv_has ls 5 [(0, .ref (ad 39)), (1, .int a1), (2, .int a2), (3, .int v5_3), (4, .int v5_4)] → W p l e ({ frames := 2, cells := 0, slots := 0, locals := 34 }) s m (List.toArray [.ref (ad 39), .int a1, .int a2]) below meth c H locs 0 0 (MQ below (va_Qi (Pz_X7_daysWith_1 ad cy B qr s1 a1 a2 w0) (fun u : va_W => wpost dC dI cy A u) A) (List.toArray [.ref (ad 39), .int a1, .int a2]) s 0 0 A) (F0 m 5 ls []) := by
    intro n5
    induction n5 with
    | zero => intro v5_3 v5_4 H locs ls w1 r2 t3 r4 t5 r6 t7 hm5 hw hT hF hM hl; omega
    | succ n5 ih5 =>
      intro v5_3 v5_4 H locs ls w1 r2 t3 r4 t5 r6 t7 hm5 hw hT hF hM hl
      have J26 : ∀ (v26_3 : Int32) (H : Heap) (locs : List Loc) (ls : Array Slot) (w8 : va_W), 0 ≤ a1.toInt → a1.toInt ≤ 11 → 1 ≤ a2.toInt → a2.toInt ≤ 3 → 0 ≤ v5_4.toInt → v5_4.toInt ≤ 6 → Wd dC dI A s.heap H locs w8 → TW ksC ad cy B qr s1 w8 → FE ksC ([] : List (Nat × Nat × Nat)) w0 w8 → TT (fun n => m_X7_daysWith n 39 a1.toInt a2.toInt (sI w0)) (fun n => b_X7_daysWith_26 (j_X7_daysWith 39 n) n 39 (a1.toInt) (a2.toInt) (v26_3.toInt) (v5_4.toInt) (sI w8)) → lv_has ls 5 [(0, .ref (ad 39)), (1, .int a1), (2, .int a2), (3, .int v26_3), (4, .int v5_4)] → W p l e ({ frames := 2, cells := 0, slots := 0, locals := 34 }) s m (List.toArray [.ref (ad 39), .int a1, .int a2]) below meth c H locs 0 0 (MQ below (va_Qi (Pz_X7_daysWith_1 ad cy B qr s1 a1 a2 w0) (fun u : va_W => wpost dC dI cy A u) A) (List.toArray [.ref (ad 39), .int a1, .int a2]) s 0 0 A) (F0 m 26 ls []) := by
        intro v26_3 H locs ls w8 r9 t10 r11 t12 r13 t14 hw hT hF hM hl
        obtain ⟨x15, ex15⟩ : ∃ y : Int32, y = v5_4 + Int32.ofInt 1 := ⟨_, rfl⟩
        have erx15 := ex15
        refine lv_iinc (v := x15) (lv' := [(4, .int x15), (0, .ref (ad 39)), (1, .int a1), (2, .int a2), (3, .int v26_3)]) hx hb dX7_daysWith_26 hl (k := 4) rfl ex15.symm (by decide) rfl (fun ls hl => ?_)
        have ex15 : x15.toInt = v5_4.toInt + 1 := by rw [ex15]; exact wk_add (y := 1) (show -2147483648 ≤ v5_4.toInt + 1 by omega) (show v5_4.toInt + 1 ≤ 2147483647 by omega)
        replace hM := hM.lt ex15.symm
        refine lv_goto (tgt := 5) hx hb dX7_daysWith_29 (by decide) ?_
        exact ih5 v26_3 x15 H locs ls w8 (show 0 ≤ a1.toInt from r9) (show a1.toInt ≤ 11 from t10) (show 1 ≤ a2.toInt from r11) (show a2.toInt ≤ 3 from t12) (show 0 ≤ x15.toInt by first | with_reducible assumption | omega) (show x15.toInt ≤ 7 by first | with_reducible assumption | omega) (show (7 - x15.toInt).toNat < n5 by first | exact tn_lt hm5 (by omega) (by omega) | omega) hw hT hF hM (lv_sub hl [1, 2, 3, 4, 0] rfl)
      replace hM := hM.suc (fun _ => e_X7_daysWith_5)
      refine lv_iload hx hb dX7_daysWith_5 (lv_at hl 4 rfl) ?_
      refine lv_bipush (v := 7) hx hb dX7_daysWith_7 (by decide) ?_
      refine lv_icmp_ge (tgt := 32) hx hb dX7_daysWith_9 (by decide) (fun c16 => ?_) (fun c16 => ?_)
      · have c16 : (7 : Int) ≤ v5_4.toInt := wk_le.mp c16
        replace hM := hM.pos c16
        refine lv_iload_n hx hb dX7_daysWith_32 rfl (lv_at hl 3 rfl) ?_
        exact tk_iret hC hr hlocks hK ⟨hT, hF, hM.ret rfl, trivial⟩ hw dX7_daysWith_33
      · have c16 : v5_4.toInt < (7 : Int) := wk_leF c16
        replace hM := hM.neg (Int.not_le.mpr c16)
        refine lv_aload_n hx hb dX7_daysWith_12 rfl (lv_at hl 0 rfl) ?_
        refine lv_iload_n hx hb dX7_daysWith_13 rfl (lv_at hl 1 rfl) ?_
        refine lv_iload hx hb dX7_daysWith_14 (lv_at hl 4 rfl) ?_
        refine tk_Vi hC hK hw hT hA hE hSR kC_at39 (by decide) rfl (kz_X7_signOn_1 l adK adV dC dI cy ad B hB0 (Int.le_trans hB1 (by decide)) qr s1   a1 (show 0 ≤ a1.toInt from r2) (show a1.toInt ≤ 11 from t3) v5_4 (show 0 ≤ v5_4.toInt from r6) (show v5_4.toInt ≤ 6 by first | with_reducible assumption | omega) w1 H.size hT ) (cwV 2 hC.2.2.2.2 uV_RX7_155 rfl rfl rfl (by decide +kernel) ⟨Nat.le_of_ble_eq_true rfl, Nat.le_of_ble_eq_true rfl⟩) rfl hl.1 rfl (Nat.le_of_ble_eq_true rfl) dX7_daysWith_16 (fun r17 w19 H locs hp18 hw => ?_)
        obtain ⟨hT, k20, hv24, hg23⟩ := hp18
        have hF := hF.tr k20 (by decide)
        obtain ⟨g21, g22⟩ := hg23
        replace hM := hM.call hv24 rfl
        refine lv_iload_n hx hb dX7_daysWith_19 rfl (lv_at hl 2 rfl) ?_
        refine lv_icmp_ne (tgt := 26) hx hb dX7_daysWith_20 (by decide) (fun c25 => ?_) (fun c25 => ?_)
        · have c25 : ¬ r17.toInt = a2.toInt := wk_eqF c25
          replace hM := hM.pos c25
          exact J26 v5_3 H locs ls w19 (show 0 ≤ a1.toInt from r2) (show a1.toInt ≤ 11 from t3) (show 1 ≤ a2.toInt from r4) (show a2.toInt ≤ 3 from t5) (show 0 ≤ v5_4.toInt from r6) (show v5_4.toInt ≤ 6 by first | with_reducible assumption | omega)  hw hT hF hM (lv_sub hl [0, 1, 2, 3, 4] rfl)
        · have c25 : r17.toInt = a2.toInt := wk_eq.mp c25
          replace hM := hM.neg (fun q => q c25)
          have nx27 := wk_i32 v5_3
          obtain ⟨x26, ex26⟩ : ∃ y : Int32, y = v5_3 + Int32.ofInt 1 := ⟨_, rfl⟩
          have erx26 := ex26
          refine lv_iinc (v := x26) (lv' := [(3, .int x26), (0, .ref (ad 39)), (1, .int a1), (2, .int a2), (4, .int v5_4)]) hx hb dX7_daysWith_23 hl (k := 3) rfl ex26.symm (by decide) rfl (fun ls hl => ?_)
          replace hM := hM.lt (o32_e (f := fun x y => x + y) erx26 rfl (by decide))
          exact J26 x26 H locs ls w19 (show 0 ≤ a1.toInt from r2) (show a1.toInt ≤ 11 from t3) (show 1 ≤ a2.toInt from r4) (show a2.toInt ≤ 3 from t5) (show 0 ≤ v5_4.toInt from r6) (show v5_4.toInt ≤ 6 by first | with_reducible assumption | omega)  hw hT hF hM (lv_sub hl [1, 2, 3, 0, 4] rfl)
  have hM : TT (fun n => m_X7_daysWith n 39 a1.toInt a2.toInt (sI w0)) (fun n => m_X7_daysWith n 39 a1.toInt a2.toInt (sI w0)) := TT.rf
  refine lv_iconst (v := 0) hx hb dX7_daysWith_0 (by decide) ?_
  refine lv_istore_n (lv' := [(3, .int 0), (0, .ref (ad 39)), (1, .int a1), (2, .int a2)]) hx hb dX7_daysWith_1 rfl hl (by decide) rfl (fun ls hl => ?_)
  refine lv_iconst (v := 0) hx hb dX7_daysWith_2 (by decide) ?_
  refine lv_istore (lv' := [(4, .int 0), (3, .int 0), (0, .ref (ad 39)), (1, .int a1), (2, .int a2)]) hx hb dX7_daysWith_3 hl (by decide) rfl (fun ls hl => ?_)
  exact L5 ((7 - (0 : Int)).toNat + 1) 0 0 s.heap locs ls w0 (show 0 ≤ a1.toInt from ra1) (show a1.toInt ≤ 11 from ta1) (show 1 ≤ a2.toInt from ra2) (show a2.toInt ≤ 3 from ta2) (by decide) (by decide) (Nat.lt_succ_self _) hw hT hF hM (lv_sub hl [2, 3, 4, 1, 0] rfl)
abbrev Pz_X7_daysWith_2 (ad : Nat → Nat) (cy : Nat → ClassId) (B : Int) (qr : Nat) (s1 : Int) (a1 : Int32) (a2 : Int32) (w0 : va_W) : Int32 → va_W → Prop := fun r u => TW ksC ad cy B qr s1 u ∧ FE ksC ([] : List (Nat × Nat × Nat)) w0 u ∧ Ev (fun n => m_X7_daysWith n 39 a1.toInt a2.toInt (sI w0)) (r.toInt, sI u) ∧ ((True))
set_option maxHeartbeats 4000000 in
set_option maxRecDepth 100000 in
theorem kz_X7_daysWith_2 (l : Launch) (adK adV : Nat → Nat) (dC : Nat → ClassId) (dI : Nat → Nat → Nat) (cy : Nat → ClassId) (ad : Nat → Nat) (B : Int) (hB0 : 2147483648 ≤ B) (hB1 : B ≤ 1152921504606846976) (qr : Nat) (s1 : Int)  (a1 : Int32) (ra1 : 0 ≤ a1.toInt) (ta1 : a1.toInt ≤ 11) (a2 : Int32) (ra2 : 0 ≤ a2.toInt) (ta2 : a2.toInt ≤ 3) (w0 : va_W) (sz : Nat) (hT : TW ksC ad cy B qr s1 w0)  : Met l yX7_daysWith (wu yX7_daysWith cX7_daysWith 5 (some .int)) ({ frames := 2, cells := 0, slots := 0, locals := 34 }) (va_Pc [.ref (ad 39), .int a1, .int a2] (wpreS adK adV dC dI cy sz w0)) (va_Qi (Pz_X7_daysWith_2 ad cy B qr s1 a1 a2 w0) (fun u : va_W => wpost dC dI cy (va_A w0 sz) u) (va_A w0 sz)) 0 0 (va_A w0 sz) := by
  refine Met.ofW (cc := cX7_daysWith) (maxL := 5) (ret := (some .int)) (by decide) rfl ?_
  intro p e s m args below meth c s₁ Bk hml hv
  obtain ⟨rfl, ⟨hsz, hP, hK, hD0⟩, hE, hSR⟩ := hv
  have hx := Bk.exec
  have hb := Bk.bytes
  have hr := Bk.returns
  have hlocks := Bk.notSynchronized
  have hC : CallFix p m c cX7_daysWith 5 s _ (wu yX7_daysWith cX7_daysWith 5 (some .int)) RX7 := ⟨hx, hb, hml, findClass_of_methodNamed Bk.named, atoms_spec (ws := (wu yX7_daysWith cX7_daysWith 5 (some .int))) Bk.pre⟩
  subst hsz
  have hD := hD0.self (sz := s.heap.size)
  generalize hAe : va_A w0 s.heap.size = A at hD hE ⊢
  have hA : ∀ q : Nat, s.heap.size ≤ q → A q := fun q h => by rw [← hAe]; exact Or.inr h
  have hw : Wd dC dI A s.heap s.heap [] w0 := ⟨hP, hD, va_S.rf⟩
  have hF : FE ksC ([] : List (Nat × Nat × Nat)) w0 w0 := FE.rf
  have hl := lv_entry ([.ref (ad 39), .int a1, .int a2]) (n := 5) (Nat.le_of_ble_eq_true rfl)
  rw [lg_entry_eq]
  generalize (lg_sl ([.ref (ad 39), .int a1, .int a2]) ++ List.replicate (5 - (lg_sl ([.ref (ad 39), .int a1, .int a2])).length) Slot.unset).toArray = ls at hl ⊢
  have hl : lv_has ls 5 [(0, .ref (ad 39)), (1, .int a1), (2, .int a2)] := hl
  generalize hloc : ([] : List Loc) = locs at hw ⊢
  have L5 : ∀ (n5 : Nat) (v5_3 : Int32) (v5_4 : Int32) (H : Heap) (locs : List Loc) (ls : Array Slot) (w1 : va_W), 0 ≤ a1.toInt → a1.toInt ≤ 11 → 0 ≤ a2.toInt → a2.toInt ≤ 3 → 0 ≤ v5_4.toInt → v5_4.toInt ≤ 7 → (7 - v5_4.toInt).toNat < n5 → Wd dC dI A s.heap H locs w1 → TW ksC ad cy B qr s1 w1 → FE ksC ([] : List (Nat × Nat × Nat)) w0 w1 → TT (fun n => m_X7_daysWith n 39 a1.toInt a2.toInt (sI w0)) (fun n => j_X7_daysWith 39 n 5 [a1.toInt, a2.toInt, v5_3.toInt, v5_4.toInt] (sI w1)) → lv_has ls 5 [(0, .ref (ad 39)), (1, .int a1), (2, .int a2), (3, .int v5_3), (4, .int v5_4)] → W p l e ({ frames := 2, cells := 0, slots := 0, locals := 34 }) s m (List.toArray [.ref (ad 39), .int a1, .int a2]) below meth c H locs 0 0 (MQ below (va_Qi (Pz_X7_daysWith_2 ad cy B qr s1 a1 a2 w0) (fun u : va_W => wpost dC dI cy A u) A) (List.toArray [.ref (ad 39), .int a1, .int a2]) s 0 0 A) (F0 m 5 ls []) := by
    intro n5
    induction n5 with
    | zero => intro v5_3 v5_4 H locs ls w1 r2 t3 r4 t5 r6 t7 hm5 hw hT hF hM hl; omega
    | succ n5 ih5 =>
      intro v5_3 v5_4 H locs ls w1 r2 t3 r4 t5 r6 t7 hm5 hw hT hF hM hl
      have J26 : ∀ (v26_3 : Int32) (H : Heap) (locs : List Loc) (ls : Array Slot) (w8 : va_W), 0 ≤ a1.toInt → a1.toInt ≤ 11 → 0 ≤ a2.toInt → a2.toInt ≤ 3 → 0 ≤ v5_4.toInt → v5_4.toInt ≤ 6 → Wd dC dI A s.heap H locs w8 → TW ksC ad cy B qr s1 w8 → FE ksC ([] : List (Nat × Nat × Nat)) w0 w8 → TT (fun n => m_X7_daysWith n 39 a1.toInt a2.toInt (sI w0)) (fun n => b_X7_daysWith_26 (j_X7_daysWith 39 n) n 39 (a1.toInt) (a2.toInt) (v26_3.toInt) (v5_4.toInt) (sI w8)) → lv_has ls 5 [(0, .ref (ad 39)), (1, .int a1), (2, .int a2), (3, .int v26_3), (4, .int v5_4)] → W p l e ({ frames := 2, cells := 0, slots := 0, locals := 34 }) s m (List.toArray [.ref (ad 39), .int a1, .int a2]) below meth c H locs 0 0 (MQ below (va_Qi (Pz_X7_daysWith_2 ad cy B qr s1 a1 a2 w0) (fun u : va_W => wpost dC dI cy A u) A) (List.toArray [.ref (ad 39), .int a1, .int a2]) s 0 0 A) (F0 m 26 ls []) := by
        intro v26_3 H locs ls w8 r9 t10 r11 t12 r13 t14 hw hT hF hM hl
        obtain ⟨x15, ex15⟩ : ∃ y : Int32, y = v5_4 + Int32.ofInt 1 := ⟨_, rfl⟩
        have erx15 := ex15
        refine lv_iinc (v := x15) (lv' := [(4, .int x15), (0, .ref (ad 39)), (1, .int a1), (2, .int a2), (3, .int v26_3)]) hx hb dX7_daysWith_26 hl (k := 4) rfl ex15.symm (by decide) rfl (fun ls hl => ?_)
        have ex15 : x15.toInt = v5_4.toInt + 1 := by rw [ex15]; exact wk_add (y := 1) (show -2147483648 ≤ v5_4.toInt + 1 by omega) (show v5_4.toInt + 1 ≤ 2147483647 by omega)
        replace hM := hM.lt ex15.symm
        refine lv_goto (tgt := 5) hx hb dX7_daysWith_29 (by decide) ?_
        exact ih5 v26_3 x15 H locs ls w8 (show 0 ≤ a1.toInt from r9) (show a1.toInt ≤ 11 from t10) (show 0 ≤ a2.toInt from r11) (show a2.toInt ≤ 3 from t12) (show 0 ≤ x15.toInt by first | with_reducible assumption | omega) (show x15.toInt ≤ 7 by first | with_reducible assumption | omega) (show (7 - x15.toInt).toNat < n5 by first | exact tn_lt hm5 (by omega) (by omega) | omega) hw hT hF hM (lv_sub hl [1, 2, 3, 4, 0] rfl)
      replace hM := hM.suc (fun _ => e_X7_daysWith_5)
      refine lv_iload hx hb dX7_daysWith_5 (lv_at hl 4 rfl) ?_
      refine lv_bipush (v := 7) hx hb dX7_daysWith_7 (by decide) ?_
      refine lv_icmp_ge (tgt := 32) hx hb dX7_daysWith_9 (by decide) (fun c16 => ?_) (fun c16 => ?_)
      · have c16 : (7 : Int) ≤ v5_4.toInt := wk_le.mp c16
        replace hM := hM.pos c16
        refine lv_iload_n hx hb dX7_daysWith_32 rfl (lv_at hl 3 rfl) ?_
        exact tk_iret hC hr hlocks hK ⟨hT, hF, hM.ret rfl, trivial⟩ hw dX7_daysWith_33
      · have c16 : v5_4.toInt < (7 : Int) := wk_leF c16
        replace hM := hM.neg (Int.not_le.mpr c16)
        refine lv_aload_n hx hb dX7_daysWith_12 rfl (lv_at hl 0 rfl) ?_
        refine lv_iload_n hx hb dX7_daysWith_13 rfl (lv_at hl 1 rfl) ?_
        refine lv_iload hx hb dX7_daysWith_14 (lv_at hl 4 rfl) ?_
        refine tk_Vi hC hK hw hT hA hE hSR kC_at39 (by decide) rfl (kz_X7_signOn_1 l adK adV dC dI cy ad B hB0 (Int.le_trans hB1 (by decide)) qr s1   a1 (show 0 ≤ a1.toInt from r2) (show a1.toInt ≤ 11 from t3) v5_4 (show 0 ≤ v5_4.toInt from r6) (show v5_4.toInt ≤ 6 by first | with_reducible assumption | omega) w1 H.size hT ) (cwV 2 hC.2.2.2.2 uV_RX7_155 rfl rfl rfl (by decide +kernel) ⟨Nat.le_of_ble_eq_true rfl, Nat.le_of_ble_eq_true rfl⟩) rfl hl.1 rfl (Nat.le_of_ble_eq_true rfl) dX7_daysWith_16 (fun r17 w19 H locs hp18 hw => ?_)
        obtain ⟨hT, k20, hv24, hg23⟩ := hp18
        have hF := hF.tr k20 (by decide)
        obtain ⟨g21, g22⟩ := hg23
        replace hM := hM.call hv24 rfl
        refine lv_iload_n hx hb dX7_daysWith_19 rfl (lv_at hl 2 rfl) ?_
        refine lv_icmp_ne (tgt := 26) hx hb dX7_daysWith_20 (by decide) (fun c25 => ?_) (fun c25 => ?_)
        · have c25 : ¬ r17.toInt = a2.toInt := wk_eqF c25
          replace hM := hM.pos c25
          exact J26 v5_3 H locs ls w19 (show 0 ≤ a1.toInt from r2) (show a1.toInt ≤ 11 from t3) (show 0 ≤ a2.toInt from r4) (show a2.toInt ≤ 3 from t5) (show 0 ≤ v5_4.toInt from r6) (show v5_4.toInt ≤ 6 by first | with_reducible assumption | omega)  hw hT hF hM (lv_sub hl [0, 1, 2, 3, 4] rfl)
        · have c25 : r17.toInt = a2.toInt := wk_eq.mp c25
          replace hM := hM.neg (fun q => q c25)
          have nx27 := wk_i32 v5_3
          obtain ⟨x26, ex26⟩ : ∃ y : Int32, y = v5_3 + Int32.ofInt 1 := ⟨_, rfl⟩
          have erx26 := ex26
          refine lv_iinc (v := x26) (lv' := [(3, .int x26), (0, .ref (ad 39)), (1, .int a1), (2, .int a2), (4, .int v5_4)]) hx hb dX7_daysWith_23 hl (k := 3) rfl ex26.symm (by decide) rfl (fun ls hl => ?_)
          replace hM := hM.lt (o32_e (f := fun x y => x + y) erx26 rfl (by decide))
          exact J26 x26 H locs ls w19 (show 0 ≤ a1.toInt from r2) (show a1.toInt ≤ 11 from t3) (show 0 ≤ a2.toInt from r4) (show a2.toInt ≤ 3 from t5) (show 0 ≤ v5_4.toInt from r6) (show v5_4.toInt ≤ 6 by first | with_reducible assumption | omega)  hw hT hF hM (lv_sub hl [1, 2, 3, 0, 4] rfl)
  have hM : TT (fun n => m_X7_daysWith n 39 a1.toInt a2.toInt (sI w0)) (fun n => m_X7_daysWith n 39 a1.toInt a2.toInt (sI w0)) := TT.rf
  refine lv_iconst (v := 0) hx hb dX7_daysWith_0 (by decide) ?_
  refine lv_istore_n (lv' := [(3, .int 0), (0, .ref (ad 39)), (1, .int a1), (2, .int a2)]) hx hb dX7_daysWith_1 rfl hl (by decide) rfl (fun ls hl => ?_)
  refine lv_iconst (v := 0) hx hb dX7_daysWith_2 (by decide) ?_
  refine lv_istore (lv' := [(4, .int 0), (3, .int 0), (0, .ref (ad 39)), (1, .int a1), (2, .int a2)]) hx hb dX7_daysWith_3 hl (by decide) rfl (fun ls hl => ?_)
  exact L5 ((7 - (0 : Int)).toNat + 1) 0 0 s.heap locs ls w0 (show 0 ≤ a1.toInt from ra1) (show a1.toInt ≤ 11 from ta1) (show 0 ≤ a2.toInt from ra2) (show a2.toInt ≤ 3 from ta2) (by decide) (by decide) (Nat.lt_succ_self _) hw hT hF hM (lv_sub hl [2, 3, 4, 1, 0] rfl)
