abbrev P_X9_tell_1 (ad : Nat → Nat) (cy : Nat → ClassId) (B : Int) (qr : Nat) (s1 : Int) (q0_ : Nat) (a1 : Int32) (w0 : va_W) : Int32 → va_W → Prop := fun r u => TW ksC ad cy B qr s1 u ∧ FE ksC ([] : List (Nat × Nat × Nat)) w0 u ∧ ((3 ≤ a1.toInt) ∨ (0 ≤ r.toInt ∧ r.toInt ≤ 9 ∧ a1.toInt ≤ 2))
set_option maxHeartbeats 4000000 in
set_option maxRecDepth 100000 in
theorem k_X9_tell_1 (l : Launch) (adK adV : Nat → Nat) (dC : Nat → ClassId) (dI : Nat → Nat → Nat) (cy : Nat → ClassId) (ad : Nat → Nat) (B : Int) (hB0 : 2147483648 ≤ B) (hB1 : B ≤ 1152921504606846976) (qr : Nat) (s1 : Int)  (q0_ : Nat) (hkq0_ : ksC[q0_]? = some 9) (a1 : Int32) (ra1 : 0 ≤ a1.toInt) (ta1 : a1.toInt ≤ 7) (w0 : va_W) (sz : Nat) (hT : TW ksC ad cy B qr s1 w0)  : Met l yX9_tell (wu yX9_tell cX9_tell 2 (some .int)) ({ frames := 1, cells := 0, slots := 0, locals := 12 }) (va_Pc [.ref (ad q0_), .int a1] (wpreS adK adV dC dI cy sz w0)) (va_Qi (P_X9_tell_1 ad cy B qr s1 q0_ a1 w0) (fun u : va_W => wpost dC dI cy (va_A w0 sz) u) (va_A w0 sz)) 0 0 (va_A w0 sz) := by
  refine Met.ofW (cc := cX9_tell) (maxL := 2) (ret := (some .int)) (by decide) rfl ?_
  intro p e s m args below meth c s₁ Bk hml hv
  obtain ⟨rfl, ⟨hsz, hP, hK, hD0⟩, hE, hSR⟩ := hv
  have hx := Bk.exec
  have hb := Bk.bytes
  have hr := Bk.returns
  have hlocks := Bk.notSynchronized
  have hC : CallFix p m c cX9_tell 2 s _ (wu yX9_tell cX9_tell 2 (some .int)) RX9 := ⟨hx, hb, hml, findClass_of_methodNamed Bk.named, atoms_spec (ws := (wu yX9_tell cX9_tell 2 (some .int))) Bk.pre⟩
  subst hsz
  have hD := hD0.self (sz := s.heap.size)
  generalize hAe : va_A w0 s.heap.size = A at hD hE ⊢
  have hA : ∀ q : Nat, s.heap.size ≤ q → A q := fun q h => by rw [← hAe]; exact Or.inr h
  have hw : Wd dC dI A s.heap s.heap [] w0 := ⟨hP, hD, va_S.rf⟩
  have hF : FE ksC ([] : List (Nat × Nat × Nat)) w0 w0 := FE.rf
  have hl := lv_entry ([.ref (ad q0_), .int a1]) (n := 2) (Nat.le_of_ble_eq_true rfl)
  rw [lg_entry_eq]
  generalize (lg_sl ([.ref (ad q0_), .int a1]) ++ List.replicate (2 - (lg_sl ([.ref (ad q0_), .int a1])).length) Slot.unset).toArray = ls at hl ⊢
  have hl : lv_has ls 2 [(0, .ref (ad q0_)), (1, .int a1)] := hl
  generalize hloc : ([] : List Loc) = locs at hw ⊢
  have hinX9 : ∀ w ∈ u_ws RX9 TX9 9, w ∈ (wu yX9_tell cX9_tell 2 (some .int)) := fun _ h => List.mem_cons_of_mem _ (up_82 h)
  refine lv_iload_n hx hb dX9_tell_0 rfl (lv_at hl 1 rfl) ?_
  rcases (show a1.toInt = 0 ∨ a1.toInt = 1 ∨ a1.toInt = 2 ∨ a1.toInt = 3 ∨ a1.toInt = 4 ∨ a1.toInt = 5 ∨ a1.toInt = 6 ∨ (a1.toInt < 0 ∨ 6 < a1.toInt) by omega) with c1 | c1 | c1 | c1 | c1 | c1 | c1 | c1
  · refine lv_tableIn (off := 43) (tgt := 44) hx hb dX9_tell_1 (by omega) (by omega) (by rw [c1]; rfl) (by decide) ?_
    refine lv_aload_n hx hb dX9_tell_44 rfl (lv_at hl 0 rfl) ?_
    refine tk_geti hC hK hw hT hinX9 hkq0_ (by decide) rfl 0 (by decide) (List.mem_cons_of_mem _ uw_39_9) rfl rfl dX9_tell_45 (fun x2 c3 rx2 tx2 => ?_)
    exact tk_iret hC hr hlocks hK ⟨hT, hF, (Or.inr ⟨(show 0 ≤ x2.toInt by first | with_reducible assumption | omega), (show x2.toInt ≤ 9 by first | with_reducible assumption | omega), (show a1.toInt ≤ 2 by first | with_reducible assumption | omega)⟩)⟩ hw dX9_tell_48
  · refine lv_tableIn (off := 48) (tgt := 49) hx hb dX9_tell_1 (by omega) (by omega) (by rw [c1]; rfl) (by decide) ?_
    refine lv_aload_n hx hb dX9_tell_49 rfl (lv_at hl 0 rfl) ?_
    refine tk_geti hC hK hw hT hinX9 hkq0_ (by decide) rfl 1 (by decide) (List.mem_cons_of_mem _ uw_39_10) rfl rfl dX9_tell_50 (fun x4 c5 rx4 tx4 => ?_)
    exact tk_iret hC hr hlocks hK ⟨hT, hF, (Or.inr ⟨(show 0 ≤ x4.toInt by first | with_reducible assumption | omega), (show x4.toInt ≤ 9 by first | with_reducible assumption | omega), (show a1.toInt ≤ 2 by first | with_reducible assumption | omega)⟩)⟩ hw dX9_tell_53
  · refine lv_tableIn (off := 53) (tgt := 54) hx hb dX9_tell_1 (by omega) (by omega) (by rw [c1]; rfl) (by decide) ?_
    refine lv_aload_n hx hb dX9_tell_54 rfl (lv_at hl 0 rfl) ?_
    refine tk_geti hC hK hw hT hinX9 hkq0_ (by decide) rfl 2 (by decide) (List.mem_cons_of_mem _ uw_39_11) rfl rfl dX9_tell_55 (fun x6 c7 rx6 tx6 => ?_)
    exact tk_iret hC hr hlocks hK ⟨hT, hF, (Or.inr ⟨(show 0 ≤ x6.toInt by first | with_reducible assumption | omega), (show x6.toInt ≤ 9 by first | with_reducible assumption | omega), (show a1.toInt ≤ 2 by first | with_reducible assumption | omega)⟩)⟩ hw dX9_tell_58
  · refine lv_tableIn (off := 58) (tgt := 59) hx hb dX9_tell_1 (by omega) (by omega) (by rw [c1]; rfl) (by decide) ?_
    refine lv_aload_n hx hb dX9_tell_59 rfl (lv_at hl 0 rfl) ?_
    refine tk_geti hC hK hw hT hinX9 hkq0_ (by decide) rfl 3 (by decide) (List.mem_cons_of_mem _ uw_39_12) rfl rfl dX9_tell_60 (fun x8 c9 rx8 tx8 => ?_)
    exact tk_iret hC hr hlocks hK ⟨hT, hF, (Or.inl (show 3 ≤ a1.toInt by first | with_reducible assumption | omega))⟩ hw dX9_tell_63
  · refine lv_tableIn (off := 63) (tgt := 64) hx hb dX9_tell_1 (by omega) (by omega) (by rw [c1]; rfl) (by decide) ?_
    refine lv_aload_n hx hb dX9_tell_64 rfl (lv_at hl 0 rfl) ?_
    refine tk_getB hC hK hw hT hinX9 hkq0_ (by decide) rfl 4 (by decide) (List.mem_cons_of_mem _ uw_39_13) rfl rfl dX9_tell_65 (fun x10 c11 rx10 tx10 => ?_)
    refine lv_l2i hx hb dX9_tell_68 rfl ?_
    refine lv_topi (fun x12 ex12 => ?_)
    exact tk_iret hC hr hlocks hK ⟨hT, hF, (Or.inl (show 3 ≤ a1.toInt by first | with_reducible assumption | omega))⟩ hw dX9_tell_69
  · refine lv_tableIn (off := 69) (tgt := 70) hx hb dX9_tell_1 (by omega) (by omega) (by rw [c1]; rfl) (by decide) ?_
    refine lv_aload_n hx hb dX9_tell_70 rfl (lv_at hl 0 rfl) ?_
    refine tk_geti hC hK hw hT hinX9 hkq0_ (by decide) rfl 5 (by decide) (List.mem_cons_of_mem _ uw_39_14) rfl rfl dX9_tell_71 (fun x13 c14 rx13 tx13 => ?_)
    exact tk_iret hC hr hlocks hK ⟨hT, hF, (Or.inl (show 3 ≤ a1.toInt by first | with_reducible assumption | omega))⟩ hw dX9_tell_74
  · refine lv_tableIn (off := 74) (tgt := 75) hx hb dX9_tell_1 (by omega) (by omega) (by rw [c1]; rfl) (by decide) ?_
    refine lv_aload_n hx hb dX9_tell_75 rfl (lv_at hl 0 rfl) ?_
    refine tk_geti hC hK hw hT hinX9 hkq0_ (by decide) rfl 6 (by decide) (List.mem_cons_of_mem _ uw_39_15) rfl rfl dX9_tell_76 (fun x15 c16 rx15 tx15 => ?_)
    exact tk_iret hC hr hlocks hK ⟨hT, hF, (Or.inl (show 3 ≤ a1.toInt by first | with_reducible assumption | omega))⟩ hw dX9_tell_79
  · refine lv_tableOut (tgt := 80) hx hb dX9_tell_1 c1 (by decide) ?_
    refine lv_aload_n hx hb dX9_tell_80 rfl (lv_at hl 0 rfl) ?_
    refine tk_geti hC hK hw hT hinX9 hkq0_ (by decide) rfl 7 (by decide) (List.mem_cons_of_mem _ uw_39_16) rfl rfl dX9_tell_81 (fun x17 c18 rx17 tx17 => ?_)
    exact tk_iret hC hr hlocks hK ⟨hT, hF, (Or.inl (show 3 ≤ a1.toInt by first | with_reducible assumption | omega))⟩ hw dX9_tell_84
abbrev P_X11_about_1 (ad : Nat → Nat) (cy : Nat → ClassId) (B : Int) (qr : Nat) (s1 : Int) (a1 : Int32) (a2 : Int32) (w0 : va_W) : Int32 → va_W → Prop := fun r u => TW ksC ad cy B qr s1 u ∧ FE ksC ([] : List (Nat × Nat × Nat)) w0 u ∧ ((0 ≤ a1.toInt ∧ a1.toInt ≤ 3 ∧ 3 ≤ a2.toInt ∧ a2.toInt ≤ 7 ∧ (∃ y : Int32, gi u 38 9 = y ∧ 1 ≤ y.toInt ∧ y.toInt ≤ 4)) ∨ (0 ≤ r.toInt ∧ r.toInt ≤ 9 ∧ 0 ≤ a1.toInt ∧ a1.toInt ≤ 3 ∧ 0 ≤ a2.toInt ∧ a2.toInt ≤ 2 ∧ (∃ y : Int32, gi u 38 9 = y ∧ 1 ≤ y.toInt ∧ y.toInt ≤ 4)) ∨ (r = (-1)))
set_option maxHeartbeats 4000000 in
set_option maxRecDepth 100000 in
theorem k_X11_about_1 (l : Launch) (adK adV : Nat → Nat) (dC : Nat → ClassId) (dI : Nat → Nat → Nat) (cy : Nat → ClassId) (ad : Nat → Nat) (B : Int) (hB0 : 2147483648 ≤ B) (hB1 : B ≤ 1152921504606846976) (qr : Nat) (s1 : Int)  (a1 : Int32) (a2 : Int32) (w0 : va_W) (sz : Nat) (hT : TW ksC ad cy B qr s1 w0)  : Met l yX11_about (wu yX11_about cX11_about 3 (some .int)) ({ frames := 2, cells := 0, slots := 0, locals := 33 }) (va_Pc [.ref (ad 0), .int a1, .int a2] (wpreS adK adV dC dI cy sz w0)) (va_Qi (P_X11_about_1 ad cy B qr s1 a1 a2 w0) (fun u : va_W => wpost dC dI cy (va_A w0 sz) u) (va_A w0 sz)) 0 0 (va_A w0 sz) := by
  refine Met.ofW (cc := cX11_about) (maxL := 3) (ret := (some .int)) (by decide) rfl ?_
  intro p e s m args below meth c s₁ Bk hml hv
  obtain ⟨rfl, ⟨hsz, hP, hK, hD0⟩, hE, hSR⟩ := hv
  have hx := Bk.exec
  have hb := Bk.bytes
  have hr := Bk.returns
  have hlocks := Bk.notSynchronized
  have hC : CallFix p m c cX11_about 3 s _ (wu yX11_about cX11_about 3 (some .int)) RX11 := ⟨hx, hb, hml, findClass_of_methodNamed Bk.named, atoms_spec (ws := (wu yX11_about cX11_about 3 (some .int))) Bk.pre⟩
  subst hsz
  have hD := hD0.self (sz := s.heap.size)
  generalize hAe : va_A w0 s.heap.size = A at hD hE ⊢
  have hA : ∀ q : Nat, s.heap.size ≤ q → A q := fun q h => by rw [← hAe]; exact Or.inr h
  have hw : Wd dC dI A s.heap s.heap [] w0 := ⟨hP, hD, va_S.rf⟩
  have hF : FE ksC ([] : List (Nat × Nat × Nat)) w0 w0 := FE.rf
  have hl := lv_entry ([.ref (ad 0), .int a1, .int a2]) (n := 3) (Nat.le_of_ble_eq_true rfl)
  rw [lg_entry_eq]
  generalize (lg_sl ([.ref (ad 0), .int a1, .int a2]) ++ List.replicate (3 - (lg_sl ([.ref (ad 0), .int a1, .int a2])).length) Slot.unset).toArray = ls at hl ⊢
  have hl : lv_has ls 3 [(0, .ref (ad 0)), (1, .int a1), (2, .int a2)] := hl
  generalize hloc : ([] : List Loc) = locs at hw ⊢
  have hinX11 : ∀ w ∈ u_ws RX11 TX11 13, w ∈ (wu yX11_about cX11_about 3 (some .int)) := fun _ h => List.mem_cons_of_mem _ (up_70 h)
  have hinX5 : ∀ w ∈ u_ws RX5 TX5 14, w ∈ (wu yX11_about cX11_about 3 (some .int)) := fun _ h => List.mem_cons_of_mem _ (up_76 h)
  have J18 : ∀ (H : Heap) (locs : List Loc) (ls : Array Slot) (w1 : va_W), Wd dC dI A s.heap H locs w1 → TW ksC ad cy B qr s1 w1 → FE ksC ([] : List (Nat × Nat × Nat)) w0 w1 → lv_has ls 3 [(0, .ref (ad 0)), (1, .int a1), (2, .int a2)] → W p l e ({ frames := 2, cells := 0, slots := 0, locals := 33 }) s m (List.toArray [.ref (ad 0), .int a1, .int a2]) below meth c H locs 0 0 (MQ below (va_Qi (P_X11_about_1 ad cy B qr s1 a1 a2 w0) (fun u : va_W => wpost dC dI cy A u) A) (List.toArray [.ref (ad 0), .int a1, .int a2]) s 0 0 A) (F0 m 18 ls []) := by
    intro H locs ls w1 hw hT hF hl
    refine lv_iconst (v := (-1)) hx hb dX11_about_18 (by decide) ?_
    exact tk_iret hC hr hlocks hK ⟨hT, hF, (Or.inr (Or.inr rfl))⟩ hw dX11_about_19
  refine lv_aload_n hx hb dX11_about_0 rfl (lv_at hl 0 rfl) ?_
  refine lv_iload_n hx hb dX11_about_1 rfl (lv_at hl 1 rfl) ?_
  refine tk_Vi hC hK hw hT hA hE hSR kC_at0 (by decide) rfl (k_X11_hasWalker_1 l adK adV dC dI cy ad B hB0 (Int.le_trans hB1 (by decide)) qr s1   a1 w0 s.heap.size hT ) (cwV 1 hC.2.2.2.2 uV_RX11_205 rfl rfl rfl (by decide +kernel) ⟨Nat.le_of_ble_eq_true rfl, Nat.le_of_ble_eq_true rfl⟩) rfl hl.1 rfl (Nat.le_of_ble_eq_true rfl) dX11_about_2 (fun r2 w4 H locs hp3 hw => ?_)
  obtain ⟨hT, k5, hg10⟩ := hp3
  have hF := hF.tr k5 (by decide)
  rcases hg10 with rfl | ⟨rfl, g6, g7, ⟨x8, c9, rx8, tx8⟩⟩
  · refine lv_if_eq (tgt := 18) hx hb dX11_about_5 (by decide) (fun _ => ?_) (fun c => absurd (by decide) c)
    exact J18  H locs ls w4   hw hT hF  (lv_sub hl [0, 1, 2] rfl)
  · refine lv_if_eq (tgt := 18) hx hb dX11_about_5 (by decide) (fun c => absurd c (by decide)) (fun _ => ?_)
    refine lv_iload_n hx hb dX11_about_8 rfl (lv_at hl 2 rfl) ?_
    refine lv_if_lt (tgt := 18) hx hb dX11_about_9 (by decide) (fun c11 => ?_) (fun c11 => ?_)
    · have c11 : a2.toInt < (0 : Int) := wk_lt.mp c11
      exact J18  H locs ls w4   hw hT hF  (lv_sub hl [0, 1, 2] rfl)
    · have c11 : (0 : Int) ≤ a2.toInt := wk_ltF c11
      refine lv_iload_n hx hb dX11_about_12 rfl (lv_at hl 2 rfl) ?_
      refine lv_bipush (v := 7) hx hb dX11_about_13 (by decide) ?_
      refine lv_icmp_le (tgt := 20) hx hb dX11_about_15 (by decide) (fun c12 => ?_) (fun c12 => ?_)
      · have c12 : a2.toInt ≤ (7 : Int) := wk_le.mp c12
        refine lv_aload_n hx hb dX11_about_20 rfl (lv_at hl 0 rfl) ?_
        refine tk_getA hC hK hw hT hinX11 kC_at0 (by decide) rfl 4 (by decide) (List.mem_cons_of_mem _ uw_1_7) rfl rfl dX11_about_21 ?_
        refine tk_getO hC hK hw hT hinX5 kC_at38 (by decide) rfl 2 (by decide) (List.mem_cons_of_mem _ uw_39_0) rfl rfl dX11_about_24 ?_
        refine lv_iload_n hx hb dX11_about_27 rfl (lv_at hl 1 rfl) ?_
        refine tk_aald hC hK hw hT kC_at49 rfl (by decide) rfl (show 0 ≤ a1.toInt by first | with_reducible assumption | omega) (show a1.toInt < 4 by first | with_reducible assumption | omega) dX11_about_28 (fun j13 hj13 gj13 => ?_)
        refine lv_iload_n hx hb dX11_about_29 rfl (lv_at hl 2 rfl) ?_
        refine tk_Vi hC hK hw hT hA hE hSR (kC_el33 kC_at49 hj13) (by decide) rfl (k_X9_tell_1 l adK adV dC dI cy ad B hB0 (Int.le_trans hB1 (by decide)) qr s1   (el 33 49 j13) (kC_el33 kC_at49 hj13) a2 (show 0 ≤ a2.toInt from c11) (show a2.toInt ≤ 7 from c12) w4 H.size hT ) (cwV 1 hC.2.2.2.2 uV_RX11_208 rfl rfl rfl (by decide +kernel) ⟨Nat.le_of_ble_eq_true rfl, Nat.le_of_ble_eq_true rfl⟩) rfl hl.1 rfl (Nat.le_of_ble_eq_true rfl) dX11_about_30 (fun r14 w16 H locs hp15 hw => ?_)
        obtain ⟨hT, k17, hg22⟩ := hp15
        have hF := hF.tr k17 (by decide)
        have c23 := k17.gi kC_at38 (by decide) c9
        rcases hg22 with g18 | ⟨g19, g20, g21⟩
        · exact tk_iret hC hr hlocks hK ⟨hT, hF, (Or.inl ⟨(show 0 ≤ a1.toInt by first | with_reducible assumption | omega), (show a1.toInt ≤ 3 by first | with_reducible assumption | omega), (show 3 ≤ a2.toInt by first | with_reducible assumption | omega), (show a2.toInt ≤ 7 from c12), ⟨x8, c23, (show 1 ≤ x8.toInt by first | with_reducible assumption | omega), (show x8.toInt ≤ 4 by first | with_reducible assumption | omega)⟩⟩)⟩ hw dX11_about_33
        · exact tk_iret hC hr hlocks hK ⟨hT, hF, (Or.inr (Or.inl ⟨(show 0 ≤ r14.toInt by first | with_reducible assumption | omega), (show r14.toInt ≤ 9 by first | with_reducible assumption | omega), (show 0 ≤ a1.toInt by first | with_reducible assumption | omega), (show a1.toInt ≤ 3 by first | with_reducible assumption | omega), (show 0 ≤ a2.toInt from c11), (show a2.toInt ≤ 2 by first | with_reducible assumption | omega), ⟨x8, c23, (show 1 ≤ x8.toInt by first | with_reducible assumption | omega), (show x8.toInt ≤ 4 by first | with_reducible assumption | omega)⟩⟩))⟩ hw dX11_about_33
      · have c12 : (7 : Int) < a2.toInt := wk_leF c12
        exact J18  H locs ls w4   hw hT hF  (lv_sub hl [0, 1, 2] rfl)
abbrev P_X7_sideOf_2 (ad : Nat → Nat) (cy : Nat → ClassId) (B : Int) (qr : Nat) (s1 : Int) (a1 : Int32) (a2 : Int32) (w0 : va_W) : Int32 → va_W → Prop := fun r u => TW ksC ad cy B qr s1 u ∧ FE ksC ([] : List (Nat × Nat × Nat)) w0 u ∧ ((r = (-1)) ∨ (r = 0 ∧ gi u 40 (2 * a1.toInt + 0).toNat = a2) ∨ (r = 1 ∧ gi u 40 (2 * a1.toInt + 1).toNat = a2))
set_option maxHeartbeats 4000000 in
set_option maxRecDepth 100000 in
theorem k_X7_sideOf_2 (l : Launch) (adK adV : Nat → Nat) (dC : Nat → ClassId) (dI : Nat → Nat → Nat) (cy : Nat → ClassId) (ad : Nat → Nat) (B : Int) (hB0 : 2147483648 ≤ B) (hB1 : B ≤ 1152921504606846976) (qr : Nat) (s1 : Int)  (a1 : Int32) (ra1 : 0 ≤ a1.toInt) (ta1 : a1.toInt ≤ 11) (a2 : Int32) (ra2 : 0 ≤ a2.toInt) (ta2 : a2.toInt ≤ 9) (w0 : va_W) (sz : Nat) (hT : TW ksC ad cy B qr s1 w0)  : Met l yX7_sideOf (wu yX7_sideOf cX7_sideOf 3 (some .int)) ({ frames := 1, cells := 0, slots := 0, locals := 12 }) (va_Pc [.ref (ad 39), .int a1, .int a2] (wpreS adK adV dC dI cy sz w0)) (va_Qi (P_X7_sideOf_2 ad cy B qr s1 a1 a2 w0) (fun u : va_W => wpost dC dI cy (va_A w0 sz) u) (va_A w0 sz)) 0 0 (va_A w0 sz) := by
  refine Met.ofW (cc := cX7_sideOf) (maxL := 3) (ret := (some .int)) (by decide) rfl ?_
  intro p e s m args below meth c s₁ Bk hml hv
  obtain ⟨rfl, ⟨hsz, hP, hK, hD0⟩, hE, hSR⟩ := hv
  have hx := Bk.exec
  have hb := Bk.bytes
  have hr := Bk.returns
  have hlocks := Bk.notSynchronized
  have hC : CallFix p m c cX7_sideOf 3 s _ (wu yX7_sideOf cX7_sideOf 3 (some .int)) RX7 := ⟨hx, hb, hml, findClass_of_methodNamed Bk.named, atoms_spec (ws := (wu yX7_sideOf cX7_sideOf 3 (some .int))) Bk.pre⟩
  subst hsz
  have hD := hD0.self (sz := s.heap.size)
  generalize hAe : va_A w0 s.heap.size = A at hD hE ⊢
  have hA : ∀ q : Nat, s.heap.size ≤ q → A q := fun q h => by rw [← hAe]; exact Or.inr h
  have hw : Wd dC dI A s.heap s.heap [] w0 := ⟨hP, hD, va_S.rf⟩
  have hF : FE ksC ([] : List (Nat × Nat × Nat)) w0 w0 := FE.rf
  have hl := lv_entry ([.ref (ad 39), .int a1, .int a2]) (n := 3) (Nat.le_of_ble_eq_true rfl)
  rw [lg_entry_eq]
  generalize (lg_sl ([.ref (ad 39), .int a1, .int a2]) ++ List.replicate (3 - (lg_sl ([.ref (ad 39), .int a1, .int a2])).length) Slot.unset).toArray = ls at hl ⊢
  have hl : lv_has ls 3 [(0, .ref (ad 39)), (1, .int a1), (2, .int a2)] := hl
  generalize hloc : ([] : List Loc) = locs at hw ⊢
  have hinX7 : ∀ w ∈ u_ws RX7 TX7 12, w ∈ (wu yX7_sideOf cX7_sideOf 3 (some .int)) := fun _ h => List.mem_cons_of_mem _ (up_73 h)
  refine lv_aload_n hx hb dX7_sideOf_0 rfl (lv_at hl 0 rfl) ?_
  refine tk_getO hC hK hw hT hinX7 kC_at39 (by decide) rfl 0 (by decide) (List.mem_cons_of_mem _ uw_2_17) rfl rfl dX7_sideOf_1 ?_
  refine lv_iconst (v := 2) hx hb dX7_sideOf_4 (by decide) ?_
  refine lv_iload_n hx hb dX7_sideOf_5 rfl (lv_at hl 1 rfl) ?_
  refine lv_imul hx hb dX7_sideOf_6 ?_
  refine lv_topi (fun x1 ex1 => ?_)
  have ex1 : x1.toInt = (2 : Int) * a1.toInt := by rw [ex1]; exact wk_mul (show (-2147483648) ≤ (2 : Int) * a1.toInt by omega) (show (2 : Int) * a1.toInt ≤ 2147483647 by omega)
  refine tk_iald hC hK hw hT kC_at40 rfl rfl (show 0 ≤ x1.toInt by first | with_reducible assumption | omega) (show x1.toInt < 26 by first | with_reducible assumption | omega) dX7_sideOf_7 (fun x2 c3 rx2 tx2 => ?_)
  have c3 : gi w0 40 (2 * a1.toInt + 0).toNat = x2 := (congrArg (gi w0 40) (congrArg Int.toNat (show 2 * a1.toInt + 0 = x1.toInt by first | exact Int.le_antisymm (by omega) (by omega) | omega))).trans c3
  refine lv_iload_n hx hb dX7_sideOf_8 rfl (lv_at hl 2 rfl) ?_
  refine lv_icmp_ne (tgt := 14) hx hb dX7_sideOf_9 (by decide) (fun c4 => ?_) (fun c4 => ?_)
  · have c4 : ¬ x2.toInt = a2.toInt := wk_eqF c4
    refine lv_aload_n hx hb dX7_sideOf_14 rfl (lv_at hl 0 rfl) ?_
    refine tk_getO hC hK hw hT hinX7 kC_at39 (by decide) rfl 0 (by decide) (List.mem_cons_of_mem _ uw_2_17) rfl rfl dX7_sideOf_15 ?_
    refine lv_iconst (v := 2) hx hb dX7_sideOf_18 (by decide) ?_
    refine lv_iload_n hx hb dX7_sideOf_19 rfl (lv_at hl 1 rfl) ?_
    refine lv_imul hx hb dX7_sideOf_20 ?_
    refine lv_topi (fun x5 ex5 => ?_)
    have ex5 : x5.toInt = (2 : Int) * a1.toInt := by rw [ex5]; exact wk_mul (show (-2147483648) ≤ (2 : Int) * a1.toInt by omega) (show (2 : Int) * a1.toInt ≤ 2147483647 by omega)
    refine lv_iconst (v := 1) hx hb dX7_sideOf_21 (by decide) ?_
    refine lv_iadd hx hb dX7_sideOf_22 ?_
    refine lv_topi (fun x6 ex6 => ?_)
    have ex6 : x6.toInt = x5.toInt + (1 : Int) := by rw [ex6]; exact wk_add (show (-2147483648) ≤ x5.toInt + (1 : Int) by omega) (show x5.toInt + (1 : Int) ≤ 2147483647 by omega)
    refine tk_iald hC hK hw hT kC_at40 rfl rfl (show 0 ≤ x6.toInt by first | with_reducible assumption | omega) (show x6.toInt < 26 by first | with_reducible assumption | omega) dX7_sideOf_23 (fun x7 c8 rx7 tx7 => ?_)
    have c8 : gi w0 40 (2 * a1.toInt + 1).toNat = x7 := (congrArg (gi w0 40) (congrArg Int.toNat (show 2 * a1.toInt + 1 = x6.toInt by first | exact Int.le_antisymm (by omega) (by omega) | omega))).trans c8
    refine lv_iload_n hx hb dX7_sideOf_24 rfl (lv_at hl 2 rfl) ?_
    refine lv_icmp_ne (tgt := 32) hx hb dX7_sideOf_25 (by decide) (fun c9 => ?_) (fun c9 => ?_)
    · have c9 : ¬ x7.toInt = a2.toInt := wk_eqF c9
      refine lv_iconst (v := (-1)) hx hb dX7_sideOf_32 (by decide) ?_
      exact tk_iret hC hr hlocks hK ⟨hT, hF, (Or.inl rfl)⟩ hw dX7_sideOf_33
    · have c9 : x7.toInt = a2.toInt := wk_eq.mp c9
      refine lv_iconst (v := 1) hx hb dX7_sideOf_28 (by decide) ?_
      refine lv_goto (tgt := 33) hx hb dX7_sideOf_29 (by decide) ?_
      exact tk_iret hC hr hlocks hK ⟨hT, hF, (Or.inr (Or.inr ⟨rfl, (c8.trans (wk_eq.mpr (show x7.toInt = a2.toInt by first | exact Int.le_antisymm (by omega) (by omega) | omega)))⟩))⟩ hw dX7_sideOf_33
  · have c4 : x2.toInt = a2.toInt := wk_eq.mp c4
    refine lv_iconst (v := 0) hx hb dX7_sideOf_12 (by decide) ?_
    exact tk_iret hC hr hlocks hK ⟨hT, hF, (Or.inr (Or.inl ⟨rfl, (c3.trans (wk_eq.mpr (show x2.toInt = a2.toInt by first | exact Int.le_antisymm (by omega) (by omega) | omega)))⟩))⟩ hw dX7_sideOf_13
abbrev P_X7_openHours_3 (ad : Nat → Nat) (cy : Nat → ClassId) (B : Int) (qr : Nat) (s1 : Int) (a1 : Int32) (a3 : Int64) (w0 : va_W) : Int32 → va_W → Prop := fun r u => TW ksC ad cy B qr s1 u ∧ FE ksC ([] : List (Nat × Nat × Nat)) w0 u ∧ ((0 ≤ r.toInt ∧ r.toInt ≤ 16777215))
set_option maxHeartbeats 4000000 in
set_option maxRecDepth 100000 in
theorem k_X7_openHours_3 (l : Launch) (adK adV : Nat → Nat) (dC : Nat → ClassId) (dI : Nat → Nat → Nat) (cy : Nat → ClassId) (ad : Nat → Nat) (B : Int) (hB0 : 2147483648 ≤ B) (hB1 : B ≤ 1152921504606846976) (qr : Nat) (s1 : Int)  (a1 : Int32) (ra1 : 0 ≤ a1.toInt) (ta1 : a1.toInt ≤ 11) (a3 : Int64) (ra3 : 0 ≤ a3.toInt) (ta3 : a3.toInt ≤ 96076792050570581) (w0 : va_W) (sz : Nat) (hT : TW ksC ad cy B qr s1 w0)  : Met l yX7_openHours (wu yX7_openHours cX7_openHours 8 (some .int)) ({ frames := 1, cells := 0, slots := 0, locals := 12 }) (va_Pc [.ref (ad 39), .int a1, .int 0, .long a3, .int 0] (wpreS adK adV dC dI cy sz w0)) (va_Qi (P_X7_openHours_3 ad cy B qr s1 a1 a3 w0) (fun u : va_W => wpost dC dI cy (va_A w0 sz) u) (va_A w0 sz)) 0 0 (va_A w0 sz) := by
  refine Met.ofW (cc := cX7_openHours) (maxL := 8) (ret := (some .int)) (by decide) rfl ?_
  intro p e s m args below meth c s₁ Bk hml hv
  obtain ⟨rfl, ⟨hsz, hP, hK, hD0⟩, hE, hSR⟩ := hv
  have hx := Bk.exec
  have hb := Bk.bytes
  have hr := Bk.returns
  have hlocks := Bk.notSynchronized
  have hC : CallFix p m c cX7_openHours 8 s _ (wu yX7_openHours cX7_openHours 8 (some .int)) RX7 := ⟨hx, hb, hml, findClass_of_methodNamed Bk.named, atoms_spec (ws := (wu yX7_openHours cX7_openHours 8 (some .int))) Bk.pre⟩
  subst hsz
  have hD := hD0.self (sz := s.heap.size)
  generalize hAe : va_A w0 s.heap.size = A at hD hE ⊢
  have hA : ∀ q : Nat, s.heap.size ≤ q → A q := fun q h => by rw [← hAe]; exact Or.inr h
  have hw : Wd dC dI A s.heap s.heap [] w0 := ⟨hP, hD, va_S.rf⟩
  have hF : FE ksC ([] : List (Nat × Nat × Nat)) w0 w0 := FE.rf
  have hl := lv_entry ([.ref (ad 39), .int a1, .int 0, .long a3, .int 0]) (n := 8) (Nat.le_of_ble_eq_true rfl)
  rw [lg_entry_eq]
  generalize (lg_sl ([.ref (ad 39), .int a1, .int 0, .long a3, .int 0]) ++ List.replicate (8 - (lg_sl ([.ref (ad 39), .int a1, .int 0, .long a3, .int 0])).length) Slot.unset).toArray = ls at hl ⊢
  have hl : lv_has ls 8 [(0, .ref (ad 39)), (1, .int a1), (2, .int 0), (3, .long a3), (5, .int 0)] := hl
  generalize hloc : ([] : List Loc) = locs at hw ⊢
  have hinX7 : ∀ w ∈ u_ws RX7 TX7 12, w ∈ (wu yX7_openHours cX7_openHours 8 (some .int)) := fun _ h => List.mem_cons_of_mem _ (up_73 h)
  have J93 : ∀ (H : Heap) (locs : List Loc) (ls : Array Slot) (w1 : va_W), 0 ≤ a1.toInt → a1.toInt ≤ 11 → 0 ≤ a3.toInt → a3.toInt ≤ 96076792050570581 → Wd dC dI A s.heap H locs w1 → TW ksC ad cy B qr s1 w1 → FE ksC ([] : List (Nat × Nat × Nat)) w0 w1 → lv_has ls 8 [(0, .ref (ad 39)), (1, .int a1), (2, .int 0), (3, .long a3), (5, .int 0), (6, .int 0), (7, .int 0)] → W p l e ({ frames := 1, cells := 0, slots := 0, locals := 12 }) s m (List.toArray [.ref (ad 39), .int a1, .int 0, .long a3, .int 0]) below meth c H locs 0 0 (MQ below (va_Qi (P_X7_openHours_3 ad cy B qr s1 a1 a3 w0) (fun u : va_W => wpost dC dI cy A u) A) (List.toArray [.ref (ad 39), .int a1, .int 0, .long a3, .int 0]) s 0 0 A) (F0 m 93 ls []) := by
    intro H locs ls w1 r2 t3 r4 t5 hw hT hF hl
    refine lv_ldc (v := 16777215) hx hb hC.2.2.2.1 (hC.2.2.2.2 _ (List.mem_cons_of_mem _ uw_31_17)) dX7_openHours_93 ?_
    refine lv_aload_n hx hb dX7_openHours_95 rfl (lv_at hl 0 rfl) ?_
    refine tk_getO hC hK hw hT hinX7 kC_at39 (by decide) rfl 3 (by decide) (List.mem_cons_of_mem _ uw_2_20) rfl rfl dX7_openHours_96 ?_
    refine lv_iload_n hx hb dX7_openHours_99 rfl (lv_at hl 1 rfl) ?_
    refine tk_iald hC hK hw hT kC_at43 rfl rfl (show 0 ≤ a1.toInt from r2) (show a1.toInt < 13 from Int.lt_of_le_of_lt t3 (by decide)) dX7_openHours_100 (fun x6 c7 rx6 tx6 => ?_)
    refine lv_iconst (v := (-1)) hx hb dX7_openHours_101 (by decide) ?_
    refine lv_ixor hx hb dX7_openHours_102 ?_
    refine lv_topi (fun x8 ex8 => ?_)
    refine lv_iand hx hb dX7_openHours_103 ?_
    refine lv_topi (fun x9 ex9 => ?_)
    have bx9 : 0 ≤ x9.toInt ∧ x9.toInt ≤ (16777215 : Int) := by rw [ex9]; exact wk_andC (by decide)
    exact tk_iret hC hr hlocks hK ⟨hT, hF, ⟨(show 0 ≤ x9.toInt by first | with_reducible assumption | omega), (show x9.toInt ≤ 16777215 by first | with_reducible assumption | omega)⟩⟩ hw dX7_openHours_104
  have L44 : ∀ (H : Heap) (locs : List Loc) (ls : Array Slot) (w10 : va_W), 0 ≤ a1.toInt → a1.toInt ≤ 11 → 0 ≤ a3.toInt → a3.toInt ≤ 96076792050570581 → Wd dC dI A s.heap H locs w10 → TW ksC ad cy B qr s1 w10 → FE ksC ([] : List (Nat × Nat × Nat)) w0 w10 → lv_has ls 8 [(0, .ref (ad 39)), (1, .int a1), (2, .int 0), (3, .long a3), (5, .int 0), (6, .int 0), (7, .int 0)] → W p l e ({ frames := 1, cells := 0, slots := 0, locals := 12 }) s m (List.toArray [.ref (ad 39), .int a1, .int 0, .long a3, .int 0]) below meth c H locs 0 0 (MQ below (va_Qi (P_X7_openHours_3 ad cy B qr s1 a1 a3 w0) (fun u : va_W => wpost dC dI cy A u) A) (List.toArray [.ref (ad 39), .int a1, .int 0, .long a3, .int 0]) s 0 0 A) (F0 m 44 ls []) := by
    intro H locs ls w10 r11 t12 r13 t14 hw hT hF hl
    refine lv_iload hx hb dX7_openHours_44 (lv_at hl 5 rfl) ?_
    refine lv_if_eq (tgt := 93) hx hb dX7_openHours_46 (by decide) (fun _ => ?_) (fun c => absurd (by decide) c)
    exact J93  H locs ls w10 (show 0 ≤ a1.toInt from r11) (show a1.toInt ≤ 11 from t12) (show 0 ≤ a3.toInt from r13) (show a3.toInt ≤ 96076792050570581 from t14)  hw hT hF  (lv_sub hl [0, 1, 2, 3, 4, 5, 6] rfl)
  refine lv_aload_n hx hb dX7_openHours_0 rfl (lv_at hl 0 rfl) ?_
  refine tk_getO hC hK hw hT hinX7 kC_at39 (by decide) rfl 4 (by decide) (List.mem_cons_of_mem _ uw_2_21) rfl rfl dX7_openHours_1 ?_
  refine lv_iconst (v := 2) hx hb dX7_openHours_4 (by decide) ?_
  refine lv_iload_n hx hb dX7_openHours_5 rfl (lv_at hl 1 rfl) ?_
  refine lv_imul hx hb dX7_openHours_6 ?_
  refine lv_topi (fun x15 ex15 => ?_)
  have ex15 : x15.toInt = (2 : Int) * a1.toInt := by rw [ex15]; exact wk_mul (show (-2147483648) ≤ (2 : Int) * a1.toInt by omega) (show (2 : Int) * a1.toInt ≤ 2147483647 by omega)
  refine lv_iload_n hx hb dX7_openHours_7 rfl (lv_at hl 2 rfl) ?_
  refine lv_iadd hx hb dX7_openHours_8 ?_
  refine lv_topi (fun x16 ex16 => ?_)
  have ex16 : x16.toInt = x15.toInt + (0 : Int) := by rw [ex16]; exact wk_add (show (-2147483648) ≤ x15.toInt + (0 : Int) by omega) (show x15.toInt + (0 : Int) ≤ 2147483647 by omega)
  refine tk_iald hC hK hw hT kC_at44 rfl rfl (show 0 ≤ x16.toInt by first | with_reducible assumption | omega) (show x16.toInt < 26 by first | with_reducible assumption | omega) dX7_openHours_9 (fun x17 c18 rx17 tx17 => ?_)
  refine lv_lload_n hx hb dX7_openHours_10 rfl (lv_at hl 3 rfl) ?_
  refine lv_ldc2 (v := 7) hx hb hC.2.2.2.1 (hC.2.2.2.2 _ (List.mem_cons_of_mem _ uw_31_15)) dX7_openHours_11 ?_
  refine lv_lrem hx hb dX7_openHours_14 (by decide) ?_
  refine lv_topl (fun x19 ex19 => ?_)
  have ex19 : x19.toInt = a3.toInt % (7 : Int) := by rw [ex19]; exact wk_reml (show 0 ≤ a3.toInt from ra3) (show 0 < (7 : Int) by decide)
  refine lv_l2i hx hb dX7_openHours_15 rfl ?_
  refine lv_topi (fun x20 ex20 => ?_)
  have ex20 : x20.toInt = x19.toInt := by rw [ex20]; exact wk_l2i (by omega) (by omega)
  refine lv_ishr hx hb dX7_openHours_16 ?_
  refine lv_topi (fun x21 ex21 => ?_)
  refine lv_iconst (v := 1) hx hb dX7_openHours_17 (by decide) ?_
  refine lv_iand hx hb dX7_openHours_18 ?_
  refine lv_topi (fun x22 ex22 => ?_)
  have bx22 : 0 ≤ x22.toInt ∧ x22.toInt ≤ (1 : Int) := by rw [ex22]; exact wk_and (by decide)
  refine lv_if_ne (tgt := 24) hx hb dX7_openHours_19 (by decide) (fun c23 => ?_) (fun c23 => ?_)
  · have c23 : ¬ x22.toInt = (0 : Int) := wk_eqF c23
    refine lv_iload hx hb dX7_openHours_24 (lv_at hl 4 rfl) ?_
    refine lv_if_eq (tgt := 38) hx hb dX7_openHours_26 (by decide) (fun _ => ?_) (fun c => absurd (by decide) c)
    refine lv_iconst (v := 0) hx hb dX7_openHours_38 (by decide) ?_
    refine lv_istore (lv' := [(6, .int 0), (0, .ref (ad 39)), (1, .int a1), (2, .int 0), (3, .long a3), (5, .int 0)]) hx hb dX7_openHours_39 hl (by decide) rfl (fun ls hl => ?_)
    refine lv_iconst (v := 0) hx hb dX7_openHours_41 (by decide) ?_
    refine lv_istore (lv' := [(7, .int 0), (6, .int 0), (0, .ref (ad 39)), (1, .int a1), (2, .int 0), (3, .long a3), (5, .int 0)]) hx hb dX7_openHours_42 hl (by decide) rfl (fun ls hl => ?_)
    exact L44  s.heap locs ls w0 (show 0 ≤ a1.toInt from ra1) (show a1.toInt ≤ 11 from ta1) (show 0 ≤ a3.toInt from ra3) (show a3.toInt ≤ 96076792050570581 from ta3)  hw hT hF  (lv_sub hl [2, 3, 4, 5, 6, 1, 0] rfl)
  · have c23 : x22.toInt = (0 : Int) := wk_eq.mp c23
    refine lv_iconst (v := 0) hx hb dX7_openHours_22 (by decide) ?_
    exact tk_iret hC hr hlocks hK ⟨hT, hF, ⟨(by decide), (by decide)⟩⟩ hw dX7_openHours_23
abbrev P_X7_isOpen_3 (ad : Nat → Nat) (cy : Nat → ClassId) (B : Int) (qr : Nat) (s1 : Int) (a1 : Int32) (a3 : Int64) (w0 : va_W) : Int32 → va_W → Prop := fun r u => TW ksC ad cy B qr s1 u ∧ FE ksC ([] : List (Nat × Nat × Nat)) w0 u ∧ ((r = 0) ∨ (r = 1))
set_option maxHeartbeats 4000000 in
set_option maxRecDepth 100000 in
theorem k_X7_isOpen_3 (l : Launch) (adK adV : Nat → Nat) (dC : Nat → ClassId) (dI : Nat → Nat → Nat) (cy : Nat → ClassId) (ad : Nat → Nat) (B : Int) (hB0 : 2147483648 ≤ B) (hB1 : B ≤ 1152921504606846976) (qr : Nat) (s1 : Int)  (a1 : Int32) (ra1 : 0 ≤ a1.toInt) (ta1 : a1.toInt ≤ 11) (a3 : Int64) (ra3 : 0 ≤ a3.toInt) (ta3 : a3.toInt ≤ 2305843009213693952) (w0 : va_W) (sz : Nat) (hT : TW ksC ad cy B qr s1 w0)  : Met l yX7_isOpen (wu yX7_isOpen cX7_isOpen 7 (some .boolean)) ({ frames := 2, cells := 0, slots := 0, locals := 39 }) (va_Pc [.ref (ad 39), .int a1, .int 0, .long a3, .int 0] (wpreS adK adV dC dI cy sz w0)) (va_Qi (P_X7_isOpen_3 ad cy B qr s1 a1 a3 w0) (fun u : va_W => wpost dC dI cy (va_A w0 sz) u) (va_A w0 sz)) 0 0 (va_A w0 sz) := by
  refine Met.ofW (cc := cX7_isOpen) (maxL := 7) (ret := (some .boolean)) (by decide) rfl ?_
  intro p e s m args below meth c s₁ Bk hml hv
  obtain ⟨rfl, ⟨hsz, hP, hK, hD0⟩, hE, hSR⟩ := hv
  have hx := Bk.exec
  have hb := Bk.bytes
  have hr := Bk.returns
  have hlocks := Bk.notSynchronized
  have hC : CallFix p m c cX7_isOpen 7 s _ (wu yX7_isOpen cX7_isOpen 7 (some .boolean)) RX7 := ⟨hx, hb, hml, findClass_of_methodNamed Bk.named, atoms_spec (ws := (wu yX7_isOpen cX7_isOpen 7 (some .boolean))) Bk.pre⟩
  subst hsz
  have hD := hD0.self (sz := s.heap.size)
  generalize hAe : va_A w0 s.heap.size = A at hD hE ⊢
  have hA : ∀ q : Nat, s.heap.size ≤ q → A q := fun q h => by rw [← hAe]; exact Or.inr h
  have hw : Wd dC dI A s.heap s.heap [] w0 := ⟨hP, hD, va_S.rf⟩
  have hF : FE ksC ([] : List (Nat × Nat × Nat)) w0 w0 := FE.rf
  have hl := lv_entry ([.ref (ad 39), .int a1, .int 0, .long a3, .int 0]) (n := 7) (Nat.le_of_ble_eq_true rfl)
  rw [lg_entry_eq]
  generalize (lg_sl ([.ref (ad 39), .int a1, .int 0, .long a3, .int 0]) ++ List.replicate (7 - (lg_sl ([.ref (ad 39), .int a1, .int 0, .long a3, .int 0])).length) Slot.unset).toArray = ls at hl ⊢
  have hl : lv_has ls 7 [(0, .ref (ad 39)), (1, .int a1), (2, .int 0), (3, .long a3), (5, .int 0)] := hl
  generalize hloc : ([] : List Loc) = locs at hw ⊢
  refine lv_aload_n hx hb dX7_isOpen_0 rfl (lv_at hl 0 rfl) ?_
  refine lv_iload_n hx hb dX7_isOpen_1 rfl (lv_at hl 1 rfl) ?_
  refine lv_iload_n hx hb dX7_isOpen_2 rfl (lv_at hl 2 rfl) ?_
  refine lv_lload_n hx hb dX7_isOpen_3 rfl (lv_at hl 3 rfl) ?_
  refine lv_ldc2 (v := 24) hx hb hC.2.2.2.1 (hC.2.2.2.2 _ (List.mem_cons_of_mem _ uw_31_10)) dX7_isOpen_4 ?_
  refine lv_ldiv hx hb dX7_isOpen_7 (by decide) ?_
  refine lv_topl (fun x1 ex1 => ?_)
  have ex1 : x1.toInt = a3.toInt / (24 : Int) := by rw [ex1]; exact wk_divl (show 0 ≤ a3.toInt from ra3) (show 0 < (24 : Int) by decide)
  refine lv_iload hx hb dX7_isOpen_8 (lv_at hl 4 rfl) ?_
  refine tk_Vi hC hK hw hT hA hE hSR kC_at39 (by decide) rfl (k_X7_openHours_3 l adK adV dC dI cy ad B hB0 (Int.le_trans hB1 (by decide)) qr s1   a1 (show 0 ≤ a1.toInt from ra1) (show a1.toInt ≤ 11 from ta1) x1 (show 0 ≤ x1.toInt by first | with_reducible assumption | omega) (show x1.toInt ≤ 96076792050570581 by first | with_reducible assumption | omega) w0 s.heap.size hT ) (cwV 4 hC.2.2.2.2 uV_RX7_148 rfl rfl rfl (by decide +kernel) ⟨Nat.le_of_ble_eq_true rfl, Nat.le_of_ble_eq_true rfl⟩) rfl hl.1 rfl (Nat.le_of_ble_eq_true rfl) dX7_isOpen_10 (fun r2 w4 H locs hp3 hw => ?_)
  obtain ⟨hT, k5, hg8⟩ := hp3
  have hF := hF.tr k5 (by decide)
  obtain ⟨g6, g7⟩ := hg8
  refine lv_istore (lv' := [(6, .int r2), (0, .ref (ad 39)), (1, .int a1), (2, .int 0), (3, .long a3), (5, .int 0)]) hx hb dX7_isOpen_13 hl (by decide) rfl (fun ls hl => ?_)
  refine lv_iload hx hb dX7_isOpen_15 (lv_at hl 0 rfl) ?_
  refine lv_lload_n hx hb dX7_isOpen_17 rfl (lv_at hl 4 rfl) ?_
  refine lv_ldc2 (v := 24) hx hb hC.2.2.2.1 (hC.2.2.2.2 _ (List.mem_cons_of_mem _ uw_31_10)) dX7_isOpen_18 ?_
  refine lv_lrem hx hb dX7_isOpen_21 (by decide) ?_
  refine lv_topl (fun x9 ex9 => ?_)
  have ex9 : x9.toInt = a3.toInt % (24 : Int) := by rw [ex9]; exact wk_reml (show 0 ≤ a3.toInt from ra3) (show 0 < (24 : Int) by decide)
  refine lv_l2i hx hb dX7_isOpen_22 rfl ?_
  refine lv_topi (fun x10 ex10 => ?_)
  have ex10 : x10.toInt = x9.toInt := by rw [ex10]; exact wk_l2i (by omega) (by omega)
  refine lv_ishr hx hb dX7_isOpen_23 ?_
  refine lv_topi (fun x11 ex11 => ?_)
  have bx11 : 0 ≤ x11.toInt ∧ x11.toInt ≤ r2.toInt := by rw [ex11]; exact wk_shr (by omega)
  refine lv_iconst (v := 1) hx hb dX7_isOpen_24 (by decide) ?_
  refine lv_iand hx hb dX7_isOpen_25 ?_
  refine lv_topi (fun x12 ex12 => ?_)
  have bx12 : 0 ≤ x12.toInt ∧ x12.toInt ≤ (1 : Int) := by rw [ex12]; exact wk_and (by decide)
  refine lv_if_eq (tgt := 33) hx hb dX7_isOpen_26 (by decide) (fun c13 => ?_) (fun c13 => ?_)
  · have c13 : x12.toInt = (0 : Int) := wk_eq.mp c13
    refine lv_iconst (v := 0) hx hb dX7_isOpen_33 (by decide) ?_
    exact tk_zret hC hr rfl hlocks hK ⟨hT, hF, (Or.inl rfl)⟩ hw dX7_isOpen_34
  · have c13 : ¬ x12.toInt = (0 : Int) := wk_eqF c13
    refine lv_iconst (v := 1) hx hb dX7_isOpen_29 (by decide) ?_
    refine lv_goto (tgt := 34) hx hb dX7_isOpen_30 (by decide) ?_
    exact tk_zret hC hr rfl hlocks hK ⟨hT, hF, (Or.inr rfl)⟩ hw dX7_isOpen_34
abbrev P_X7_openHours_4 (ad : Nat → Nat) (cy : Nat → ClassId) (B : Int) (qr : Nat) (s1 : Int) (a1 : Int32) (a3 : Int64) (w0 : va_W) : Int32 → va_W → Prop := fun r u => TW ksC ad cy B qr s1 u ∧ FE ksC ([] : List (Nat × Nat × Nat)) w0 u ∧ ((0 ≤ r.toInt ∧ r.toInt ≤ 16777215))
set_option maxHeartbeats 4000000 in
set_option maxRecDepth 100000 in
theorem k_X7_openHours_4 (l : Launch) (adK adV : Nat → Nat) (dC : Nat → ClassId) (dI : Nat → Nat → Nat) (cy : Nat → ClassId) (ad : Nat → Nat) (B : Int) (hB0 : 2147483648 ≤ B) (hB1 : B ≤ 1152921504606846976) (qr : Nat) (s1 : Int)  (a1 : Int32) (ra1 : 0 ≤ a1.toInt) (ta1 : a1.toInt ≤ 11) (a3 : Int64) (ra3 : 0 ≤ a3.toInt) (ta3 : a3.toInt ≤ 96076792050570581) (w0 : va_W) (sz : Nat) (hT : TW ksC ad cy B qr s1 w0)  : Met l yX7_openHours (wu yX7_openHours cX7_openHours 8 (some .int)) ({ frames := 1, cells := 0, slots := 0, locals := 12 }) (va_Pc [.ref (ad 39), .int a1, .int 0, .long a3, .int 1] (wpreS adK adV dC dI cy sz w0)) (va_Qi (P_X7_openHours_4 ad cy B qr s1 a1 a3 w0) (fun u : va_W => wpost dC dI cy (va_A w0 sz) u) (va_A w0 sz)) 0 0 (va_A w0 sz) := by
  refine Met.ofW (cc := cX7_openHours) (maxL := 8) (ret := (some .int)) (by decide) rfl ?_
  intro p e s m args below meth c s₁ Bk hml hv
  obtain ⟨rfl, ⟨hsz, hP, hK, hD0⟩, hE, hSR⟩ := hv
  have hx := Bk.exec
  have hb := Bk.bytes
  have hr := Bk.returns
  have hlocks := Bk.notSynchronized
  have hC : CallFix p m c cX7_openHours 8 s _ (wu yX7_openHours cX7_openHours 8 (some .int)) RX7 := ⟨hx, hb, hml, findClass_of_methodNamed Bk.named, atoms_spec (ws := (wu yX7_openHours cX7_openHours 8 (some .int))) Bk.pre⟩
  subst hsz
  have hD := hD0.self (sz := s.heap.size)
  generalize hAe : va_A w0 s.heap.size = A at hD hE ⊢
  have hA : ∀ q : Nat, s.heap.size ≤ q → A q := fun q h => by rw [← hAe]; exact Or.inr h
  have hw : Wd dC dI A s.heap s.heap [] w0 := ⟨hP, hD, va_S.rf⟩
  have hF : FE ksC ([] : List (Nat × Nat × Nat)) w0 w0 := FE.rf
  have hl := lv_entry ([.ref (ad 39), .int a1, .int 0, .long a3, .int 1]) (n := 8) (Nat.le_of_ble_eq_true rfl)
  rw [lg_entry_eq]
  generalize (lg_sl ([.ref (ad 39), .int a1, .int 0, .long a3, .int 1]) ++ List.replicate (8 - (lg_sl ([.ref (ad 39), .int a1, .int 0, .long a3, .int 1])).length) Slot.unset).toArray = ls at hl ⊢
  have hl : lv_has ls 8 [(0, .ref (ad 39)), (1, .int a1), (2, .int 0), (3, .long a3), (5, .int 1)] := hl
  generalize hloc : ([] : List Loc) = locs at hw ⊢
  have hinX7 : ∀ w ∈ u_ws RX7 TX7 12, w ∈ (wu yX7_openHours cX7_openHours 8 (some .int)) := fun _ h => List.mem_cons_of_mem _ (up_73 h)
  have J93 : ∀ (v93_6 : Int32) (v93_7 : Int32) (H : Heap) (locs : List Loc) (ls : Array Slot) (w1 : va_W), 0 ≤ a1.toInt → a1.toInt ≤ 11 → 0 ≤ a3.toInt → a3.toInt ≤ 96076792050570581 → 0 ≤ v93_7.toInt → v93_7.toInt ≤ 8 → Wd dC dI A s.heap H locs w1 → TW ksC ad cy B qr s1 w1 → FE ksC ([] : List (Nat × Nat × Nat)) w0 w1 → lv_has ls 8 [(0, .ref (ad 39)), (1, .int a1), (2, .int 0), (3, .long a3), (5, .int 1), (6, .int v93_6), (7, .int v93_7)] → W p l e ({ frames := 1, cells := 0, slots := 0, locals := 12 }) s m (List.toArray [.ref (ad 39), .int a1, .int 0, .long a3, .int 1]) below meth c H locs 0 0 (MQ below (va_Qi (P_X7_openHours_4 ad cy B qr s1 a1 a3 w0) (fun u : va_W => wpost dC dI cy A u) A) (List.toArray [.ref (ad 39), .int a1, .int 0, .long a3, .int 1]) s 0 0 A) (F0 m 93 ls []) := by
    intro v93_6 v93_7 H locs ls w1 r2 t3 r4 t5 r6 t7 hw hT hF hl
    refine lv_ldc (v := 16777215) hx hb hC.2.2.2.1 (hC.2.2.2.2 _ (List.mem_cons_of_mem _ uw_31_17)) dX7_openHours_93 ?_
    refine lv_aload_n hx hb dX7_openHours_95 rfl (lv_at hl 0 rfl) ?_
    refine tk_getO hC hK hw hT hinX7 kC_at39 (by decide) rfl 3 (by decide) (List.mem_cons_of_mem _ uw_2_20) rfl rfl dX7_openHours_96 ?_
    refine lv_iload_n hx hb dX7_openHours_99 rfl (lv_at hl 1 rfl) ?_
    refine tk_iald hC hK hw hT kC_at43 rfl rfl (show 0 ≤ a1.toInt from r2) (show a1.toInt < 13 from Int.lt_of_le_of_lt t3 (by decide)) dX7_openHours_100 (fun x8 c9 rx8 tx8 => ?_)
    refine lv_iconst (v := (-1)) hx hb dX7_openHours_101 (by decide) ?_
    refine lv_ixor hx hb dX7_openHours_102 ?_
    refine lv_topi (fun x10 ex10 => ?_)
    refine lv_iand hx hb dX7_openHours_103 ?_
    refine lv_topi (fun x11 ex11 => ?_)
    have bx11 : 0 ≤ x11.toInt ∧ x11.toInt ≤ (16777215 : Int) := by rw [ex11]; exact wk_andC (by decide)
    exact tk_iret hC hr hlocks hK ⟨hT, hF, ⟨(show 0 ≤ x11.toInt by first | with_reducible assumption | omega), (show x11.toInt ≤ 16777215 by first | with_reducible assumption | omega)⟩⟩ hw dX7_openHours_104
  have L44 : ∀ (n44 : Nat) (v44_6 : Int32) (v44_7 : Int32) (H : Heap) (locs : List Loc) (ls : Array Slot) (w12 : va_W), 0 ≤ a1.toInt → a1.toInt ≤ 11 → 0 ≤ a3.toInt → a3.toInt ≤ 96076792050570581 → 0 ≤ v44_7.toInt → v44_7.toInt ≤ 8 → (8 - v44_7.toInt).toNat < n44 → Wd dC dI A s.heap H locs w12 → TW ksC ad cy B qr s1 w12 → FE ksC ([] : List (Nat × Nat × Nat)) w0 w12 → lv_has ls 8 [(0, .ref (ad 39)), (1, .int a1), (2, .int 0), (3, .long a3), (5, .int 1), (6, .int v44_6), (7, .int v44_7)] → W p l e ({ frames := 1, cells := 0, slots := 0, locals := 12 }) s m (List.toArray [.ref (ad 39), .int a1, .int 0, .long a3, .int 1]) below meth c H locs 0 0 (MQ below (va_Qi (P_X7_openHours_4 ad cy B qr s1 a1 a3 w0) (fun u : va_W => wpost dC dI cy A u) A) (List.toArray [.ref (ad 39), .int a1, .int 0, .long a3, .int 1]) s 0 0 A) (F0 m 44 ls []) := by
    intro n44
    induction n44 with
    | zero => intro v44_6 v44_7 H locs ls w12 r13 t14 r15 t16 r17 t18 hm44 hw hT hF hl; omega
    | succ n44 ih44 =>
      intro v44_6 v44_7 H locs ls w12 r13 t14 r15 t16 r17 t18 hm44 hw hT hF hl
      have J81 : ∀ (H : Heap) (locs : List Loc) (ls : Array Slot) (w19 : va_W), 0 ≤ a1.toInt → a1.toInt ≤ 11 → 0 ≤ a3.toInt → a3.toInt ≤ 96076792050570581 → 0 ≤ v44_7.toInt → v44_7.toInt ≤ 7 → Wd dC dI A s.heap H locs w19 → TW ksC ad cy B qr s1 w19 → FE ksC ([] : List (Nat × Nat × Nat)) w0 w19 → lv_has ls 8 [(0, .ref (ad 39)), (1, .int a1), (2, .int 0), (3, .long a3), (5, .int 1), (6, .int v44_6), (7, .int v44_7)] → W p l e ({ frames := 1, cells := 0, slots := 0, locals := 12 }) s m (List.toArray [.ref (ad 39), .int a1, .int 0, .long a3, .int 1]) below meth c H locs 0 0 (MQ below (va_Qi (P_X7_openHours_4 ad cy B qr s1 a1 a3 w0) (fun u : va_W => wpost dC dI cy A u) A) (List.toArray [.ref (ad 39), .int a1, .int 0, .long a3, .int 1]) s 0 0 A) (F0 m 81 ls []) := by
        intro H locs ls w19 r20 t21 r22 t23 r24 t25 hw hT hF hl
        refine lv_iload hx hb dX7_openHours_81 (lv_at hl 5 rfl) ?_
        refine lv_iconst (v := 1) hx hb dX7_openHours_83 (by decide) ?_
        refine lv_ishr hx hb dX7_openHours_84 ?_
        refine lv_topi (fun x26 ex26 => ?_)
        refine lv_istore (lv' := [(6, .int x26), (0, .ref (ad 39)), (1, .int a1), (2, .int 0), (3, .long a3), (5, .int 1), (7, .int v44_7)]) hx hb dX7_openHours_85 hl (by decide) rfl (fun ls hl => ?_)
        obtain ⟨x27, ex27⟩ : ∃ y : Int32, y = v44_7 + Int32.ofInt 1 := ⟨_, rfl⟩
        refine lv_iinc (v := x27) (lv' := [(7, .int x27), (6, .int x26), (0, .ref (ad 39)), (1, .int a1), (2, .int 0), (3, .long a3), (5, .int 1)]) hx hb dX7_openHours_87 hl (k := 6) rfl ex27.symm (by decide) rfl (fun ls hl => ?_)
        have ex27 : x27.toInt = v44_7.toInt + 1 := by rw [ex27]; exact wk_add (y := 1) (show -2147483648 ≤ v44_7.toInt + 1 by omega) (show v44_7.toInt + 1 ≤ 2147483647 by omega)
        refine lv_goto (tgt := 44) hx hb dX7_openHours_90 (by decide) ?_
        exact ih44 x26 x27 H locs ls w19 (show 0 ≤ a1.toInt from r20) (show a1.toInt ≤ 11 from t21) (show 0 ≤ a3.toInt from r22) (show a3.toInt ≤ 96076792050570581 from t23) (show 0 ≤ x27.toInt by first | with_reducible assumption | omega) (show x27.toInt ≤ 8 by first | with_reducible assumption | omega) (show (8 - x27.toInt).toNat < n44 by first | exact tn_lt hm44 (by omega) (by omega) | omega) hw hT hF  (lv_sub hl [2, 3, 4, 5, 6, 1, 0] rfl)
      refine lv_iload hx hb dX7_openHours_44 (lv_at hl 5 rfl) ?_
      refine lv_if_eq (tgt := 93) hx hb dX7_openHours_46 (by decide) (fun c28 => ?_) (fun c28 => ?_)
      · have c28 : v44_6.toInt = (0 : Int) := wk_eq.mp c28
        exact J93 v44_6 v44_7 H locs ls w12 (show 0 ≤ a1.toInt from r13) (show a1.toInt ≤ 11 from t14) (show 0 ≤ a3.toInt from r15) (show a3.toInt ≤ 96076792050570581 from t16) (show 0 ≤ v44_7.toInt from r17) (show v44_7.toInt ≤ 8 from t18)  hw hT hF  (lv_sub hl [0, 1, 2, 3, 4, 5, 6] rfl)
      · have c28 : ¬ v44_6.toInt = (0 : Int) := wk_eqF c28
        refine lv_iload hx hb dX7_openHours_49 (lv_at hl 6 rfl) ?_
        refine lv_bipush (v := 8) hx hb dX7_openHours_51 (by decide) ?_
        refine lv_icmp_ge (tgt := 93) hx hb dX7_openHours_53 (by decide) (fun c29 => ?_) (fun c29 => ?_)
        · have c29 : (8 : Int) ≤ v44_7.toInt := wk_le.mp c29
          exact J93 v44_6 v44_7 H locs ls w12 (show 0 ≤ a1.toInt from r13) (show a1.toInt ≤ 11 from t14) (show 0 ≤ a3.toInt from r15) (show a3.toInt ≤ 96076792050570581 from t16) (show 0 ≤ v44_7.toInt from r17) (show v44_7.toInt ≤ 8 from t18)  hw hT hF  (lv_sub hl [0, 1, 2, 3, 4, 5, 6] rfl)
        · have c29 : v44_7.toInt < (8 : Int) := wk_leF c29
          refine lv_iload hx hb dX7_openHours_56 (lv_at hl 5 rfl) ?_
          refine lv_iconst (v := 1) hx hb dX7_openHours_58 (by decide) ?_
          refine lv_iand hx hb dX7_openHours_59 ?_
          refine lv_topi (fun x30 ex30 => ?_)
          have bx30 : 0 ≤ x30.toInt ∧ x30.toInt ≤ (1 : Int) := by rw [ex30]; exact wk_and (by decide)
          refine lv_if_eq (tgt := 81) hx hb dX7_openHours_60 (by decide) (fun c31 => ?_) (fun c31 => ?_)
          · have c31 : x30.toInt = (0 : Int) := wk_eq.mp c31
            exact J81  H locs ls w12 (show 0 ≤ a1.toInt from r13) (show a1.toInt ≤ 11 from t14) (show 0 ≤ a3.toInt from r15) (show a3.toInt ≤ 96076792050570581 from t16) (show 0 ≤ v44_7.toInt from r17) (show v44_7.toInt ≤ 7 by first | with_reducible assumption | omega)  hw hT hF  (lv_sub hl [0, 1, 2, 3, 4, 5, 6] rfl)
          · have c31 : ¬ x30.toInt = (0 : Int) := wk_eqF c31
            refine lv_aload_n hx hb dX7_openHours_63 rfl (lv_at hl 0 rfl) ?_
            refine tk_getO hC hK hw hT hinX7 kC_at39 (by decide) rfl 6 (by decide) (List.mem_cons_of_mem _ uw_2_23) rfl rfl dX7_openHours_64 ?_
            refine lv_iload hx hb dX7_openHours_67 (lv_at hl 6 rfl) ?_
            refine tk_iald hC hK hw hT kC_at46 rfl rfl (show 0 ≤ v44_7.toInt from r17) (show v44_7.toInt < 8 from c29) dX7_openHours_69 (fun x32 c33 rx32 tx32 => ?_)
            refine lv_lload_n hx hb dX7_openHours_70 rfl (lv_at hl 3 rfl) ?_
            refine lv_ldc2 (v := 360) hx hb hC.2.2.2.1 (hC.2.2.2.2 _ (List.mem_cons_of_mem _ uw_31_16)) dX7_openHours_71 ?_
            refine lv_lrem hx hb dX7_openHours_74 (by decide) ?_
            refine lv_topl (fun x34 ex34 => ?_)
            have ex34 : x34.toInt = a3.toInt % (360 : Int) := by rw [ex34]; exact wk_reml (show 0 ≤ a3.toInt from r15) (show 0 < (360 : Int) by decide)
            refine lv_l2i hx hb dX7_openHours_75 rfl ?_
            refine lv_topi (fun x35 ex35 => ?_)
            have ex35 : x35.toInt = x34.toInt := by rw [ex35]; exact wk_l2i (by omega) (by omega)
            refine lv_icmp_ne (tgt := 81) hx hb dX7_openHours_76 (by decide) (fun c36 => ?_) (fun c36 => ?_)
            · have c36 : ¬ x32.toInt = x35.toInt := wk_eqF c36
              exact J81  H locs ls w12 (show 0 ≤ a1.toInt from r13) (show a1.toInt ≤ 11 from t14) (show 0 ≤ a3.toInt from r15) (show a3.toInt ≤ 96076792050570581 from t16) (show 0 ≤ v44_7.toInt from r17) (show v44_7.toInt ≤ 7 by first | with_reducible assumption | omega)  hw hT hF  (lv_sub hl [0, 1, 2, 3, 4, 5, 6] rfl)
            · have c36 : x32.toInt = x35.toInt := wk_eq.mp c36
              refine lv_iconst (v := 0) hx hb dX7_openHours_79 (by decide) ?_
              exact tk_iret hC hr hlocks hK ⟨hT, hF, ⟨(by decide), (by decide)⟩⟩ hw dX7_openHours_80
  refine lv_aload_n hx hb dX7_openHours_0 rfl (lv_at hl 0 rfl) ?_
  refine tk_getO hC hK hw hT hinX7 kC_at39 (by decide) rfl 4 (by decide) (List.mem_cons_of_mem _ uw_2_21) rfl rfl dX7_openHours_1 ?_
  refine lv_iconst (v := 2) hx hb dX7_openHours_4 (by decide) ?_
  refine lv_iload_n hx hb dX7_openHours_5 rfl (lv_at hl 1 rfl) ?_
  refine lv_imul hx hb dX7_openHours_6 ?_
  refine lv_topi (fun x37 ex37 => ?_)
  have ex37 : x37.toInt = (2 : Int) * a1.toInt := by rw [ex37]; exact wk_mul (show (-2147483648) ≤ (2 : Int) * a1.toInt by omega) (show (2 : Int) * a1.toInt ≤ 2147483647 by omega)
  refine lv_iload_n hx hb dX7_openHours_7 rfl (lv_at hl 2 rfl) ?_
  refine lv_iadd hx hb dX7_openHours_8 ?_
  refine lv_topi (fun x38 ex38 => ?_)
  have ex38 : x38.toInt = x37.toInt + (0 : Int) := by rw [ex38]; exact wk_add (show (-2147483648) ≤ x37.toInt + (0 : Int) by omega) (show x37.toInt + (0 : Int) ≤ 2147483647 by omega)
  refine tk_iald hC hK hw hT kC_at44 rfl rfl (show 0 ≤ x38.toInt by first | with_reducible assumption | omega) (show x38.toInt < 26 by first | with_reducible assumption | omega) dX7_openHours_9 (fun x39 c40 rx39 tx39 => ?_)
  refine lv_lload_n hx hb dX7_openHours_10 rfl (lv_at hl 3 rfl) ?_
  refine lv_ldc2 (v := 7) hx hb hC.2.2.2.1 (hC.2.2.2.2 _ (List.mem_cons_of_mem _ uw_31_15)) dX7_openHours_11 ?_
  refine lv_lrem hx hb dX7_openHours_14 (by decide) ?_
  refine lv_topl (fun x41 ex41 => ?_)
  have ex41 : x41.toInt = a3.toInt % (7 : Int) := by rw [ex41]; exact wk_reml (show 0 ≤ a3.toInt from ra3) (show 0 < (7 : Int) by decide)
  refine lv_l2i hx hb dX7_openHours_15 rfl ?_
  refine lv_topi (fun x42 ex42 => ?_)
  have ex42 : x42.toInt = x41.toInt := by rw [ex42]; exact wk_l2i (by omega) (by omega)
  refine lv_ishr hx hb dX7_openHours_16 ?_
  refine lv_topi (fun x43 ex43 => ?_)
  refine lv_iconst (v := 1) hx hb dX7_openHours_17 (by decide) ?_
  refine lv_iand hx hb dX7_openHours_18 ?_
  refine lv_topi (fun x44 ex44 => ?_)
  have bx44 : 0 ≤ x44.toInt ∧ x44.toInt ≤ (1 : Int) := by rw [ex44]; exact wk_and (by decide)
  refine lv_if_ne (tgt := 24) hx hb dX7_openHours_19 (by decide) (fun c45 => ?_) (fun c45 => ?_)
  · have c45 : ¬ x44.toInt = (0 : Int) := wk_eqF c45
    refine lv_iload hx hb dX7_openHours_24 (lv_at hl 4 rfl) ?_
    refine lv_if_eq (tgt := 38) hx hb dX7_openHours_26 (by decide) (fun c => absurd c (by decide)) (fun _ => ?_)
    refine lv_aload_n hx hb dX7_openHours_29 rfl (lv_at hl 0 rfl) ?_
    refine tk_getO hC hK hw hT hinX7 kC_at39 (by decide) rfl 7 (by decide) (List.mem_cons_of_mem _ uw_3_0) rfl rfl dX7_openHours_30 ?_
    refine lv_iload_n hx hb dX7_openHours_33 rfl (lv_at hl 1 rfl) ?_
    refine tk_iald hC hK hw hT kC_at47 rfl rfl (show 0 ≤ a1.toInt from ra1) (show a1.toInt < 13 from Int.lt_of_le_of_lt ta1 (by decide)) dX7_openHours_34 (fun x46 c47 rx46 tx46 => ?_)
    refine lv_goto (tgt := 39) hx hb dX7_openHours_35 (by decide) ?_
    refine lv_istore (lv' := [(6, .int x46), (0, .ref (ad 39)), (1, .int a1), (2, .int 0), (3, .long a3), (5, .int 1)]) hx hb dX7_openHours_39 hl (by decide) rfl (fun ls hl => ?_)
    refine lv_iconst (v := 0) hx hb dX7_openHours_41 (by decide) ?_
    refine lv_istore (lv' := [(7, .int 0), (6, .int x46), (0, .ref (ad 39)), (1, .int a1), (2, .int 0), (3, .long a3), (5, .int 1)]) hx hb dX7_openHours_42 hl (by decide) rfl (fun ls hl => ?_)
    exact L44 ((8 - (0 : Int)).toNat + 1) x46 0 s.heap locs ls w0 (show 0 ≤ a1.toInt from ra1) (show a1.toInt ≤ 11 from ta1) (show 0 ≤ a3.toInt from ra3) (show a3.toInt ≤ 96076792050570581 from ta3) (by decide) (by decide) (Nat.lt_succ_self _) hw hT hF  (lv_sub hl [2, 3, 4, 5, 6, 1, 0] rfl)
  · have c45 : x44.toInt = (0 : Int) := wk_eq.mp c45
    refine lv_iconst (v := 0) hx hb dX7_openHours_22 (by decide) ?_
    exact tk_iret hC hr hlocks hK ⟨hT, hF, ⟨(by decide), (by decide)⟩⟩ hw dX7_openHours_23
abbrev P_X7_isOpen_4 (ad : Nat → Nat) (cy : Nat → ClassId) (B : Int) (qr : Nat) (s1 : Int) (a1 : Int32) (a3 : Int64) (w0 : va_W) : Int32 → va_W → Prop := fun r u => TW ksC ad cy B qr s1 u ∧ FE ksC ([] : List (Nat × Nat × Nat)) w0 u ∧ ((r = 0) ∨ (r = 1))
set_option maxHeartbeats 4000000 in
set_option maxRecDepth 100000 in
theorem k_X7_isOpen_4 (l : Launch) (adK adV : Nat → Nat) (dC : Nat → ClassId) (dI : Nat → Nat → Nat) (cy : Nat → ClassId) (ad : Nat → Nat) (B : Int) (hB0 : 2147483648 ≤ B) (hB1 : B ≤ 1152921504606846976) (qr : Nat) (s1 : Int)  (a1 : Int32) (ra1 : 0 ≤ a1.toInt) (ta1 : a1.toInt ≤ 11) (a3 : Int64) (ra3 : 0 ≤ a3.toInt) (ta3 : a3.toInt ≤ 2305843009213693952) (w0 : va_W) (sz : Nat) (hT : TW ksC ad cy B qr s1 w0)  : Met l yX7_isOpen (wu yX7_isOpen cX7_isOpen 7 (some .boolean)) ({ frames := 2, cells := 0, slots := 0, locals := 39 }) (va_Pc [.ref (ad 39), .int a1, .int 0, .long a3, .int 1] (wpreS adK adV dC dI cy sz w0)) (va_Qi (P_X7_isOpen_4 ad cy B qr s1 a1 a3 w0) (fun u : va_W => wpost dC dI cy (va_A w0 sz) u) (va_A w0 sz)) 0 0 (va_A w0 sz) := by
  refine Met.ofW (cc := cX7_isOpen) (maxL := 7) (ret := (some .boolean)) (by decide) rfl ?_
  intro p e s m args below meth c s₁ Bk hml hv
  obtain ⟨rfl, ⟨hsz, hP, hK, hD0⟩, hE, hSR⟩ := hv
  have hx := Bk.exec
  have hb := Bk.bytes
  have hr := Bk.returns
  have hlocks := Bk.notSynchronized
  have hC : CallFix p m c cX7_isOpen 7 s _ (wu yX7_isOpen cX7_isOpen 7 (some .boolean)) RX7 := ⟨hx, hb, hml, findClass_of_methodNamed Bk.named, atoms_spec (ws := (wu yX7_isOpen cX7_isOpen 7 (some .boolean))) Bk.pre⟩
  subst hsz
  have hD := hD0.self (sz := s.heap.size)
  generalize hAe : va_A w0 s.heap.size = A at hD hE ⊢
  have hA : ∀ q : Nat, s.heap.size ≤ q → A q := fun q h => by rw [← hAe]; exact Or.inr h
  have hw : Wd dC dI A s.heap s.heap [] w0 := ⟨hP, hD, va_S.rf⟩
  have hF : FE ksC ([] : List (Nat × Nat × Nat)) w0 w0 := FE.rf
  have hl := lv_entry ([.ref (ad 39), .int a1, .int 0, .long a3, .int 1]) (n := 7) (Nat.le_of_ble_eq_true rfl)
  rw [lg_entry_eq]
  generalize (lg_sl ([.ref (ad 39), .int a1, .int 0, .long a3, .int 1]) ++ List.replicate (7 - (lg_sl ([.ref (ad 39), .int a1, .int 0, .long a3, .int 1])).length) Slot.unset).toArray = ls at hl ⊢
  have hl : lv_has ls 7 [(0, .ref (ad 39)), (1, .int a1), (2, .int 0), (3, .long a3), (5, .int 1)] := hl
  generalize hloc : ([] : List Loc) = locs at hw ⊢
  refine lv_aload_n hx hb dX7_isOpen_0 rfl (lv_at hl 0 rfl) ?_
  refine lv_iload_n hx hb dX7_isOpen_1 rfl (lv_at hl 1 rfl) ?_
  refine lv_iload_n hx hb dX7_isOpen_2 rfl (lv_at hl 2 rfl) ?_
  refine lv_lload_n hx hb dX7_isOpen_3 rfl (lv_at hl 3 rfl) ?_
  refine lv_ldc2 (v := 24) hx hb hC.2.2.2.1 (hC.2.2.2.2 _ (List.mem_cons_of_mem _ uw_31_10)) dX7_isOpen_4 ?_
  refine lv_ldiv hx hb dX7_isOpen_7 (by decide) ?_
  refine lv_topl (fun x1 ex1 => ?_)
  have ex1 : x1.toInt = a3.toInt / (24 : Int) := by rw [ex1]; exact wk_divl (show 0 ≤ a3.toInt from ra3) (show 0 < (24 : Int) by decide)
  refine lv_iload hx hb dX7_isOpen_8 (lv_at hl 4 rfl) ?_
  refine tk_Vi hC hK hw hT hA hE hSR kC_at39 (by decide) rfl (k_X7_openHours_4 l adK adV dC dI cy ad B hB0 (Int.le_trans hB1 (by decide)) qr s1   a1 (show 0 ≤ a1.toInt from ra1) (show a1.toInt ≤ 11 from ta1) x1 (show 0 ≤ x1.toInt by first | with_reducible assumption | omega) (show x1.toInt ≤ 96076792050570581 by first | with_reducible assumption | omega) w0 s.heap.size hT ) (cwV 4 hC.2.2.2.2 uV_RX7_148 rfl rfl rfl (by decide +kernel) ⟨Nat.le_of_ble_eq_true rfl, Nat.le_of_ble_eq_true rfl⟩) rfl hl.1 rfl (Nat.le_of_ble_eq_true rfl) dX7_isOpen_10 (fun r2 w4 H locs hp3 hw => ?_)
  obtain ⟨hT, k5, hg8⟩ := hp3
  have hF := hF.tr k5 (by decide)
  obtain ⟨g6, g7⟩ := hg8
  refine lv_istore (lv' := [(6, .int r2), (0, .ref (ad 39)), (1, .int a1), (2, .int 0), (3, .long a3), (5, .int 1)]) hx hb dX7_isOpen_13 hl (by decide) rfl (fun ls hl => ?_)
  refine lv_iload hx hb dX7_isOpen_15 (lv_at hl 0 rfl) ?_
  refine lv_lload_n hx hb dX7_isOpen_17 rfl (lv_at hl 4 rfl) ?_
  refine lv_ldc2 (v := 24) hx hb hC.2.2.2.1 (hC.2.2.2.2 _ (List.mem_cons_of_mem _ uw_31_10)) dX7_isOpen_18 ?_
  refine lv_lrem hx hb dX7_isOpen_21 (by decide) ?_
  refine lv_topl (fun x9 ex9 => ?_)
  have ex9 : x9.toInt = a3.toInt % (24 : Int) := by rw [ex9]; exact wk_reml (show 0 ≤ a3.toInt from ra3) (show 0 < (24 : Int) by decide)
  refine lv_l2i hx hb dX7_isOpen_22 rfl ?_
  refine lv_topi (fun x10 ex10 => ?_)
  have ex10 : x10.toInt = x9.toInt := by rw [ex10]; exact wk_l2i (by omega) (by omega)
  refine lv_ishr hx hb dX7_isOpen_23 ?_
  refine lv_topi (fun x11 ex11 => ?_)
  have bx11 : 0 ≤ x11.toInt ∧ x11.toInt ≤ r2.toInt := by rw [ex11]; exact wk_shr (by omega)
  refine lv_iconst (v := 1) hx hb dX7_isOpen_24 (by decide) ?_
  refine lv_iand hx hb dX7_isOpen_25 ?_
  refine lv_topi (fun x12 ex12 => ?_)
  have bx12 : 0 ≤ x12.toInt ∧ x12.toInt ≤ (1 : Int) := by rw [ex12]; exact wk_and (by decide)
  refine lv_if_eq (tgt := 33) hx hb dX7_isOpen_26 (by decide) (fun c13 => ?_) (fun c13 => ?_)
  · have c13 : x12.toInt = (0 : Int) := wk_eq.mp c13
    refine lv_iconst (v := 0) hx hb dX7_isOpen_33 (by decide) ?_
    exact tk_zret hC hr rfl hlocks hK ⟨hT, hF, (Or.inl rfl)⟩ hw dX7_isOpen_34
  · have c13 : ¬ x12.toInt = (0 : Int) := wk_eqF c13
    refine lv_iconst (v := 1) hx hb dX7_isOpen_29 (by decide) ?_
    refine lv_goto (tgt := 34) hx hb dX7_isOpen_30 (by decide) ?_
    exact tk_zret hC hr rfl hlocks hK ⟨hT, hF, (Or.inr rfl)⟩ hw dX7_isOpen_34
abbrev P_X7_openHours_5 (ad : Nat → Nat) (cy : Nat → ClassId) (B : Int) (qr : Nat) (s1 : Int) (a1 : Int32) (a3 : Int64) (w0 : va_W) : Int32 → va_W → Prop := fun r u => TW ksC ad cy B qr s1 u ∧ FE ksC ([] : List (Nat × Nat × Nat)) w0 u ∧ ((0 ≤ r.toInt ∧ r.toInt ≤ 16777215))
set_option maxHeartbeats 4000000 in
set_option maxRecDepth 100000 in
theorem k_X7_openHours_5 (l : Launch) (adK adV : Nat → Nat) (dC : Nat → ClassId) (dI : Nat → Nat → Nat) (cy : Nat → ClassId) (ad : Nat → Nat) (B : Int) (hB0 : 2147483648 ≤ B) (hB1 : B ≤ 1152921504606846976) (qr : Nat) (s1 : Int)  (a1 : Int32) (ra1 : 0 ≤ a1.toInt) (ta1 : a1.toInt ≤ 11) (a3 : Int64) (ra3 : 0 ≤ a3.toInt) (ta3 : a3.toInt ≤ 96076792050570581) (w0 : va_W) (sz : Nat) (hT : TW ksC ad cy B qr s1 w0)  : Met l yX7_openHours (wu yX7_openHours cX7_openHours 8 (some .int)) ({ frames := 1, cells := 0, slots := 0, locals := 12 }) (va_Pc [.ref (ad 39), .int a1, .int 1, .long a3, .int 0] (wpreS adK adV dC dI cy sz w0)) (va_Qi (P_X7_openHours_5 ad cy B qr s1 a1 a3 w0) (fun u : va_W => wpost dC dI cy (va_A w0 sz) u) (va_A w0 sz)) 0 0 (va_A w0 sz) := by
  refine Met.ofW (cc := cX7_openHours) (maxL := 8) (ret := (some .int)) (by decide) rfl ?_
  intro p e s m args below meth c s₁ Bk hml hv
  obtain ⟨rfl, ⟨hsz, hP, hK, hD0⟩, hE, hSR⟩ := hv
  have hx := Bk.exec
  have hb := Bk.bytes
  have hr := Bk.returns
  have hlocks := Bk.notSynchronized
  have hC : CallFix p m c cX7_openHours 8 s _ (wu yX7_openHours cX7_openHours 8 (some .int)) RX7 := ⟨hx, hb, hml, findClass_of_methodNamed Bk.named, atoms_spec (ws := (wu yX7_openHours cX7_openHours 8 (some .int))) Bk.pre⟩
  subst hsz
  have hD := hD0.self (sz := s.heap.size)
  generalize hAe : va_A w0 s.heap.size = A at hD hE ⊢
  have hA : ∀ q : Nat, s.heap.size ≤ q → A q := fun q h => by rw [← hAe]; exact Or.inr h
  have hw : Wd dC dI A s.heap s.heap [] w0 := ⟨hP, hD, va_S.rf⟩
  have hF : FE ksC ([] : List (Nat × Nat × Nat)) w0 w0 := FE.rf
  have hl := lv_entry ([.ref (ad 39), .int a1, .int 1, .long a3, .int 0]) (n := 8) (Nat.le_of_ble_eq_true rfl)
  rw [lg_entry_eq]
  generalize (lg_sl ([.ref (ad 39), .int a1, .int 1, .long a3, .int 0]) ++ List.replicate (8 - (lg_sl ([.ref (ad 39), .int a1, .int 1, .long a3, .int 0])).length) Slot.unset).toArray = ls at hl ⊢
  have hl : lv_has ls 8 [(0, .ref (ad 39)), (1, .int a1), (2, .int 1), (3, .long a3), (5, .int 0)] := hl
  generalize hloc : ([] : List Loc) = locs at hw ⊢
  have hinX7 : ∀ w ∈ u_ws RX7 TX7 12, w ∈ (wu yX7_openHours cX7_openHours 8 (some .int)) := fun _ h => List.mem_cons_of_mem _ (up_73 h)
  have J93 : ∀ (H : Heap) (locs : List Loc) (ls : Array Slot) (w1 : va_W), 0 ≤ a1.toInt → a1.toInt ≤ 11 → 0 ≤ a3.toInt → a3.toInt ≤ 96076792050570581 → Wd dC dI A s.heap H locs w1 → TW ksC ad cy B qr s1 w1 → FE ksC ([] : List (Nat × Nat × Nat)) w0 w1 → lv_has ls 8 [(0, .ref (ad 39)), (1, .int a1), (2, .int 1), (3, .long a3), (5, .int 0), (6, .int 0), (7, .int 0)] → W p l e ({ frames := 1, cells := 0, slots := 0, locals := 12 }) s m (List.toArray [.ref (ad 39), .int a1, .int 1, .long a3, .int 0]) below meth c H locs 0 0 (MQ below (va_Qi (P_X7_openHours_5 ad cy B qr s1 a1 a3 w0) (fun u : va_W => wpost dC dI cy A u) A) (List.toArray [.ref (ad 39), .int a1, .int 1, .long a3, .int 0]) s 0 0 A) (F0 m 93 ls []) := by
    intro H locs ls w1 r2 t3 r4 t5 hw hT hF hl
    refine lv_ldc (v := 16777215) hx hb hC.2.2.2.1 (hC.2.2.2.2 _ (List.mem_cons_of_mem _ uw_31_17)) dX7_openHours_93 ?_
    refine lv_aload_n hx hb dX7_openHours_95 rfl (lv_at hl 0 rfl) ?_
    refine tk_getO hC hK hw hT hinX7 kC_at39 (by decide) rfl 3 (by decide) (List.mem_cons_of_mem _ uw_2_20) rfl rfl dX7_openHours_96 ?_
    refine lv_iload_n hx hb dX7_openHours_99 rfl (lv_at hl 1 rfl) ?_
    refine tk_iald hC hK hw hT kC_at43 rfl rfl (show 0 ≤ a1.toInt from r2) (show a1.toInt < 13 from Int.lt_of_le_of_lt t3 (by decide)) dX7_openHours_100 (fun x6 c7 rx6 tx6 => ?_)
    refine lv_iconst (v := (-1)) hx hb dX7_openHours_101 (by decide) ?_
    refine lv_ixor hx hb dX7_openHours_102 ?_
    refine lv_topi (fun x8 ex8 => ?_)
    refine lv_iand hx hb dX7_openHours_103 ?_
    refine lv_topi (fun x9 ex9 => ?_)
    have bx9 : 0 ≤ x9.toInt ∧ x9.toInt ≤ (16777215 : Int) := by rw [ex9]; exact wk_andC (by decide)
    exact tk_iret hC hr hlocks hK ⟨hT, hF, ⟨(show 0 ≤ x9.toInt by first | with_reducible assumption | omega), (show x9.toInt ≤ 16777215 by first | with_reducible assumption | omega)⟩⟩ hw dX7_openHours_104
  have L44 : ∀ (H : Heap) (locs : List Loc) (ls : Array Slot) (w10 : va_W), 0 ≤ a1.toInt → a1.toInt ≤ 11 → 0 ≤ a3.toInt → a3.toInt ≤ 96076792050570581 → Wd dC dI A s.heap H locs w10 → TW ksC ad cy B qr s1 w10 → FE ksC ([] : List (Nat × Nat × Nat)) w0 w10 → lv_has ls 8 [(0, .ref (ad 39)), (1, .int a1), (2, .int 1), (3, .long a3), (5, .int 0), (6, .int 0), (7, .int 0)] → W p l e ({ frames := 1, cells := 0, slots := 0, locals := 12 }) s m (List.toArray [.ref (ad 39), .int a1, .int 1, .long a3, .int 0]) below meth c H locs 0 0 (MQ below (va_Qi (P_X7_openHours_5 ad cy B qr s1 a1 a3 w0) (fun u : va_W => wpost dC dI cy A u) A) (List.toArray [.ref (ad 39), .int a1, .int 1, .long a3, .int 0]) s 0 0 A) (F0 m 44 ls []) := by
    intro H locs ls w10 r11 t12 r13 t14 hw hT hF hl
    refine lv_iload hx hb dX7_openHours_44 (lv_at hl 5 rfl) ?_
    refine lv_if_eq (tgt := 93) hx hb dX7_openHours_46 (by decide) (fun _ => ?_) (fun c => absurd (by decide) c)
    exact J93  H locs ls w10 (show 0 ≤ a1.toInt from r11) (show a1.toInt ≤ 11 from t12) (show 0 ≤ a3.toInt from r13) (show a3.toInt ≤ 96076792050570581 from t14)  hw hT hF  (lv_sub hl [0, 1, 2, 3, 4, 5, 6] rfl)
  refine lv_aload_n hx hb dX7_openHours_0 rfl (lv_at hl 0 rfl) ?_
  refine tk_getO hC hK hw hT hinX7 kC_at39 (by decide) rfl 4 (by decide) (List.mem_cons_of_mem _ uw_2_21) rfl rfl dX7_openHours_1 ?_
  refine lv_iconst (v := 2) hx hb dX7_openHours_4 (by decide) ?_
  refine lv_iload_n hx hb dX7_openHours_5 rfl (lv_at hl 1 rfl) ?_
  refine lv_imul hx hb dX7_openHours_6 ?_
  refine lv_topi (fun x15 ex15 => ?_)
  have ex15 : x15.toInt = (2 : Int) * a1.toInt := by rw [ex15]; exact wk_mul (show (-2147483648) ≤ (2 : Int) * a1.toInt by omega) (show (2 : Int) * a1.toInt ≤ 2147483647 by omega)
  refine lv_iload_n hx hb dX7_openHours_7 rfl (lv_at hl 2 rfl) ?_
  refine lv_iadd hx hb dX7_openHours_8 ?_
  refine lv_topi (fun x16 ex16 => ?_)
  have ex16 : x16.toInt = x15.toInt + (1 : Int) := by rw [ex16]; exact wk_add (show (-2147483648) ≤ x15.toInt + (1 : Int) by omega) (show x15.toInt + (1 : Int) ≤ 2147483647 by omega)
  refine tk_iald hC hK hw hT kC_at44 rfl rfl (show 0 ≤ x16.toInt by first | with_reducible assumption | omega) (show x16.toInt < 26 by first | with_reducible assumption | omega) dX7_openHours_9 (fun x17 c18 rx17 tx17 => ?_)
  refine lv_lload_n hx hb dX7_openHours_10 rfl (lv_at hl 3 rfl) ?_
  refine lv_ldc2 (v := 7) hx hb hC.2.2.2.1 (hC.2.2.2.2 _ (List.mem_cons_of_mem _ uw_31_15)) dX7_openHours_11 ?_
  refine lv_lrem hx hb dX7_openHours_14 (by decide) ?_
  refine lv_topl (fun x19 ex19 => ?_)
  have ex19 : x19.toInt = a3.toInt % (7 : Int) := by rw [ex19]; exact wk_reml (show 0 ≤ a3.toInt from ra3) (show 0 < (7 : Int) by decide)
  refine lv_l2i hx hb dX7_openHours_15 rfl ?_
  refine lv_topi (fun x20 ex20 => ?_)
  have ex20 : x20.toInt = x19.toInt := by rw [ex20]; exact wk_l2i (by omega) (by omega)
  refine lv_ishr hx hb dX7_openHours_16 ?_
  refine lv_topi (fun x21 ex21 => ?_)
  refine lv_iconst (v := 1) hx hb dX7_openHours_17 (by decide) ?_
  refine lv_iand hx hb dX7_openHours_18 ?_
  refine lv_topi (fun x22 ex22 => ?_)
  have bx22 : 0 ≤ x22.toInt ∧ x22.toInt ≤ (1 : Int) := by rw [ex22]; exact wk_and (by decide)
  refine lv_if_ne (tgt := 24) hx hb dX7_openHours_19 (by decide) (fun c23 => ?_) (fun c23 => ?_)
  · have c23 : ¬ x22.toInt = (0 : Int) := wk_eqF c23
    refine lv_iload hx hb dX7_openHours_24 (lv_at hl 4 rfl) ?_
    refine lv_if_eq (tgt := 38) hx hb dX7_openHours_26 (by decide) (fun _ => ?_) (fun c => absurd (by decide) c)
    refine lv_iconst (v := 0) hx hb dX7_openHours_38 (by decide) ?_
    refine lv_istore (lv' := [(6, .int 0), (0, .ref (ad 39)), (1, .int a1), (2, .int 1), (3, .long a3), (5, .int 0)]) hx hb dX7_openHours_39 hl (by decide) rfl (fun ls hl => ?_)
    refine lv_iconst (v := 0) hx hb dX7_openHours_41 (by decide) ?_
    refine lv_istore (lv' := [(7, .int 0), (6, .int 0), (0, .ref (ad 39)), (1, .int a1), (2, .int 1), (3, .long a3), (5, .int 0)]) hx hb dX7_openHours_42 hl (by decide) rfl (fun ls hl => ?_)
    exact L44  s.heap locs ls w0 (show 0 ≤ a1.toInt from ra1) (show a1.toInt ≤ 11 from ta1) (show 0 ≤ a3.toInt from ra3) (show a3.toInt ≤ 96076792050570581 from ta3)  hw hT hF  (lv_sub hl [2, 3, 4, 5, 6, 1, 0] rfl)
  · have c23 : x22.toInt = (0 : Int) := wk_eq.mp c23
    refine lv_iconst (v := 0) hx hb dX7_openHours_22 (by decide) ?_
    exact tk_iret hC hr hlocks hK ⟨hT, hF, ⟨(by decide), (by decide)⟩⟩ hw dX7_openHours_23
abbrev P_X7_isOpen_5 (ad : Nat → Nat) (cy : Nat → ClassId) (B : Int) (qr : Nat) (s1 : Int) (a1 : Int32) (a3 : Int64) (w0 : va_W) : Int32 → va_W → Prop := fun r u => TW ksC ad cy B qr s1 u ∧ FE ksC ([] : List (Nat × Nat × Nat)) w0 u ∧ ((r = 0) ∨ (r = 1))
set_option maxHeartbeats 4000000 in
set_option maxRecDepth 100000 in
theorem k_X7_isOpen_5 (l : Launch) (adK adV : Nat → Nat) (dC : Nat → ClassId) (dI : Nat → Nat → Nat) (cy : Nat → ClassId) (ad : Nat → Nat) (B : Int) (hB0 : 2147483648 ≤ B) (hB1 : B ≤ 1152921504606846976) (qr : Nat) (s1 : Int)  (a1 : Int32) (ra1 : 0 ≤ a1.toInt) (ta1 : a1.toInt ≤ 11) (a3 : Int64) (ra3 : 0 ≤ a3.toInt) (ta3 : a3.toInt ≤ 2305843009213693952) (w0 : va_W) (sz : Nat) (hT : TW ksC ad cy B qr s1 w0)  : Met l yX7_isOpen (wu yX7_isOpen cX7_isOpen 7 (some .boolean)) ({ frames := 2, cells := 0, slots := 0, locals := 39 }) (va_Pc [.ref (ad 39), .int a1, .int 1, .long a3, .int 0] (wpreS adK adV dC dI cy sz w0)) (va_Qi (P_X7_isOpen_5 ad cy B qr s1 a1 a3 w0) (fun u : va_W => wpost dC dI cy (va_A w0 sz) u) (va_A w0 sz)) 0 0 (va_A w0 sz) := by
  refine Met.ofW (cc := cX7_isOpen) (maxL := 7) (ret := (some .boolean)) (by decide) rfl ?_
  intro p e s m args below meth c s₁ Bk hml hv
  obtain ⟨rfl, ⟨hsz, hP, hK, hD0⟩, hE, hSR⟩ := hv
  have hx := Bk.exec
  have hb := Bk.bytes
  have hr := Bk.returns
  have hlocks := Bk.notSynchronized
  have hC : CallFix p m c cX7_isOpen 7 s _ (wu yX7_isOpen cX7_isOpen 7 (some .boolean)) RX7 := ⟨hx, hb, hml, findClass_of_methodNamed Bk.named, atoms_spec (ws := (wu yX7_isOpen cX7_isOpen 7 (some .boolean))) Bk.pre⟩
  subst hsz
  have hD := hD0.self (sz := s.heap.size)
  generalize hAe : va_A w0 s.heap.size = A at hD hE ⊢
  have hA : ∀ q : Nat, s.heap.size ≤ q → A q := fun q h => by rw [← hAe]; exact Or.inr h
  have hw : Wd dC dI A s.heap s.heap [] w0 := ⟨hP, hD, va_S.rf⟩
  have hF : FE ksC ([] : List (Nat × Nat × Nat)) w0 w0 := FE.rf
  have hl := lv_entry ([.ref (ad 39), .int a1, .int 1, .long a3, .int 0]) (n := 7) (Nat.le_of_ble_eq_true rfl)
  rw [lg_entry_eq]
  generalize (lg_sl ([.ref (ad 39), .int a1, .int 1, .long a3, .int 0]) ++ List.replicate (7 - (lg_sl ([.ref (ad 39), .int a1, .int 1, .long a3, .int 0])).length) Slot.unset).toArray = ls at hl ⊢
  have hl : lv_has ls 7 [(0, .ref (ad 39)), (1, .int a1), (2, .int 1), (3, .long a3), (5, .int 0)] := hl
  generalize hloc : ([] : List Loc) = locs at hw ⊢
  refine lv_aload_n hx hb dX7_isOpen_0 rfl (lv_at hl 0 rfl) ?_
  refine lv_iload_n hx hb dX7_isOpen_1 rfl (lv_at hl 1 rfl) ?_
  refine lv_iload_n hx hb dX7_isOpen_2 rfl (lv_at hl 2 rfl) ?_
  refine lv_lload_n hx hb dX7_isOpen_3 rfl (lv_at hl 3 rfl) ?_
  refine lv_ldc2 (v := 24) hx hb hC.2.2.2.1 (hC.2.2.2.2 _ (List.mem_cons_of_mem _ uw_31_10)) dX7_isOpen_4 ?_
  refine lv_ldiv hx hb dX7_isOpen_7 (by decide) ?_
  refine lv_topl (fun x1 ex1 => ?_)
  have ex1 : x1.toInt = a3.toInt / (24 : Int) := by rw [ex1]; exact wk_divl (show 0 ≤ a3.toInt from ra3) (show 0 < (24 : Int) by decide)
  refine lv_iload hx hb dX7_isOpen_8 (lv_at hl 4 rfl) ?_
  refine tk_Vi hC hK hw hT hA hE hSR kC_at39 (by decide) rfl (k_X7_openHours_5 l adK adV dC dI cy ad B hB0 (Int.le_trans hB1 (by decide)) qr s1   a1 (show 0 ≤ a1.toInt from ra1) (show a1.toInt ≤ 11 from ta1) x1 (show 0 ≤ x1.toInt by first | with_reducible assumption | omega) (show x1.toInt ≤ 96076792050570581 by first | with_reducible assumption | omega) w0 s.heap.size hT ) (cwV 4 hC.2.2.2.2 uV_RX7_148 rfl rfl rfl (by decide +kernel) ⟨Nat.le_of_ble_eq_true rfl, Nat.le_of_ble_eq_true rfl⟩) rfl hl.1 rfl (Nat.le_of_ble_eq_true rfl) dX7_isOpen_10 (fun r2 w4 H locs hp3 hw => ?_)
  obtain ⟨hT, k5, hg8⟩ := hp3
  have hF := hF.tr k5 (by decide)
  obtain ⟨g6, g7⟩ := hg8
  refine lv_istore (lv' := [(6, .int r2), (0, .ref (ad 39)), (1, .int a1), (2, .int 1), (3, .long a3), (5, .int 0)]) hx hb dX7_isOpen_13 hl (by decide) rfl (fun ls hl => ?_)
  refine lv_iload hx hb dX7_isOpen_15 (lv_at hl 0 rfl) ?_
  refine lv_lload_n hx hb dX7_isOpen_17 rfl (lv_at hl 4 rfl) ?_
  refine lv_ldc2 (v := 24) hx hb hC.2.2.2.1 (hC.2.2.2.2 _ (List.mem_cons_of_mem _ uw_31_10)) dX7_isOpen_18 ?_
  refine lv_lrem hx hb dX7_isOpen_21 (by decide) ?_
  refine lv_topl (fun x9 ex9 => ?_)
  have ex9 : x9.toInt = a3.toInt % (24 : Int) := by rw [ex9]; exact wk_reml (show 0 ≤ a3.toInt from ra3) (show 0 < (24 : Int) by decide)
  refine lv_l2i hx hb dX7_isOpen_22 rfl ?_
  refine lv_topi (fun x10 ex10 => ?_)
  have ex10 : x10.toInt = x9.toInt := by rw [ex10]; exact wk_l2i (by omega) (by omega)
  refine lv_ishr hx hb dX7_isOpen_23 ?_
  refine lv_topi (fun x11 ex11 => ?_)
  have bx11 : 0 ≤ x11.toInt ∧ x11.toInt ≤ r2.toInt := by rw [ex11]; exact wk_shr (by omega)
  refine lv_iconst (v := 1) hx hb dX7_isOpen_24 (by decide) ?_
  refine lv_iand hx hb dX7_isOpen_25 ?_
  refine lv_topi (fun x12 ex12 => ?_)
  have bx12 : 0 ≤ x12.toInt ∧ x12.toInt ≤ (1 : Int) := by rw [ex12]; exact wk_and (by decide)
  refine lv_if_eq (tgt := 33) hx hb dX7_isOpen_26 (by decide) (fun c13 => ?_) (fun c13 => ?_)
  · have c13 : x12.toInt = (0 : Int) := wk_eq.mp c13
    refine lv_iconst (v := 0) hx hb dX7_isOpen_33 (by decide) ?_
    exact tk_zret hC hr rfl hlocks hK ⟨hT, hF, (Or.inl rfl)⟩ hw dX7_isOpen_34
  · have c13 : ¬ x12.toInt = (0 : Int) := wk_eqF c13
    refine lv_iconst (v := 1) hx hb dX7_isOpen_29 (by decide) ?_
    refine lv_goto (tgt := 34) hx hb dX7_isOpen_30 (by decide) ?_
    exact tk_zret hC hr rfl hlocks hK ⟨hT, hF, (Or.inr rfl)⟩ hw dX7_isOpen_34
abbrev P_X7_openHours_6 (ad : Nat → Nat) (cy : Nat → ClassId) (B : Int) (qr : Nat) (s1 : Int) (a1 : Int32) (a3 : Int64) (w0 : va_W) : Int32 → va_W → Prop := fun r u => TW ksC ad cy B qr s1 u ∧ FE ksC ([] : List (Nat × Nat × Nat)) w0 u ∧ ((0 ≤ r.toInt ∧ r.toInt ≤ 16777215))
set_option maxHeartbeats 4000000 in
set_option maxRecDepth 100000 in
theorem k_X7_openHours_6 (l : Launch) (adK adV : Nat → Nat) (dC : Nat → ClassId) (dI : Nat → Nat → Nat) (cy : Nat → ClassId) (ad : Nat → Nat) (B : Int) (hB0 : 2147483648 ≤ B) (hB1 : B ≤ 1152921504606846976) (qr : Nat) (s1 : Int)  (a1 : Int32) (ra1 : 0 ≤ a1.toInt) (ta1 : a1.toInt ≤ 11) (a3 : Int64) (ra3 : 0 ≤ a3.toInt) (ta3 : a3.toInt ≤ 96076792050570581) (w0 : va_W) (sz : Nat) (hT : TW ksC ad cy B qr s1 w0)  : Met l yX7_openHours (wu yX7_openHours cX7_openHours 8 (some .int)) ({ frames := 1, cells := 0, slots := 0, locals := 12 }) (va_Pc [.ref (ad 39), .int a1, .int 1, .long a3, .int 1] (wpreS adK adV dC dI cy sz w0)) (va_Qi (P_X7_openHours_6 ad cy B qr s1 a1 a3 w0) (fun u : va_W => wpost dC dI cy (va_A w0 sz) u) (va_A w0 sz)) 0 0 (va_A w0 sz) := by
  refine Met.ofW (cc := cX7_openHours) (maxL := 8) (ret := (some .int)) (by decide) rfl ?_
  intro p e s m args below meth c s₁ Bk hml hv
  obtain ⟨rfl, ⟨hsz, hP, hK, hD0⟩, hE, hSR⟩ := hv
  have hx := Bk.exec
  have hb := Bk.bytes
  have hr := Bk.returns
  have hlocks := Bk.notSynchronized
  have hC : CallFix p m c cX7_openHours 8 s _ (wu yX7_openHours cX7_openHours 8 (some .int)) RX7 := ⟨hx, hb, hml, findClass_of_methodNamed Bk.named, atoms_spec (ws := (wu yX7_openHours cX7_openHours 8 (some .int))) Bk.pre⟩
  subst hsz
  have hD := hD0.self (sz := s.heap.size)
  generalize hAe : va_A w0 s.heap.size = A at hD hE ⊢
  have hA : ∀ q : Nat, s.heap.size ≤ q → A q := fun q h => by rw [← hAe]; exact Or.inr h
  have hw : Wd dC dI A s.heap s.heap [] w0 := ⟨hP, hD, va_S.rf⟩
  have hF : FE ksC ([] : List (Nat × Nat × Nat)) w0 w0 := FE.rf
  have hl := lv_entry ([.ref (ad 39), .int a1, .int 1, .long a3, .int 1]) (n := 8) (Nat.le_of_ble_eq_true rfl)
  rw [lg_entry_eq]
  generalize (lg_sl ([.ref (ad 39), .int a1, .int 1, .long a3, .int 1]) ++ List.replicate (8 - (lg_sl ([.ref (ad 39), .int a1, .int 1, .long a3, .int 1])).length) Slot.unset).toArray = ls at hl ⊢
  have hl : lv_has ls 8 [(0, .ref (ad 39)), (1, .int a1), (2, .int 1), (3, .long a3), (5, .int 1)] := hl
  generalize hloc : ([] : List Loc) = locs at hw ⊢
  have hinX7 : ∀ w ∈ u_ws RX7 TX7 12, w ∈ (wu yX7_openHours cX7_openHours 8 (some .int)) := fun _ h => List.mem_cons_of_mem _ (up_73 h)
  have J93 : ∀ (v93_6 : Int32) (v93_7 : Int32) (H : Heap) (locs : List Loc) (ls : Array Slot) (w1 : va_W), 0 ≤ a1.toInt → a1.toInt ≤ 11 → 0 ≤ a3.toInt → a3.toInt ≤ 96076792050570581 → 0 ≤ v93_7.toInt → v93_7.toInt ≤ 8 → Wd dC dI A s.heap H locs w1 → TW ksC ad cy B qr s1 w1 → FE ksC ([] : List (Nat × Nat × Nat)) w0 w1 → lv_has ls 8 [(0, .ref (ad 39)), (1, .int a1), (2, .int 1), (3, .long a3), (5, .int 1), (6, .int v93_6), (7, .int v93_7)] → W p l e ({ frames := 1, cells := 0, slots := 0, locals := 12 }) s m (List.toArray [.ref (ad 39), .int a1, .int 1, .long a3, .int 1]) below meth c H locs 0 0 (MQ below (va_Qi (P_X7_openHours_6 ad cy B qr s1 a1 a3 w0) (fun u : va_W => wpost dC dI cy A u) A) (List.toArray [.ref (ad 39), .int a1, .int 1, .long a3, .int 1]) s 0 0 A) (F0 m 93 ls []) := by
    intro v93_6 v93_7 H locs ls w1 r2 t3 r4 t5 r6 t7 hw hT hF hl
    refine lv_ldc (v := 16777215) hx hb hC.2.2.2.1 (hC.2.2.2.2 _ (List.mem_cons_of_mem _ uw_31_17)) dX7_openHours_93 ?_
    refine lv_aload_n hx hb dX7_openHours_95 rfl (lv_at hl 0 rfl) ?_
    refine tk_getO hC hK hw hT hinX7 kC_at39 (by decide) rfl 3 (by decide) (List.mem_cons_of_mem _ uw_2_20) rfl rfl dX7_openHours_96 ?_
    refine lv_iload_n hx hb dX7_openHours_99 rfl (lv_at hl 1 rfl) ?_
    refine tk_iald hC hK hw hT kC_at43 rfl rfl (show 0 ≤ a1.toInt from r2) (show a1.toInt < 13 from Int.lt_of_le_of_lt t3 (by decide)) dX7_openHours_100 (fun x8 c9 rx8 tx8 => ?_)
    refine lv_iconst (v := (-1)) hx hb dX7_openHours_101 (by decide) ?_
    refine lv_ixor hx hb dX7_openHours_102 ?_
    refine lv_topi (fun x10 ex10 => ?_)
    refine lv_iand hx hb dX7_openHours_103 ?_
    refine lv_topi (fun x11 ex11 => ?_)
    have bx11 : 0 ≤ x11.toInt ∧ x11.toInt ≤ (16777215 : Int) := by rw [ex11]; exact wk_andC (by decide)
    exact tk_iret hC hr hlocks hK ⟨hT, hF, ⟨(show 0 ≤ x11.toInt by first | with_reducible assumption | omega), (show x11.toInt ≤ 16777215 by first | with_reducible assumption | omega)⟩⟩ hw dX7_openHours_104
  have L44 : ∀ (n44 : Nat) (v44_6 : Int32) (v44_7 : Int32) (H : Heap) (locs : List Loc) (ls : Array Slot) (w12 : va_W), 0 ≤ a1.toInt → a1.toInt ≤ 11 → 0 ≤ a3.toInt → a3.toInt ≤ 96076792050570581 → 0 ≤ v44_7.toInt → v44_7.toInt ≤ 8 → (8 - v44_7.toInt).toNat < n44 → Wd dC dI A s.heap H locs w12 → TW ksC ad cy B qr s1 w12 → FE ksC ([] : List (Nat × Nat × Nat)) w0 w12 → lv_has ls 8 [(0, .ref (ad 39)), (1, .int a1), (2, .int 1), (3, .long a3), (5, .int 1), (6, .int v44_6), (7, .int v44_7)] → W p l e ({ frames := 1, cells := 0, slots := 0, locals := 12 }) s m (List.toArray [.ref (ad 39), .int a1, .int 1, .long a3, .int 1]) below meth c H locs 0 0 (MQ below (va_Qi (P_X7_openHours_6 ad cy B qr s1 a1 a3 w0) (fun u : va_W => wpost dC dI cy A u) A) (List.toArray [.ref (ad 39), .int a1, .int 1, .long a3, .int 1]) s 0 0 A) (F0 m 44 ls []) := by
    intro n44
    induction n44 with
    | zero => intro v44_6 v44_7 H locs ls w12 r13 t14 r15 t16 r17 t18 hm44 hw hT hF hl; omega
    | succ n44 ih44 =>
      intro v44_6 v44_7 H locs ls w12 r13 t14 r15 t16 r17 t18 hm44 hw hT hF hl
      have J81 : ∀ (H : Heap) (locs : List Loc) (ls : Array Slot) (w19 : va_W), 0 ≤ a1.toInt → a1.toInt ≤ 11 → 0 ≤ a3.toInt → a3.toInt ≤ 96076792050570581 → 0 ≤ v44_7.toInt → v44_7.toInt ≤ 7 → Wd dC dI A s.heap H locs w19 → TW ksC ad cy B qr s1 w19 → FE ksC ([] : List (Nat × Nat × Nat)) w0 w19 → lv_has ls 8 [(0, .ref (ad 39)), (1, .int a1), (2, .int 1), (3, .long a3), (5, .int 1), (6, .int v44_6), (7, .int v44_7)] → W p l e ({ frames := 1, cells := 0, slots := 0, locals := 12 }) s m (List.toArray [.ref (ad 39), .int a1, .int 1, .long a3, .int 1]) below meth c H locs 0 0 (MQ below (va_Qi (P_X7_openHours_6 ad cy B qr s1 a1 a3 w0) (fun u : va_W => wpost dC dI cy A u) A) (List.toArray [.ref (ad 39), .int a1, .int 1, .long a3, .int 1]) s 0 0 A) (F0 m 81 ls []) := by
        intro H locs ls w19 r20 t21 r22 t23 r24 t25 hw hT hF hl
        refine lv_iload hx hb dX7_openHours_81 (lv_at hl 5 rfl) ?_
        refine lv_iconst (v := 1) hx hb dX7_openHours_83 (by decide) ?_
        refine lv_ishr hx hb dX7_openHours_84 ?_
        refine lv_topi (fun x26 ex26 => ?_)
        refine lv_istore (lv' := [(6, .int x26), (0, .ref (ad 39)), (1, .int a1), (2, .int 1), (3, .long a3), (5, .int 1), (7, .int v44_7)]) hx hb dX7_openHours_85 hl (by decide) rfl (fun ls hl => ?_)
        obtain ⟨x27, ex27⟩ : ∃ y : Int32, y = v44_7 + Int32.ofInt 1 := ⟨_, rfl⟩
        refine lv_iinc (v := x27) (lv' := [(7, .int x27), (6, .int x26), (0, .ref (ad 39)), (1, .int a1), (2, .int 1), (3, .long a3), (5, .int 1)]) hx hb dX7_openHours_87 hl (k := 6) rfl ex27.symm (by decide) rfl (fun ls hl => ?_)
        have ex27 : x27.toInt = v44_7.toInt + 1 := by rw [ex27]; exact wk_add (y := 1) (show -2147483648 ≤ v44_7.toInt + 1 by omega) (show v44_7.toInt + 1 ≤ 2147483647 by omega)
        refine lv_goto (tgt := 44) hx hb dX7_openHours_90 (by decide) ?_
        exact ih44 x26 x27 H locs ls w19 (show 0 ≤ a1.toInt from r20) (show a1.toInt ≤ 11 from t21) (show 0 ≤ a3.toInt from r22) (show a3.toInt ≤ 96076792050570581 from t23) (show 0 ≤ x27.toInt by first | with_reducible assumption | omega) (show x27.toInt ≤ 8 by first | with_reducible assumption | omega) (show (8 - x27.toInt).toNat < n44 by first | exact tn_lt hm44 (by omega) (by omega) | omega) hw hT hF  (lv_sub hl [2, 3, 4, 5, 6, 1, 0] rfl)
      refine lv_iload hx hb dX7_openHours_44 (lv_at hl 5 rfl) ?_
      refine lv_if_eq (tgt := 93) hx hb dX7_openHours_46 (by decide) (fun c28 => ?_) (fun c28 => ?_)
      · have c28 : v44_6.toInt = (0 : Int) := wk_eq.mp c28
        exact J93 v44_6 v44_7 H locs ls w12 (show 0 ≤ a1.toInt from r13) (show a1.toInt ≤ 11 from t14) (show 0 ≤ a3.toInt from r15) (show a3.toInt ≤ 96076792050570581 from t16) (show 0 ≤ v44_7.toInt from r17) (show v44_7.toInt ≤ 8 from t18)  hw hT hF  (lv_sub hl [0, 1, 2, 3, 4, 5, 6] rfl)
      · have c28 : ¬ v44_6.toInt = (0 : Int) := wk_eqF c28
        refine lv_iload hx hb dX7_openHours_49 (lv_at hl 6 rfl) ?_
        refine lv_bipush (v := 8) hx hb dX7_openHours_51 (by decide) ?_
        refine lv_icmp_ge (tgt := 93) hx hb dX7_openHours_53 (by decide) (fun c29 => ?_) (fun c29 => ?_)
        · have c29 : (8 : Int) ≤ v44_7.toInt := wk_le.mp c29
          exact J93 v44_6 v44_7 H locs ls w12 (show 0 ≤ a1.toInt from r13) (show a1.toInt ≤ 11 from t14) (show 0 ≤ a3.toInt from r15) (show a3.toInt ≤ 96076792050570581 from t16) (show 0 ≤ v44_7.toInt from r17) (show v44_7.toInt ≤ 8 from t18)  hw hT hF  (lv_sub hl [0, 1, 2, 3, 4, 5, 6] rfl)
        · have c29 : v44_7.toInt < (8 : Int) := wk_leF c29
          refine lv_iload hx hb dX7_openHours_56 (lv_at hl 5 rfl) ?_
          refine lv_iconst (v := 1) hx hb dX7_openHours_58 (by decide) ?_
          refine lv_iand hx hb dX7_openHours_59 ?_
          refine lv_topi (fun x30 ex30 => ?_)
          have bx30 : 0 ≤ x30.toInt ∧ x30.toInt ≤ (1 : Int) := by rw [ex30]; exact wk_and (by decide)
          refine lv_if_eq (tgt := 81) hx hb dX7_openHours_60 (by decide) (fun c31 => ?_) (fun c31 => ?_)
          · have c31 : x30.toInt = (0 : Int) := wk_eq.mp c31
            exact J81  H locs ls w12 (show 0 ≤ a1.toInt from r13) (show a1.toInt ≤ 11 from t14) (show 0 ≤ a3.toInt from r15) (show a3.toInt ≤ 96076792050570581 from t16) (show 0 ≤ v44_7.toInt from r17) (show v44_7.toInt ≤ 7 by first | with_reducible assumption | omega)  hw hT hF  (lv_sub hl [0, 1, 2, 3, 4, 5, 6] rfl)
          · have c31 : ¬ x30.toInt = (0 : Int) := wk_eqF c31
            refine lv_aload_n hx hb dX7_openHours_63 rfl (lv_at hl 0 rfl) ?_
            refine tk_getO hC hK hw hT hinX7 kC_at39 (by decide) rfl 6 (by decide) (List.mem_cons_of_mem _ uw_2_23) rfl rfl dX7_openHours_64 ?_
            refine lv_iload hx hb dX7_openHours_67 (lv_at hl 6 rfl) ?_
            refine tk_iald hC hK hw hT kC_at46 rfl rfl (show 0 ≤ v44_7.toInt from r17) (show v44_7.toInt < 8 from c29) dX7_openHours_69 (fun x32 c33 rx32 tx32 => ?_)
            refine lv_lload_n hx hb dX7_openHours_70 rfl (lv_at hl 3 rfl) ?_
            refine lv_ldc2 (v := 360) hx hb hC.2.2.2.1 (hC.2.2.2.2 _ (List.mem_cons_of_mem _ uw_31_16)) dX7_openHours_71 ?_
            refine lv_lrem hx hb dX7_openHours_74 (by decide) ?_
            refine lv_topl (fun x34 ex34 => ?_)
            have ex34 : x34.toInt = a3.toInt % (360 : Int) := by rw [ex34]; exact wk_reml (show 0 ≤ a3.toInt from r15) (show 0 < (360 : Int) by decide)
            refine lv_l2i hx hb dX7_openHours_75 rfl ?_
            refine lv_topi (fun x35 ex35 => ?_)
            have ex35 : x35.toInt = x34.toInt := by rw [ex35]; exact wk_l2i (by omega) (by omega)
            refine lv_icmp_ne (tgt := 81) hx hb dX7_openHours_76 (by decide) (fun c36 => ?_) (fun c36 => ?_)
            · have c36 : ¬ x32.toInt = x35.toInt := wk_eqF c36
              exact J81  H locs ls w12 (show 0 ≤ a1.toInt from r13) (show a1.toInt ≤ 11 from t14) (show 0 ≤ a3.toInt from r15) (show a3.toInt ≤ 96076792050570581 from t16) (show 0 ≤ v44_7.toInt from r17) (show v44_7.toInt ≤ 7 by first | with_reducible assumption | omega)  hw hT hF  (lv_sub hl [0, 1, 2, 3, 4, 5, 6] rfl)
            · have c36 : x32.toInt = x35.toInt := wk_eq.mp c36
              refine lv_iconst (v := 0) hx hb dX7_openHours_79 (by decide) ?_
              exact tk_iret hC hr hlocks hK ⟨hT, hF, ⟨(by decide), (by decide)⟩⟩ hw dX7_openHours_80
  refine lv_aload_n hx hb dX7_openHours_0 rfl (lv_at hl 0 rfl) ?_
  refine tk_getO hC hK hw hT hinX7 kC_at39 (by decide) rfl 4 (by decide) (List.mem_cons_of_mem _ uw_2_21) rfl rfl dX7_openHours_1 ?_
  refine lv_iconst (v := 2) hx hb dX7_openHours_4 (by decide) ?_
  refine lv_iload_n hx hb dX7_openHours_5 rfl (lv_at hl 1 rfl) ?_
  refine lv_imul hx hb dX7_openHours_6 ?_
  refine lv_topi (fun x37 ex37 => ?_)
  have ex37 : x37.toInt = (2 : Int) * a1.toInt := by rw [ex37]; exact wk_mul (show (-2147483648) ≤ (2 : Int) * a1.toInt by omega) (show (2 : Int) * a1.toInt ≤ 2147483647 by omega)
  refine lv_iload_n hx hb dX7_openHours_7 rfl (lv_at hl 2 rfl) ?_
  refine lv_iadd hx hb dX7_openHours_8 ?_
  refine lv_topi (fun x38 ex38 => ?_)
  have ex38 : x38.toInt = x37.toInt + (1 : Int) := by rw [ex38]; exact wk_add (show (-2147483648) ≤ x37.toInt + (1 : Int) by omega) (show x37.toInt + (1 : Int) ≤ 2147483647 by omega)
  refine tk_iald hC hK hw hT kC_at44 rfl rfl (show 0 ≤ x38.toInt by first | with_reducible assumption | omega) (show x38.toInt < 26 by first | with_reducible assumption | omega) dX7_openHours_9 (fun x39 c40 rx39 tx39 => ?_)
  refine lv_lload_n hx hb dX7_openHours_10 rfl (lv_at hl 3 rfl) ?_
  refine lv_ldc2 (v := 7) hx hb hC.2.2.2.1 (hC.2.2.2.2 _ (List.mem_cons_of_mem _ uw_31_15)) dX7_openHours_11 ?_
  refine lv_lrem hx hb dX7_openHours_14 (by decide) ?_
  refine lv_topl (fun x41 ex41 => ?_)
  have ex41 : x41.toInt = a3.toInt % (7 : Int) := by rw [ex41]; exact wk_reml (show 0 ≤ a3.toInt from ra3) (show 0 < (7 : Int) by decide)
  refine lv_l2i hx hb dX7_openHours_15 rfl ?_
  refine lv_topi (fun x42 ex42 => ?_)
  have ex42 : x42.toInt = x41.toInt := by rw [ex42]; exact wk_l2i (by omega) (by omega)
  refine lv_ishr hx hb dX7_openHours_16 ?_
  refine lv_topi (fun x43 ex43 => ?_)
  refine lv_iconst (v := 1) hx hb dX7_openHours_17 (by decide) ?_
  refine lv_iand hx hb dX7_openHours_18 ?_
  refine lv_topi (fun x44 ex44 => ?_)
  have bx44 : 0 ≤ x44.toInt ∧ x44.toInt ≤ (1 : Int) := by rw [ex44]; exact wk_and (by decide)
  refine lv_if_ne (tgt := 24) hx hb dX7_openHours_19 (by decide) (fun c45 => ?_) (fun c45 => ?_)
  · have c45 : ¬ x44.toInt = (0 : Int) := wk_eqF c45
    refine lv_iload hx hb dX7_openHours_24 (lv_at hl 4 rfl) ?_
    refine lv_if_eq (tgt := 38) hx hb dX7_openHours_26 (by decide) (fun c => absurd c (by decide)) (fun _ => ?_)
    refine lv_aload_n hx hb dX7_openHours_29 rfl (lv_at hl 0 rfl) ?_
    refine tk_getO hC hK hw hT hinX7 kC_at39 (by decide) rfl 7 (by decide) (List.mem_cons_of_mem _ uw_3_0) rfl rfl dX7_openHours_30 ?_
    refine lv_iload_n hx hb dX7_openHours_33 rfl (lv_at hl 1 rfl) ?_
    refine tk_iald hC hK hw hT kC_at47 rfl rfl (show 0 ≤ a1.toInt from ra1) (show a1.toInt < 13 from Int.lt_of_le_of_lt ta1 (by decide)) dX7_openHours_34 (fun x46 c47 rx46 tx46 => ?_)
    refine lv_goto (tgt := 39) hx hb dX7_openHours_35 (by decide) ?_
    refine lv_istore (lv' := [(6, .int x46), (0, .ref (ad 39)), (1, .int a1), (2, .int 1), (3, .long a3), (5, .int 1)]) hx hb dX7_openHours_39 hl (by decide) rfl (fun ls hl => ?_)
    refine lv_iconst (v := 0) hx hb dX7_openHours_41 (by decide) ?_
    refine lv_istore (lv' := [(7, .int 0), (6, .int x46), (0, .ref (ad 39)), (1, .int a1), (2, .int 1), (3, .long a3), (5, .int 1)]) hx hb dX7_openHours_42 hl (by decide) rfl (fun ls hl => ?_)
    exact L44 ((8 - (0 : Int)).toNat + 1) x46 0 s.heap locs ls w0 (show 0 ≤ a1.toInt from ra1) (show a1.toInt ≤ 11 from ta1) (show 0 ≤ a3.toInt from ra3) (show a3.toInt ≤ 96076792050570581 from ta3) (by decide) (by decide) (Nat.lt_succ_self _) hw hT hF  (lv_sub hl [2, 3, 4, 5, 6, 1, 0] rfl)
  · have c45 : x44.toInt = (0 : Int) := wk_eq.mp c45
    refine lv_iconst (v := 0) hx hb dX7_openHours_22 (by decide) ?_
    exact tk_iret hC hr hlocks hK ⟨hT, hF, ⟨(by decide), (by decide)⟩⟩ hw dX7_openHours_23
abbrev P_X7_isOpen_6 (ad : Nat → Nat) (cy : Nat → ClassId) (B : Int) (qr : Nat) (s1 : Int) (a1 : Int32) (a3 : Int64) (w0 : va_W) : Int32 → va_W → Prop := fun r u => TW ksC ad cy B qr s1 u ∧ FE ksC ([] : List (Nat × Nat × Nat)) w0 u ∧ ((r = 0) ∨ (r = 1))
set_option maxHeartbeats 4000000 in
set_option maxRecDepth 100000 in
theorem k_X7_isOpen_6 (l : Launch) (adK adV : Nat → Nat) (dC : Nat → ClassId) (dI : Nat → Nat → Nat) (cy : Nat → ClassId) (ad : Nat → Nat) (B : Int) (hB0 : 2147483648 ≤ B) (hB1 : B ≤ 1152921504606846976) (qr : Nat) (s1 : Int)  (a1 : Int32) (ra1 : 0 ≤ a1.toInt) (ta1 : a1.toInt ≤ 11) (a3 : Int64) (ra3 : 0 ≤ a3.toInt) (ta3 : a3.toInt ≤ 2305843009213693952) (w0 : va_W) (sz : Nat) (hT : TW ksC ad cy B qr s1 w0)  : Met l yX7_isOpen (wu yX7_isOpen cX7_isOpen 7 (some .boolean)) ({ frames := 2, cells := 0, slots := 0, locals := 39 }) (va_Pc [.ref (ad 39), .int a1, .int 1, .long a3, .int 1] (wpreS adK adV dC dI cy sz w0)) (va_Qi (P_X7_isOpen_6 ad cy B qr s1 a1 a3 w0) (fun u : va_W => wpost dC dI cy (va_A w0 sz) u) (va_A w0 sz)) 0 0 (va_A w0 sz) := by
  refine Met.ofW (cc := cX7_isOpen) (maxL := 7) (ret := (some .boolean)) (by decide) rfl ?_
  intro p e s m args below meth c s₁ Bk hml hv
  obtain ⟨rfl, ⟨hsz, hP, hK, hD0⟩, hE, hSR⟩ := hv
  have hx := Bk.exec
  have hb := Bk.bytes
  have hr := Bk.returns
  have hlocks := Bk.notSynchronized
  have hC : CallFix p m c cX7_isOpen 7 s _ (wu yX7_isOpen cX7_isOpen 7 (some .boolean)) RX7 := ⟨hx, hb, hml, findClass_of_methodNamed Bk.named, atoms_spec (ws := (wu yX7_isOpen cX7_isOpen 7 (some .boolean))) Bk.pre⟩
  subst hsz
  have hD := hD0.self (sz := s.heap.size)
  generalize hAe : va_A w0 s.heap.size = A at hD hE ⊢
  have hA : ∀ q : Nat, s.heap.size ≤ q → A q := fun q h => by rw [← hAe]; exact Or.inr h
  have hw : Wd dC dI A s.heap s.heap [] w0 := ⟨hP, hD, va_S.rf⟩
  have hF : FE ksC ([] : List (Nat × Nat × Nat)) w0 w0 := FE.rf
  have hl := lv_entry ([.ref (ad 39), .int a1, .int 1, .long a3, .int 1]) (n := 7) (Nat.le_of_ble_eq_true rfl)
  rw [lg_entry_eq]
  generalize (lg_sl ([.ref (ad 39), .int a1, .int 1, .long a3, .int 1]) ++ List.replicate (7 - (lg_sl ([.ref (ad 39), .int a1, .int 1, .long a3, .int 1])).length) Slot.unset).toArray = ls at hl ⊢
  have hl : lv_has ls 7 [(0, .ref (ad 39)), (1, .int a1), (2, .int 1), (3, .long a3), (5, .int 1)] := hl
  generalize hloc : ([] : List Loc) = locs at hw ⊢
  refine lv_aload_n hx hb dX7_isOpen_0 rfl (lv_at hl 0 rfl) ?_
  refine lv_iload_n hx hb dX7_isOpen_1 rfl (lv_at hl 1 rfl) ?_
  refine lv_iload_n hx hb dX7_isOpen_2 rfl (lv_at hl 2 rfl) ?_
  refine lv_lload_n hx hb dX7_isOpen_3 rfl (lv_at hl 3 rfl) ?_
  refine lv_ldc2 (v := 24) hx hb hC.2.2.2.1 (hC.2.2.2.2 _ (List.mem_cons_of_mem _ uw_31_10)) dX7_isOpen_4 ?_
  refine lv_ldiv hx hb dX7_isOpen_7 (by decide) ?_
  refine lv_topl (fun x1 ex1 => ?_)
  have ex1 : x1.toInt = a3.toInt / (24 : Int) := by rw [ex1]; exact wk_divl (show 0 ≤ a3.toInt from ra3) (show 0 < (24 : Int) by decide)
  refine lv_iload hx hb dX7_isOpen_8 (lv_at hl 4 rfl) ?_
  refine tk_Vi hC hK hw hT hA hE hSR kC_at39 (by decide) rfl (k_X7_openHours_6 l adK adV dC dI cy ad B hB0 (Int.le_trans hB1 (by decide)) qr s1   a1 (show 0 ≤ a1.toInt from ra1) (show a1.toInt ≤ 11 from ta1) x1 (show 0 ≤ x1.toInt by first | with_reducible assumption | omega) (show x1.toInt ≤ 96076792050570581 by first | with_reducible assumption | omega) w0 s.heap.size hT ) (cwV 4 hC.2.2.2.2 uV_RX7_148 rfl rfl rfl (by decide +kernel) ⟨Nat.le_of_ble_eq_true rfl, Nat.le_of_ble_eq_true rfl⟩) rfl hl.1 rfl (Nat.le_of_ble_eq_true rfl) dX7_isOpen_10 (fun r2 w4 H locs hp3 hw => ?_)
  obtain ⟨hT, k5, hg8⟩ := hp3
  have hF := hF.tr k5 (by decide)
  obtain ⟨g6, g7⟩ := hg8
  refine lv_istore (lv' := [(6, .int r2), (0, .ref (ad 39)), (1, .int a1), (2, .int 1), (3, .long a3), (5, .int 1)]) hx hb dX7_isOpen_13 hl (by decide) rfl (fun ls hl => ?_)
  refine lv_iload hx hb dX7_isOpen_15 (lv_at hl 0 rfl) ?_
  refine lv_lload_n hx hb dX7_isOpen_17 rfl (lv_at hl 4 rfl) ?_
  refine lv_ldc2 (v := 24) hx hb hC.2.2.2.1 (hC.2.2.2.2 _ (List.mem_cons_of_mem _ uw_31_10)) dX7_isOpen_18 ?_
  refine lv_lrem hx hb dX7_isOpen_21 (by decide) ?_
  refine lv_topl (fun x9 ex9 => ?_)
  have ex9 : x9.toInt = a3.toInt % (24 : Int) := by rw [ex9]; exact wk_reml (show 0 ≤ a3.toInt from ra3) (show 0 < (24 : Int) by decide)
  refine lv_l2i hx hb dX7_isOpen_22 rfl ?_
  refine lv_topi (fun x10 ex10 => ?_)
  have ex10 : x10.toInt = x9.toInt := by rw [ex10]; exact wk_l2i (by omega) (by omega)
  refine lv_ishr hx hb dX7_isOpen_23 ?_
  refine lv_topi (fun x11 ex11 => ?_)
  have bx11 : 0 ≤ x11.toInt ∧ x11.toInt ≤ r2.toInt := by rw [ex11]; exact wk_shr (by omega)
  refine lv_iconst (v := 1) hx hb dX7_isOpen_24 (by decide) ?_
  refine lv_iand hx hb dX7_isOpen_25 ?_
  refine lv_topi (fun x12 ex12 => ?_)
  have bx12 : 0 ≤ x12.toInt ∧ x12.toInt ≤ (1 : Int) := by rw [ex12]; exact wk_and (by decide)
  refine lv_if_eq (tgt := 33) hx hb dX7_isOpen_26 (by decide) (fun c13 => ?_) (fun c13 => ?_)
  · have c13 : x12.toInt = (0 : Int) := wk_eq.mp c13
    refine lv_iconst (v := 0) hx hb dX7_isOpen_33 (by decide) ?_
    exact tk_zret hC hr rfl hlocks hK ⟨hT, hF, (Or.inl rfl)⟩ hw dX7_isOpen_34
  · have c13 : ¬ x12.toInt = (0 : Int) := wk_eqF c13
    refine lv_iconst (v := 1) hx hb dX7_isOpen_29 (by decide) ?_
    refine lv_goto (tgt := 34) hx hb dX7_isOpen_30 (by decide) ?_
    exact tk_zret hC hr rfl hlocks hK ⟨hT, hF, (Or.inr rfl)⟩ hw dX7_isOpen_34
abbrev P_X1_isOpenFor_1 (ad : Nat → Nat) (cy : Nat → ClassId) (B : Int) (qr : Nat) (s1 : Int) (q1_ : Nat) (a2 : Int32) (w0 : va_W) : Int32 → va_W → Prop := fun r u => TW ksC ad cy B qr s1 u ∧ FE ksC ([] : List (Nat × Nat × Nat)) w0 u ∧ ((r = 0) ∨ (r = 1 ∧ (∃ y : Int32, gi u 149 9 = y ∧ 0 ≤ y.toInt ∧ y.toInt ≤ 1)))
set_option maxHeartbeats 4000000 in
set_option maxRecDepth 100000 in
theorem k_X1_isOpenFor_1 (l : Launch) (adK adV : Nat → Nat) (dC : Nat → ClassId) (dI : Nat → Nat → Nat) (cy : Nat → ClassId) (ad : Nat → Nat) (B : Int) (hB0 : 2147483648 ≤ B) (hB1 : B ≤ 1152921504606846976) (qr : Nat) (s1 : Int)  (q1_ : Nat) (hkq1_ : ksC[q1_]? = some 9) (a2 : Int32) (ra2 : 0 ≤ a2.toInt) (ta2 : a2.toInt ≤ 11) (w0 : va_W) (sz : Nat) (hT : TW ksC ad cy B qr s1 w0)  : Met l yX1_isOpenFor (wu yX1_isOpenFor cX1_isOpenFor 4 (some .boolean)) ({ frames := 3, cells := 0, slots := 0, locals := 65 }) (va_Pc [.ref (ad 149), .ref (ad q1_), .int a2] (wpreS adK adV dC dI cy sz w0)) (va_Qi (P_X1_isOpenFor_1 ad cy B qr s1 q1_ a2 w0) (fun u : va_W => wpost dC dI cy (va_A w0 sz) u) (va_A w0 sz)) 0 0 (va_A w0 sz) := by
  refine Met.ofW (cc := cX1_isOpenFor) (maxL := 4) (ret := (some .boolean)) (by decide) rfl ?_
  intro p e s m args below meth c s₁ Bk hml hv
  obtain ⟨rfl, ⟨hsz, hP, hK, hD0⟩, hE, hSR⟩ := hv
  have hx := Bk.exec
  have hb := Bk.bytes
  have hr := Bk.returns
  have hlocks := Bk.notSynchronized
  have hC : CallFix p m c cX1_isOpenFor 4 s _ (wu yX1_isOpenFor cX1_isOpenFor 4 (some .boolean)) RX1 := ⟨hx, hb, hml, findClass_of_methodNamed Bk.named, atoms_spec (ws := (wu yX1_isOpenFor cX1_isOpenFor 4 (some .boolean))) Bk.pre⟩
  subst hsz
  have hD := hD0.self (sz := s.heap.size)
  generalize hAe : va_A w0 s.heap.size = A at hD hE ⊢
  have hA : ∀ q : Nat, s.heap.size ≤ q → A q := fun q h => by rw [← hAe]; exact Or.inr h
  have hw : Wd dC dI A s.heap s.heap [] w0 := ⟨hP, hD, va_S.rf⟩
  have hF : FE ksC ([] : List (Nat × Nat × Nat)) w0 w0 := FE.rf
  have hl := lv_entry ([.ref (ad 149), .ref (ad q1_), .int a2]) (n := 4) (Nat.le_of_ble_eq_true rfl)
  rw [lg_entry_eq]
  generalize (lg_sl ([.ref (ad 149), .ref (ad q1_), .int a2]) ++ List.replicate (4 - (lg_sl ([.ref (ad 149), .ref (ad q1_), .int a2])).length) Slot.unset).toArray = ls at hl ⊢
  have hl : lv_has ls 4 [(0, .ref (ad 149)), (1, .ref (ad q1_)), (2, .int a2)] := hl
  generalize hloc : ([] : List Loc) = locs at hw ⊢
  have hinX1 : ∀ w ∈ u_ws RX1 TX1 10, w ∈ (wu yX1_isOpenFor cX1_isOpenFor 4 (some .boolean)) := fun _ h => List.mem_cons_of_mem _ (up_78 h)
  have hinX5 : ∀ w ∈ u_ws RX5 TX5 14, w ∈ (wu yX1_isOpenFor cX1_isOpenFor 4 (some .boolean)) := fun _ h => List.mem_cons_of_mem _ (up_76 h)
  have hinX9 : ∀ w ∈ u_ws RX9 TX9 9, w ∈ (wu yX1_isOpenFor cX1_isOpenFor 4 (some .boolean)) := fun _ h => List.mem_cons_of_mem _ (up_82 h)
  have J56 : ∀ (v56_3 : Int32) (f56_q1__0 : Int32) (H : Heap) (locs : List Loc) (ls : Array Slot) (w1 : va_W), 0 ≤ a2.toInt → a2.toInt ≤ 11 → (-1) ≤ v56_3.toInt → v56_3.toInt ≤ 1 → 0 ≤ f56_q1__0.toInt → f56_q1__0.toInt ≤ 9 → Wd dC dI A s.heap H locs w1 → TW ksC ad cy B qr s1 w1 → FE ksC ([] : List (Nat × Nat × Nat)) w0 w1 → gi w1 q1_ 0 = f56_q1__0 → lv_has ls 4 [(0, .ref (ad 149)), (1, .ref (ad q1_)), (2, .int a2), (3, .int v56_3)] → W p l e ({ frames := 3, cells := 0, slots := 0, locals := 65 }) s m (List.toArray [.ref (ad 149), .ref (ad q1_), .int a2]) below meth c H locs 0 0 (MQ below (va_Qi (P_X1_isOpenFor_1 ad cy B qr s1 q1_ a2 w0) (fun u : va_W => wpost dC dI cy A u) A) (List.toArray [.ref (ad 149), .ref (ad q1_), .int a2]) s 0 0 A) (F0 m 56 ls []) := by
    intro v56_3 f56_q1__0 H locs ls w1 r2 t3 r4 t5 r6 t7 hw hT hF c8 hl
    refine lv_iconst (v := 0) hx hb dX1_isOpenFor_56 (by decide) ?_
    exact tk_zret hC hr rfl hlocks hK ⟨hT, hF, (Or.inl rfl)⟩ hw dX1_isOpenFor_57
  refine lv_aload_n hx hb dX1_isOpenFor_0 rfl (lv_at hl 0 rfl) ?_
  refine tk_getA hC hK hw hT hinX1 kC_at149 (by decide) rfl 0 (by decide) (List.mem_cons_of_mem _ uw_5_0) rfl rfl dX1_isOpenFor_1 ?_
  refine tk_getO hC hK hw hT hinX5 kC_at38 (by decide) rfl 0 (by decide) (List.mem_cons_of_mem _ uw_43_2) rfl rfl dX1_isOpenFor_4 ?_
  refine lv_iload_n hx hb dX1_isOpenFor_7 rfl (lv_at hl 2 rfl) ?_
  refine lv_aload_n hx hb dX1_isOpenFor_8 rfl (lv_at hl 1 rfl) ?_
  refine tk_geti hC hK hw hT hinX9 hkq1_ (by decide) rfl 0 (by decide) (List.mem_cons_of_mem _ uw_42_22) rfl rfl dX1_isOpenFor_9 (fun x9 c10 rx9 tx9 => ?_)
  refine tk_Vi hC hK hw hT hA hE hSR kC_at39 (by decide) rfl (k_X7_sideOf_2 l adK adV dC dI cy ad B hB0 (Int.le_trans hB1 (by decide)) qr s1   a2 (show 0 ≤ a2.toInt from ra2) (show a2.toInt ≤ 11 from ta2) x9 (show 0 ≤ x9.toInt by first | with_reducible assumption | omega) (show x9.toInt ≤ 9 by first | with_reducible assumption | omega) w0 s.heap.size hT ) (cwV 2 hC.2.2.2.2 uV_RX1_137 rfl rfl rfl (by decide +kernel) ⟨Nat.le_of_ble_eq_true rfl, Nat.le_of_ble_eq_true rfl⟩) rfl hl.1 rfl (Nat.le_of_ble_eq_true rfl) dX1_isOpenFor_12 (fun r11 w13 H locs hp12 hw => ?_)
  obtain ⟨hT, k14, hg17⟩ := hp12
  have hF := hF.tr k14 (by decide)
  have c18 := k14.gi hkq1_ (by decide) c10
  rcases hg17 with rfl | ⟨rfl, c15⟩ | ⟨rfl, c16⟩
  · refine lv_istore_n (lv' := [(3, .int (-1)), (0, .ref (ad 149)), (1, .ref (ad q1_)), (2, .int a2)]) hx hb dX1_isOpenFor_15 rfl hl (by decide) rfl (fun ls hl => ?_)
    refine lv_iload_n hx hb dX1_isOpenFor_16 rfl (lv_at hl 0 rfl) ?_
    refine lv_iconst (v := (-1)) hx hb dX1_isOpenFor_17 (by decide) ?_
    refine lv_icmp_eq (tgt := 56) hx hb dX1_isOpenFor_18 (by decide) (fun _ => ?_) (fun c => absurd (by decide) c)
    exact J56 (-1) x9 H locs ls w13 (show 0 ≤ a2.toInt from ra2) (show a2.toInt ≤ 11 from ta2) (by decide) (by decide) (show 0 ≤ x9.toInt by first | with_reducible assumption | omega) (show x9.toInt ≤ 9 by first | with_reducible assumption | omega)  hw hT hF c18 (lv_sub hl [1, 2, 3, 0] rfl)
  · refine lv_istore_n (lv' := [(3, .int 0), (0, .ref (ad 149)), (1, .ref (ad q1_)), (2, .int a2)]) hx hb dX1_isOpenFor_15 rfl hl (by decide) rfl (fun ls hl => ?_)
    refine lv_iload_n hx hb dX1_isOpenFor_16 rfl (lv_at hl 0 rfl) ?_
    refine lv_iconst (v := (-1)) hx hb dX1_isOpenFor_17 (by decide) ?_
    refine lv_icmp_eq (tgt := 56) hx hb dX1_isOpenFor_18 (by decide) (fun c => absurd c (by decide)) (fun _ => ?_)
    refine lv_aload_n hx hb dX1_isOpenFor_21 rfl (lv_at hl 1 rfl) ?_
    refine tk_getA hC hK hw hT hinX1 kC_at149 (by decide) rfl 0 (by decide) (List.mem_cons_of_mem _ uw_5_0) rfl rfl dX1_isOpenFor_22 ?_
    refine tk_getO hC hK hw hT hinX5 kC_at38 (by decide) rfl 0 (by decide) (List.mem_cons_of_mem _ uw_43_2) rfl rfl dX1_isOpenFor_25 ?_
    refine lv_iload_n hx hb dX1_isOpenFor_28 rfl (lv_at hl 3 rfl) ?_
    refine lv_iload_n hx hb dX1_isOpenFor_29 rfl (lv_at hl 0 rfl) ?_
    refine lv_aload_n hx hb dX1_isOpenFor_30 rfl (lv_at hl 2 rfl) ?_
    refine tk_getB hC hK hw hT hinX9 hkq1_ (by decide) rfl 4 (by decide) (List.mem_cons_of_mem _ uw_42_10) rfl rfl dX1_isOpenFor_31 (fun x19 c20 rx19 tx19 => ?_)
    refine lv_aload_n hx hb dX1_isOpenFor_34 rfl (lv_at hl 1 rfl) ?_
    refine tk_geti hC hK hw hT hinX1 kC_at149 (by decide) rfl 9 (by decide) (List.mem_cons_of_mem _ uw_42_20) rfl rfl dX1_isOpenFor_35 (fun x21 c22 rx21 tx21 => ?_)
    refine lv_if_ne (tgt := 45) hx hb dX1_isOpenFor_38 (by decide) (fun c23 => ?_) (fun c23 => ?_)
    · have c23 : ¬ x21.toInt = (0 : Int) := wk_eqF c23
      refine lv_iconst (v := 0) hx hb dX1_isOpenFor_45 (by decide) ?_
      refine tk_Vi hC hK hw hT hA hE hSR kC_at39 (by decide) rfl (k_X7_isOpen_3 l adK adV dC dI cy ad B hB0 (Int.le_trans hB1 (by decide)) qr s1   a2 (show 0 ≤ a2.toInt from ra2) (show a2.toInt ≤ 11 from ta2) x19 (show 0 ≤ x19.toInt by first | with_reducible assumption | omega) (show x19.toInt ≤ 2305843009213693952 by first | with_reducible assumption | omega) w13 H.size hT ) (cwV 4 hC.2.2.2.2 uV_RX1_140 rfl rfl rfl (by decide +kernel) ⟨Nat.le_of_ble_eq_true rfl, Nat.le_of_ble_eq_true rfl⟩) rfl hl.1 rfl (Nat.le_of_ble_eq_true rfl) dX1_isOpenFor_46 (fun r24 w26 H locs hp25 hw => ?_)
      obtain ⟨hT, k27, hg28⟩ := hp25
      have hF := hF.tr k27 (by decide)
      have c29 := k27.gi hkq1_ (by decide) c18
      have c30 := k27.gi kC_at40 rfl c15
      have c31 := k27.gl hkq1_ (by decide) c20
      have c32 := k27.gi kC_at149 (by decide) c22
      rcases hg28 with rfl | rfl
      · refine lv_if_eq (tgt := 56) hx hb dX1_isOpenFor_49 (by decide) (fun _ => ?_) (fun c => absurd (by decide) c)
        exact J56 0 x9 H locs ls w26 (show 0 ≤ a2.toInt from ra2) (show a2.toInt ≤ 11 from ta2) (by decide) (by decide) (show 0 ≤ x9.toInt by first | with_reducible assumption | omega) (show x9.toInt ≤ 9 by first | with_reducible assumption | omega)  hw hT hF c29 (lv_sub hl [1, 2, 3, 0] rfl)
      · refine lv_if_eq (tgt := 56) hx hb dX1_isOpenFor_49 (by decide) (fun c => absurd c (by decide)) (fun _ => ?_)
        refine lv_iconst (v := 1) hx hb dX1_isOpenFor_52 (by decide) ?_
        refine lv_goto (tgt := 57) hx hb dX1_isOpenFor_53 (by decide) ?_
        exact tk_zret hC hr rfl hlocks hK ⟨hT, hF, (Or.inr ⟨rfl, ⟨x21, c32, (show 0 ≤ x21.toInt from rx21), (show x21.toInt ≤ 1 from tx21)⟩⟩)⟩ hw dX1_isOpenFor_57
    · have c23 : x21.toInt = (0 : Int) := wk_eq.mp c23
      refine lv_iconst (v := 1) hx hb dX1_isOpenFor_41 (by decide) ?_
      refine lv_goto (tgt := 46) hx hb dX1_isOpenFor_42 (by decide) ?_
      refine tk_Vi hC hK hw hT hA hE hSR kC_at39 (by decide) rfl (k_X7_isOpen_4 l adK adV dC dI cy ad B hB0 (Int.le_trans hB1 (by decide)) qr s1   a2 (show 0 ≤ a2.toInt from ra2) (show a2.toInt ≤ 11 from ta2) x19 (show 0 ≤ x19.toInt by first | with_reducible assumption | omega) (show x19.toInt ≤ 2305843009213693952 by first | with_reducible assumption | omega) w13 H.size hT ) (cwV 4 hC.2.2.2.2 uV_RX1_140 rfl rfl rfl (by decide +kernel) ⟨Nat.le_of_ble_eq_true rfl, Nat.le_of_ble_eq_true rfl⟩) rfl hl.1 rfl (Nat.le_of_ble_eq_true rfl) dX1_isOpenFor_46 (fun r33 w35 H locs hp34 hw => ?_)
      obtain ⟨hT, k36, hg37⟩ := hp34
      have hF := hF.tr k36 (by decide)
      have c38 := k36.gi hkq1_ (by decide) c18
      have c39 := k36.gi kC_at40 rfl c15
      have c40 := k36.gl hkq1_ (by decide) c20
      have c41 := k36.gi kC_at149 (by decide) c22
      rcases hg37 with rfl | rfl
      · refine lv_if_eq (tgt := 56) hx hb dX1_isOpenFor_49 (by decide) (fun _ => ?_) (fun c => absurd (by decide) c)
        exact J56 0 x9 H locs ls w35 (show 0 ≤ a2.toInt from ra2) (show a2.toInt ≤ 11 from ta2) (by decide) (by decide) (show 0 ≤ x9.toInt by first | with_reducible assumption | omega) (show x9.toInt ≤ 9 by first | with_reducible assumption | omega)  hw hT hF c38 (lv_sub hl [1, 2, 3, 0] rfl)
      · refine lv_if_eq (tgt := 56) hx hb dX1_isOpenFor_49 (by decide) (fun c => absurd c (by decide)) (fun _ => ?_)
        refine lv_iconst (v := 1) hx hb dX1_isOpenFor_52 (by decide) ?_
        refine lv_goto (tgt := 57) hx hb dX1_isOpenFor_53 (by decide) ?_
        exact tk_zret hC hr rfl hlocks hK ⟨hT, hF, (Or.inr ⟨rfl, ⟨x21, c41, (show 0 ≤ x21.toInt from rx21), (show x21.toInt ≤ 1 from tx21)⟩⟩)⟩ hw dX1_isOpenFor_57
  · refine lv_istore_n (lv' := [(3, .int 1), (0, .ref (ad 149)), (1, .ref (ad q1_)), (2, .int a2)]) hx hb dX1_isOpenFor_15 rfl hl (by decide) rfl (fun ls hl => ?_)
    refine lv_iload_n hx hb dX1_isOpenFor_16 rfl (lv_at hl 0 rfl) ?_
    refine lv_iconst (v := (-1)) hx hb dX1_isOpenFor_17 (by decide) ?_
    refine lv_icmp_eq (tgt := 56) hx hb dX1_isOpenFor_18 (by decide) (fun c => absurd c (by decide)) (fun _ => ?_)
    refine lv_aload_n hx hb dX1_isOpenFor_21 rfl (lv_at hl 1 rfl) ?_
    refine tk_getA hC hK hw hT hinX1 kC_at149 (by decide) rfl 0 (by decide) (List.mem_cons_of_mem _ uw_5_0) rfl rfl dX1_isOpenFor_22 ?_
    refine tk_getO hC hK hw hT hinX5 kC_at38 (by decide) rfl 0 (by decide) (List.mem_cons_of_mem _ uw_43_2) rfl rfl dX1_isOpenFor_25 ?_
    refine lv_iload_n hx hb dX1_isOpenFor_28 rfl (lv_at hl 3 rfl) ?_
    refine lv_iload_n hx hb dX1_isOpenFor_29 rfl (lv_at hl 0 rfl) ?_
    refine lv_aload_n hx hb dX1_isOpenFor_30 rfl (lv_at hl 2 rfl) ?_
    refine tk_getB hC hK hw hT hinX9 hkq1_ (by decide) rfl 4 (by decide) (List.mem_cons_of_mem _ uw_42_10) rfl rfl dX1_isOpenFor_31 (fun x42 c43 rx42 tx42 => ?_)
    refine lv_aload_n hx hb dX1_isOpenFor_34 rfl (lv_at hl 1 rfl) ?_
    refine tk_geti hC hK hw hT hinX1 kC_at149 (by decide) rfl 9 (by decide) (List.mem_cons_of_mem _ uw_42_20) rfl rfl dX1_isOpenFor_35 (fun x44 c45 rx44 tx44 => ?_)
    refine lv_if_ne (tgt := 45) hx hb dX1_isOpenFor_38 (by decide) (fun c46 => ?_) (fun c46 => ?_)
    · have c46 : ¬ x44.toInt = (0 : Int) := wk_eqF c46
      refine lv_iconst (v := 0) hx hb dX1_isOpenFor_45 (by decide) ?_
      refine tk_Vi hC hK hw hT hA hE hSR kC_at39 (by decide) rfl (k_X7_isOpen_5 l adK adV dC dI cy ad B hB0 (Int.le_trans hB1 (by decide)) qr s1   a2 (show 0 ≤ a2.toInt from ra2) (show a2.toInt ≤ 11 from ta2) x42 (show 0 ≤ x42.toInt by first | with_reducible assumption | omega) (show x42.toInt ≤ 2305843009213693952 by first | with_reducible assumption | omega) w13 H.size hT ) (cwV 4 hC.2.2.2.2 uV_RX1_140 rfl rfl rfl (by decide +kernel) ⟨Nat.le_of_ble_eq_true rfl, Nat.le_of_ble_eq_true rfl⟩) rfl hl.1 rfl (Nat.le_of_ble_eq_true rfl) dX1_isOpenFor_46 (fun r47 w49 H locs hp48 hw => ?_)
      obtain ⟨hT, k50, hg51⟩ := hp48
      have hF := hF.tr k50 (by decide)
      have c52 := k50.gi hkq1_ (by decide) c18
      have c53 := k50.gi kC_at40 rfl c16
      have c54 := k50.gl hkq1_ (by decide) c43
      have c55 := k50.gi kC_at149 (by decide) c45
      rcases hg51 with rfl | rfl
      · refine lv_if_eq (tgt := 56) hx hb dX1_isOpenFor_49 (by decide) (fun _ => ?_) (fun c => absurd (by decide) c)
        exact J56 1 x9 H locs ls w49 (show 0 ≤ a2.toInt from ra2) (show a2.toInt ≤ 11 from ta2) (by decide) (by decide) (show 0 ≤ x9.toInt by first | with_reducible assumption | omega) (show x9.toInt ≤ 9 by first | with_reducible assumption | omega)  hw hT hF c52 (lv_sub hl [1, 2, 3, 0] rfl)
      · refine lv_if_eq (tgt := 56) hx hb dX1_isOpenFor_49 (by decide) (fun c => absurd c (by decide)) (fun _ => ?_)
        refine lv_iconst (v := 1) hx hb dX1_isOpenFor_52 (by decide) ?_
        refine lv_goto (tgt := 57) hx hb dX1_isOpenFor_53 (by decide) ?_
        exact tk_zret hC hr rfl hlocks hK ⟨hT, hF, (Or.inr ⟨rfl, ⟨x44, c55, (show 0 ≤ x44.toInt from rx44), (show x44.toInt ≤ 1 from tx44)⟩⟩)⟩ hw dX1_isOpenFor_57
    · have c46 : x44.toInt = (0 : Int) := wk_eq.mp c46
      refine lv_iconst (v := 1) hx hb dX1_isOpenFor_41 (by decide) ?_
      refine lv_goto (tgt := 46) hx hb dX1_isOpenFor_42 (by decide) ?_
      refine tk_Vi hC hK hw hT hA hE hSR kC_at39 (by decide) rfl (k_X7_isOpen_6 l adK adV dC dI cy ad B hB0 (Int.le_trans hB1 (by decide)) qr s1   a2 (show 0 ≤ a2.toInt from ra2) (show a2.toInt ≤ 11 from ta2) x42 (show 0 ≤ x42.toInt by first | with_reducible assumption | omega) (show x42.toInt ≤ 2305843009213693952 by first | with_reducible assumption | omega) w13 H.size hT ) (cwV 4 hC.2.2.2.2 uV_RX1_140 rfl rfl rfl (by decide +kernel) ⟨Nat.le_of_ble_eq_true rfl, Nat.le_of_ble_eq_true rfl⟩) rfl hl.1 rfl (Nat.le_of_ble_eq_true rfl) dX1_isOpenFor_46 (fun r56 w58 H locs hp57 hw => ?_)
      obtain ⟨hT, k59, hg60⟩ := hp57
      have hF := hF.tr k59 (by decide)
      have c61 := k59.gi hkq1_ (by decide) c18
      have c62 := k59.gi kC_at40 rfl c16
      have c63 := k59.gl hkq1_ (by decide) c43
      have c64 := k59.gi kC_at149 (by decide) c45
      rcases hg60 with rfl | rfl
      · refine lv_if_eq (tgt := 56) hx hb dX1_isOpenFor_49 (by decide) (fun _ => ?_) (fun c => absurd (by decide) c)
        exact J56 1 x9 H locs ls w58 (show 0 ≤ a2.toInt from ra2) (show a2.toInt ≤ 11 from ta2) (by decide) (by decide) (show 0 ≤ x9.toInt by first | with_reducible assumption | omega) (show x9.toInt ≤ 9 by first | with_reducible assumption | omega)  hw hT hF c61 (lv_sub hl [1, 2, 3, 0] rfl)
      · refine lv_if_eq (tgt := 56) hx hb dX1_isOpenFor_49 (by decide) (fun c => absurd c (by decide)) (fun _ => ?_)
        refine lv_iconst (v := 1) hx hb dX1_isOpenFor_52 (by decide) ?_
        refine lv_goto (tgt := 57) hx hb dX1_isOpenFor_53 (by decide) ?_
        exact tk_zret hC hr rfl hlocks hK ⟨hT, hF, (Or.inr ⟨rfl, ⟨x44, c64, (show 0 ≤ x44.toInt from rx44), (show x44.toInt ≤ 1 from tx44)⟩⟩)⟩ hw dX1_isOpenFor_57
abbrev P_X9_dayNow_1 (ad : Nat → Nat) (cy : Nat → ClassId) (B : Int) (qr : Nat) (s1 : Int) (q0_ : Nat) (w0 : va_W) : Int64 → va_W → Prop := fun r u => TW ksC ad cy B qr s1 u ∧ FE ksC ([] : List (Nat × Nat × Nat)) w0 u ∧ ((0 ≤ r.toInt ∧ r.toInt ≤ 96076792050570581))
set_option maxHeartbeats 4000000 in
set_option maxRecDepth 100000 in
theorem k_X9_dayNow_1 (l : Launch) (adK adV : Nat → Nat) (dC : Nat → ClassId) (dI : Nat → Nat → Nat) (cy : Nat → ClassId) (ad : Nat → Nat) (B : Int) (hB0 : 2147483648 ≤ B) (hB1 : B ≤ 1152921504606846976) (qr : Nat) (s1 : Int)  (q0_ : Nat) (hkq0_ : ksC[q0_]? = some 9) (w0 : va_W) (sz : Nat) (hT : TW ksC ad cy B qr s1 w0)  : Met l yX9_dayNow (wu yX9_dayNow cX9_dayNow 1 (some .long)) ({ frames := 1, cells := 0, slots := 0, locals := 12 }) (va_Pc [.ref (ad q0_)] (wpreS adK adV dC dI cy sz w0)) (va_Ql (P_X9_dayNow_1 ad cy B qr s1 q0_ w0) (fun u : va_W => wpost dC dI cy (va_A w0 sz) u) (va_A w0 sz)) 0 0 (va_A w0 sz) := by
  refine Met.ofW (cc := cX9_dayNow) (maxL := 1) (ret := (some .long)) (by decide) rfl ?_
  intro p e s m args below meth c s₁ Bk hml hv
  obtain ⟨rfl, ⟨hsz, hP, hK, hD0⟩, hE, hSR⟩ := hv
  have hx := Bk.exec
  have hb := Bk.bytes
  have hr := Bk.returns
  have hlocks := Bk.notSynchronized
  have hC : CallFix p m c cX9_dayNow 1 s _ (wu yX9_dayNow cX9_dayNow 1 (some .long)) RX9 := ⟨hx, hb, hml, findClass_of_methodNamed Bk.named, atoms_spec (ws := (wu yX9_dayNow cX9_dayNow 1 (some .long))) Bk.pre⟩
  subst hsz
  have hD := hD0.self (sz := s.heap.size)
  generalize hAe : va_A w0 s.heap.size = A at hD hE ⊢
  have hA : ∀ q : Nat, s.heap.size ≤ q → A q := fun q h => by rw [← hAe]; exact Or.inr h
  have hw : Wd dC dI A s.heap s.heap [] w0 := ⟨hP, hD, va_S.rf⟩
  have hF : FE ksC ([] : List (Nat × Nat × Nat)) w0 w0 := FE.rf
  have hl := lv_entry ([.ref (ad q0_)]) (n := 1) (Nat.le_of_ble_eq_true rfl)
  rw [lg_entry_eq]
  generalize (lg_sl ([.ref (ad q0_)]) ++ List.replicate (1 - (lg_sl ([.ref (ad q0_)])).length) Slot.unset).toArray = ls at hl ⊢
  have hl : lv_has ls 1 [(0, .ref (ad q0_))] := hl
  generalize hloc : ([] : List Loc) = locs at hw ⊢
  have hinX9 : ∀ w ∈ u_ws RX9 TX9 9, w ∈ (wu yX9_dayNow cX9_dayNow 1 (some .long)) := fun _ h => List.mem_cons_of_mem _ (up_82 h)
  refine lv_aload_n hx hb dX9_dayNow_0 rfl (lv_at hl 0 rfl) ?_
  refine tk_getB hC hK hw hT hinX9 hkq0_ (by decide) rfl 4 (by decide) (List.mem_cons_of_mem _ uw_39_13) rfl rfl dX9_dayNow_1 (fun x1 c2 rx1 tx1 => ?_)
  refine lv_ldc2 (v := 24) hx hb hC.2.2.2.1 (hC.2.2.2.2 _ (List.mem_cons_of_mem _ uw_43_12)) dX9_dayNow_4 ?_
  refine lv_ldiv hx hb dX9_dayNow_7 (by decide) ?_
  refine lv_topl (fun x3 ex3 => ?_)
  have ex3 : x3.toInt = x1.toInt / (24 : Int) := by rw [ex3]; exact wk_divl (show 0 ≤ x1.toInt by first | with_reducible assumption | omega) (show 0 < (24 : Int) by decide)
  exact tk_lret hC hr hlocks hK ⟨hT, hF, ⟨(show 0 ≤ x3.toInt by first | with_reducible assumption | omega), (show x3.toInt ≤ 96076792050570581 by first | with_reducible assumption | omega)⟩⟩ hw dX9_dayNow_8
abbrev P_X9_askedToday_1 (ad : Nat → Nat) (cy : Nat → ClassId) (B : Int) (qr : Nat) (s1 : Int) (q0_ : Nat) (w0 : va_W) : Int32 → va_W → Prop := fun r u => TW ksC ad cy B qr s1 u ∧ FE ksC ([] : List (Nat × Nat × Nat)) w0 u ∧ ((r = 0) ∨ (r = 1))
set_option maxHeartbeats 4000000 in
set_option maxRecDepth 100000 in
theorem k_X9_askedToday_1 (l : Launch) (adK adV : Nat → Nat) (dC : Nat → ClassId) (dI : Nat → Nat → Nat) (cy : Nat → ClassId) (ad : Nat → Nat) (B : Int) (hB0 : 2147483648 ≤ B) (hB1 : B ≤ 1152921504606846976) (qr : Nat) (s1 : Int)  (q0_ : Nat) (hkq0_ : ksC[q0_]? = some 9) (w0 : va_W) (sz : Nat) (hT : TW ksC ad cy B qr s1 w0)  : Met l yX9_askedToday (wu yX9_askedToday cX9_askedToday 1 (some .boolean)) ({ frames := 2, cells := 0, slots := 0, locals := 32 }) (va_Pc [.ref (ad q0_)] (wpreS adK adV dC dI cy sz w0)) (va_Qi (P_X9_askedToday_1 ad cy B qr s1 q0_ w0) (fun u : va_W => wpost dC dI cy (va_A w0 sz) u) (va_A w0 sz)) 0 0 (va_A w0 sz) := by
  refine Met.ofW (cc := cX9_askedToday) (maxL := 1) (ret := (some .boolean)) (by decide) rfl ?_
  intro p e s m args below meth c s₁ Bk hml hv
  obtain ⟨rfl, ⟨hsz, hP, hK, hD0⟩, hE, hSR⟩ := hv
  have hx := Bk.exec
  have hb := Bk.bytes
  have hr := Bk.returns
  have hlocks := Bk.notSynchronized
  have hC : CallFix p m c cX9_askedToday 1 s _ (wu yX9_askedToday cX9_askedToday 1 (some .boolean)) RX9 := ⟨hx, hb, hml, findClass_of_methodNamed Bk.named, atoms_spec (ws := (wu yX9_askedToday cX9_askedToday 1 (some .boolean))) Bk.pre⟩
  subst hsz
  have hD := hD0.self (sz := s.heap.size)
  generalize hAe : va_A w0 s.heap.size = A at hD hE ⊢
  have hA : ∀ q : Nat, s.heap.size ≤ q → A q := fun q h => by rw [← hAe]; exact Or.inr h
  have hw : Wd dC dI A s.heap s.heap [] w0 := ⟨hP, hD, va_S.rf⟩
  have hF : FE ksC ([] : List (Nat × Nat × Nat)) w0 w0 := FE.rf
  have hl := lv_entry ([.ref (ad q0_)]) (n := 1) (Nat.le_of_ble_eq_true rfl)
  rw [lg_entry_eq]
  generalize (lg_sl ([.ref (ad q0_)]) ++ List.replicate (1 - (lg_sl ([.ref (ad q0_)])).length) Slot.unset).toArray = ls at hl ⊢
  have hl : lv_has ls 1 [(0, .ref (ad q0_))] := hl
  generalize hloc : ([] : List Loc) = locs at hw ⊢
  have hinX9 : ∀ w ∈ u_ws RX9 TX9 9, w ∈ (wu yX9_askedToday cX9_askedToday 1 (some .boolean)) := fun _ h => List.mem_cons_of_mem _ (up_82 h)
  refine lv_aload_n hx hb dX9_askedToday_0 rfl (lv_at hl 0 rfl) ?_
  refine tk_getl hC hK hw hT hinX9 hkq0_ (by decide) rfl 8 (by decide) (List.mem_cons_of_mem _ uw_39_18) rfl rfl dX9_askedToday_1 (fun x1 c2 rx1 tx1 => ?_)
  refine lv_aload_n hx hb dX9_askedToday_4 rfl (lv_at hl 0 rfl) ?_
  refine tk_Vl hC hK hw hT hA hE hSR hkq0_ (by decide) rfl (k_X9_dayNow_1 l adK adV dC dI cy ad B hB0 (Int.le_trans hB1 (by decide)) qr s1   q0_ hkq0_ w0 s.heap.size hT ) (cwV 0 hC.2.2.2.2 uV_RX9_48 rfl rfl rfl (by decide +kernel) ⟨Nat.le_of_ble_eq_true rfl, Nat.le_of_ble_eq_true rfl⟩) rfl hl.1 rfl (Nat.le_of_ble_eq_true rfl) dX9_askedToday_5 (fun r3 w5 H locs hp4 hw => ?_)
  obtain ⟨hT, k6, hg9⟩ := hp4
  have hF := hF.tr k6 (by decide)
  have c10 := k6.gl hkq0_ (by decide) c2
  obtain ⟨g7, g8⟩ := hg9
  refine W.lcmp hx hb dX9_askedToday_8 ?_
  refine lv_if_ne (tgt := 16) hx hb dX9_askedToday_9 (by decide) (fun c11 => ?_) (fun c11 => ?_)
  · have c11 : ¬ x1.toInt = r3.toInt := wk_ceF c11
    refine lv_iconst (v := 0) hx hb dX9_askedToday_16 (by decide) ?_
    exact tk_zret hC hr rfl hlocks hK ⟨hT, hF, (Or.inl rfl)⟩ hw dX9_askedToday_17
  · have c11 : x1.toInt = r3.toInt := wk_ceT c11
    refine lv_iconst (v := 1) hx hb dX9_askedToday_12 (by decide) ?_
    refine lv_goto (tgt := 17) hx hb dX9_askedToday_13 (by decide) ?_
    exact tk_zret hC hr rfl hlocks hK ⟨hT, hF, (Or.inr rfl)⟩ hw dX9_askedToday_17
abbrev P_X0_ofWeekday_1 (ad : Nat → Nat) (cy : Nat → ClassId) (B : Int) (qr : Nat) (s1 : Int) (a0 : Int64) (w0 : va_W) : Int32 → va_W → Prop := fun r u => TW ksC ad cy B qr s1 u ∧ FE ksC ([] : List (Nat × Nat × Nat)) w0 u ∧ ((4 ≤ r.toInt ∧ r.toInt ≤ 10))
set_option maxHeartbeats 4000000 in
set_option maxRecDepth 100000 in
theorem k_X0_ofWeekday_1 (l : Launch) (adK adV : Nat → Nat) (dC : Nat → ClassId) (dI : Nat → Nat → Nat) (cy : Nat → ClassId) (ad : Nat → Nat) (B : Int) (hB0 : 2147483648 ≤ B) (hB1 : B ≤ 1152921504606846976) (qr : Nat) (s1 : Int)  (a0 : Int64) (ra0 : 0 ≤ a0.toInt) (ta0 : a0.toInt ≤ 96076792050570581) (w0 : va_W) (sz : Nat) (hT : TW ksC ad cy B qr s1 w0)  : Met l yX0_ofWeekday (wu yX0_ofWeekday cX0_ofWeekday 2 (some .int)) ({ frames := 1, cells := 0, slots := 0, locals := 12 }) (va_Pc [.long a0] (wpreS adK adV dC dI cy sz w0)) (va_Qi (P_X0_ofWeekday_1 ad cy B qr s1 a0 w0) (fun u : va_W => wpost dC dI cy (va_A w0 sz) u) (va_A w0 sz)) 0 0 (va_A w0 sz) := by
  refine Met.ofW (cc := cX0_ofWeekday) (maxL := 2) (ret := (some .int)) (by decide) rfl ?_
  intro p e s m args below meth c s₁ Bk hml hv
  obtain ⟨rfl, ⟨hsz, hP, hK, hD0⟩, hE, hSR⟩ := hv
  have hx := Bk.exec
  have hb := Bk.bytes
  have hr := Bk.returns
  have hlocks := Bk.notSynchronized
  have hC : CallFix p m c cX0_ofWeekday 2 s _ (wu yX0_ofWeekday cX0_ofWeekday 2 (some .int)) RX0 := ⟨hx, hb, hml, findClass_of_methodNamed Bk.named, atoms_spec (ws := (wu yX0_ofWeekday cX0_ofWeekday 2 (some .int))) Bk.pre⟩
  subst hsz
  have hD := hD0.self (sz := s.heap.size)
  generalize hAe : va_A w0 s.heap.size = A at hD hE ⊢
  have hA : ∀ q : Nat, s.heap.size ≤ q → A q := fun q h => by rw [← hAe]; exact Or.inr h
  have hw : Wd dC dI A s.heap s.heap [] w0 := ⟨hP, hD, va_S.rf⟩
  have hF : FE ksC ([] : List (Nat × Nat × Nat)) w0 w0 := FE.rf
  have hl := lv_entry ([.long a0]) (n := 2) (Nat.le_of_ble_eq_true rfl)
  rw [lg_entry_eq]
  generalize (lg_sl ([.long a0]) ++ List.replicate (2 - (lg_sl ([.long a0])).length) Slot.unset).toArray = ls at hl ⊢
  have hl : lv_has ls 2 [(0, .long a0)] := hl
  generalize hloc : ([] : List Loc) = locs at hw ⊢
  refine lv_iconst (v := 4) hx hb dX0_ofWeekday_0 (by decide) ?_
  refine lv_lload_n hx hb dX0_ofWeekday_1 rfl (lv_at hl 0 rfl) ?_
  refine lv_ldc2 (v := 7) hx hb hC.2.2.2.1 (hC.2.2.2.2 _ (List.mem_cons_of_mem _ uw_43_17)) dX0_ofWeekday_2 ?_
  refine lv_lrem hx hb dX0_ofWeekday_5 (by decide) ?_
  refine lv_topl (fun x1 ex1 => ?_)
  have ex1 : x1.toInt = a0.toInt % (7 : Int) := by rw [ex1]; exact wk_reml (show 0 ≤ a0.toInt from ra0) (show 0 < (7 : Int) by decide)
  refine lv_l2i hx hb dX0_ofWeekday_6 rfl ?_
  refine lv_topi (fun x2 ex2 => ?_)
  have ex2 : x2.toInt = x1.toInt := by rw [ex2]; exact wk_l2i (by omega) (by omega)
  refine lv_iadd hx hb dX0_ofWeekday_7 ?_
  refine lv_topi (fun x3 ex3 => ?_)
  have ex3 : x3.toInt = (4 : Int) + x2.toInt := by rw [ex3]; exact wk_add (show (-2147483648) ≤ (4 : Int) + x2.toInt by omega) (show (4 : Int) + x2.toInt ≤ 2147483647 by omega)
  exact tk_iret hC hr hlocks hK ⟨hT, hF, ⟨(show 4 ≤ x3.toInt by first | with_reducible assumption | omega), (show x3.toInt ≤ 10 by first | with_reducible assumption | omega)⟩⟩ hw dX0_ofWeekday_8
abbrev P_X0_spot_3 (ad : Nat → Nat) (cy : Nat → ClassId) (B : Int) (qr : Nat) (s1 : Int) (a0 : Int32) (a1 : Int32) (a2 : Int32) (w0 : va_W) : Int32 → va_W → Prop := fun r u => TW ksC ad cy B qr s1 u ∧ FE ksC ([] : List (Nat × Nat × Nat)) w0 u ∧ ((400 ≤ r.toInt ∧ r.toInt ≤ 1099))
set_option maxHeartbeats 4000000 in
set_option maxRecDepth 100000 in
theorem k_X0_spot_3 (l : Launch) (adK adV : Nat → Nat) (dC : Nat → ClassId) (dI : Nat → Nat → Nat) (cy : Nat → ClassId) (ad : Nat → Nat) (B : Int) (hB0 : 2147483648 ≤ B) (hB1 : B ≤ 1152921504606846976) (qr : Nat) (s1 : Int)  (a0 : Int32) (ra0 : 4 ≤ a0.toInt) (ta0 : a0.toInt ≤ 10) (a1 : Int32) (ra1 : 0 ≤ a1.toInt) (ta1 : a1.toInt ≤ 9) (a2 : Int32) (ra2 : 0 ≤ a2.toInt) (ta2 : a2.toInt ≤ 9) (w0 : va_W) (sz : Nat) (hT : TW ksC ad cy B qr s1 w0)  : Met l yX0_spot (wu yX0_spot cX0_spot 3 (some .int)) ({ frames := 1, cells := 0, slots := 0, locals := 12 }) (va_Pc [.int a0, .int a1, .int a2] (wpreS adK adV dC dI cy sz w0)) (va_Qi (P_X0_spot_3 ad cy B qr s1 a0 a1 a2 w0) (fun u : va_W => wpost dC dI cy (va_A w0 sz) u) (va_A w0 sz)) 0 0 (va_A w0 sz) := by
  refine Met.ofW (cc := cX0_spot) (maxL := 3) (ret := (some .int)) (by decide) rfl ?_
  intro p e s m args below meth c s₁ Bk hml hv
  obtain ⟨rfl, ⟨hsz, hP, hK, hD0⟩, hE, hSR⟩ := hv
  have hx := Bk.exec
  have hb := Bk.bytes
  have hr := Bk.returns
  have hlocks := Bk.notSynchronized
  have hC : CallFix p m c cX0_spot 3 s _ (wu yX0_spot cX0_spot 3 (some .int)) RX0 := ⟨hx, hb, hml, findClass_of_methodNamed Bk.named, atoms_spec (ws := (wu yX0_spot cX0_spot 3 (some .int))) Bk.pre⟩
  subst hsz
  have hD := hD0.self (sz := s.heap.size)
  generalize hAe : va_A w0 s.heap.size = A at hD hE ⊢
  have hA : ∀ q : Nat, s.heap.size ≤ q → A q := fun q h => by rw [← hAe]; exact Or.inr h
  have hw : Wd dC dI A s.heap s.heap [] w0 := ⟨hP, hD, va_S.rf⟩
  have hF : FE ksC ([] : List (Nat × Nat × Nat)) w0 w0 := FE.rf
  have hl := lv_entry ([.int a0, .int a1, .int a2]) (n := 3) (Nat.le_of_ble_eq_true rfl)
  rw [lg_entry_eq]
  generalize (lg_sl ([.int a0, .int a1, .int a2]) ++ List.replicate (3 - (lg_sl ([.int a0, .int a1, .int a2])).length) Slot.unset).toArray = ls at hl ⊢
  have hl : lv_has ls 3 [(0, .int a0), (1, .int a1), (2, .int a2)] := hl
  generalize hloc : ([] : List Loc) = locs at hw ⊢
  refine lv_iload_n hx hb dX0_spot_0 rfl (lv_at hl 0 rfl) ?_
  refine lv_bipush (v := 100) hx hb dX0_spot_1 (by decide) ?_
  refine lv_imul hx hb dX0_spot_3 ?_
  refine lv_topi (fun x1 ex1 => ?_)
  have ex1 : x1.toInt = a0.toInt * (100 : Int) := by rw [ex1]; exact wk_mul (show (-2147483648) ≤ a0.toInt * (100 : Int) by omega) (show a0.toInt * (100 : Int) ≤ 2147483647 by omega)
  refine lv_iload_n hx hb dX0_spot_4 rfl (lv_at hl 1 rfl) ?_
  refine lv_bipush (v := 10) hx hb dX0_spot_5 (by decide) ?_
  refine lv_imul hx hb dX0_spot_7 ?_
  refine lv_topi (fun x2 ex2 => ?_)
  have ex2 : x2.toInt = a1.toInt * (10 : Int) := by rw [ex2]; exact wk_mul (show (-2147483648) ≤ a1.toInt * (10 : Int) by omega) (show a1.toInt * (10 : Int) ≤ 2147483647 by omega)
  refine lv_iadd hx hb dX0_spot_8 ?_
  refine lv_topi (fun x3 ex3 => ?_)
  have ex3 : x3.toInt = x1.toInt + x2.toInt := by rw [ex3]; exact wk_add (show (-2147483648) ≤ x1.toInt + x2.toInt by omega) (show x1.toInt + x2.toInt ≤ 2147483647 by omega)
  refine lv_iload_n hx hb dX0_spot_9 rfl (lv_at hl 2 rfl) ?_
  refine lv_iadd hx hb dX0_spot_10 ?_
  refine lv_topi (fun x4 ex4 => ?_)
  have ex4 : x4.toInt = x3.toInt + a2.toInt := by rw [ex4]; exact wk_add (show (-2147483648) ≤ x3.toInt + a2.toInt by omega) (show x3.toInt + a2.toInt ≤ 2147483647 by omega)
  exact tk_iret hC hr hlocks hK ⟨hT, hF, ⟨(show 400 ≤ x4.toInt by first | with_reducible assumption | omega), (show x4.toInt ≤ 1099 by first | with_reducible assumption | omega)⟩⟩ hw dX0_spot_11
abbrev P_X0_streetBy_2 (ad : Nat → Nat) (cy : Nat → ClassId) (B : Int) (qr : Nat) (s1 : Int) (a1 : Int32) (a2 : Int32) (a3 : Int32) (w0 : va_W) : Int32 → va_W → Prop := fun r u => TW ksC ad cy B qr s1 u ∧ FE ksC ([] : List (Nat × Nat × Nat)) w0 u ∧ (((-1) ≤ r.toInt ∧ r.toInt ≤ 11))
set_option maxHeartbeats 4000000 in
set_option maxRecDepth 100000 in
theorem k_X0_streetBy_2 (l : Launch) (adK adV : Nat → Nat) (dC : Nat → ClassId) (dI : Nat → Nat → Nat) (cy : Nat → ClassId) (ad : Nat → Nat) (B : Int) (hB0 : 2147483648 ≤ B) (hB1 : B ≤ 1152921504606846976) (qr : Nat) (s1 : Int)  (a1 : Int32) (ra1 : 4 ≤ a1.toInt) (ta1 : a1.toInt ≤ 10) (a2 : Int32) (ra2 : 0 ≤ a2.toInt) (ta2 : a2.toInt ≤ 9) (a3 : Int32) (ra3 : 0 ≤ a3.toInt) (ta3 : a3.toInt ≤ 9) (w0 : va_W) (sz : Nat) (hT : TW ksC ad cy B qr s1 w0)  : Met l yX0_streetBy (wu yX0_streetBy cX0_streetBy 4 (some .int)) ({ frames := 2, cells := 0, slots := 0, locals := 34 }) (va_Pc [.ref (ad 145), .int a1, .int a2, .int a3] (wpreS adK adV dC dI cy sz w0)) (va_Qi (P_X0_streetBy_2 ad cy B qr s1 a1 a2 a3 w0) (fun u : va_W => wpost dC dI cy (va_A w0 sz) u) (va_A w0 sz)) 0 0 (va_A w0 sz) := by
  refine Met.ofW (cc := cX0_streetBy) (maxL := 4) (ret := (some .int)) (by decide) rfl ?_
  intro p e s m args below meth c s₁ Bk hml hv
  obtain ⟨rfl, ⟨hsz, hP, hK, hD0⟩, hE, hSR⟩ := hv
  have hx := Bk.exec
  have hb := Bk.bytes
  have hr := Bk.returns
  have hlocks := Bk.notSynchronized
  have hC : CallFix p m c cX0_streetBy 4 s _ (wu yX0_streetBy cX0_streetBy 4 (some .int)) RX0 := ⟨hx, hb, hml, findClass_of_methodNamed Bk.named, atoms_spec (ws := (wu yX0_streetBy cX0_streetBy 4 (some .int))) Bk.pre⟩
  subst hsz
  have hD := hD0.self (sz := s.heap.size)
  generalize hAe : va_A w0 s.heap.size = A at hD hE ⊢
  have hA : ∀ q : Nat, s.heap.size ≤ q → A q := fun q h => by rw [← hAe]; exact Or.inr h
  have hw : Wd dC dI A s.heap s.heap [] w0 := ⟨hP, hD, va_S.rf⟩
  have hF : FE ksC ([] : List (Nat × Nat × Nat)) w0 w0 := FE.rf
  have hl := lv_entry ([.ref (ad 145), .int a1, .int a2, .int a3]) (n := 4) (Nat.le_of_ble_eq_true rfl)
  rw [lg_entry_eq]
  generalize (lg_sl ([.ref (ad 145), .int a1, .int a2, .int a3]) ++ List.replicate (4 - (lg_sl ([.ref (ad 145), .int a1, .int a2, .int a3])).length) Slot.unset).toArray = ls at hl ⊢
  have hl : lv_has ls 4 [(0, .ref (ad 145)), (1, .int a1), (2, .int a2), (3, .int a3)] := hl
  generalize hloc : ([] : List Loc) = locs at hw ⊢
  have hinX0 : ∀ w ∈ u_ws RX0 TX0 4, w ∈ (wu yX0_streetBy cX0_streetBy 4 (some .int)) := fun _ h => List.mem_cons_of_mem _ (up_77 h)
  refine lv_aload_n hx hb dX0_streetBy_0 rfl (lv_at hl 0 rfl) ?_
  refine tk_getA hC hK hw hT hinX0 kC_at145 (by decide) rfl 2 (by decide) (List.mem_cons_of_mem _ uw_4_15) rfl rfl dX0_streetBy_1 ?_
  refine lv_iload_n hx hb dX0_streetBy_4 rfl (lv_at hl 1 rfl) ?_
  refine lv_iload_n hx hb dX0_streetBy_5 rfl (lv_at hl 2 rfl) ?_
  refine lv_iload_n hx hb dX0_streetBy_6 rfl (lv_at hl 3 rfl) ?_
  refine tk_Si hC hK hw hT hA hE hSR (k_X0_spot_3 l adK adV dC dI cy ad B hB0 (Int.le_trans hB1 (by decide)) qr s1   a1 (show 4 ≤ a1.toInt from ra1) (show a1.toInt ≤ 10 from ta1) a2 (show 0 ≤ a2.toInt from ra2) (show a2.toInt ≤ 9 from ta2) a3 (show 0 ≤ a3.toInt from ra3) (show a3.toInt ≤ 9 from ta3) w0 s.heap.size hT ) (va_cwS 3 hC.2.2.2.2 uS_RX0_47 rfl rfl rfl (by decide +kernel) ⟨Nat.le_of_ble_eq_true rfl, Nat.le_of_ble_eq_true rfl⟩) rfl hl.1 rfl (Nat.le_of_ble_eq_true rfl) dX0_streetBy_7 (fun r1 w3 H locs hp2 hw => ?_)
  obtain ⟨hT, k4, hg7⟩ := hp2
  have hF := hF.tr k4 (by decide)
  obtain ⟨g5, g6⟩ := hg7
  refine tk_iald hC hK hw hT kC_at147 rfl rfl (show 0 ≤ r1.toInt by first | with_reducible assumption | omega) (show r1.toInt < 1100 by first | with_reducible assumption | omega) dX0_streetBy_10 (fun x8 c9 rx8 tx8 => ?_)
  exact tk_iret hC hr hlocks hK ⟨hT, hF, ⟨(show (-1) ≤ x8.toInt from rx8), (show x8.toInt ≤ 11 from tx8)⟩⟩ hw dX0_streetBy_11
abbrev P_X0_hoursBy_2 (ad : Nat → Nat) (cy : Nat → ClassId) (B : Int) (qr : Nat) (s1 : Int) (a1 : Int32) (a2 : Int32) (a3 : Int32) (w0 : va_W) : Int32 → va_W → Prop := fun r u => TW ksC ad cy B qr s1 u ∧ FE ksC ([] : List (Nat × Nat × Nat)) w0 u ∧ ((0 ≤ r.toInt ∧ r.toInt ≤ 999999) ∨ (r = (-1)))
set_option maxHeartbeats 4000000 in
set_option maxRecDepth 100000 in
theorem k_X0_hoursBy_2 (l : Launch) (adK adV : Nat → Nat) (dC : Nat → ClassId) (dI : Nat → Nat → Nat) (cy : Nat → ClassId) (ad : Nat → Nat) (B : Int) (hB0 : 2147483648 ≤ B) (hB1 : B ≤ 1152921504606846976) (qr : Nat) (s1 : Int)  (a1 : Int32) (ra1 : 4 ≤ a1.toInt) (ta1 : a1.toInt ≤ 10) (a2 : Int32) (ra2 : 0 ≤ a2.toInt) (ta2 : a2.toInt ≤ 9) (a3 : Int32) (ra3 : 0 ≤ a3.toInt) (ta3 : a3.toInt ≤ 9) (w0 : va_W) (sz : Nat) (hT : TW ksC ad cy B qr s1 w0)  : Met l yX0_hoursBy (wu yX0_hoursBy cX0_hoursBy 5 (some .int)) ({ frames := 2, cells := 0, slots := 0, locals := 34 }) (va_Pc [.ref (ad 145), .int a1, .int a2, .int a3] (wpreS adK adV dC dI cy sz w0)) (va_Qi (P_X0_hoursBy_2 ad cy B qr s1 a1 a2 a3 w0) (fun u : va_W => wpost dC dI cy (va_A w0 sz) u) (va_A w0 sz)) 0 0 (va_A w0 sz) := by
  refine Met.ofW (cc := cX0_hoursBy) (maxL := 5) (ret := (some .int)) (by decide) rfl ?_
  intro p e s m args below meth c s₁ Bk hml hv
  obtain ⟨rfl, ⟨hsz, hP, hK, hD0⟩, hE, hSR⟩ := hv
  have hx := Bk.exec
  have hb := Bk.bytes
  have hr := Bk.returns
  have hlocks := Bk.notSynchronized
  have hC : CallFix p m c cX0_hoursBy 5 s _ (wu yX0_hoursBy cX0_hoursBy 5 (some .int)) RX0 := ⟨hx, hb, hml, findClass_of_methodNamed Bk.named, atoms_spec (ws := (wu yX0_hoursBy cX0_hoursBy 5 (some .int))) Bk.pre⟩
  subst hsz
  have hD := hD0.self (sz := s.heap.size)
  generalize hAe : va_A w0 s.heap.size = A at hD hE ⊢
  have hA : ∀ q : Nat, s.heap.size ≤ q → A q := fun q h => by rw [← hAe]; exact Or.inr h
  have hw : Wd dC dI A s.heap s.heap [] w0 := ⟨hP, hD, va_S.rf⟩
  have hF : FE ksC ([] : List (Nat × Nat × Nat)) w0 w0 := FE.rf
  have hl := lv_entry ([.ref (ad 145), .int a1, .int a2, .int a3]) (n := 5) (Nat.le_of_ble_eq_true rfl)
  rw [lg_entry_eq]
  generalize (lg_sl ([.ref (ad 145), .int a1, .int a2, .int a3]) ++ List.replicate (5 - (lg_sl ([.ref (ad 145), .int a1, .int a2, .int a3])).length) Slot.unset).toArray = ls at hl ⊢
  have hl : lv_has ls 5 [(0, .ref (ad 145)), (1, .int a1), (2, .int a2), (3, .int a3)] := hl
  generalize hloc : ([] : List Loc) = locs at hw ⊢
  have hinX0 : ∀ w ∈ u_ws RX0 TX0 4, w ∈ (wu yX0_hoursBy cX0_hoursBy 5 (some .int)) := fun _ h => List.mem_cons_of_mem _ (up_77 h)
  refine lv_aload_n hx hb dX0_hoursBy_0 rfl (lv_at hl 0 rfl) ?_
  refine tk_getA hC hK hw hT hinX0 kC_at145 (by decide) rfl 1 (by decide) (List.mem_cons_of_mem _ uw_4_14) rfl rfl dX0_hoursBy_1 ?_
  refine lv_iload_n hx hb dX0_hoursBy_4 rfl (lv_at hl 1 rfl) ?_
  refine lv_iload_n hx hb dX0_hoursBy_5 rfl (lv_at hl 2 rfl) ?_
  refine lv_iload_n hx hb dX0_hoursBy_6 rfl (lv_at hl 3 rfl) ?_
  refine tk_Si hC hK hw hT hA hE hSR (k_X0_spot_3 l adK adV dC dI cy ad B hB0 (Int.le_trans hB1 (by decide)) qr s1   a1 (show 4 ≤ a1.toInt from ra1) (show a1.toInt ≤ 10 from ta1) a2 (show 0 ≤ a2.toInt from ra2) (show a2.toInt ≤ 9 from ta2) a3 (show 0 ≤ a3.toInt from ra3) (show a3.toInt ≤ 9 from ta3) w0 s.heap.size hT ) (va_cwS 3 hC.2.2.2.2 uS_RX0_47 rfl rfl rfl (by decide +kernel) ⟨Nat.le_of_ble_eq_true rfl, Nat.le_of_ble_eq_true rfl⟩) rfl hl.1 rfl (Nat.le_of_ble_eq_true rfl) dX0_hoursBy_7 (fun r1 w3 H locs hp2 hw => ?_)
  obtain ⟨hT, k4, hg7⟩ := hp2
  have hF := hF.tr k4 (by decide)
  obtain ⟨g5, g6⟩ := hg7
  refine tk_iald hC hK hw hT kC_at146 rfl rfl (show 0 ≤ r1.toInt by first | with_reducible assumption | omega) (show r1.toInt < 1100 by first | with_reducible assumption | omega) dX0_hoursBy_10 (fun x8 c9 rx8 tx8 => ?_)
  refine lv_istore (lv' := [(4, .int x8), (0, .ref (ad 145)), (1, .int a1), (2, .int a2), (3, .int a3)]) hx hb dX0_hoursBy_11 hl (by decide) rfl (fun ls hl => ?_)
  refine lv_iload hx hb dX0_hoursBy_13 (lv_at hl 0 rfl) ?_
  refine lv_ldc (v := 1000000) hx hb hC.2.2.2.1 (hC.2.2.2.2 _ (List.mem_cons_of_mem _ uw_36_8)) dX0_hoursBy_15 ?_
  refine lv_icmp_lt (tgt := 24) hx hb dX0_hoursBy_17 (by decide) (fun c10 => ?_) (fun c10 => ?_)
  · have c10 : x8.toInt < (1000000 : Int) := wk_lt.mp c10
    refine lv_iload hx hb dX0_hoursBy_24 (lv_at hl 0 rfl) ?_
    exact tk_iret hC hr hlocks hK ⟨hT, hF, (Or.inl ⟨(show 0 ≤ x8.toInt from rx8), (show x8.toInt ≤ 999999 by first | with_reducible assumption | omega)⟩)⟩ hw dX0_hoursBy_26
  · have c10 : (1000000 : Int) ≤ x8.toInt := wk_ltF c10
    refine lv_iconst (v := (-1)) hx hb dX0_hoursBy_20 (by decide) ?_
    refine lv_goto (tgt := 26) hx hb dX0_hoursBy_21 (by decide) ?_
    exact tk_iret hC hr hlocks hK ⟨hT, hF, (Or.inr rfl)⟩ hw dX0_hoursBy_26
abbrev P_X1_lookAround_1 (ad : Nat → Nat) (cy : Nat → ClassId) (B : Int) (qr : Nat) (s1 : Int) (q1_ : Nat) (w0 : va_W) : va_W → Prop := fun u => TW ksC ad cy B qr s1 u ∧ FE ksC [(1, 5, 5), (1, 6, 6), (1, 7, 7), (1, 8, 8)] w0 u ∧ (((∃ y : Int32, gi u 149 7 = y ∧ (-1) ≤ y.toInt ∧ y.toInt ≤ (-1)) ∧ (∃ y : Int32, gi u 149 8 = y ∧ 0 ≤ y.toInt ∧ y.toInt ≤ 999999)))
set_option maxHeartbeats 4000000 in
set_option maxRecDepth 100000 in
theorem k_X1_lookAround_1 (l : Launch) (adK adV : Nat → Nat) (dC : Nat → ClassId) (dI : Nat → Nat → Nat) (cy : Nat → ClassId) (ad : Nat → Nat) (B : Int) (hB0 : 2147483648 ≤ B) (hB1 : B ≤ 1152921504606846976) (qr : Nat) (s1 : Int)  (q1_ : Nat) (hkq1_ : ksC[q1_]? = some 9) (w0 : va_W) (sz : Nat) (hT : TW ksC ad cy B qr s1 w0)  : Met l yX1_lookAround (wu yX1_lookAround cX1_lookAround 5 none) ({ frames := 4, cells := 0, slots := 0, locals := 88 }) (va_Pc [.ref (ad 149), .ref (ad q1_), .int 0] (wpreS adK adV dC dI cy sz w0)) (va_Qv (P_X1_lookAround_1 ad cy B qr s1 q1_ w0) (fun u : va_W => wpost dC dI cy (va_A w0 sz) u) (va_A w0 sz)) 0 0 (va_A w0 sz) := by
  refine Met.ofW (cc := cX1_lookAround) (maxL := 5) (ret := none) (by decide) rfl ?_
  intro p e s m args below meth c s₁ Bk hml hv
  obtain ⟨rfl, ⟨hsz, hP, hK, hD0⟩, hE, hSR⟩ := hv
  have hx := Bk.exec
  have hb := Bk.bytes
  have hr := Bk.returns
  have hlocks := Bk.notSynchronized
  have hC : CallFix p m c cX1_lookAround 5 s _ (wu yX1_lookAround cX1_lookAround 5 none) RX1 := ⟨hx, hb, hml, findClass_of_methodNamed Bk.named, atoms_spec (ws := (wu yX1_lookAround cX1_lookAround 5 none)) Bk.pre⟩
  subst hsz
  have hD := hD0.self (sz := s.heap.size)
  generalize hAe : va_A w0 s.heap.size = A at hD hE ⊢
  have hA : ∀ q : Nat, s.heap.size ≤ q → A q := fun q h => by rw [← hAe]; exact Or.inr h
  have hw : Wd dC dI A s.heap s.heap [] w0 := ⟨hP, hD, va_S.rf⟩
  have hF : FE ksC [(1, 5, 5), (1, 6, 6), (1, 7, 7), (1, 8, 8)] w0 w0 := FE.rf
  have hl := lv_entry ([.ref (ad 149), .ref (ad q1_), .int 0]) (n := 5) (Nat.le_of_ble_eq_true rfl)
  rw [lg_entry_eq]
  generalize (lg_sl ([.ref (ad 149), .ref (ad q1_), .int 0]) ++ List.replicate (5 - (lg_sl ([.ref (ad 149), .ref (ad q1_), .int 0])).length) Slot.unset).toArray = ls at hl ⊢
  have hl : lv_has ls 5 [(0, .ref (ad 149)), (1, .ref (ad q1_)), (2, .int 0)] := hl
  generalize hloc : ([] : List Loc) = locs at hw ⊢
  have hinX9 : ∀ w ∈ u_ws RX9 TX9 9, w ∈ (wu yX1_lookAround cX1_lookAround 5 none) := fun _ h => List.mem_cons_of_mem _ (up_82 h)
  have hinX1 : ∀ w ∈ u_ws RX1 TX1 10, w ∈ (wu yX1_lookAround cX1_lookAround 5 none) := fun _ h => List.mem_cons_of_mem _ (up_78 h)
  have J159 : ∀ (v159_3 : Int32) (f159_149_5 : Int32) (f159_149_6 : Int32) (f159_149_8 : Int32) (f159_q1__0 : Int32) (f159_q1__1 : Int32) (H : Heap) (locs : List Loc) (ls : Array Slot) (w1 : va_W), 0 ≤ v159_3.toInt → v159_3.toInt ≤ 10 → (-1) ≤ f159_149_5.toInt → f159_149_5.toInt ≤ 11 → 0 ≤ f159_149_6.toInt → f159_149_6.toInt ≤ 1 → 0 ≤ f159_149_8.toInt → f159_149_8.toInt ≤ 999999 → 0 ≤ f159_q1__0.toInt → f159_q1__0.toInt ≤ 9 → 0 ≤ f159_q1__1.toInt → f159_q1__1.toInt ≤ 9 → Wd dC dI A s.heap H locs w1 → TW ksC ad cy B qr s1 w1 → FE ksC [(1, 5, 5), (1, 6, 6), (1, 7, 7), (1, 8, 8)] w0 w1 → gi w1 149 5 = f159_149_5 → gi w1 149 6 = f159_149_6 → gi w1 149 7 = (-1) → gi w1 149 8 = f159_149_8 → gi w1 q1_ 0 = f159_q1__0 → gi w1 q1_ 1 = f159_q1__1 → lv_has ls 5 [(0, .ref (ad 149)), (1, .ref (ad q1_)), (2, .int 0), (3, .int v159_3), (4, .int 0)] → W p l e ({ frames := 4, cells := 0, slots := 0, locals := 88 }) s m (List.toArray [.ref (ad 149), .ref (ad q1_), .int 0]) below meth c H locs 0 0 (MQ below (va_Qv (P_X1_lookAround_1 ad cy B qr s1 q1_ w0) (fun u : va_W => wpost dC dI cy A u) A) (List.toArray [.ref (ad 149), .ref (ad q1_), .int 0]) s 0 0 A) (F0 m 159 ls []) := by
    intro v159_3 f159_149_5 f159_149_6 f159_149_8 f159_q1__0 f159_q1__1 H locs ls w1 r2 t3 r4 t5 r7 t8 r11 t12 r14 t15 r17 t18 hw hT hF c6 c9 c10 c13 c16 c19 hl
    exact tk_vret hC hr hlocks hK ⟨hT, hF, ⟨⟨(-1), c10, (by decide), (by decide)⟩, ⟨f159_149_8, c13, (show 0 ≤ f159_149_8.toInt from r11), (show f159_149_8.toInt ≤ 999999 from t12)⟩⟩⟩ hw dX1_lookAround_159
  have L110 : ∀ (v110_3 : Int32) (f110_149_5 : Int32) (f110_149_6 : Int32) (f110_149_8 : Int32) (f110_q1__0 : Int32) (f110_q1__1 : Int32) (H : Heap) (locs : List Loc) (ls : Array Slot) (w20 : va_W), 0 ≤ v110_3.toInt → v110_3.toInt ≤ 10 → (-1) ≤ f110_149_5.toInt → f110_149_5.toInt ≤ 11 → 0 ≤ f110_149_6.toInt → f110_149_6.toInt ≤ 1 → 0 ≤ f110_149_8.toInt → f110_149_8.toInt ≤ 999999 → 0 ≤ f110_q1__0.toInt → f110_q1__0.toInt ≤ 9 → 0 ≤ f110_q1__1.toInt → f110_q1__1.toInt ≤ 9 → Wd dC dI A s.heap H locs w20 → TW ksC ad cy B qr s1 w20 → FE ksC [(1, 5, 5), (1, 6, 6), (1, 7, 7), (1, 8, 8)] w0 w20 → gi w20 149 5 = f110_149_5 → gi w20 149 6 = f110_149_6 → gi w20 149 7 = (-1) → gi w20 149 8 = f110_149_8 → gi w20 q1_ 0 = f110_q1__0 → gi w20 q1_ 1 = f110_q1__1 → lv_has ls 5 [(0, .ref (ad 149)), (1, .ref (ad q1_)), (2, .int 0), (3, .int v110_3), (4, .int 0)] → W p l e ({ frames := 4, cells := 0, slots := 0, locals := 88 }) s m (List.toArray [.ref (ad 149), .ref (ad q1_), .int 0]) below meth c H locs 0 0 (MQ below (va_Qv (P_X1_lookAround_1 ad cy B qr s1 q1_ w0) (fun u : va_W => wpost dC dI cy A u) A) (List.toArray [.ref (ad 149), .ref (ad q1_), .int 0]) s 0 0 A) (F0 m 110 ls []) := by
    intro v110_3 f110_149_5 f110_149_6 f110_149_8 f110_q1__0 f110_q1__1 H locs ls w20 r21 t22 r23 t24 r26 t27 r30 t31 r33 t34 r36 t37 hw hT hF c25 c28 c29 c32 c35 c38 hl
    refine lv_iload_n hx hb dX1_lookAround_110 rfl (lv_at hl 2 rfl) ?_
    refine lv_if_eq (tgt := 159) hx hb dX1_lookAround_111 (by decide) (fun _ => ?_) (fun c => absurd (by decide) c)
    exact J159 v110_3 f110_149_5 f110_149_6 f110_149_8 f110_q1__0 f110_q1__1 H locs ls w20 (show 0 ≤ v110_3.toInt from r21) (show v110_3.toInt ≤ 10 from t22) (show (-1) ≤ f110_149_5.toInt from r23) (show f110_149_5.toInt ≤ 11 from t24) (show 0 ≤ f110_149_6.toInt from r26) (show f110_149_6.toInt ≤ 1 from t27) (show 0 ≤ f110_149_8.toInt from r30) (show f110_149_8.toInt ≤ 999999 from t31) (show 0 ≤ f110_q1__0.toInt from r33) (show f110_q1__0.toInt ≤ 9 from t34) (show 0 ≤ f110_q1__1.toInt from r36) (show f110_q1__1.toInt ≤ 9 from t37)  hw hT hF c25 c28 c29 c32 c35 c38 (lv_sub hl [0, 1, 2, 3, 4] rfl)
  have J24 : ∀ (H : Heap) (locs : List Loc) (ls : Array Slot) (w39 : va_W), Wd dC dI A s.heap H locs w39 → TW ksC ad cy B qr s1 w39 → FE ksC [(1, 5, 5), (1, 6, 6), (1, 7, 7), (1, 8, 8)] w0 w39 → lv_has ls 5 [(0, .ref (ad 149)), (1, .ref (ad q1_)), (2, .int 0)] → W p l e ({ frames := 4, cells := 0, slots := 0, locals := 88 }) s m (List.toArray [.ref (ad 149), .ref (ad q1_), .int 0]) below meth c H locs 0 0 (MQ below (va_Qv (P_X1_lookAround_1 ad cy B qr s1 q1_ w0) (fun u : va_W => wpost dC dI cy A u) A) (List.toArray [.ref (ad 149), .ref (ad q1_), .int 0]) s 0 0 A) (F0 m 24 ls []) := by
    intro H locs ls w39 hw hT hF hl
    refine lv_aload_n hx hb dX1_lookAround_24 rfl (lv_at hl 1 rfl) ?_
    refine tk_geti hC hK hw hT hinX9 hkq1_ (by decide) rfl 2 (by decide) (List.mem_cons_of_mem _ uw_42_21) rfl rfl dX1_lookAround_25 (fun x40 c41 rx40 tx40 => ?_)
    refine lv_istore_n (lv' := [(3, .int x40), (0, .ref (ad 149)), (1, .ref (ad q1_)), (2, .int 0)]) hx hb dX1_lookAround_28 rfl hl (by decide) rfl (fun ls hl => ?_)
    refine lv_aload_n hx hb dX1_lookAround_29 rfl (lv_at hl 1 rfl) ?_
    refine lv_aload_n hx hb dX1_lookAround_30 rfl (lv_at hl 1 rfl) ?_
    refine tk_getA hC hK hw hT hinX1 kC_at149 (by decide) rfl 1 (by decide) (List.mem_cons_of_mem _ uw_5_1) rfl rfl dX1_lookAround_31 ?_
    refine lv_iload_n hx hb dX1_lookAround_34 rfl (lv_at hl 0 rfl) ?_
    refine lv_aload_n hx hb dX1_lookAround_35 rfl (lv_at hl 2 rfl) ?_
    refine tk_geti hC hK hw hT hinX9 hkq1_ (by decide) rfl 0 (by decide) (List.mem_cons_of_mem _ uw_42_22) rfl rfl dX1_lookAround_36 (fun x42 c43 rx42 tx42 => ?_)
    refine lv_aload_n hx hb dX1_lookAround_39 rfl (lv_at hl 2 rfl) ?_
    refine tk_geti hC hK hw hT hinX9 hkq1_ (by decide) rfl 1 (by decide) (List.mem_cons_of_mem _ uw_42_23) rfl rfl dX1_lookAround_40 (fun x44 c45 rx44 tx44 => ?_)
    refine tk_Vi hC hK hw hT hA hE hSR kC_at145 (by decide) rfl (k_X0_streetBy_1 l adK adV dC dI cy ad B hB0 (Int.le_trans hB1 (by decide)) qr s1   x40 (show 0 ≤ x40.toInt by first | with_reducible assumption | omega) (show x40.toInt ≤ 3 by first | with_reducible assumption | omega) x42 (show 0 ≤ x42.toInt by first | with_reducible assumption | omega) (show x42.toInt ≤ 9 by first | with_reducible assumption | omega) x44 (show 0 ≤ x44.toInt by first | with_reducible assumption | omega) (show x44.toInt ≤ 9 by first | with_reducible assumption | omega) w39 H.size hT ) (cwV 3 hC.2.2.2.2 uV_RX1_106 rfl rfl rfl (by decide +kernel) ⟨Nat.le_of_ble_eq_true rfl, Nat.le_of_ble_eq_true rfl⟩) rfl hl.1 rfl (Nat.le_of_ble_eq_true rfl) dX1_lookAround_43 (fun r46 w48 H locs hp47 hw => ?_)
    obtain ⟨hT, k49, hg52⟩ := hp47
    have hF := hF.tr k49 (by decide)
    have c53 := k49.gi hkq1_ (by decide) c41
    have c54 := k49.gi hkq1_ (by decide) c43
    have c55 := k49.gi hkq1_ (by decide) c45
    obtain ⟨g50, g51⟩ := hg52
    refine tk_puti hC hK hw hT hinX1 tyX1_ok nmX1 kC_at149 (by decide) rfl rfl 5 (by decide) (List.mem_cons_of_mem _ uw_42_6) rfl rfl rfl rfl (show (-1) ≤ r46.toInt by first | with_reducible assumption | omega) (show r46.toInt ≤ 11 by first | with_reducible assumption | omega) dX1_lookAround_46 (fun H locs w56 hw hT k58 c57 => ?_)
    have hF := hF.put kC_at149 (k := 5) (by decide) k58
    have c59 := k58.gi (Or.inr (by decide)) c53
    have c60 := k58.gi (Or.inr (by decide)) c54
    have c61 := k58.gi (Or.inr (by decide)) c55
    refine lv_aload_n hx hb dX1_lookAround_49 rfl (lv_at hl 1 rfl) ?_
    refine lv_aload_n hx hb dX1_lookAround_50 rfl (lv_at hl 1 rfl) ?_
    refine tk_geti hC hK hw hT hinX1 kC_at149 (by decide) rfl 5 (by decide) (List.mem_cons_of_mem _ uw_42_6) rfl rfl dX1_lookAround_51 (fun x62 c63 rx62 tx62 => ?_)
    refine wk_top r46 (c63.symm.trans c57) ?_
    refine lv_iconst (v := (-1)) hx hb dX1_lookAround_54 (by decide) ?_
    refine lv_icmp_eq (tgt := 74) hx hb dX1_lookAround_55 (by decide) (fun c64 => ?_) (fun c64 => ?_)
    · have c64 : r46.toInt = (-1 : Int) := wk_eq.mp c64
      refine lv_iconst (v := 0) hx hb dX1_lookAround_74 (by decide) ?_
      refine tk_putz hC hK hw hT hinX1 tyX1_ok nmX1 kC_at149 (by decide) rfl rfl 6 (by decide) (List.mem_cons_of_mem _ uw_42_5) rfl rfl rfl rfl (by decide) (by decide) dX1_lookAround_75 (fun H locs w65 hw hT k67 c66 => ?_)
      have hF := hF.put kC_at149 (k := 6) (by decide) k67
      have c68 := k67.gi (Or.inr (by decide)) c59
      have c69 := k67.gi (Or.inr (by decide)) c60
      have c70 := k67.gi (Or.inr (by decide)) c61
      have c71 := k67.gi (Or.inr (by decide)) c57
      refine lv_aload_n hx hb dX1_lookAround_78 rfl (lv_at hl 1 rfl) ?_
      refine lv_iconst (v := 0) hx hb dX1_lookAround_79 (by decide) ?_
      refine lv_aload_n hx hb dX1_lookAround_80 rfl (lv_at hl 1 rfl) ?_
      refine tk_getA hC hK hw hT hinX1 kC_at149 (by decide) rfl 1 (by decide) (List.mem_cons_of_mem _ uw_5_1) rfl rfl dX1_lookAround_81 ?_
      refine lv_iload_n hx hb dX1_lookAround_84 rfl (lv_at hl 0 rfl) ?_
      refine lv_aload_n hx hb dX1_lookAround_85 rfl (lv_at hl 2 rfl) ?_
      refine tk_geti hC hK hw hT hinX9 hkq1_ (by decide) rfl 0 (by decide) (List.mem_cons_of_mem _ uw_42_22) rfl rfl dX1_lookAround_86 (fun x72 c73 rx72 tx72 => ?_)
      refine wk_top x42 (c73.symm.trans c69) ?_
      refine lv_aload_n hx hb dX1_lookAround_89 rfl (lv_at hl 2 rfl) ?_
      refine tk_geti hC hK hw hT hinX9 hkq1_ (by decide) rfl 1 (by decide) (List.mem_cons_of_mem _ uw_42_23) rfl rfl dX1_lookAround_90 (fun x74 c75 rx74 tx74 => ?_)
      refine wk_top x44 (c75.symm.trans c70) ?_
      refine tk_Vi hC hK hw hT hA hE hSR kC_at145 (by decide) rfl (k_X0_hoursBy_1 l adK adV dC dI cy ad B hB0 (Int.le_trans hB1 (by decide)) qr s1   x40 (show 0 ≤ x40.toInt by first | with_reducible assumption | omega) (show x40.toInt ≤ 3 by first | with_reducible assumption | omega) x42 (show 0 ≤ x42.toInt by first | with_reducible assumption | omega) (show x42.toInt ≤ 9 by first | with_reducible assumption | omega) x44 (show 0 ≤ x44.toInt by first | with_reducible assumption | omega) (show x44.toInt ≤ 9 by first | with_reducible assumption | omega) w65 H.size hT ) (cwV 3 hC.2.2.2.2 uV_RX1_114 rfl rfl rfl (by decide +kernel) ⟨Nat.le_of_ble_eq_true rfl, Nat.le_of_ble_eq_true rfl⟩) rfl hl.1 rfl (Nat.le_of_ble_eq_true rfl) dX1_lookAround_93 (fun r76 w78 H locs hp77 hw => ?_)
      obtain ⟨hT, k79, hg82⟩ := hp77
      have hF := hF.tr k79 (by decide)
      have c83 := k79.gi hkq1_ (by decide) c68
      have c84 := k79.gi hkq1_ (by decide) c69
      have c85 := k79.gi hkq1_ (by decide) c70
      have c86 := k79.gi kC_at149 (by decide) c71
      have c87 := k79.gi kC_at149 (by decide) c66
      rcases hg82 with ⟨g80, g81⟩ | rfl
      · refine va_mmax hx hb (hC.2.2.1.trans hl.1.symm) hC.2.2.2.1 (hC.2.2.2.2 _ (List.mem_cons_of_mem _ uw_43_0)) (hC.2.2.2.2 _ (List.mem_cons_of_mem _ uw_14_15)) (hC.2.2.2.2 _ (List.mem_cons_of_mem _ uw_14_16)) (hC.2.2.2.2 _ (List.mem_cons_of_mem _ uw_14_17)) (Nat.le_of_ble_eq_true rfl) (Nat.le_of_ble_eq_true rfl) (Nat.zero_le _) (Nat.zero_le _) dX1_lookAround_96 ?_
        refine lv_topi (fun x88 ex88 => ?_)
        have bx88 : (x88.toInt = (0 : Int) ∧ r76.toInt ≤ (0 : Int)) ∨ (x88.toInt = r76.toInt ∧ (0 : Int) < r76.toInt) := by rw [ex88]; exact wk_max
        refine tk_puti hC hK hw hT hinX1 tyX1_ok nmX1 kC_at149 (by decide) rfl rfl 8 (by decide) (List.mem_cons_of_mem _ uw_43_1) rfl rfl rfl rfl (wk_i32 x88).1 (wk_i32 x88).2 dX1_lookAround_99 (fun H locs w89 hw hT k91 c90 => ?_)
        have hF := hF.put kC_at149 (k := 8) (by decide) k91
        have c92 := k91.gi (Or.inr (by decide)) c83
        have c93 := k91.gi (Or.inr (by decide)) c84
        have c94 := k91.gi (Or.inr (by decide)) c85
        have c95 := k91.gi (Or.inr (by decide)) c86
        have c96 := k91.gi (Or.inr (by decide)) c87
        refine lv_aload_n hx hb dX1_lookAround_102 rfl (lv_at hl 1 rfl) ?_
        refine lv_iconst (v := (-1)) hx hb dX1_lookAround_103 (by decide) ?_
        refine tk_puti hC hK hw hT hinX1 tyX1_ok nmX1 kC_at149 (by decide) rfl rfl 7 (by decide) (List.mem_cons_of_mem _ uw_42_7) rfl rfl rfl rfl (by decide) (by decide) dX1_lookAround_104 (fun H locs w97 hw hT k99 c98 => ?_)
        have hF := hF.put kC_at149 (k := 7) (by decide) k99
        have c100 := k99.gi (Or.inr (by decide)) c92
        have c101 := k99.gi (Or.inr (by decide)) c93
        have c102 := k99.gi (Or.inr (by decide)) c94
        have c103 := k99.gi (Or.inr (by decide)) c95
        have c104 := k99.gi (Or.inr (by decide)) c96
        have c105 := k99.gi (Or.inr (by decide)) c90
        refine lv_iconst (v := 0) hx hb dX1_lookAround_107 (by decide) ?_
        refine lv_istore (lv' := [(4, .int 0), (3, .int x40), (0, .ref (ad 149)), (1, .ref (ad q1_)), (2, .int 0)]) hx hb dX1_lookAround_108 hl (by decide) rfl (fun ls hl => ?_)
        exact L110 x40 r46 0 x88 x42 x44 H locs ls w97 (show 0 ≤ x40.toInt by first | with_reducible assumption | omega) (show x40.toInt ≤ 10 by first | with_reducible assumption | omega) (show (-1) ≤ r46.toInt by first | with_reducible assumption | omega) (show r46.toInt ≤ 11 by first | with_reducible assumption | omega) (by decide) (by decide) (show 0 ≤ x88.toInt by first | with_reducible assumption | omega) (show x88.toInt ≤ 999999 by first | with_reducible assumption | omega) (show 0 ≤ x42.toInt by first | with_reducible assumption | omega) (show x42.toInt ≤ 9 by first | with_reducible assumption | omega) (show 0 ≤ x44.toInt by first | with_reducible assumption | omega) (show x44.toInt ≤ 9 by first | with_reducible assumption | omega)  hw hT hF c103 c104 c98 c105 c101 c102 (lv_sub hl [2, 3, 4, 1, 0] rfl)
      · refine va_mmax hx hb (hC.2.2.1.trans hl.1.symm) hC.2.2.2.1 (hC.2.2.2.2 _ (List.mem_cons_of_mem _ uw_43_0)) (hC.2.2.2.2 _ (List.mem_cons_of_mem _ uw_14_15)) (hC.2.2.2.2 _ (List.mem_cons_of_mem _ uw_14_16)) (hC.2.2.2.2 _ (List.mem_cons_of_mem _ uw_14_17)) (Nat.le_of_ble_eq_true rfl) (Nat.le_of_ble_eq_true rfl) (Nat.zero_le _) (Nat.zero_le _) dX1_lookAround_96 ?_
        refine lv_topi (fun x106 ex106 => ?_)
        have bx106 : (x106.toInt = (0 : Int) ∧ (-1 : Int) ≤ (0 : Int)) ∨ (x106.toInt = (-1 : Int) ∧ (0 : Int) < (-1 : Int)) := by rw [ex106]; exact wk_max
        refine tk_puti hC hK hw hT hinX1 tyX1_ok nmX1 kC_at149 (by decide) rfl rfl 8 (by decide) (List.mem_cons_of_mem _ uw_43_1) rfl rfl rfl rfl (wk_i32 x106).1 (wk_i32 x106).2 dX1_lookAround_99 (fun H locs w107 hw hT k109 c108 => ?_)
        have hF := hF.put kC_at149 (k := 8) (by decide) k109
        have c110 := k109.gi (Or.inr (by decide)) c83
        have c111 := k109.gi (Or.inr (by decide)) c84
        have c112 := k109.gi (Or.inr (by decide)) c85
        have c113 := k109.gi (Or.inr (by decide)) c86
        have c114 := k109.gi (Or.inr (by decide)) c87
        refine lv_aload_n hx hb dX1_lookAround_102 rfl (lv_at hl 1 rfl) ?_
        refine lv_iconst (v := (-1)) hx hb dX1_lookAround_103 (by decide) ?_
        refine tk_puti hC hK hw hT hinX1 tyX1_ok nmX1 kC_at149 (by decide) rfl rfl 7 (by decide) (List.mem_cons_of_mem _ uw_42_7) rfl rfl rfl rfl (by decide) (by decide) dX1_lookAround_104 (fun H locs w115 hw hT k117 c116 => ?_)
        have hF := hF.put kC_at149 (k := 7) (by decide) k117
        have c118 := k117.gi (Or.inr (by decide)) c110
        have c119 := k117.gi (Or.inr (by decide)) c111
        have c120 := k117.gi (Or.inr (by decide)) c112
        have c121 := k117.gi (Or.inr (by decide)) c113
        have c122 := k117.gi (Or.inr (by decide)) c114
        have c123 := k117.gi (Or.inr (by decide)) c108
        refine lv_iconst (v := 0) hx hb dX1_lookAround_107 (by decide) ?_
        refine lv_istore (lv' := [(4, .int 0), (3, .int x40), (0, .ref (ad 149)), (1, .ref (ad q1_)), (2, .int 0)]) hx hb dX1_lookAround_108 hl (by decide) rfl (fun ls hl => ?_)
        exact L110 x40 r46 0 x106 x42 x44 H locs ls w115 (show 0 ≤ x40.toInt by first | with_reducible assumption | omega) (show x40.toInt ≤ 10 by first | with_reducible assumption | omega) (show (-1) ≤ r46.toInt by first | with_reducible assumption | omega) (show r46.toInt ≤ 11 by first | with_reducible assumption | omega) (by decide) (by decide) (show 0 ≤ x106.toInt by first | with_reducible assumption | omega) (show x106.toInt ≤ 999999 by first | with_reducible assumption | omega) (show 0 ≤ x42.toInt by first | with_reducible assumption | omega) (show x42.toInt ≤ 9 by first | with_reducible assumption | omega) (show 0 ≤ x44.toInt by first | with_reducible assumption | omega) (show x44.toInt ≤ 9 by first | with_reducible assumption | omega)  hw hT hF c121 c122 c116 c123 c119 c120 (lv_sub hl [2, 3, 4, 1, 0] rfl)
    · have c64 : ¬ r46.toInt = (-1 : Int) := wk_eqF c64
      refine lv_aload_n hx hb dX1_lookAround_58 rfl (lv_at hl 1 rfl) ?_
      refine lv_aload_n hx hb dX1_lookAround_59 rfl (lv_at hl 2 rfl) ?_
      refine lv_aload_n hx hb dX1_lookAround_60 rfl (lv_at hl 1 rfl) ?_
      refine tk_geti hC hK hw hT hinX1 kC_at149 (by decide) rfl 5 (by decide) (List.mem_cons_of_mem _ uw_42_6) rfl rfl dX1_lookAround_61 (fun x124 c125 rx124 tx124 => ?_)
      refine wk_top r46 (c125.symm.trans c57) ?_
      refine tk_Vi hC hK hw hT hA hE hSR kC_at149 (by decide) rfl (k_X1_isOpenFor_1 l adK adV dC dI cy ad B hB0 (Int.le_trans hB1 (by decide)) qr s1   q1_ hkq1_ r46 (show 0 ≤ r46.toInt by first | with_reducible assumption | omega) (show r46.toInt ≤ 11 by first | with_reducible assumption | omega) w56 H.size hT ) (cwV 2 hC.2.2.2.2 uV_RX1_110 rfl rfl rfl (by decide +kernel) ⟨Nat.le_of_ble_eq_true rfl, Nat.le_of_ble_eq_true rfl⟩) rfl hl.1 rfl (Nat.le_of_ble_eq_true rfl) dX1_lookAround_64 (fun r126 w128 H locs hp127 hw => ?_)
      obtain ⟨hT, k129, hg132⟩ := hp127
      have hF := hF.tr k129 (by decide)
      have c133 := k129.gi hkq1_ (by decide) c59
      have c134 := k129.gi hkq1_ (by decide) c60
      have c135 := k129.gi hkq1_ (by decide) c61
      have c136 := k129.gi kC_at149 (by decide) c57
      rcases hg132 with rfl | ⟨rfl, ⟨x130, c131, rx130, tx130⟩⟩
      · refine lv_if_eq (tgt := 74) hx hb dX1_lookAround_67 (by decide) (fun _ => ?_) (fun c => absurd (by decide) c)
        refine lv_iconst (v := 0) hx hb dX1_lookAround_74 (by decide) ?_
        refine tk_putz hC hK hw hT hinX1 tyX1_ok nmX1 kC_at149 (by decide) rfl rfl 6 (by decide) (List.mem_cons_of_mem _ uw_42_5) rfl rfl rfl rfl (by decide) (by decide) dX1_lookAround_75 (fun H locs w137 hw hT k139 c138 => ?_)
        have hF := hF.put kC_at149 (k := 6) (by decide) k139
        have c140 := k139.gi (Or.inr (by decide)) c133
        have c141 := k139.gi (Or.inr (by decide)) c134
        have c142 := k139.gi (Or.inr (by decide)) c135
        have c143 := k139.gi (Or.inr (by decide)) c136
        refine lv_aload_n hx hb dX1_lookAround_78 rfl (lv_at hl 1 rfl) ?_
        refine lv_iconst (v := 0) hx hb dX1_lookAround_79 (by decide) ?_
        refine lv_aload_n hx hb dX1_lookAround_80 rfl (lv_at hl 1 rfl) ?_
        refine tk_getA hC hK hw hT hinX1 kC_at149 (by decide) rfl 1 (by decide) (List.mem_cons_of_mem _ uw_5_1) rfl rfl dX1_lookAround_81 ?_
        refine lv_iload_n hx hb dX1_lookAround_84 rfl (lv_at hl 0 rfl) ?_
        refine lv_aload_n hx hb dX1_lookAround_85 rfl (lv_at hl 2 rfl) ?_
        refine tk_geti hC hK hw hT hinX9 hkq1_ (by decide) rfl 0 (by decide) (List.mem_cons_of_mem _ uw_42_22) rfl rfl dX1_lookAround_86 (fun x144 c145 rx144 tx144 => ?_)
        refine wk_top x42 (c145.symm.trans c141) ?_
        refine lv_aload_n hx hb dX1_lookAround_89 rfl (lv_at hl 2 rfl) ?_
        refine tk_geti hC hK hw hT hinX9 hkq1_ (by decide) rfl 1 (by decide) (List.mem_cons_of_mem _ uw_42_23) rfl rfl dX1_lookAround_90 (fun x146 c147 rx146 tx146 => ?_)
        refine wk_top x44 (c147.symm.trans c142) ?_
        refine tk_Vi hC hK hw hT hA hE hSR kC_at145 (by decide) rfl (k_X0_hoursBy_1 l adK adV dC dI cy ad B hB0 (Int.le_trans hB1 (by decide)) qr s1   x40 (show 0 ≤ x40.toInt by first | with_reducible assumption | omega) (show x40.toInt ≤ 3 by first | with_reducible assumption | omega) x42 (show 0 ≤ x42.toInt by first | with_reducible assumption | omega) (show x42.toInt ≤ 9 by first | with_reducible assumption | omega) x44 (show 0 ≤ x44.toInt by first | with_reducible assumption | omega) (show x44.toInt ≤ 9 by first | with_reducible assumption | omega) w137 H.size hT ) (cwV 3 hC.2.2.2.2 uV_RX1_114 rfl rfl rfl (by decide +kernel) ⟨Nat.le_of_ble_eq_true rfl, Nat.le_of_ble_eq_true rfl⟩) rfl hl.1 rfl (Nat.le_of_ble_eq_true rfl) dX1_lookAround_93 (fun r148 w150 H locs hp149 hw => ?_)
        obtain ⟨hT, k151, hg154⟩ := hp149
        have hF := hF.tr k151 (by decide)
        have c155 := k151.gi hkq1_ (by decide) c140
        have c156 := k151.gi hkq1_ (by decide) c141
        have c157 := k151.gi hkq1_ (by decide) c142
        have c158 := k151.gi kC_at149 (by decide) c143
        have c159 := k151.gi kC_at149 (by decide) c138
        rcases hg154 with ⟨g152, g153⟩ | rfl
        · refine va_mmax hx hb (hC.2.2.1.trans hl.1.symm) hC.2.2.2.1 (hC.2.2.2.2 _ (List.mem_cons_of_mem _ uw_43_0)) (hC.2.2.2.2 _ (List.mem_cons_of_mem _ uw_14_15)) (hC.2.2.2.2 _ (List.mem_cons_of_mem _ uw_14_16)) (hC.2.2.2.2 _ (List.mem_cons_of_mem _ uw_14_17)) (Nat.le_of_ble_eq_true rfl) (Nat.le_of_ble_eq_true rfl) (Nat.zero_le _) (Nat.zero_le _) dX1_lookAround_96 ?_
          refine lv_topi (fun x160 ex160 => ?_)
          have bx160 : (x160.toInt = (0 : Int) ∧ r148.toInt ≤ (0 : Int)) ∨ (x160.toInt = r148.toInt ∧ (0 : Int) < r148.toInt) := by rw [ex160]; exact wk_max
          refine tk_puti hC hK hw hT hinX1 tyX1_ok nmX1 kC_at149 (by decide) rfl rfl 8 (by decide) (List.mem_cons_of_mem _ uw_43_1) rfl rfl rfl rfl (wk_i32 x160).1 (wk_i32 x160).2 dX1_lookAround_99 (fun H locs w161 hw hT k163 c162 => ?_)
          have hF := hF.put kC_at149 (k := 8) (by decide) k163
          have c164 := k163.gi (Or.inr (by decide)) c155
          have c165 := k163.gi (Or.inr (by decide)) c156
          have c166 := k163.gi (Or.inr (by decide)) c157
          have c167 := k163.gi (Or.inr (by decide)) c158
          have c168 := k163.gi (Or.inr (by decide)) c159
          refine lv_aload_n hx hb dX1_lookAround_102 rfl (lv_at hl 1 rfl) ?_
          refine lv_iconst (v := (-1)) hx hb dX1_lookAround_103 (by decide) ?_
          refine tk_puti hC hK hw hT hinX1 tyX1_ok nmX1 kC_at149 (by decide) rfl rfl 7 (by decide) (List.mem_cons_of_mem _ uw_42_7) rfl rfl rfl rfl (by decide) (by decide) dX1_lookAround_104 (fun H locs w169 hw hT k171 c170 => ?_)
          have hF := hF.put kC_at149 (k := 7) (by decide) k171
          have c172 := k171.gi (Or.inr (by decide)) c164
          have c173 := k171.gi (Or.inr (by decide)) c165
          have c174 := k171.gi (Or.inr (by decide)) c166
          have c175 := k171.gi (Or.inr (by decide)) c167
          have c176 := k171.gi (Or.inr (by decide)) c168
          have c177 := k171.gi (Or.inr (by decide)) c162
          refine lv_iconst (v := 0) hx hb dX1_lookAround_107 (by decide) ?_
          refine lv_istore (lv' := [(4, .int 0), (3, .int x40), (0, .ref (ad 149)), (1, .ref (ad q1_)), (2, .int 0)]) hx hb dX1_lookAround_108 hl (by decide) rfl (fun ls hl => ?_)
          exact L110 x40 r46 0 x160 x42 x44 H locs ls w169 (show 0 ≤ x40.toInt by first | with_reducible assumption | omega) (show x40.toInt ≤ 10 by first | with_reducible assumption | omega) (show (-1) ≤ r46.toInt by first | with_reducible assumption | omega) (show r46.toInt ≤ 11 by first | with_reducible assumption | omega) (by decide) (by decide) (show 0 ≤ x160.toInt by first | with_reducible assumption | omega) (show x160.toInt ≤ 999999 by first | with_reducible assumption | omega) (show 0 ≤ x42.toInt by first | with_reducible assumption | omega) (show x42.toInt ≤ 9 by first | with_reducible assumption | omega) (show 0 ≤ x44.toInt by first | with_reducible assumption | omega) (show x44.toInt ≤ 9 by first | with_reducible assumption | omega)  hw hT hF c175 c176 c170 c177 c173 c174 (lv_sub hl [2, 3, 4, 1, 0] rfl)
        · refine va_mmax hx hb (hC.2.2.1.trans hl.1.symm) hC.2.2.2.1 (hC.2.2.2.2 _ (List.mem_cons_of_mem _ uw_43_0)) (hC.2.2.2.2 _ (List.mem_cons_of_mem _ uw_14_15)) (hC.2.2.2.2 _ (List.mem_cons_of_mem _ uw_14_16)) (hC.2.2.2.2 _ (List.mem_cons_of_mem _ uw_14_17)) (Nat.le_of_ble_eq_true rfl) (Nat.le_of_ble_eq_true rfl) (Nat.zero_le _) (Nat.zero_le _) dX1_lookAround_96 ?_
          refine lv_topi (fun x178 ex178 => ?_)
          have bx178 : (x178.toInt = (0 : Int) ∧ (-1 : Int) ≤ (0 : Int)) ∨ (x178.toInt = (-1 : Int) ∧ (0 : Int) < (-1 : Int)) := by rw [ex178]; exact wk_max
          refine tk_puti hC hK hw hT hinX1 tyX1_ok nmX1 kC_at149 (by decide) rfl rfl 8 (by decide) (List.mem_cons_of_mem _ uw_43_1) rfl rfl rfl rfl (wk_i32 x178).1 (wk_i32 x178).2 dX1_lookAround_99 (fun H locs w179 hw hT k181 c180 => ?_)
          have hF := hF.put kC_at149 (k := 8) (by decide) k181
          have c182 := k181.gi (Or.inr (by decide)) c155
          have c183 := k181.gi (Or.inr (by decide)) c156
          have c184 := k181.gi (Or.inr (by decide)) c157
          have c185 := k181.gi (Or.inr (by decide)) c158
          have c186 := k181.gi (Or.inr (by decide)) c159
          refine lv_aload_n hx hb dX1_lookAround_102 rfl (lv_at hl 1 rfl) ?_
          refine lv_iconst (v := (-1)) hx hb dX1_lookAround_103 (by decide) ?_
          refine tk_puti hC hK hw hT hinX1 tyX1_ok nmX1 kC_at149 (by decide) rfl rfl 7 (by decide) (List.mem_cons_of_mem _ uw_42_7) rfl rfl rfl rfl (by decide) (by decide) dX1_lookAround_104 (fun H locs w187 hw hT k189 c188 => ?_)
          have hF := hF.put kC_at149 (k := 7) (by decide) k189
          have c190 := k189.gi (Or.inr (by decide)) c182
          have c191 := k189.gi (Or.inr (by decide)) c183
          have c192 := k189.gi (Or.inr (by decide)) c184
          have c193 := k189.gi (Or.inr (by decide)) c185
          have c194 := k189.gi (Or.inr (by decide)) c186
          have c195 := k189.gi (Or.inr (by decide)) c180
          refine lv_iconst (v := 0) hx hb dX1_lookAround_107 (by decide) ?_
          refine lv_istore (lv' := [(4, .int 0), (3, .int x40), (0, .ref (ad 149)), (1, .ref (ad q1_)), (2, .int 0)]) hx hb dX1_lookAround_108 hl (by decide) rfl (fun ls hl => ?_)
          exact L110 x40 r46 0 x178 x42 x44 H locs ls w187 (show 0 ≤ x40.toInt by first | with_reducible assumption | omega) (show x40.toInt ≤ 10 by first | with_reducible assumption | omega) (show (-1) ≤ r46.toInt by first | with_reducible assumption | omega) (show r46.toInt ≤ 11 by first | with_reducible assumption | omega) (by decide) (by decide) (show 0 ≤ x178.toInt by first | with_reducible assumption | omega) (show x178.toInt ≤ 999999 by first | with_reducible assumption | omega) (show 0 ≤ x42.toInt by first | with_reducible assumption | omega) (show x42.toInt ≤ 9 by first | with_reducible assumption | omega) (show 0 ≤ x44.toInt by first | with_reducible assumption | omega) (show x44.toInt ≤ 9 by first | with_reducible assumption | omega)  hw hT hF c193 c194 c188 c195 c191 c192 (lv_sub hl [2, 3, 4, 1, 0] rfl)
      · refine lv_if_eq (tgt := 74) hx hb dX1_lookAround_67 (by decide) (fun c => absurd c (by decide)) (fun _ => ?_)
        refine lv_iconst (v := 1) hx hb dX1_lookAround_70 (by decide) ?_
        refine lv_goto (tgt := 75) hx hb dX1_lookAround_71 (by decide) ?_
        refine tk_putz hC hK hw hT hinX1 tyX1_ok nmX1 kC_at149 (by decide) rfl rfl 6 (by decide) (List.mem_cons_of_mem _ uw_42_5) rfl rfl rfl rfl (by decide) (by decide) dX1_lookAround_75 (fun H locs w196 hw hT k198 c197 => ?_)
        have hF := hF.put kC_at149 (k := 6) (by decide) k198
        have c199 := k198.gi (Or.inr (by decide)) c133
        have c200 := k198.gi (Or.inr (by decide)) c134
        have c201 := k198.gi (Or.inr (by decide)) c135
        have c202 := k198.gi (Or.inr (by decide)) c136
        have c203 := k198.gi (Or.inr (by decide)) c131
        refine lv_aload_n hx hb dX1_lookAround_78 rfl (lv_at hl 1 rfl) ?_
        refine lv_iconst (v := 0) hx hb dX1_lookAround_79 (by decide) ?_
        refine lv_aload_n hx hb dX1_lookAround_80 rfl (lv_at hl 1 rfl) ?_
        refine tk_getA hC hK hw hT hinX1 kC_at149 (by decide) rfl 1 (by decide) (List.mem_cons_of_mem _ uw_5_1) rfl rfl dX1_lookAround_81 ?_
        refine lv_iload_n hx hb dX1_lookAround_84 rfl (lv_at hl 0 rfl) ?_
        refine lv_aload_n hx hb dX1_lookAround_85 rfl (lv_at hl 2 rfl) ?_
        refine tk_geti hC hK hw hT hinX9 hkq1_ (by decide) rfl 0 (by decide) (List.mem_cons_of_mem _ uw_42_22) rfl rfl dX1_lookAround_86 (fun x204 c205 rx204 tx204 => ?_)
        refine wk_top x42 (c205.symm.trans c200) ?_
        refine lv_aload_n hx hb dX1_lookAround_89 rfl (lv_at hl 2 rfl) ?_
        refine tk_geti hC hK hw hT hinX9 hkq1_ (by decide) rfl 1 (by decide) (List.mem_cons_of_mem _ uw_42_23) rfl rfl dX1_lookAround_90 (fun x206 c207 rx206 tx206 => ?_)
        refine wk_top x44 (c207.symm.trans c201) ?_
        refine tk_Vi hC hK hw hT hA hE hSR kC_at145 (by decide) rfl (k_X0_hoursBy_1 l adK adV dC dI cy ad B hB0 (Int.le_trans hB1 (by decide)) qr s1   x40 (show 0 ≤ x40.toInt by first | with_reducible assumption | omega) (show x40.toInt ≤ 3 by first | with_reducible assumption | omega) x42 (show 0 ≤ x42.toInt by first | with_reducible assumption | omega) (show x42.toInt ≤ 9 by first | with_reducible assumption | omega) x44 (show 0 ≤ x44.toInt by first | with_reducible assumption | omega) (show x44.toInt ≤ 9 by first | with_reducible assumption | omega) w196 H.size hT ) (cwV 3 hC.2.2.2.2 uV_RX1_114 rfl rfl rfl (by decide +kernel) ⟨Nat.le_of_ble_eq_true rfl, Nat.le_of_ble_eq_true rfl⟩) rfl hl.1 rfl (Nat.le_of_ble_eq_true rfl) dX1_lookAround_93 (fun r208 w210 H locs hp209 hw => ?_)
        obtain ⟨hT, k211, hg214⟩ := hp209
        have hF := hF.tr k211 (by decide)
        have c215 := k211.gi hkq1_ (by decide) c199
        have c216 := k211.gi hkq1_ (by decide) c200
        have c217 := k211.gi hkq1_ (by decide) c201
        have c218 := k211.gi kC_at149 (by decide) c202
        have c219 := k211.gi kC_at149 (by decide) c203
        have c220 := k211.gi kC_at149 (by decide) c197
        rcases hg214 with ⟨g212, g213⟩ | rfl
        · refine va_mmax hx hb (hC.2.2.1.trans hl.1.symm) hC.2.2.2.1 (hC.2.2.2.2 _ (List.mem_cons_of_mem _ uw_43_0)) (hC.2.2.2.2 _ (List.mem_cons_of_mem _ uw_14_15)) (hC.2.2.2.2 _ (List.mem_cons_of_mem _ uw_14_16)) (hC.2.2.2.2 _ (List.mem_cons_of_mem _ uw_14_17)) (Nat.le_of_ble_eq_true rfl) (Nat.le_of_ble_eq_true rfl) (Nat.zero_le _) (Nat.zero_le _) dX1_lookAround_96 ?_
          refine lv_topi (fun x221 ex221 => ?_)
          have bx221 : (x221.toInt = (0 : Int) ∧ r208.toInt ≤ (0 : Int)) ∨ (x221.toInt = r208.toInt ∧ (0 : Int) < r208.toInt) := by rw [ex221]; exact wk_max
          refine tk_puti hC hK hw hT hinX1 tyX1_ok nmX1 kC_at149 (by decide) rfl rfl 8 (by decide) (List.mem_cons_of_mem _ uw_43_1) rfl rfl rfl rfl (wk_i32 x221).1 (wk_i32 x221).2 dX1_lookAround_99 (fun H locs w222 hw hT k224 c223 => ?_)
          have hF := hF.put kC_at149 (k := 8) (by decide) k224
          have c225 := k224.gi (Or.inr (by decide)) c215
          have c226 := k224.gi (Or.inr (by decide)) c216
          have c227 := k224.gi (Or.inr (by decide)) c217
          have c228 := k224.gi (Or.inr (by decide)) c218
          have c229 := k224.gi (Or.inr (by decide)) c219
          have c230 := k224.gi (Or.inr (by decide)) c220
          refine lv_aload_n hx hb dX1_lookAround_102 rfl (lv_at hl 1 rfl) ?_
          refine lv_iconst (v := (-1)) hx hb dX1_lookAround_103 (by decide) ?_
          refine tk_puti hC hK hw hT hinX1 tyX1_ok nmX1 kC_at149 (by decide) rfl rfl 7 (by decide) (List.mem_cons_of_mem _ uw_42_7) rfl rfl rfl rfl (by decide) (by decide) dX1_lookAround_104 (fun H locs w231 hw hT k233 c232 => ?_)
          have hF := hF.put kC_at149 (k := 7) (by decide) k233
          have c234 := k233.gi (Or.inr (by decide)) c225
          have c235 := k233.gi (Or.inr (by decide)) c226
          have c236 := k233.gi (Or.inr (by decide)) c227
          have c237 := k233.gi (Or.inr (by decide)) c228
          have c238 := k233.gi (Or.inr (by decide)) c229
          have c239 := k233.gi (Or.inr (by decide)) c230
          have c240 := k233.gi (Or.inr (by decide)) c223
          refine lv_iconst (v := 0) hx hb dX1_lookAround_107 (by decide) ?_
          refine lv_istore (lv' := [(4, .int 0), (3, .int x40), (0, .ref (ad 149)), (1, .ref (ad q1_)), (2, .int 0)]) hx hb dX1_lookAround_108 hl (by decide) rfl (fun ls hl => ?_)
          exact L110 x40 r46 1 x221 x42 x44 H locs ls w231 (show 0 ≤ x40.toInt by first | with_reducible assumption | omega) (show x40.toInt ≤ 10 by first | with_reducible assumption | omega) (show (-1) ≤ r46.toInt by first | with_reducible assumption | omega) (show r46.toInt ≤ 11 by first | with_reducible assumption | omega) (by decide) (by decide) (show 0 ≤ x221.toInt by first | with_reducible assumption | omega) (show x221.toInt ≤ 999999 by first | with_reducible assumption | omega) (show 0 ≤ x42.toInt by first | with_reducible assumption | omega) (show x42.toInt ≤ 9 by first | with_reducible assumption | omega) (show 0 ≤ x44.toInt by first | with_reducible assumption | omega) (show x44.toInt ≤ 9 by first | with_reducible assumption | omega)  hw hT hF c237 c239 c232 c240 c235 c236 (lv_sub hl [2, 3, 4, 1, 0] rfl)
        · refine va_mmax hx hb (hC.2.2.1.trans hl.1.symm) hC.2.2.2.1 (hC.2.2.2.2 _ (List.mem_cons_of_mem _ uw_43_0)) (hC.2.2.2.2 _ (List.mem_cons_of_mem _ uw_14_15)) (hC.2.2.2.2 _ (List.mem_cons_of_mem _ uw_14_16)) (hC.2.2.2.2 _ (List.mem_cons_of_mem _ uw_14_17)) (Nat.le_of_ble_eq_true rfl) (Nat.le_of_ble_eq_true rfl) (Nat.zero_le _) (Nat.zero_le _) dX1_lookAround_96 ?_
          refine lv_topi (fun x241 ex241 => ?_)
          have bx241 : (x241.toInt = (0 : Int) ∧ (-1 : Int) ≤ (0 : Int)) ∨ (x241.toInt = (-1 : Int) ∧ (0 : Int) < (-1 : Int)) := by rw [ex241]; exact wk_max
          refine tk_puti hC hK hw hT hinX1 tyX1_ok nmX1 kC_at149 (by decide) rfl rfl 8 (by decide) (List.mem_cons_of_mem _ uw_43_1) rfl rfl rfl rfl (wk_i32 x241).1 (wk_i32 x241).2 dX1_lookAround_99 (fun H locs w242 hw hT k244 c243 => ?_)
          have hF := hF.put kC_at149 (k := 8) (by decide) k244
          have c245 := k244.gi (Or.inr (by decide)) c215
          have c246 := k244.gi (Or.inr (by decide)) c216
          have c247 := k244.gi (Or.inr (by decide)) c217
          have c248 := k244.gi (Or.inr (by decide)) c218
          have c249 := k244.gi (Or.inr (by decide)) c219
          have c250 := k244.gi (Or.inr (by decide)) c220
          refine lv_aload_n hx hb dX1_lookAround_102 rfl (lv_at hl 1 rfl) ?_
          refine lv_iconst (v := (-1)) hx hb dX1_lookAround_103 (by decide) ?_
          refine tk_puti hC hK hw hT hinX1 tyX1_ok nmX1 kC_at149 (by decide) rfl rfl 7 (by decide) (List.mem_cons_of_mem _ uw_42_7) rfl rfl rfl rfl (by decide) (by decide) dX1_lookAround_104 (fun H locs w251 hw hT k253 c252 => ?_)
          have hF := hF.put kC_at149 (k := 7) (by decide) k253
          have c254 := k253.gi (Or.inr (by decide)) c245
          have c255 := k253.gi (Or.inr (by decide)) c246
          have c256 := k253.gi (Or.inr (by decide)) c247
          have c257 := k253.gi (Or.inr (by decide)) c248
          have c258 := k253.gi (Or.inr (by decide)) c249
          have c259 := k253.gi (Or.inr (by decide)) c250
          have c260 := k253.gi (Or.inr (by decide)) c243
          refine lv_iconst (v := 0) hx hb dX1_lookAround_107 (by decide) ?_
          refine lv_istore (lv' := [(4, .int 0), (3, .int x40), (0, .ref (ad 149)), (1, .ref (ad q1_)), (2, .int 0)]) hx hb dX1_lookAround_108 hl (by decide) rfl (fun ls hl => ?_)
          exact L110 x40 r46 1 x241 x42 x44 H locs ls w251 (show 0 ≤ x40.toInt by first | with_reducible assumption | omega) (show x40.toInt ≤ 10 by first | with_reducible assumption | omega) (show (-1) ≤ r46.toInt by first | with_reducible assumption | omega) (show r46.toInt ≤ 11 by first | with_reducible assumption | omega) (by decide) (by decide) (show 0 ≤ x241.toInt by first | with_reducible assumption | omega) (show x241.toInt ≤ 999999 by first | with_reducible assumption | omega) (show 0 ≤ x42.toInt by first | with_reducible assumption | omega) (show x42.toInt ≤ 9 by first | with_reducible assumption | omega) (show 0 ≤ x44.toInt by first | with_reducible assumption | omega) (show x44.toInt ≤ 9 by first | with_reducible assumption | omega)  hw hT hF c257 c259 c252 c260 c255 c256 (lv_sub hl [2, 3, 4, 1, 0] rfl)
  refine lv_aload_n hx hb dX1_lookAround_0 rfl (lv_at hl 1 rfl) ?_
  refine tk_Vi hC hK hw hT hA hE hSR hkq1_ (by decide) rfl (k_X9_askedToday_1 l adK adV dC dI cy ad B hB0 (Int.le_trans hB1 (by decide)) qr s1   q1_ hkq1_ w0 s.heap.size hT ) (cwV 0 hC.2.2.2.2 uV_RX1_85 rfl rfl rfl (by decide +kernel) ⟨Nat.le_of_ble_eq_true rfl, Nat.le_of_ble_eq_true rfl⟩) rfl hl.1 rfl (Nat.le_of_ble_eq_true rfl) dX1_lookAround_1 (fun r261 w263 H locs hp262 hw => ?_)
  obtain ⟨hT, k264, hg265⟩ := hp262
  have hF := hF.tr k264 (by decide)
  rcases hg265 with rfl | rfl
  · refine lv_if_eq (tgt := 24) hx hb dX1_lookAround_4 (by decide) (fun _ => ?_) (fun c => absurd (by decide) c)
    exact J24  H locs ls w263   hw hT hF  (lv_sub hl [0, 1, 2] rfl)
  · refine lv_if_eq (tgt := 24) hx hb dX1_lookAround_4 (by decide) (fun c => absurd c (by decide)) (fun _ => ?_)
    refine lv_aload_n hx hb dX1_lookAround_7 rfl (lv_at hl 0 rfl) ?_
    refine tk_geti hC hK hw hT hinX1 kC_at149 (by decide) rfl 9 (by decide) (List.mem_cons_of_mem _ uw_42_20) rfl rfl dX1_lookAround_8 (fun x266 c267 rx266 tx266 => ?_)
    refine lv_if_ne (tgt := 24) hx hb dX1_lookAround_11 (by decide) (fun c268 => ?_) (fun c268 => ?_)
    · have c268 : ¬ x266.toInt = (0 : Int) := wk_eqF c268
      exact J24  H locs ls w263   hw hT hF  (lv_sub hl [0, 1, 2] rfl)
    · have c268 : x266.toInt = (0 : Int) := wk_eq.mp c268
      refine lv_aload_n hx hb dX1_lookAround_14 rfl (lv_at hl 1 rfl) ?_
      refine tk_Vl hC hK hw hT hA hE hSR hkq1_ (by decide) rfl (k_X9_dayNow_1 l adK adV dC dI cy ad B hB0 (Int.le_trans hB1 (by decide)) qr s1   q1_ hkq1_ w263 H.size hT ) (cwV 0 hC.2.2.2.2 uV_RX1_68 rfl rfl rfl (by decide +kernel) ⟨Nat.le_of_ble_eq_true rfl, Nat.le_of_ble_eq_true rfl⟩) rfl hl.1 rfl (Nat.le_of_ble_eq_true rfl) dX1_lookAround_15 (fun r269 w271 H locs hp270 hw => ?_)
      obtain ⟨hT, k272, hg275⟩ := hp270
      have hF := hF.tr k272 (by decide)
      have c276 := k272.gi kC_at149 (by decide) c267
      obtain ⟨g273, g274⟩ := hg275
      refine tk_Si hC hK hw hT hA hE hSR (k_X0_ofWeekday_1 l adK adV dC dI cy ad B hB0 (Int.le_trans hB1 (by decide)) qr s1   r269 (show 0 ≤ r269.toInt by first | with_reducible assumption | omega) (show r269.toInt ≤ 96076792050570581 by first | with_reducible assumption | omega) w271 H.size hT ) (va_cwS 1 hC.2.2.2.2 uS_RX1_91 rfl rfl rfl (by decide +kernel) ⟨Nat.le_of_ble_eq_true rfl, Nat.le_of_ble_eq_true rfl⟩) rfl hl.1 rfl (Nat.le_of_ble_eq_true rfl) dX1_lookAround_18 (fun r277 w279 H locs hp278 hw => ?_)
      obtain ⟨hT, k280, hg283⟩ := hp278
      have hF := hF.tr k280 (by decide)
      have c284 := k280.gi kC_at149 (by decide) c276
      obtain ⟨g281, g282⟩ := hg283
      refine lv_goto (tgt := 28) hx hb dX1_lookAround_21 (by decide) ?_
      refine lv_istore_n (lv' := [(3, .int r277), (0, .ref (ad 149)), (1, .ref (ad q1_)), (2, .int 0)]) hx hb dX1_lookAround_28 rfl hl (by decide) rfl (fun ls hl => ?_)
      refine lv_aload_n hx hb dX1_lookAround_29 rfl (lv_at hl 1 rfl) ?_
      refine lv_aload_n hx hb dX1_lookAround_30 rfl (lv_at hl 1 rfl) ?_
      refine tk_getA hC hK hw hT hinX1 kC_at149 (by decide) rfl 1 (by decide) (List.mem_cons_of_mem _ uw_5_1) rfl rfl dX1_lookAround_31 ?_
      refine lv_iload_n hx hb dX1_lookAround_34 rfl (lv_at hl 0 rfl) ?_
      refine lv_aload_n hx hb dX1_lookAround_35 rfl (lv_at hl 2 rfl) ?_
      refine tk_geti hC hK hw hT hinX9 hkq1_ (by decide) rfl 0 (by decide) (List.mem_cons_of_mem _ uw_42_22) rfl rfl dX1_lookAround_36 (fun x285 c286 rx285 tx285 => ?_)
      refine lv_aload_n hx hb dX1_lookAround_39 rfl (lv_at hl 2 rfl) ?_
      refine tk_geti hC hK hw hT hinX9 hkq1_ (by decide) rfl 1 (by decide) (List.mem_cons_of_mem _ uw_42_23) rfl rfl dX1_lookAround_40 (fun x287 c288 rx287 tx287 => ?_)
      refine tk_Vi hC hK hw hT hA hE hSR kC_at145 (by decide) rfl (k_X0_streetBy_2 l adK adV dC dI cy ad B hB0 (Int.le_trans hB1 (by decide)) qr s1   r277 (show 4 ≤ r277.toInt by first | with_reducible assumption | omega) (show r277.toInt ≤ 10 by first | with_reducible assumption | omega) x285 (show 0 ≤ x285.toInt by first | with_reducible assumption | omega) (show x285.toInt ≤ 9 by first | with_reducible assumption | omega) x287 (show 0 ≤ x287.toInt by first | with_reducible assumption | omega) (show x287.toInt ≤ 9 by first | with_reducible assumption | omega) w279 H.size hT ) (cwV 3 hC.2.2.2.2 uV_RX1_106 rfl rfl rfl (by decide +kernel) ⟨Nat.le_of_ble_eq_true rfl, Nat.le_of_ble_eq_true rfl⟩) rfl hl.1 rfl (Nat.le_of_ble_eq_true rfl) dX1_lookAround_43 (fun r289 w291 H locs hp290 hw => ?_)
      obtain ⟨hT, k292, hg295⟩ := hp290
      have hF := hF.tr k292 (by decide)
      have c296 := k292.gi kC_at149 (by decide) c284
      have c297 := k292.gi hkq1_ (by decide) c286
      have c298 := k292.gi hkq1_ (by decide) c288
      obtain ⟨g293, g294⟩ := hg295
      refine tk_puti hC hK hw hT hinX1 tyX1_ok nmX1 kC_at149 (by decide) rfl rfl 5 (by decide) (List.mem_cons_of_mem _ uw_42_6) rfl rfl rfl rfl (show (-1) ≤ r289.toInt by first | with_reducible assumption | omega) (show r289.toInt ≤ 11 by first | with_reducible assumption | omega) dX1_lookAround_46 (fun H locs w299 hw hT k301 c300 => ?_)
      have hF := hF.put kC_at149 (k := 5) (by decide) k301
      have c302 := k301.gi (Or.inr (by decide)) c296
      have c303 := k301.gi (Or.inr (by decide)) c297
      have c304 := k301.gi (Or.inr (by decide)) c298
      refine lv_aload_n hx hb dX1_lookAround_49 rfl (lv_at hl 1 rfl) ?_
      refine lv_aload_n hx hb dX1_lookAround_50 rfl (lv_at hl 1 rfl) ?_
      refine tk_geti hC hK hw hT hinX1 kC_at149 (by decide) rfl 5 (by decide) (List.mem_cons_of_mem _ uw_42_6) rfl rfl dX1_lookAround_51 (fun x305 c306 rx305 tx305 => ?_)
      refine wk_top r289 (c306.symm.trans c300) ?_
      refine lv_iconst (v := (-1)) hx hb dX1_lookAround_54 (by decide) ?_
      refine lv_icmp_eq (tgt := 74) hx hb dX1_lookAround_55 (by decide) (fun c307 => ?_) (fun c307 => ?_)
      · have c307 : r289.toInt = (-1 : Int) := wk_eq.mp c307
        refine lv_iconst (v := 0) hx hb dX1_lookAround_74 (by decide) ?_
        refine tk_putz hC hK hw hT hinX1 tyX1_ok nmX1 kC_at149 (by decide) rfl rfl 6 (by decide) (List.mem_cons_of_mem _ uw_42_5) rfl rfl rfl rfl (by decide) (by decide) dX1_lookAround_75 (fun H locs w308 hw hT k310 c309 => ?_)
        have hF := hF.put kC_at149 (k := 6) (by decide) k310
        have c311 := k310.gi (Or.inr (by decide)) c302
        have c312 := k310.gi (Or.inr (by decide)) c303
        have c313 := k310.gi (Or.inr (by decide)) c304
        have c314 := k310.gi (Or.inr (by decide)) c300
        refine lv_aload_n hx hb dX1_lookAround_78 rfl (lv_at hl 1 rfl) ?_
        refine lv_iconst (v := 0) hx hb dX1_lookAround_79 (by decide) ?_
        refine lv_aload_n hx hb dX1_lookAround_80 rfl (lv_at hl 1 rfl) ?_
        refine tk_getA hC hK hw hT hinX1 kC_at149 (by decide) rfl 1 (by decide) (List.mem_cons_of_mem _ uw_5_1) rfl rfl dX1_lookAround_81 ?_
        refine lv_iload_n hx hb dX1_lookAround_84 rfl (lv_at hl 0 rfl) ?_
        refine lv_aload_n hx hb dX1_lookAround_85 rfl (lv_at hl 2 rfl) ?_
        refine tk_geti hC hK hw hT hinX9 hkq1_ (by decide) rfl 0 (by decide) (List.mem_cons_of_mem _ uw_42_22) rfl rfl dX1_lookAround_86 (fun x315 c316 rx315 tx315 => ?_)
        refine wk_top x285 (c316.symm.trans c312) ?_
        refine lv_aload_n hx hb dX1_lookAround_89 rfl (lv_at hl 2 rfl) ?_
        refine tk_geti hC hK hw hT hinX9 hkq1_ (by decide) rfl 1 (by decide) (List.mem_cons_of_mem _ uw_42_23) rfl rfl dX1_lookAround_90 (fun x317 c318 rx317 tx317 => ?_)
        refine wk_top x287 (c318.symm.trans c313) ?_
        refine tk_Vi hC hK hw hT hA hE hSR kC_at145 (by decide) rfl (k_X0_hoursBy_2 l adK adV dC dI cy ad B hB0 (Int.le_trans hB1 (by decide)) qr s1   r277 (show 4 ≤ r277.toInt by first | with_reducible assumption | omega) (show r277.toInt ≤ 10 by first | with_reducible assumption | omega) x285 (show 0 ≤ x285.toInt by first | with_reducible assumption | omega) (show x285.toInt ≤ 9 by first | with_reducible assumption | omega) x287 (show 0 ≤ x287.toInt by first | with_reducible assumption | omega) (show x287.toInt ≤ 9 by first | with_reducible assumption | omega) w308 H.size hT ) (cwV 3 hC.2.2.2.2 uV_RX1_114 rfl rfl rfl (by decide +kernel) ⟨Nat.le_of_ble_eq_true rfl, Nat.le_of_ble_eq_true rfl⟩) rfl hl.1 rfl (Nat.le_of_ble_eq_true rfl) dX1_lookAround_93 (fun r319 w321 H locs hp320 hw => ?_)
        obtain ⟨hT, k322, hg325⟩ := hp320
        have hF := hF.tr k322 (by decide)
        have c326 := k322.gi kC_at149 (by decide) c311
        have c327 := k322.gi hkq1_ (by decide) c312
        have c328 := k322.gi hkq1_ (by decide) c313
        have c329 := k322.gi kC_at149 (by decide) c314
        have c330 := k322.gi kC_at149 (by decide) c309
        rcases hg325 with ⟨g323, g324⟩ | rfl
        · refine va_mmax hx hb (hC.2.2.1.trans hl.1.symm) hC.2.2.2.1 (hC.2.2.2.2 _ (List.mem_cons_of_mem _ uw_43_0)) (hC.2.2.2.2 _ (List.mem_cons_of_mem _ uw_14_15)) (hC.2.2.2.2 _ (List.mem_cons_of_mem _ uw_14_16)) (hC.2.2.2.2 _ (List.mem_cons_of_mem _ uw_14_17)) (Nat.le_of_ble_eq_true rfl) (Nat.le_of_ble_eq_true rfl) (Nat.zero_le _) (Nat.zero_le _) dX1_lookAround_96 ?_
          refine lv_topi (fun x331 ex331 => ?_)
          have bx331 : (x331.toInt = (0 : Int) ∧ r319.toInt ≤ (0 : Int)) ∨ (x331.toInt = r319.toInt ∧ (0 : Int) < r319.toInt) := by rw [ex331]; exact wk_max
          refine tk_puti hC hK hw hT hinX1 tyX1_ok nmX1 kC_at149 (by decide) rfl rfl 8 (by decide) (List.mem_cons_of_mem _ uw_43_1) rfl rfl rfl rfl (wk_i32 x331).1 (wk_i32 x331).2 dX1_lookAround_99 (fun H locs w332 hw hT k334 c333 => ?_)
          have hF := hF.put kC_at149 (k := 8) (by decide) k334
          have c335 := k334.gi (Or.inr (by decide)) c326
          have c336 := k334.gi (Or.inr (by decide)) c327
          have c337 := k334.gi (Or.inr (by decide)) c328
          have c338 := k334.gi (Or.inr (by decide)) c329
          have c339 := k334.gi (Or.inr (by decide)) c330
          refine lv_aload_n hx hb dX1_lookAround_102 rfl (lv_at hl 1 rfl) ?_
          refine lv_iconst (v := (-1)) hx hb dX1_lookAround_103 (by decide) ?_
          refine tk_puti hC hK hw hT hinX1 tyX1_ok nmX1 kC_at149 (by decide) rfl rfl 7 (by decide) (List.mem_cons_of_mem _ uw_42_7) rfl rfl rfl rfl (by decide) (by decide) dX1_lookAround_104 (fun H locs w340 hw hT k342 c341 => ?_)
          have hF := hF.put kC_at149 (k := 7) (by decide) k342
          have c343 := k342.gi (Or.inr (by decide)) c335
          have c344 := k342.gi (Or.inr (by decide)) c336
          have c345 := k342.gi (Or.inr (by decide)) c337
          have c346 := k342.gi (Or.inr (by decide)) c338
          have c347 := k342.gi (Or.inr (by decide)) c339
          have c348 := k342.gi (Or.inr (by decide)) c333
          refine lv_iconst (v := 0) hx hb dX1_lookAround_107 (by decide) ?_
          refine lv_istore (lv' := [(4, .int 0), (3, .int r277), (0, .ref (ad 149)), (1, .ref (ad q1_)), (2, .int 0)]) hx hb dX1_lookAround_108 hl (by decide) rfl (fun ls hl => ?_)
          exact L110 r277 r289 0 x331 x285 x287 H locs ls w340 (show 0 ≤ r277.toInt by first | with_reducible assumption | omega) (show r277.toInt ≤ 10 by first | with_reducible assumption | omega) (show (-1) ≤ r289.toInt by first | with_reducible assumption | omega) (show r289.toInt ≤ 11 by first | with_reducible assumption | omega) (by decide) (by decide) (show 0 ≤ x331.toInt by first | with_reducible assumption | omega) (show x331.toInt ≤ 999999 by first | with_reducible assumption | omega) (show 0 ≤ x285.toInt by first | with_reducible assumption | omega) (show x285.toInt ≤ 9 by first | with_reducible assumption | omega) (show 0 ≤ x287.toInt by first | with_reducible assumption | omega) (show x287.toInt ≤ 9 by first | with_reducible assumption | omega)  hw hT hF c346 c347 c341 c348 c344 c345 (lv_sub hl [2, 3, 4, 1, 0] rfl)
        · refine va_mmax hx hb (hC.2.2.1.trans hl.1.symm) hC.2.2.2.1 (hC.2.2.2.2 _ (List.mem_cons_of_mem _ uw_43_0)) (hC.2.2.2.2 _ (List.mem_cons_of_mem _ uw_14_15)) (hC.2.2.2.2 _ (List.mem_cons_of_mem _ uw_14_16)) (hC.2.2.2.2 _ (List.mem_cons_of_mem _ uw_14_17)) (Nat.le_of_ble_eq_true rfl) (Nat.le_of_ble_eq_true rfl) (Nat.zero_le _) (Nat.zero_le _) dX1_lookAround_96 ?_
          refine lv_topi (fun x349 ex349 => ?_)
          have bx349 : (x349.toInt = (0 : Int) ∧ (-1 : Int) ≤ (0 : Int)) ∨ (x349.toInt = (-1 : Int) ∧ (0 : Int) < (-1 : Int)) := by rw [ex349]; exact wk_max
          refine tk_puti hC hK hw hT hinX1 tyX1_ok nmX1 kC_at149 (by decide) rfl rfl 8 (by decide) (List.mem_cons_of_mem _ uw_43_1) rfl rfl rfl rfl (wk_i32 x349).1 (wk_i32 x349).2 dX1_lookAround_99 (fun H locs w350 hw hT k352 c351 => ?_)
          have hF := hF.put kC_at149 (k := 8) (by decide) k352
          have c353 := k352.gi (Or.inr (by decide)) c326
          have c354 := k352.gi (Or.inr (by decide)) c327
          have c355 := k352.gi (Or.inr (by decide)) c328
          have c356 := k352.gi (Or.inr (by decide)) c329
          have c357 := k352.gi (Or.inr (by decide)) c330
          refine lv_aload_n hx hb dX1_lookAround_102 rfl (lv_at hl 1 rfl) ?_
          refine lv_iconst (v := (-1)) hx hb dX1_lookAround_103 (by decide) ?_
          refine tk_puti hC hK hw hT hinX1 tyX1_ok nmX1 kC_at149 (by decide) rfl rfl 7 (by decide) (List.mem_cons_of_mem _ uw_42_7) rfl rfl rfl rfl (by decide) (by decide) dX1_lookAround_104 (fun H locs w358 hw hT k360 c359 => ?_)
          have hF := hF.put kC_at149 (k := 7) (by decide) k360
          have c361 := k360.gi (Or.inr (by decide)) c353
          have c362 := k360.gi (Or.inr (by decide)) c354
          have c363 := k360.gi (Or.inr (by decide)) c355
          have c364 := k360.gi (Or.inr (by decide)) c356
          have c365 := k360.gi (Or.inr (by decide)) c357
          have c366 := k360.gi (Or.inr (by decide)) c351
          refine lv_iconst (v := 0) hx hb dX1_lookAround_107 (by decide) ?_
          refine lv_istore (lv' := [(4, .int 0), (3, .int r277), (0, .ref (ad 149)), (1, .ref (ad q1_)), (2, .int 0)]) hx hb dX1_lookAround_108 hl (by decide) rfl (fun ls hl => ?_)
          exact L110 r277 r289 0 x349 x285 x287 H locs ls w358 (show 0 ≤ r277.toInt by first | with_reducible assumption | omega) (show r277.toInt ≤ 10 by first | with_reducible assumption | omega) (show (-1) ≤ r289.toInt by first | with_reducible assumption | omega) (show r289.toInt ≤ 11 by first | with_reducible assumption | omega) (by decide) (by decide) (show 0 ≤ x349.toInt by first | with_reducible assumption | omega) (show x349.toInt ≤ 999999 by first | with_reducible assumption | omega) (show 0 ≤ x285.toInt by first | with_reducible assumption | omega) (show x285.toInt ≤ 9 by first | with_reducible assumption | omega) (show 0 ≤ x287.toInt by first | with_reducible assumption | omega) (show x287.toInt ≤ 9 by first | with_reducible assumption | omega)  hw hT hF c364 c365 c359 c366 c362 c363 (lv_sub hl [2, 3, 4, 1, 0] rfl)
      · have c307 : ¬ r289.toInt = (-1 : Int) := wk_eqF c307
        refine lv_aload_n hx hb dX1_lookAround_58 rfl (lv_at hl 1 rfl) ?_
        refine lv_aload_n hx hb dX1_lookAround_59 rfl (lv_at hl 2 rfl) ?_
        refine lv_aload_n hx hb dX1_lookAround_60 rfl (lv_at hl 1 rfl) ?_
        refine tk_geti hC hK hw hT hinX1 kC_at149 (by decide) rfl 5 (by decide) (List.mem_cons_of_mem _ uw_42_6) rfl rfl dX1_lookAround_61 (fun x367 c368 rx367 tx367 => ?_)
        refine wk_top r289 (c368.symm.trans c300) ?_
        refine tk_Vi hC hK hw hT hA hE hSR kC_at149 (by decide) rfl (k_X1_isOpenFor_1 l adK adV dC dI cy ad B hB0 (Int.le_trans hB1 (by decide)) qr s1   q1_ hkq1_ r289 (show 0 ≤ r289.toInt by first | with_reducible assumption | omega) (show r289.toInt ≤ 11 by first | with_reducible assumption | omega) w299 H.size hT ) (cwV 2 hC.2.2.2.2 uV_RX1_110 rfl rfl rfl (by decide +kernel) ⟨Nat.le_of_ble_eq_true rfl, Nat.le_of_ble_eq_true rfl⟩) rfl hl.1 rfl (Nat.le_of_ble_eq_true rfl) dX1_lookAround_64 (fun r369 w371 H locs hp370 hw => ?_)
        obtain ⟨hT, k372, hg375⟩ := hp370
        have hF := hF.tr k372 (by decide)
        have c376 := k372.gi kC_at149 (by decide) c302
        have c377 := k372.gi hkq1_ (by decide) c303
        have c378 := k372.gi hkq1_ (by decide) c304
        have c379 := k372.gi kC_at149 (by decide) c300
        rcases hg375 with rfl | ⟨rfl, ⟨x373, c374, rx373, tx373⟩⟩
        · refine lv_if_eq (tgt := 74) hx hb dX1_lookAround_67 (by decide) (fun _ => ?_) (fun c => absurd (by decide) c)
          refine lv_iconst (v := 0) hx hb dX1_lookAround_74 (by decide) ?_
          refine tk_putz hC hK hw hT hinX1 tyX1_ok nmX1 kC_at149 (by decide) rfl rfl 6 (by decide) (List.mem_cons_of_mem _ uw_42_5) rfl rfl rfl rfl (by decide) (by decide) dX1_lookAround_75 (fun H locs w380 hw hT k382 c381 => ?_)
          have hF := hF.put kC_at149 (k := 6) (by decide) k382
          have c383 := k382.gi (Or.inr (by decide)) c376
          have c384 := k382.gi (Or.inr (by decide)) c377
          have c385 := k382.gi (Or.inr (by decide)) c378
          have c386 := k382.gi (Or.inr (by decide)) c379
          refine lv_aload_n hx hb dX1_lookAround_78 rfl (lv_at hl 1 rfl) ?_
          refine lv_iconst (v := 0) hx hb dX1_lookAround_79 (by decide) ?_
          refine lv_aload_n hx hb dX1_lookAround_80 rfl (lv_at hl 1 rfl) ?_
          refine tk_getA hC hK hw hT hinX1 kC_at149 (by decide) rfl 1 (by decide) (List.mem_cons_of_mem _ uw_5_1) rfl rfl dX1_lookAround_81 ?_
          refine lv_iload_n hx hb dX1_lookAround_84 rfl (lv_at hl 0 rfl) ?_
          refine lv_aload_n hx hb dX1_lookAround_85 rfl (lv_at hl 2 rfl) ?_
          refine tk_geti hC hK hw hT hinX9 hkq1_ (by decide) rfl 0 (by decide) (List.mem_cons_of_mem _ uw_42_22) rfl rfl dX1_lookAround_86 (fun x387 c388 rx387 tx387 => ?_)
          refine wk_top x285 (c388.symm.trans c384) ?_
          refine lv_aload_n hx hb dX1_lookAround_89 rfl (lv_at hl 2 rfl) ?_
          refine tk_geti hC hK hw hT hinX9 hkq1_ (by decide) rfl 1 (by decide) (List.mem_cons_of_mem _ uw_42_23) rfl rfl dX1_lookAround_90 (fun x389 c390 rx389 tx389 => ?_)
          refine wk_top x287 (c390.symm.trans c385) ?_
          refine tk_Vi hC hK hw hT hA hE hSR kC_at145 (by decide) rfl (k_X0_hoursBy_2 l adK adV dC dI cy ad B hB0 (Int.le_trans hB1 (by decide)) qr s1   r277 (show 4 ≤ r277.toInt by first | with_reducible assumption | omega) (show r277.toInt ≤ 10 by first | with_reducible assumption | omega) x285 (show 0 ≤ x285.toInt by first | with_reducible assumption | omega) (show x285.toInt ≤ 9 by first | with_reducible assumption | omega) x287 (show 0 ≤ x287.toInt by first | with_reducible assumption | omega) (show x287.toInt ≤ 9 by first | with_reducible assumption | omega) w380 H.size hT ) (cwV 3 hC.2.2.2.2 uV_RX1_114 rfl rfl rfl (by decide +kernel) ⟨Nat.le_of_ble_eq_true rfl, Nat.le_of_ble_eq_true rfl⟩) rfl hl.1 rfl (Nat.le_of_ble_eq_true rfl) dX1_lookAround_93 (fun r391 w393 H locs hp392 hw => ?_)
          obtain ⟨hT, k394, hg397⟩ := hp392
          have hF := hF.tr k394 (by decide)
          have c398 := k394.gi kC_at149 (by decide) c383
          have c399 := k394.gi hkq1_ (by decide) c384
          have c400 := k394.gi hkq1_ (by decide) c385
          have c401 := k394.gi kC_at149 (by decide) c386
          have c402 := k394.gi kC_at149 (by decide) c381
          rcases hg397 with ⟨g395, g396⟩ | rfl
          · refine va_mmax hx hb (hC.2.2.1.trans hl.1.symm) hC.2.2.2.1 (hC.2.2.2.2 _ (List.mem_cons_of_mem _ uw_43_0)) (hC.2.2.2.2 _ (List.mem_cons_of_mem _ uw_14_15)) (hC.2.2.2.2 _ (List.mem_cons_of_mem _ uw_14_16)) (hC.2.2.2.2 _ (List.mem_cons_of_mem _ uw_14_17)) (Nat.le_of_ble_eq_true rfl) (Nat.le_of_ble_eq_true rfl) (Nat.zero_le _) (Nat.zero_le _) dX1_lookAround_96 ?_
            refine lv_topi (fun x403 ex403 => ?_)
            have bx403 : (x403.toInt = (0 : Int) ∧ r391.toInt ≤ (0 : Int)) ∨ (x403.toInt = r391.toInt ∧ (0 : Int) < r391.toInt) := by rw [ex403]; exact wk_max
            refine tk_puti hC hK hw hT hinX1 tyX1_ok nmX1 kC_at149 (by decide) rfl rfl 8 (by decide) (List.mem_cons_of_mem _ uw_43_1) rfl rfl rfl rfl (wk_i32 x403).1 (wk_i32 x403).2 dX1_lookAround_99 (fun H locs w404 hw hT k406 c405 => ?_)
            have hF := hF.put kC_at149 (k := 8) (by decide) k406
            have c407 := k406.gi (Or.inr (by decide)) c398
            have c408 := k406.gi (Or.inr (by decide)) c399
            have c409 := k406.gi (Or.inr (by decide)) c400
            have c410 := k406.gi (Or.inr (by decide)) c401
            have c411 := k406.gi (Or.inr (by decide)) c402
            refine lv_aload_n hx hb dX1_lookAround_102 rfl (lv_at hl 1 rfl) ?_
            refine lv_iconst (v := (-1)) hx hb dX1_lookAround_103 (by decide) ?_
            refine tk_puti hC hK hw hT hinX1 tyX1_ok nmX1 kC_at149 (by decide) rfl rfl 7 (by decide) (List.mem_cons_of_mem _ uw_42_7) rfl rfl rfl rfl (by decide) (by decide) dX1_lookAround_104 (fun H locs w412 hw hT k414 c413 => ?_)
            have hF := hF.put kC_at149 (k := 7) (by decide) k414
            have c415 := k414.gi (Or.inr (by decide)) c407
            have c416 := k414.gi (Or.inr (by decide)) c408
            have c417 := k414.gi (Or.inr (by decide)) c409
            have c418 := k414.gi (Or.inr (by decide)) c410
            have c419 := k414.gi (Or.inr (by decide)) c411
            have c420 := k414.gi (Or.inr (by decide)) c405
            refine lv_iconst (v := 0) hx hb dX1_lookAround_107 (by decide) ?_
            refine lv_istore (lv' := [(4, .int 0), (3, .int r277), (0, .ref (ad 149)), (1, .ref (ad q1_)), (2, .int 0)]) hx hb dX1_lookAround_108 hl (by decide) rfl (fun ls hl => ?_)
            exact L110 r277 r289 0 x403 x285 x287 H locs ls w412 (show 0 ≤ r277.toInt by first | with_reducible assumption | omega) (show r277.toInt ≤ 10 by first | with_reducible assumption | omega) (show (-1) ≤ r289.toInt by first | with_reducible assumption | omega) (show r289.toInt ≤ 11 by first | with_reducible assumption | omega) (by decide) (by decide) (show 0 ≤ x403.toInt by first | with_reducible assumption | omega) (show x403.toInt ≤ 999999 by first | with_reducible assumption | omega) (show 0 ≤ x285.toInt by first | with_reducible assumption | omega) (show x285.toInt ≤ 9 by first | with_reducible assumption | omega) (show 0 ≤ x287.toInt by first | with_reducible assumption | omega) (show x287.toInt ≤ 9 by first | with_reducible assumption | omega)  hw hT hF c418 c419 c413 c420 c416 c417 (lv_sub hl [2, 3, 4, 1, 0] rfl)
          · refine va_mmax hx hb (hC.2.2.1.trans hl.1.symm) hC.2.2.2.1 (hC.2.2.2.2 _ (List.mem_cons_of_mem _ uw_43_0)) (hC.2.2.2.2 _ (List.mem_cons_of_mem _ uw_14_15)) (hC.2.2.2.2 _ (List.mem_cons_of_mem _ uw_14_16)) (hC.2.2.2.2 _ (List.mem_cons_of_mem _ uw_14_17)) (Nat.le_of_ble_eq_true rfl) (Nat.le_of_ble_eq_true rfl) (Nat.zero_le _) (Nat.zero_le _) dX1_lookAround_96 ?_
            refine lv_topi (fun x421 ex421 => ?_)
            have bx421 : (x421.toInt = (0 : Int) ∧ (-1 : Int) ≤ (0 : Int)) ∨ (x421.toInt = (-1 : Int) ∧ (0 : Int) < (-1 : Int)) := by rw [ex421]; exact wk_max
            refine tk_puti hC hK hw hT hinX1 tyX1_ok nmX1 kC_at149 (by decide) rfl rfl 8 (by decide) (List.mem_cons_of_mem _ uw_43_1) rfl rfl rfl rfl (wk_i32 x421).1 (wk_i32 x421).2 dX1_lookAround_99 (fun H locs w422 hw hT k424 c423 => ?_)
            have hF := hF.put kC_at149 (k := 8) (by decide) k424
            have c425 := k424.gi (Or.inr (by decide)) c398
            have c426 := k424.gi (Or.inr (by decide)) c399
            have c427 := k424.gi (Or.inr (by decide)) c400
            have c428 := k424.gi (Or.inr (by decide)) c401
            have c429 := k424.gi (Or.inr (by decide)) c402
            refine lv_aload_n hx hb dX1_lookAround_102 rfl (lv_at hl 1 rfl) ?_
            refine lv_iconst (v := (-1)) hx hb dX1_lookAround_103 (by decide) ?_
            refine tk_puti hC hK hw hT hinX1 tyX1_ok nmX1 kC_at149 (by decide) rfl rfl 7 (by decide) (List.mem_cons_of_mem _ uw_42_7) rfl rfl rfl rfl (by decide) (by decide) dX1_lookAround_104 (fun H locs w430 hw hT k432 c431 => ?_)
            have hF := hF.put kC_at149 (k := 7) (by decide) k432
            have c433 := k432.gi (Or.inr (by decide)) c425
            have c434 := k432.gi (Or.inr (by decide)) c426
            have c435 := k432.gi (Or.inr (by decide)) c427
            have c436 := k432.gi (Or.inr (by decide)) c428
            have c437 := k432.gi (Or.inr (by decide)) c429
            have c438 := k432.gi (Or.inr (by decide)) c423
            refine lv_iconst (v := 0) hx hb dX1_lookAround_107 (by decide) ?_
            refine lv_istore (lv' := [(4, .int 0), (3, .int r277), (0, .ref (ad 149)), (1, .ref (ad q1_)), (2, .int 0)]) hx hb dX1_lookAround_108 hl (by decide) rfl (fun ls hl => ?_)
            exact L110 r277 r289 0 x421 x285 x287 H locs ls w430 (show 0 ≤ r277.toInt by first | with_reducible assumption | omega) (show r277.toInt ≤ 10 by first | with_reducible assumption | omega) (show (-1) ≤ r289.toInt by first | with_reducible assumption | omega) (show r289.toInt ≤ 11 by first | with_reducible assumption | omega) (by decide) (by decide) (show 0 ≤ x421.toInt by first | with_reducible assumption | omega) (show x421.toInt ≤ 999999 by first | with_reducible assumption | omega) (show 0 ≤ x285.toInt by first | with_reducible assumption | omega) (show x285.toInt ≤ 9 by first | with_reducible assumption | omega) (show 0 ≤ x287.toInt by first | with_reducible assumption | omega) (show x287.toInt ≤ 9 by first | with_reducible assumption | omega)  hw hT hF c436 c437 c431 c438 c434 c435 (lv_sub hl [2, 3, 4, 1, 0] rfl)
        · have ex373 : x373.toInt = x266.toInt := by rw [← c376.symm.trans c374]
          refine lv_if_eq (tgt := 74) hx hb dX1_lookAround_67 (by decide) (fun c => absurd c (by decide)) (fun _ => ?_)
          refine lv_iconst (v := 1) hx hb dX1_lookAround_70 (by decide) ?_
          refine lv_goto (tgt := 75) hx hb dX1_lookAround_71 (by decide) ?_
          refine tk_putz hC hK hw hT hinX1 tyX1_ok nmX1 kC_at149 (by decide) rfl rfl 6 (by decide) (List.mem_cons_of_mem _ uw_42_5) rfl rfl rfl rfl (by decide) (by decide) dX1_lookAround_75 (fun H locs w439 hw hT k441 c440 => ?_)
          have hF := hF.put kC_at149 (k := 6) (by decide) k441
          have c442 := k441.gi (Or.inr (by decide)) c376
          have c443 := k441.gi (Or.inr (by decide)) c377
          have c444 := k441.gi (Or.inr (by decide)) c378
          have c445 := k441.gi (Or.inr (by decide)) c379
          refine lv_aload_n hx hb dX1_lookAround_78 rfl (lv_at hl 1 rfl) ?_
          refine lv_iconst (v := 0) hx hb dX1_lookAround_79 (by decide) ?_
          refine lv_aload_n hx hb dX1_lookAround_80 rfl (lv_at hl 1 rfl) ?_
          refine tk_getA hC hK hw hT hinX1 kC_at149 (by decide) rfl 1 (by decide) (List.mem_cons_of_mem _ uw_5_1) rfl rfl dX1_lookAround_81 ?_
          refine lv_iload_n hx hb dX1_lookAround_84 rfl (lv_at hl 0 rfl) ?_
          refine lv_aload_n hx hb dX1_lookAround_85 rfl (lv_at hl 2 rfl) ?_
          refine tk_geti hC hK hw hT hinX9 hkq1_ (by decide) rfl 0 (by decide) (List.mem_cons_of_mem _ uw_42_22) rfl rfl dX1_lookAround_86 (fun x446 c447 rx446 tx446 => ?_)
          refine wk_top x285 (c447.symm.trans c443) ?_
          refine lv_aload_n hx hb dX1_lookAround_89 rfl (lv_at hl 2 rfl) ?_
          refine tk_geti hC hK hw hT hinX9 hkq1_ (by decide) rfl 1 (by decide) (List.mem_cons_of_mem _ uw_42_23) rfl rfl dX1_lookAround_90 (fun x448 c449 rx448 tx448 => ?_)
          refine wk_top x287 (c449.symm.trans c444) ?_
          refine tk_Vi hC hK hw hT hA hE hSR kC_at145 (by decide) rfl (k_X0_hoursBy_2 l adK adV dC dI cy ad B hB0 (Int.le_trans hB1 (by decide)) qr s1   r277 (show 4 ≤ r277.toInt by first | with_reducible assumption | omega) (show r277.toInt ≤ 10 by first | with_reducible assumption | omega) x285 (show 0 ≤ x285.toInt by first | with_reducible assumption | omega) (show x285.toInt ≤ 9 by first | with_reducible assumption | omega) x287 (show 0 ≤ x287.toInt by first | with_reducible assumption | omega) (show x287.toInt ≤ 9 by first | with_reducible assumption | omega) w439 H.size hT ) (cwV 3 hC.2.2.2.2 uV_RX1_114 rfl rfl rfl (by decide +kernel) ⟨Nat.le_of_ble_eq_true rfl, Nat.le_of_ble_eq_true rfl⟩) rfl hl.1 rfl (Nat.le_of_ble_eq_true rfl) dX1_lookAround_93 (fun r450 w452 H locs hp451 hw => ?_)
          obtain ⟨hT, k453, hg456⟩ := hp451
          have hF := hF.tr k453 (by decide)
          have c457 := k453.gi kC_at149 (by decide) c442
          have c458 := k453.gi hkq1_ (by decide) c443
          have c459 := k453.gi hkq1_ (by decide) c444
          have c460 := k453.gi kC_at149 (by decide) c445
          have c461 := k453.gi kC_at149 (by decide) c440
          rcases hg456 with ⟨g454, g455⟩ | rfl
          · refine va_mmax hx hb (hC.2.2.1.trans hl.1.symm) hC.2.2.2.1 (hC.2.2.2.2 _ (List.mem_cons_of_mem _ uw_43_0)) (hC.2.2.2.2 _ (List.mem_cons_of_mem _ uw_14_15)) (hC.2.2.2.2 _ (List.mem_cons_of_mem _ uw_14_16)) (hC.2.2.2.2 _ (List.mem_cons_of_mem _ uw_14_17)) (Nat.le_of_ble_eq_true rfl) (Nat.le_of_ble_eq_true rfl) (Nat.zero_le _) (Nat.zero_le _) dX1_lookAround_96 ?_
            refine lv_topi (fun x462 ex462 => ?_)
            have bx462 : (x462.toInt = (0 : Int) ∧ r450.toInt ≤ (0 : Int)) ∨ (x462.toInt = r450.toInt ∧ (0 : Int) < r450.toInt) := by rw [ex462]; exact wk_max
            refine tk_puti hC hK hw hT hinX1 tyX1_ok nmX1 kC_at149 (by decide) rfl rfl 8 (by decide) (List.mem_cons_of_mem _ uw_43_1) rfl rfl rfl rfl (wk_i32 x462).1 (wk_i32 x462).2 dX1_lookAround_99 (fun H locs w463 hw hT k465 c464 => ?_)
            have hF := hF.put kC_at149 (k := 8) (by decide) k465
            have c466 := k465.gi (Or.inr (by decide)) c457
            have c467 := k465.gi (Or.inr (by decide)) c458
            have c468 := k465.gi (Or.inr (by decide)) c459
            have c469 := k465.gi (Or.inr (by decide)) c460
            have c470 := k465.gi (Or.inr (by decide)) c461
            refine lv_aload_n hx hb dX1_lookAround_102 rfl (lv_at hl 1 rfl) ?_
            refine lv_iconst (v := (-1)) hx hb dX1_lookAround_103 (by decide) ?_
            refine tk_puti hC hK hw hT hinX1 tyX1_ok nmX1 kC_at149 (by decide) rfl rfl 7 (by decide) (List.mem_cons_of_mem _ uw_42_7) rfl rfl rfl rfl (by decide) (by decide) dX1_lookAround_104 (fun H locs w471 hw hT k473 c472 => ?_)
            have hF := hF.put kC_at149 (k := 7) (by decide) k473
            have c474 := k473.gi (Or.inr (by decide)) c466
            have c475 := k473.gi (Or.inr (by decide)) c467
            have c476 := k473.gi (Or.inr (by decide)) c468
            have c477 := k473.gi (Or.inr (by decide)) c469
            have c478 := k473.gi (Or.inr (by decide)) c470
            have c479 := k473.gi (Or.inr (by decide)) c464
            refine lv_iconst (v := 0) hx hb dX1_lookAround_107 (by decide) ?_
            refine lv_istore (lv' := [(4, .int 0), (3, .int r277), (0, .ref (ad 149)), (1, .ref (ad q1_)), (2, .int 0)]) hx hb dX1_lookAround_108 hl (by decide) rfl (fun ls hl => ?_)
            exact L110 r277 r289 1 x462 x285 x287 H locs ls w471 (show 0 ≤ r277.toInt by first | with_reducible assumption | omega) (show r277.toInt ≤ 10 by first | with_reducible assumption | omega) (show (-1) ≤ r289.toInt by first | with_reducible assumption | omega) (show r289.toInt ≤ 11 by first | with_reducible assumption | omega) (by decide) (by decide) (show 0 ≤ x462.toInt by first | with_reducible assumption | omega) (show x462.toInt ≤ 999999 by first | with_reducible assumption | omega) (show 0 ≤ x285.toInt by first | with_reducible assumption | omega) (show x285.toInt ≤ 9 by first | with_reducible assumption | omega) (show 0 ≤ x287.toInt by first | with_reducible assumption | omega) (show x287.toInt ≤ 9 by first | with_reducible assumption | omega)  hw hT hF c477 c478 c472 c479 c475 c476 (lv_sub hl [2, 3, 4, 1, 0] rfl)
          · refine va_mmax hx hb (hC.2.2.1.trans hl.1.symm) hC.2.2.2.1 (hC.2.2.2.2 _ (List.mem_cons_of_mem _ uw_43_0)) (hC.2.2.2.2 _ (List.mem_cons_of_mem _ uw_14_15)) (hC.2.2.2.2 _ (List.mem_cons_of_mem _ uw_14_16)) (hC.2.2.2.2 _ (List.mem_cons_of_mem _ uw_14_17)) (Nat.le_of_ble_eq_true rfl) (Nat.le_of_ble_eq_true rfl) (Nat.zero_le _) (Nat.zero_le _) dX1_lookAround_96 ?_
            refine lv_topi (fun x480 ex480 => ?_)
            have bx480 : (x480.toInt = (0 : Int) ∧ (-1 : Int) ≤ (0 : Int)) ∨ (x480.toInt = (-1 : Int) ∧ (0 : Int) < (-1 : Int)) := by rw [ex480]; exact wk_max
            refine tk_puti hC hK hw hT hinX1 tyX1_ok nmX1 kC_at149 (by decide) rfl rfl 8 (by decide) (List.mem_cons_of_mem _ uw_43_1) rfl rfl rfl rfl (wk_i32 x480).1 (wk_i32 x480).2 dX1_lookAround_99 (fun H locs w481 hw hT k483 c482 => ?_)
            have hF := hF.put kC_at149 (k := 8) (by decide) k483
            have c484 := k483.gi (Or.inr (by decide)) c457
            have c485 := k483.gi (Or.inr (by decide)) c458
            have c486 := k483.gi (Or.inr (by decide)) c459
            have c487 := k483.gi (Or.inr (by decide)) c460
            have c488 := k483.gi (Or.inr (by decide)) c461
            refine lv_aload_n hx hb dX1_lookAround_102 rfl (lv_at hl 1 rfl) ?_
            refine lv_iconst (v := (-1)) hx hb dX1_lookAround_103 (by decide) ?_
            refine tk_puti hC hK hw hT hinX1 tyX1_ok nmX1 kC_at149 (by decide) rfl rfl 7 (by decide) (List.mem_cons_of_mem _ uw_42_7) rfl rfl rfl rfl (by decide) (by decide) dX1_lookAround_104 (fun H locs w489 hw hT k491 c490 => ?_)
            have hF := hF.put kC_at149 (k := 7) (by decide) k491
            have c492 := k491.gi (Or.inr (by decide)) c484
            have c493 := k491.gi (Or.inr (by decide)) c485
            have c494 := k491.gi (Or.inr (by decide)) c486
            have c495 := k491.gi (Or.inr (by decide)) c487
            have c496 := k491.gi (Or.inr (by decide)) c488
            have c497 := k491.gi (Or.inr (by decide)) c482
            refine lv_iconst (v := 0) hx hb dX1_lookAround_107 (by decide) ?_
            refine lv_istore (lv' := [(4, .int 0), (3, .int r277), (0, .ref (ad 149)), (1, .ref (ad q1_)), (2, .int 0)]) hx hb dX1_lookAround_108 hl (by decide) rfl (fun ls hl => ?_)
            exact L110 r277 r289 1 x480 x285 x287 H locs ls w489 (show 0 ≤ r277.toInt by first | with_reducible assumption | omega) (show r277.toInt ≤ 10 by first | with_reducible assumption | omega) (show (-1) ≤ r289.toInt by first | with_reducible assumption | omega) (show r289.toInt ≤ 11 by first | with_reducible assumption | omega) (by decide) (by decide) (show 0 ≤ x480.toInt by first | with_reducible assumption | omega) (show x480.toInt ≤ 999999 by first | with_reducible assumption | omega) (show 0 ≤ x285.toInt by first | with_reducible assumption | omega) (show x285.toInt ≤ 9 by first | with_reducible assumption | omega) (show 0 ≤ x287.toInt by first | with_reducible assumption | omega) (show x287.toInt ≤ 9 by first | with_reducible assumption | omega)  hw hT hF c495 c496 c490 c497 c493 c494 (lv_sub hl [2, 3, 4, 1, 0] rfl)
