abbrev P_X7_sideOf_5 (ad : Nat → Nat) (cy : Nat → ClassId) (B : Int) (qr : Nat) (s1 : Int) (a1 : Int32) (a2 : Int32) (w0 : va_W) : Int32 → va_W → Prop := fun r u => TW ksC ad cy B qr s1 u ∧ FE ksC ([] : List (Nat × Nat × Nat)) w0 u ∧ ((r = (-1)) ∨ (r = 0 ∧ 0 ≤ a2.toInt ∧ a2.toInt ≤ 9 ∧ gi u 30 (2 * a1.toInt + 0).toNat = a2) ∨ (r = 1 ∧ 0 ≤ a2.toInt ∧ a2.toInt ≤ 9 ∧ gi u 30 (2 * a1.toInt + 1).toNat = a2))
set_option maxHeartbeats 4000000 in
set_option maxRecDepth 100000 in
theorem k_X7_sideOf_5 (l : Launch) (adK adV : Nat → Nat) (dC : Nat → ClassId) (dI : Nat → Nat → Nat) (cy : Nat → ClassId) (ad : Nat → Nat) (B : Int) (hB0 : 2147483648 ≤ B) (hB1 : B ≤ 1152921504606846976) (qr : Nat) (s1 : Int)  (a1 : Int32) (ra1 : 0 ≤ a1.toInt) (ta1 : a1.toInt ≤ 11) (a2 : Int32) (w0 : va_W) (sz : Nat) (hT : TW ksC ad cy B qr s1 w0)  : Met l yX7_sideOf wsX7_sideOf ({ frames := 1, cells := 0, slots := 0, locals := 12 }) (va_Pc [.ref (ad 29), .int a1, .int a2] (wpreS adK adV dC dI cy sz w0)) (va_Qi (P_X7_sideOf_5 ad cy B qr s1 a1 a2 w0) (fun u : va_W => wpost dC dI cy (va_A w0 sz) u) (va_A w0 sz)) 0 0 (va_A w0 sz) := by
  refine Met.ofW (cc := cX7_sideOf) (maxL := 3) (ret := (some .int)) (by decide) rfl ?_
  intro p e s m args below meth c s₁ Bk hml hv
  obtain ⟨rfl, ⟨hsz, hP, hK, hD0⟩, hE, hSR⟩ := hv
  have hx := Bk.exec
  have hb := Bk.bytes
  have hr := Bk.returns
  have hlocks := Bk.notSynchronized
  have hC : CallFix p m c cX7_sideOf 3 s _ wsX7_sideOf RX7 := ⟨hx, hb, hml, findClass_of_methodNamed Bk.named, atoms_spec (ws := wsX7_sideOf) Bk.pre⟩
  subst hsz
  have hD := hD0.self (sz := s.heap.size)
  generalize hAe : va_A w0 s.heap.size = A at hD hE ⊢
  have hA : ∀ q : Nat, s.heap.size ≤ q → A q := fun q h => by rw [← hAe]; exact Or.inr h
  have hw : Wd dC dI A s.heap s.heap [] w0 := ⟨hP, hD, va_S.rf⟩
  have hF : FE ksC ([] : List (Nat × Nat × Nat)) w0 w0 := FE.rf
  have hl := lv_entry ([.ref (ad 29), .int a1, .int a2]) (n := 3) (Nat.le_of_ble_eq_true rfl)
  rw [lg_entry_eq]
  generalize (lg_sl ([.ref (ad 29), .int a1, .int a2]) ++ List.replicate (3 - (lg_sl ([.ref (ad 29), .int a1, .int a2])).length) Slot.unset).toArray = ls at hl ⊢
  have hl : lv_has ls 3 [(0, .ref (ad 29)), (1, .int a1), (2, .int a2)] := hl
  generalize hloc : ([] : List Loc) = locs at hw ⊢
  have hinX7 : ∀ w ∈ u_ws RX7 TX7 12, w ∈ wsX7_sideOf := fun _ h => List.mem_cons_of_mem _ (List.mem_append_right _ (h))
  refine lv_aload_n hx hb dX7_sideOf_0 rfl (lv_at hl 0 rfl) ?_
  refine tk_getO hC hK hw hT hinX7 kC_at29 (by decide) rfl 0 (by decide) (List.mem_of_getElem? (i := 1) rfl) rfl rfl dX7_sideOf_1 ?_
  refine lv_iconst (v := 2) hx hb dX7_sideOf_4 (by decide) ?_
  refine lv_iload_n hx hb dX7_sideOf_5 rfl (lv_at hl 1 rfl) ?_
  refine lv_imul hx hb dX7_sideOf_6 ?_
  refine lv_topi (fun x1 ex1 => ?_)
  have ex1 : x1.toInt = (2 : Int) * a1.toInt := by rw [ex1]; exact wk_mul (show (-2147483648) ≤ (2 : Int) * a1.toInt by omega) (show (2 : Int) * a1.toInt ≤ 2147483647 by omega)
  refine tk_iald hC hK hw hT kC_at30 rfl rfl (show 0 ≤ x1.toInt by omega) (show x1.toInt < 26 by omega) dX7_sideOf_7 (fun x2 c3 rx2 tx2 => ?_)
  have c3 : gi w0 30 (2 * a1.toInt + 0).toNat = x2 := (congrArg (gi w0 30) (congrArg Int.toNat (show 2 * a1.toInt + 0 = x1.toInt by omega))).trans c3
  refine lv_iload_n hx hb dX7_sideOf_8 rfl (lv_at hl 2 rfl) ?_
  refine lv_icmp_ne (tgt := 14) hx hb dX7_sideOf_9 (by decide) (fun c4 => ?_) (fun c4 => ?_)
  · have c4 : ¬ x2.toInt = a2.toInt := wk_eqF c4
    refine lv_aload_n hx hb dX7_sideOf_14 rfl (lv_at hl 0 rfl) ?_
    refine tk_getO hC hK hw hT hinX7 kC_at29 (by decide) rfl 0 (by decide) (List.mem_of_getElem? (i := 1) rfl) rfl rfl dX7_sideOf_15 ?_
    refine lv_iconst (v := 2) hx hb dX7_sideOf_18 (by decide) ?_
    refine lv_iload_n hx hb dX7_sideOf_19 rfl (lv_at hl 1 rfl) ?_
    refine lv_imul hx hb dX7_sideOf_20 ?_
    refine lv_topi (fun x5 ex5 => ?_)
    have ex5 : x5.toInt = (2 : Int) * a1.toInt := by rw [ex5]; exact wk_mul (show (-2147483648) ≤ (2 : Int) * a1.toInt by omega) (show (2 : Int) * a1.toInt ≤ 2147483647 by omega)
    refine lv_iconst (v := 1) hx hb dX7_sideOf_21 (by decide) ?_
    refine lv_iadd hx hb dX7_sideOf_22 ?_
    refine lv_topi (fun x6 ex6 => ?_)
    have ex6 : x6.toInt = x5.toInt + (1 : Int) := by rw [ex6]; exact wk_add (show (-2147483648) ≤ x5.toInt + (1 : Int) by omega) (show x5.toInt + (1 : Int) ≤ 2147483647 by omega)
    refine tk_iald hC hK hw hT kC_at30 rfl rfl (show 0 ≤ x6.toInt by omega) (show x6.toInt < 26 by omega) dX7_sideOf_23 (fun x7 c8 rx7 tx7 => ?_)
    have c8 : gi w0 30 (2 * a1.toInt + 1).toNat = x7 := (congrArg (gi w0 30) (congrArg Int.toNat (show 2 * a1.toInt + 1 = x6.toInt by omega))).trans c8
    refine lv_iload_n hx hb dX7_sideOf_24 rfl (lv_at hl 2 rfl) ?_
    refine lv_icmp_ne (tgt := 32) hx hb dX7_sideOf_25 (by decide) (fun c9 => ?_) (fun c9 => ?_)
    · have c9 : ¬ x7.toInt = a2.toInt := wk_eqF c9
      refine lv_iconst (v := (-1)) hx hb dX7_sideOf_32 (by decide) ?_
      exact tk_iret hC hr hlocks hK ⟨hT, hF, (Or.inl rfl)⟩ hw dX7_sideOf_33
    · have c9 : x7.toInt = a2.toInt := wk_eq.mp c9
      refine lv_iconst (v := 1) hx hb dX7_sideOf_28 (by decide) ?_
      refine lv_goto (tgt := 33) hx hb dX7_sideOf_29 (by decide) ?_
      exact tk_iret hC hr hlocks hK ⟨hT, hF, (Or.inr (Or.inr ⟨rfl, (show 0 ≤ a2.toInt by omega), (show a2.toInt ≤ 9 by omega), (c8.trans (wk_eq.mpr (show x7.toInt = a2.toInt by omega)))⟩))⟩ hw dX7_sideOf_33
  · have c4 : x2.toInt = a2.toInt := wk_eq.mp c4
    refine lv_iconst (v := 0) hx hb dX7_sideOf_12 (by decide) ?_
    exact tk_iret hC hr hlocks hK ⟨hT, hF, (Or.inr (Or.inl ⟨rfl, (show 0 ≤ a2.toInt by omega), (show a2.toInt ≤ 9 by omega), (c3.trans (wk_eq.mpr (show x2.toInt = a2.toInt by omega)))⟩))⟩ hw dX7_sideOf_13
abbrev P_X7_findSaints_2 (ad : Nat → Nat) (cy : Nat → ClassId) (B : Int) (qr : Nat) (s1 : Int) (a1 : Int32) (w0 : va_W) : va_W → Prop := fun u => TW ksC ad cy B qr s1 u ∧ FE ksC [(31, 0, 13)] w0 u ∧ (((∃ y : Int32, gi u 29 10 = y ∧ 0 ≤ y.toInt ∧ y.toInt ≤ 8)))
set_option maxHeartbeats 4000000 in
set_option maxRecDepth 100000 in
theorem k_X7_findSaints_2 (l : Launch) (adK adV : Nat → Nat) (dC : Nat → ClassId) (dI : Nat → Nat → Nat) (cy : Nat → ClassId) (ad : Nat → Nat) (B : Int) (hB0 : 2147483648 ≤ B) (hB1 : B ≤ 1152921504606846976) (qr : Nat) (s1 : Int)  (a1 : Int32) (ra1 : 0 ≤ a1.toInt) (ta1 : a1.toInt ≤ 11) (w0 : va_W) (sz : Nat) (hT : TW ksC ad cy B qr s1 w0)  : Met l yX7_findSaints wsX7_findSaints ({ frames := 2, cells := 0, slots := 0, locals := 34 }) (va_Pc [.ref (ad 29), .int a1] (wpreS adK adV dC dI cy sz w0)) (va_Qv (P_X7_findSaints_2 ad cy B qr s1 a1 w0) (fun u : va_W => wpost dC dI cy (va_A w0 sz) u) (va_A w0 sz)) 0 0 (va_A w0 sz) := by
  refine Met.ofW (cc := cX7_findSaints) (maxL := 3) (ret := none) (by decide) rfl ?_
  intro p e s m args below meth c s₁ Bk hml hv
  obtain ⟨rfl, ⟨hsz, hP, hK, hD0⟩, hE, hSR⟩ := hv
  have hx := Bk.exec
  have hb := Bk.bytes
  have hr := Bk.returns
  have hlocks := Bk.notSynchronized
  have hC : CallFix p m c cX7_findSaints 3 s _ wsX7_findSaints RX7 := ⟨hx, hb, hml, findClass_of_methodNamed Bk.named, atoms_spec (ws := wsX7_findSaints) Bk.pre⟩
  subst hsz
  have hD := hD0.self (sz := s.heap.size)
  generalize hAe : va_A w0 s.heap.size = A at hD hE ⊢
  have hA : ∀ q : Nat, s.heap.size ≤ q → A q := fun q h => by rw [← hAe]; exact Or.inr h
  have hw : Wd dC dI A s.heap s.heap [] w0 := ⟨hP, hD, va_S.rf⟩
  have hF : FE ksC [(31, 0, 13)] w0 w0 := FE.rf
  have hl := lv_entry ([.ref (ad 29), .int a1]) (n := 3) (Nat.le_of_ble_eq_true rfl)
  rw [lg_entry_eq]
  generalize (lg_sl ([.ref (ad 29), .int a1]) ++ List.replicate (3 - (lg_sl ([.ref (ad 29), .int a1])).length) Slot.unset).toArray = ls at hl ⊢
  have hl : lv_has ls 3 [(0, .ref (ad 29)), (1, .int a1)] := hl
  generalize hloc : ([] : List Loc) = locs at hw ⊢
  have hinX7 : ∀ w ∈ u_ws RX7 TX7 12, w ∈ wsX7_findSaints := fun _ h => List.mem_cons_of_mem _ (List.mem_append_right _ (h))
  have L9 : ∀ (n9 : Nat) (v9_2 : Int32) (H : Heap) (locs : List Loc) (ls : Array Slot) (w1 : va_W), 0 ≤ a1.toInt → a1.toInt ≤ 11 → 0 ≤ v9_2.toInt → v9_2.toInt ≤ 8 → (8 - v9_2.toInt).toNat < n9 → Wd dC dI A s.heap H locs w1 → TW ksC ad cy B qr s1 w1 → FE ksC [(31, 0, 13)] w0 w1 → lv_has ls 3 [(0, .ref (ad 29)), (1, .int a1), (2, .int v9_2)] → W p l e ({ frames := 2, cells := 0, slots := 0, locals := 34 }) s m (List.toArray [.ref (ad 29), .int a1]) below meth c H locs 0 0 (MQ below (va_Qv (P_X7_findSaints_2 ad cy B qr s1 a1 w0) (fun u : va_W => wpost dC dI cy A u) A) (List.toArray [.ref (ad 29), .int a1]) s 0 0 A) (F0 m 9 ls []) := by
    intro n9
    induction n9 with
    | zero => intro v9_2 H locs ls w1 r2 t3 r4 t5 hm9 hw hT hF hl; omega
    | succ n9 ih9 =>
      intro v9_2 H locs ls w1 r2 t3 r4 t5 hm9 hw hT hF hl
      have J44 : ∀ (f44_29_10 : Int32) (H : Heap) (locs : List Loc) (ls : Array Slot) (w6 : va_W), 0 ≤ a1.toInt → a1.toInt ≤ 11 → 0 ≤ v9_2.toInt → v9_2.toInt ≤ 7 → 1 ≤ f44_29_10.toInt → f44_29_10.toInt ≤ 8 → Wd dC dI A s.heap H locs w6 → TW ksC ad cy B qr s1 w6 → FE ksC [(31, 0, 13)] w0 w6 → gi w6 29 10 = f44_29_10 → lv_has ls 3 [(0, .ref (ad 29)), (1, .int a1), (2, .int v9_2)] → W p l e ({ frames := 2, cells := 0, slots := 0, locals := 34 }) s m (List.toArray [.ref (ad 29), .int a1]) below meth c H locs 0 0 (MQ below (va_Qv (P_X7_findSaints_2 ad cy B qr s1 a1 w0) (fun u : va_W => wpost dC dI cy A u) A) (List.toArray [.ref (ad 29), .int a1]) s 0 0 A) (F0 m 44 ls []) := by
        intro f44_29_10 H locs ls w6 r7 t8 r9 t10 r11 t12 hw hT hF c13 hl
        obtain ⟨x14, ex14⟩ : ∃ y : Int32, y = v9_2 + Int32.ofInt 1 := ⟨_, rfl⟩
        refine lv_iinc (v := x14) (lv' := [(2, .int x14), (0, .ref (ad 29)), (1, .int a1)]) hx hb dX7_findSaints_44 hl (k := 2) rfl ex14.symm (by decide) rfl (fun ls hl => ?_)
        have ex14 : x14.toInt = v9_2.toInt + 1 := by rw [ex14]; exact wk_add (y := 1) (show -2147483648 ≤ v9_2.toInt + 1 by omega) (show v9_2.toInt + 1 ≤ 2147483647 by omega)
        refine lv_goto (tgt := 9) hx hb dX7_findSaints_47 (by decide) ?_
        exact ih9 x14 H locs ls w6 (show 0 ≤ a1.toInt by omega) (show a1.toInt ≤ 11 by omega) (show 0 ≤ x14.toInt by omega) (show x14.toInt ≤ 8 by omega) (show (8 - x14.toInt).toNat < n9 by omega) hw hT hF  (lv_sub hl [1, 2, 0] rfl)
      refine lv_iload_n hx hb dX7_findSaints_9 rfl (lv_at hl 2 rfl) ?_
      refine lv_aload_n hx hb dX7_findSaints_10 rfl (lv_at hl 0 rfl) ?_
      refine tk_geti hC hK hw hT hinX7 kC_at29 (by decide) rfl 10 (by decide) (List.mem_of_getElem? (i := 2) rfl) rfl rfl dX7_findSaints_11 (fun x15 c16 rx15 tx15 => ?_)
      refine lv_icmp_ge (tgt := 50) hx hb dX7_findSaints_14 (by decide) (fun c17 => ?_) (fun c17 => ?_)
      · have c17 : x15.toInt ≤ v9_2.toInt := wk_le.mp c17
        exact tk_vret hC hr hlocks hK ⟨hT, hF, ⟨x15, c16, (show 0 ≤ x15.toInt by omega), (show x15.toInt ≤ 8 by omega)⟩⟩ hw dX7_findSaints_50
      · have c17 : v9_2.toInt < x15.toInt := wk_leF c17
        refine lv_aload_n hx hb dX7_findSaints_17 rfl (lv_at hl 0 rfl) ?_
        refine lv_iload_n hx hb dX7_findSaints_18 rfl (lv_at hl 1 rfl) ?_
        refine lv_aload_n hx hb dX7_findSaints_19 rfl (lv_at hl 0 rfl) ?_
        refine tk_getO hC hK hw hT hinX7 kC_at29 (by decide) rfl 5 (by decide) (List.mem_of_getElem? (i := 3) rfl) rfl rfl dX7_findSaints_20 ?_
        refine lv_iload_n hx hb dX7_findSaints_23 rfl (lv_at hl 2 rfl) ?_
        refine tk_iald hC hK hw hT kC_at35 rfl rfl (show 0 ≤ v9_2.toInt by omega) (show v9_2.toInt < 8 by omega) dX7_findSaints_24 (fun x18 c19 rx18 tx18 => ?_)
        refine tk_Vi hC hK hw hT hA hE hSR kC_at29 (by decide) rfl (k_X7_sideOf_5 l adK adV dC dI cy ad B (by omega) (by omega) qr s1   a1 (show 0 ≤ a1.toInt by omega) (show a1.toInt ≤ 11 by omega) x18 w1 H.size hT ) (cwV 2 hC.2.2.2.2 gX7_findSaints_X7_sideOf rfl rfl rfl (by decide +kernel) ⟨Nat.le_of_ble_eq_true rfl, Nat.le_of_ble_eq_true rfl⟩) rfl hl.1 rfl (Nat.le_of_ble_eq_true rfl) dX7_findSaints_25 (fun r20 w22 H locs hp21 hw => ?_)
        obtain ⟨hT, k23, hg30⟩ := hp21
        have hF := hF.tr k23 (by decide)
        have c31 := k23.gi kC_at29 (by decide) c16
        rcases hg30 with rfl | ⟨rfl, g24, g25, c26⟩ | ⟨rfl, g27, g28, c29⟩
        · refine lv_iconst (v := (-1)) hx hb dX7_findSaints_28 (by decide) ?_
          refine lv_icmp_eq (tgt := 44) hx hb dX7_findSaints_29 (by decide) (fun _ => ?_) (fun c => absurd (by decide) c)
          exact J44 x15 H locs ls w22 (show 0 ≤ a1.toInt by omega) (show a1.toInt ≤ 11 by omega) (show 0 ≤ v9_2.toInt by omega) (show v9_2.toInt ≤ 7 by omega) (show 1 ≤ x15.toInt by omega) (show x15.toInt ≤ 8 by omega)  hw hT hF c31 (lv_sub hl [0, 1, 2] rfl)
        · refine lv_iconst (v := (-1)) hx hb dX7_findSaints_28 (by decide) ?_
          refine lv_icmp_eq (tgt := 44) hx hb dX7_findSaints_29 (by decide) (fun c => absurd c (by decide)) (fun _ => ?_)
          refine lv_aload_n hx hb dX7_findSaints_32 rfl (lv_at hl 0 rfl) ?_
          refine tk_getO hC hK hw hT hinX7 kC_at29 (by decide) rfl 7 (by decide) (List.mem_of_getElem? (i := 1) rfl) rfl rfl dX7_findSaints_33 ?_
          refine lv_iload_n hx hb dX7_findSaints_36 rfl (lv_at hl 1 rfl) ?_
          refine lv_dup2_11 hx hb dX7_findSaints_37 rfl rfl ?_
          refine tk_iald hC hK hw hT kC_at37 rfl rfl (show 0 ≤ a1.toInt by omega) (show a1.toInt < 13 by omega) dX7_findSaints_38 (fun x32 c33 rx32 tx32 => ?_)
          refine lv_iconst (v := 1) hx hb dX7_findSaints_39 (by decide) ?_
          refine lv_iload_n hx hb dX7_findSaints_40 rfl (lv_at hl 2 rfl) ?_
          refine lv_ishl hx hb dX7_findSaints_41 ?_
          refine lv_topi (fun x34 ex34 => ?_)
          have bx34 : 1 ≤ x34.toInt ∧ x34.toInt ≤ 128 := by rw [ex34]; exact wk_shl1 7 (by decide) (by omega) (by omega)
          refine lv_ior hx hb dX7_findSaints_42 ?_
          refine lv_topi (fun x35 ex35 => ?_)
          refine tk_iast hC hK hw hT kC_at37 (by decide) rfl rfl (show 0 ≤ a1.toInt by omega) (show a1.toInt < 13 by omega) (wk_i32 x35).1 (wk_i32 x35).2 dX7_findSaints_43 (fun H locs w36 hw hT k38 c37 => ?_)
          have hF := hF.put kC_at37 (inE_of (a := 0) (b := 13) (by decide) (show 0 ≤ a1.toInt.toNat by omega) (show a1.toInt.toNat ≤ 13 by omega)) k38
          have c39 := k38.gi (Or.inl (tk_ne kC_at29 kC_at37 (by decide))) c31
          have c40 := k38.gi (Or.inl (tk_ne kC_at30 kC_at37 (by decide))) c26
          exact J44 x15 H locs ls w36 (show 0 ≤ a1.toInt by omega) (show a1.toInt ≤ 11 by omega) (show 0 ≤ v9_2.toInt by omega) (show v9_2.toInt ≤ 7 by omega) (show 1 ≤ x15.toInt by omega) (show x15.toInt ≤ 8 by omega)  hw hT hF c39 (lv_sub hl [0, 1, 2] rfl)
        · refine lv_iconst (v := (-1)) hx hb dX7_findSaints_28 (by decide) ?_
          refine lv_icmp_eq (tgt := 44) hx hb dX7_findSaints_29 (by decide) (fun c => absurd c (by decide)) (fun _ => ?_)
          refine lv_aload_n hx hb dX7_findSaints_32 rfl (lv_at hl 0 rfl) ?_
          refine tk_getO hC hK hw hT hinX7 kC_at29 (by decide) rfl 7 (by decide) (List.mem_of_getElem? (i := 1) rfl) rfl rfl dX7_findSaints_33 ?_
          refine lv_iload_n hx hb dX7_findSaints_36 rfl (lv_at hl 1 rfl) ?_
          refine lv_dup2_11 hx hb dX7_findSaints_37 rfl rfl ?_
          refine tk_iald hC hK hw hT kC_at37 rfl rfl (show 0 ≤ a1.toInt by omega) (show a1.toInt < 13 by omega) dX7_findSaints_38 (fun x41 c42 rx41 tx41 => ?_)
          refine lv_iconst (v := 1) hx hb dX7_findSaints_39 (by decide) ?_
          refine lv_iload_n hx hb dX7_findSaints_40 rfl (lv_at hl 2 rfl) ?_
          refine lv_ishl hx hb dX7_findSaints_41 ?_
          refine lv_topi (fun x43 ex43 => ?_)
          have bx43 : 1 ≤ x43.toInt ∧ x43.toInt ≤ 128 := by rw [ex43]; exact wk_shl1 7 (by decide) (by omega) (by omega)
          refine lv_ior hx hb dX7_findSaints_42 ?_
          refine lv_topi (fun x44 ex44 => ?_)
          refine tk_iast hC hK hw hT kC_at37 (by decide) rfl rfl (show 0 ≤ a1.toInt by omega) (show a1.toInt < 13 by omega) (wk_i32 x44).1 (wk_i32 x44).2 dX7_findSaints_43 (fun H locs w45 hw hT k47 c46 => ?_)
          have hF := hF.put kC_at37 (inE_of (a := 0) (b := 13) (by decide) (show 0 ≤ a1.toInt.toNat by omega) (show a1.toInt.toNat ≤ 13 by omega)) k47
          have c48 := k47.gi (Or.inl (tk_ne kC_at29 kC_at37 (by decide))) c31
          have c49 := k47.gi (Or.inl (tk_ne kC_at30 kC_at37 (by decide))) c29
          exact J44 x15 H locs ls w45 (show 0 ≤ a1.toInt by omega) (show a1.toInt ≤ 11 by omega) (show 0 ≤ v9_2.toInt by omega) (show v9_2.toInt ≤ 7 by omega) (show 1 ≤ x15.toInt by omega) (show x15.toInt ≤ 8 by omega)  hw hT hF c48 (lv_sub hl [0, 1, 2] rfl)
  refine lv_aload_n hx hb dX7_findSaints_0 rfl (lv_at hl 0 rfl) ?_
  refine tk_getO hC hK hw hT hinX7 kC_at29 (by decide) rfl 7 (by decide) (List.mem_of_getElem? (i := 1) rfl) rfl rfl dX7_findSaints_1 ?_
  refine lv_iload_n hx hb dX7_findSaints_4 rfl (lv_at hl 1 rfl) ?_
  refine lv_iconst (v := 0) hx hb dX7_findSaints_5 (by decide) ?_
  refine tk_iast hC hK hw hT kC_at37 (by decide) rfl rfl (show 0 ≤ a1.toInt by omega) (show a1.toInt < 13 by omega) (by decide) (by decide) dX7_findSaints_6 (fun H locs w50 hw hT k52 c51 => ?_)
  have hF := hF.put kC_at37 (inE_of (a := 0) (b := 13) (by decide) (show 0 ≤ a1.toInt.toNat by omega) (show a1.toInt.toNat ≤ 13 by omega)) k52
  refine lv_iconst (v := 0) hx hb dX7_findSaints_7 (by decide) ?_
  refine lv_istore_n (lv' := [(2, .int 0), (0, .ref (ad 29)), (1, .int a1)]) hx hb dX7_findSaints_8 rfl hl (by decide) rfl (fun ls hl => ?_)
  exact L9 ((8 - (0 : Int)).toNat + 1) 0 H locs ls w50 (show 0 ≤ a1.toInt by omega) (show a1.toInt ≤ 11 by omega) (by decide) (by decide) (Nat.lt_succ_self _) hw hT hF  (lv_sub hl [1, 2, 0] rfl)
abbrev P_X6_readWord_3 (ad : Nat → Nat) (cy : Nat → ClassId) (B : Int) (qr : Nat) (s1 : Int)  (w0 : va_W) : Int32 → va_W → Prop := fun r u => TW ksC ad cy B qr s1 u ∧ FE ksC [(6, 1, 1), (6, 3, 3), (6, 4, 4)] w0 u ∧ ((0 ≤ r.toInt ∧ r.toInt ≤ 26) ∨ (r = (-1) ∧ (∃ y : Int32, gi u 1 4 = y ∧ 1 ≤ y.toInt ∧ y.toInt ≤ 3205)))
set_option maxHeartbeats 4000000 in
set_option maxRecDepth 100000 in
theorem k_X6_readWord_3 (l : Launch) (adK adV : Nat → Nat) (dC : Nat → ClassId) (dI : Nat → Nat → Nat) (cy : Nat → ClassId) (ad : Nat → Nat) (B : Int) (hB0 : 2147483648 ≤ B) (hB1 : B ≤ 1152921504606846976) (qr : Nat) (s1 : Int)   (w0 : va_W) (sz : Nat) (hT : TW ksC ad cy B qr s1 w0)  : Met l yX6_readWord wsX6_readWord ({ frames := 5, cells := 0, slots := 0, locals := 141 }) (va_Pc [.ref (ad 1), .ref (adK 0)] (wpreS adK adV dC dI cy sz w0)) (va_Qi (P_X6_readWord_3 ad cy B qr s1  w0) (fun u : va_W => wpost dC dI cy (va_A w0 sz) u) (va_A w0 sz)) 0 0 (va_A w0 sz) := by
  refine Met.ofW (cc := cX6_readWord) (maxL := 8) (ret := (some .int)) (by decide) rfl ?_
  intro p e s m args below meth c s₁ Bk hml hv
  obtain ⟨rfl, ⟨hsz, hP, hK, hD0⟩, hE, hSR⟩ := hv
  have hx := Bk.exec
  have hb := Bk.bytes
  have hr := Bk.returns
  have hlocks := Bk.notSynchronized
  have hC : CallFix p m c cX6_readWord 8 s _ wsX6_readWord RX6 := ⟨hx, hb, hml, findClass_of_methodNamed Bk.named, atoms_spec (ws := wsX6_readWord) Bk.pre⟩
  subst hsz
  have hD := hD0.self (sz := s.heap.size)
  generalize hAe : va_A w0 s.heap.size = A at hD hE ⊢
  have hA : ∀ q : Nat, s.heap.size ≤ q → A q := fun q h => by rw [← hAe]; exact Or.inr h
  have hw : Wd dC dI A s.heap s.heap [] w0 := ⟨hP, hD, va_S.rf⟩
  have hF : FE ksC [(6, 1, 1), (6, 3, 3), (6, 4, 4)] w0 w0 := FE.rf
  have hl := lv_entry ([.ref (ad 1), .ref (adK 0)]) (n := 8) (Nat.le_of_ble_eq_true rfl)
  rw [lg_entry_eq]
  generalize (lg_sl ([.ref (ad 1), .ref (adK 0)]) ++ List.replicate (8 - (lg_sl ([.ref (ad 1), .ref (adK 0)])).length) Slot.unset).toArray = ls at hl ⊢
  have hl : lv_has ls 8 [(0, .ref (ad 1)), (1, .ref (adK 0))] := hl
  generalize hloc : ([] : List Loc) = locs at hw ⊢
  have hinX6 : ∀ w ∈ u_ws RX6 TX6 5, w ∈ wsX6_readWord := fun _ h => List.mem_cons_of_mem _ (List.mem_append_right _ (h))
  have L24 : ∀ (n24 : Nat) (v24_2 : Int32) (v24_3 : Int32) (v24_4 : Int32) (v24_5 : Int32) (v24_6 : Int32) (f24_1_1 : Int32) (H : Heap) (locs : List Loc) (ls : Array Slot) (w1 : va_W), 0 ≤ v24_2.toInt → v24_2.toInt ≤ 400 → 0 ≤ v24_3.toInt → v24_3.toInt ≤ 26 → 0 ≤ v24_4.toInt → v24_4.toInt ≤ 426 → 0 ≤ v24_5.toInt → v24_5.toInt ≤ 1 → 0 ≤ v24_6.toInt → v24_6.toInt ≤ 26 → 0 ≤ f24_1_1.toInt → f24_1_1.toInt ≤ 400 → v24_4.toInt ≤ v24_6.toInt + 400 → v24_3.toInt ≤ v24_6.toInt + 0 → (26 - v24_6.toInt).toNat < n24 → Wd dC dI A s.heap H locs w1 → TW ksC ad cy B qr s1 w1 → FE ksC [(6, 1, 1), (6, 3, 3), (6, 4, 4)] w0 w1 → gi w1 1 1 = f24_1_1 → lv_has ls 8 [(0, .ref (ad 1)), (1, .ref (adK 0)), (2, .int v24_2), (3, .int v24_3), (4, .int v24_4), (5, .int v24_5), (6, .int v24_6)] → W p l e ({ frames := 5, cells := 0, slots := 0, locals := 141 }) s m (List.toArray [.ref (ad 1), .ref (adK 0)]) below meth c H locs 0 0 (MQ below (va_Qi (P_X6_readWord_3 ad cy B qr s1  w0) (fun u : va_W => wpost dC dI cy A u) A) (List.toArray [.ref (ad 1), .ref (adK 0)]) s 0 0 A) (F0 m 24 ls []) := by
    intro n24
    induction n24 with
    | zero => intro v24_2 v24_3 v24_4 v24_5 v24_6 f24_1_1 H locs ls w1 r2 t3 r4 t5 r6 t7 r8 t9 r10 t11 r12 t13 i15 i16 hm24 hw hT hF c14 hl; omega
    | succ n24 ih24 =>
      intro v24_2 v24_3 v24_4 v24_5 v24_6 f24_1_1 H locs ls w1 r2 t3 r4 t5 r6 t7 r8 t9 r10 t11 r12 t13 i15 i16 hm24 hw hT hF c14 hl
      have J114 : ∀ (v114_3 : Int32) (v114_4 : Int32) (v114_5 : Int32) (v114_7 : Int32) (H : Heap) (locs : List Loc) (ls : Array Slot) (w17 : va_W), 0 ≤ v24_2.toInt → v24_2.toInt ≤ 400 → 0 ≤ v114_3.toInt → v114_3.toInt ≤ 26 → 0 ≤ v114_4.toInt → v114_4.toInt ≤ 426 → 0 ≤ v114_5.toInt → v114_5.toInt ≤ 1 → 0 ≤ v24_6.toInt → v24_6.toInt ≤ 25 → 0 ≤ f24_1_1.toInt → f24_1_1.toInt ≤ 400 → v114_4.toInt ≤ v24_6.toInt + 401 → v114_3.toInt ≤ v24_6.toInt + 1 → Wd dC dI A s.heap H locs w17 → TW ksC ad cy B qr s1 w17 → FE ksC [(6, 1, 1), (6, 3, 3), (6, 4, 4)] w0 w17 → gi w17 1 1 = f24_1_1 → lv_has ls 8 [(0, .ref (ad 1)), (1, .ref (adK 0)), (2, .int v24_2), (3, .int v114_3), (4, .int v114_4), (5, .int v114_5), (6, .int v24_6), (7, .int v114_7)] → W p l e ({ frames := 5, cells := 0, slots := 0, locals := 141 }) s m (List.toArray [.ref (ad 1), .ref (adK 0)]) below meth c H locs 0 0 (MQ below (va_Qi (P_X6_readWord_3 ad cy B qr s1  w0) (fun u : va_W => wpost dC dI cy A u) A) (List.toArray [.ref (ad 1), .ref (adK 0)]) s 0 0 A) (F0 m 114 ls []) := by
        intro v114_3 v114_4 v114_5 v114_7 H locs ls w17 r18 t19 r20 t21 r22 t23 r24 t25 r26 t27 r28 t29 i31 i32 hw hT hF c30 hl
        obtain ⟨x33, ex33⟩ : ∃ y : Int32, y = v24_6 + Int32.ofInt 1 := ⟨_, rfl⟩
        refine lv_iinc (v := x33) (lv' := [(6, .int x33), (0, .ref (ad 1)), (1, .ref (adK 0)), (2, .int v24_2), (3, .int v114_3), (4, .int v114_4), (5, .int v114_5), (7, .int v114_7)]) hx hb dX6_readWord_114 hl (k := 6) rfl ex33.symm (by decide) rfl (fun ls hl => ?_)
        have ex33 : x33.toInt = v24_6.toInt + 1 := by rw [ex33]; exact wk_add (y := 1) (show -2147483648 ≤ v24_6.toInt + 1 by omega) (show v24_6.toInt + 1 ≤ 2147483647 by omega)
        refine lv_goto (tgt := 24) hx hb dX6_readWord_117 (by decide) ?_
        exact ih24 v24_2 v114_3 v114_4 v114_5 x33 f24_1_1 H locs ls w17 (show 0 ≤ v24_2.toInt by omega) (show v24_2.toInt ≤ 400 by omega) (show 0 ≤ v114_3.toInt by omega) (show v114_3.toInt ≤ 26 by omega) (show 0 ≤ v114_4.toInt by omega) (show v114_4.toInt ≤ 426 by omega) (show 0 ≤ v114_5.toInt by omega) (show v114_5.toInt ≤ 1 by omega) (show 0 ≤ x33.toInt by omega) (show x33.toInt ≤ 26 by omega) (show 0 ≤ f24_1_1.toInt by omega) (show f24_1_1.toInt ≤ 400 by omega) (show v114_4.toInt ≤ x33.toInt + 400 by omega) (show v114_3.toInt ≤ x33.toInt + 0 by omega) (show (26 - x33.toInt).toNat < n24 by omega) hw hT hF c30 (lv_sub hl [1, 2, 3, 4, 5, 6, 0] rfl)
      have J75 : ∀ (v75_7 : Int32) (H : Heap) (locs : List Loc) (ls : Array Slot) (w34 : va_W), 0 ≤ v24_2.toInt → v24_2.toInt ≤ 400 → 0 ≤ v24_3.toInt → v24_3.toInt ≤ 26 → 0 ≤ v24_4.toInt → v24_4.toInt ≤ 426 → 0 ≤ v24_5.toInt → v24_5.toInt ≤ 1 → 0 ≤ v24_6.toInt → v24_6.toInt ≤ 25 → 0 ≤ f24_1_1.toInt → f24_1_1.toInt ≤ 400 → v24_4.toInt ≤ v24_6.toInt + 401 → v24_3.toInt ≤ v24_6.toInt + 1 → Wd dC dI A s.heap H locs w34 → TW ksC ad cy B qr s1 w34 → FE ksC [(6, 1, 1), (6, 3, 3), (6, 4, 4)] w0 w34 → gi w34 1 1 = f24_1_1 → lv_has ls 8 [(0, .ref (ad 1)), (1, .ref (adK 0)), (2, .int v24_2), (3, .int v24_3), (4, .int v24_4), (5, .int v24_5), (6, .int v24_6), (7, .int v75_7)] → W p l e ({ frames := 5, cells := 0, slots := 0, locals := 141 }) s m (List.toArray [.ref (ad 1), .ref (adK 0)]) below meth c H locs 0 0 (MQ below (va_Qi (P_X6_readWord_3 ad cy B qr s1  w0) (fun u : va_W => wpost dC dI cy A u) A) (List.toArray [.ref (ad 1), .ref (adK 0)]) s 0 0 A) (F0 m 75 ls []) := by
        intro v75_7 H locs ls w34 r35 t36 r37 t38 r39 t40 r41 t42 r43 t44 r45 t46 i48 i49 hw hT hF c47 hl
        refine lv_iconst (v := 0) hx hb dX6_readWord_75 (by decide) ?_
        refine lv_istore (lv' := [(5, .int 0), (0, .ref (ad 1)), (1, .ref (adK 0)), (2, .int v24_2), (3, .int v24_3), (4, .int v24_4), (6, .int v24_6), (7, .int v75_7)]) hx hb dX6_readWord_76 hl (by decide) rfl (fun ls hl => ?_)
        obtain ⟨x50, ex50⟩ : ∃ y : Int32, y = v24_4 + Int32.ofInt 1 := ⟨_, rfl⟩
        refine lv_iinc (v := x50) (lv' := [(4, .int x50), (5, .int 0), (0, .ref (ad 1)), (1, .ref (adK 0)), (2, .int v24_2), (3, .int v24_3), (6, .int v24_6), (7, .int v75_7)]) hx hb dX6_readWord_78 hl (k := 5) rfl ex50.symm (by decide) rfl (fun ls hl => ?_)
        have ex50 : x50.toInt = v24_4.toInt + 1 := by rw [ex50]; exact wk_add (y := 1) (show -2147483648 ≤ v24_4.toInt + 1 by omega) (show v24_4.toInt + 1 ≤ 2147483647 by omega)
        refine lv_goto (tgt := 114) hx hb dX6_readWord_81 (by decide) ?_
        exact J114 v24_3 x50 0 v75_7 H locs ls w34 (show 0 ≤ v24_2.toInt by omega) (show v24_2.toInt ≤ 400 by omega) (show 0 ≤ v24_3.toInt by omega) (show v24_3.toInt ≤ 26 by omega) (show 0 ≤ x50.toInt by omega) (show x50.toInt ≤ 426 by omega) (by decide) (by decide) (show 0 ≤ v24_6.toInt by omega) (show v24_6.toInt ≤ 25 by omega) (show 0 ≤ f24_1_1.toInt by omega) (show f24_1_1.toInt ≤ 400 by omega) (show x50.toInt ≤ v24_6.toInt + 401 by omega) (show v24_3.toInt ≤ v24_6.toInt + 1 by omega)  hw hT hF c47 (lv_sub hl [2, 3, 4, 5, 0, 1, 6, 7] rfl)
      have J102 : ∀ (H : Heap) (locs : List Loc) (ls : Array Slot) (w51 : va_W), 0 ≤ v24_2.toInt → v24_2.toInt ≤ 400 → 0 ≤ v24_3.toInt → v24_3.toInt ≤ 26 → 0 ≤ v24_4.toInt → v24_4.toInt ≤ 426 → 0 ≤ v24_5.toInt → v24_5.toInt ≤ 1 → 0 ≤ v24_6.toInt → v24_6.toInt ≤ 25 → 0 ≤ f24_1_1.toInt → f24_1_1.toInt ≤ 400 → v24_4.toInt ≤ v24_6.toInt + 401 → v24_3.toInt ≤ v24_6.toInt + 1 → Wd dC dI A s.heap H locs w51 → TW ksC ad cy B qr s1 w51 → FE ksC [(6, 1, 1), (6, 3, 3), (6, 4, 4)] w0 w51 → gi w51 1 1 = f24_1_1 → lv_has ls 8 [(0, .ref (ad 1)), (1, .ref (adK 0)), (2, .int v24_2), (3, .int v24_3), (4, .int v24_4), (5, .int v24_5), (6, .int v24_6), (7, .int 32)] → W p l e ({ frames := 5, cells := 0, slots := 0, locals := 141 }) s m (List.toArray [.ref (ad 1), .ref (adK 0)]) below meth c H locs 0 0 (MQ below (va_Qi (P_X6_readWord_3 ad cy B qr s1  w0) (fun u : va_W => wpost dC dI cy A u) A) (List.toArray [.ref (ad 1), .ref (adK 0)]) s 0 0 A) (F0 m 102 ls []) := by
        intro H locs ls w51 r52 t53 r54 t55 r56 t57 r58 t59 r60 t61 r62 t63 i65 i66 hw hT hF c64 hl
        obtain ⟨x67, ex67⟩ : ∃ y : Int32, y = v24_3 + Int32.ofInt 1 := ⟨_, rfl⟩
        refine lv_iinc (v := x67) (lv' := [(3, .int x67), (0, .ref (ad 1)), (1, .ref (adK 0)), (2, .int v24_2), (4, .int v24_4), (5, .int v24_5), (6, .int v24_6), (7, .int 32)]) hx hb dX6_readWord_102 hl (k := 3) rfl ex67.symm (by decide) rfl (fun ls hl => ?_)
        have ex67 : x67.toInt = v24_3.toInt + 1 := by rw [ex67]; exact wk_add (y := 1) (show -2147483648 ≤ v24_3.toInt + 1 by omega) (show v24_3.toInt + 1 ≤ 2147483647 by omega)
        refine lv_aload_n hx hb dX6_readWord_105 rfl (lv_at hl 1 rfl) ?_
        refine tk_geti hC hK hw hT hinX6 kC_at1 (by decide) rfl 1 (by decide) (List.mem_of_getElem? (i := 1) rfl) rfl rfl dX6_readWord_106 (fun x68 c69 rx68 tx68 => ?_)
        refine wk_top f24_1_1 (c69.symm.trans c64) ?_
        refine lv_istore (lv' := [(4, .int f24_1_1), (3, .int x67), (0, .ref (ad 1)), (1, .ref (adK 0)), (2, .int v24_2), (5, .int v24_5), (6, .int v24_6), (7, .int 32)]) hx hb dX6_readWord_109 hl (by decide) rfl (fun ls hl => ?_)
        refine lv_iconst (v := 1) hx hb dX6_readWord_111 (by decide) ?_
        refine lv_istore (lv' := [(5, .int 1), (4, .int f24_1_1), (3, .int x67), (0, .ref (ad 1)), (1, .ref (adK 0)), (2, .int v24_2), (6, .int v24_6), (7, .int 32)]) hx hb dX6_readWord_112 hl (by decide) rfl (fun ls hl => ?_)
        exact J114 x67 f24_1_1 1 32 H locs ls w51 (show 0 ≤ v24_2.toInt by omega) (show v24_2.toInt ≤ 400 by omega) (show 0 ≤ x67.toInt by omega) (show x67.toInt ≤ 26 by omega) (show 0 ≤ f24_1_1.toInt by omega) (show f24_1_1.toInt ≤ 426 by omega) (by decide) (by decide) (show 0 ≤ v24_6.toInt by omega) (show v24_6.toInt ≤ 25 by omega) (show 0 ≤ f24_1_1.toInt by omega) (show f24_1_1.toInt ≤ 400 by omega) (show f24_1_1.toInt ≤ v24_6.toInt + 401 by omega) (show x67.toInt ≤ v24_6.toInt + 1 by omega)  hw hT hF c64 (lv_sub hl [3, 4, 5, 2, 1, 0, 6, 7] rfl)
      refine lv_iload hx hb dX6_readWord_24 (lv_at hl 6 rfl) ?_
      refine lv_aload_n hx hb dX6_readWord_26 rfl (lv_at hl 1 rfl) ?_
      refine tk_ViT hC hK hw hA hE hSR (s_length l adK adV dC dI cy 0 (by decide) H.size) (cwV 0 hC.2.2.2.2 gX6_readWord_J0_length_8abf5 rfl rfl rfl (by decide +kernel) ⟨Nat.le_of_ble_eq_true rfl, Nat.le_of_ble_eq_true rfl⟩) 0 (by decide) rfl rfl rfl hl.1 rfl (Nat.le_of_ble_eq_true rfl) dX6_readWord_27 (fun r70 H locs hp71 hw => ?_)
      obtain ⟨-, hp71⟩ := hp71
      obtain rfl : r70 = 26 := hp71
      refine lv_icmp_ge (tgt := 120) hx hb dX6_readWord_30 (by decide) (fun c72 => ?_) (fun c72 => ?_)
      · have c72 : (26 : Int) ≤ v24_6.toInt := wk_le.mp c72
        refine lv_aload_n hx hb dX6_readWord_120 rfl (lv_at hl 0 rfl) ?_
        refine lv_aload_n hx hb dX6_readWord_121 rfl (lv_at hl 0 rfl) ?_
        refine tk_geti hC hK hw hT hinX6 kC_at1 (by decide) rfl 3 (by decide) (List.mem_of_getElem? (i := 3) rfl) rfl rfl dX6_readWord_122 (fun x73 c74 rx73 tx73 => ?_)
        refine lv_iconst (v := 0) hx hb dX6_readWord_125 (by decide) ?_
        refine tk_Vv hC hK hw hT hA hE hSR kC_at1 (by decide) rfl (k_X6_blame_2 l adK adV dC dI cy ad B (by omega) (by omega) qr s1   x73 (show 0 ≤ x73.toInt by omega) (show x73.toInt ≤ 400 by omega) 0 (by decide) (by decide) w1 H.size hT ) (cwV 2 hC.2.2.2.2 gX6_readWord_X6_blame rfl rfl rfl (by decide +kernel) ⟨Nat.le_of_ble_eq_true rfl, Nat.le_of_ble_eq_true rfl⟩) rfl hl.1 rfl (Nat.le_of_ble_eq_true rfl) dX6_readWord_126 (fun w77 H locs hp76 hw => ?_)
        obtain ⟨hT, k78, hg81⟩ := hp76
        have hF := hF.tr k78 (by decide)
        have c82 := k78.gi kC_at1 (by decide) c14
        have c83 := k78.gi kC_at1 (by decide) c74
        obtain ⟨x79, c80, rx79, tx79⟩ := hg81
        refine lv_iconst (v := (-1)) hx hb dX6_readWord_129 (by decide) ?_
        exact tk_iret hC hr hlocks hK ⟨hT, hF, (Or.inr ⟨rfl, ⟨x79, c80, (show 1 ≤ x79.toInt by omega), (show x79.toInt ≤ 3205 by omega)⟩⟩)⟩ hw dX6_readWord_130
      · have c72 : v24_6.toInt < (26 : Int) := wk_leF c72
        refine lv_aload_n hx hb dX6_readWord_33 rfl (lv_at hl 1 rfl) ?_
        refine lv_iload hx hb dX6_readWord_34 (lv_at hl 6 rfl) ?_
        refine tk_ViT hC hK hw hA hE hSR (s_charAt l adK adV dC dI cy 0 (by decide) v24_6 (show 0 ≤ v24_6.toInt by omega) (show v24_6.toInt < 26 by omega) H.size) (cwV 1 hC.2.2.2.2 gX6_readWord_J0_charAt_5068e rfl rfl rfl (by decide +kernel) ⟨Nat.le_of_ble_eq_true rfl, Nat.le_of_ble_eq_true rfl⟩) 0 (by decide) rfl rfl rfl hl.1 rfl (Nat.le_of_ble_eq_true rfl) dX6_readWord_36 (fun r84 H locs hp85 hw => ?_)
        refine lv_istore (lv' := [(7, .int r84), (0, .ref (ad 1)), (1, .ref (adK 0)), (2, .int v24_2), (3, .int v24_3), (4, .int v24_4), (5, .int v24_5), (6, .int v24_6)]) hx hb dX6_readWord_39 hl (by decide) rfl (fun ls hl => ?_)
        refine lv_iload hx hb dX6_readWord_41 (lv_at hl 0 rfl) ?_
        refine lv_bipush (v := 32) hx hb dX6_readWord_43 (by decide) ?_
        refine lv_icmp_eq (tgt := 84) hx hb dX6_readWord_45 (by decide) (fun c86 => ?_) (fun c86 => ?_)
        · have c86 : r84.toInt = (32 : Int) := wk_eq.mp c86
          refine lv_iload hx hb dX6_readWord_84 (lv_at hl 6 rfl) ?_
          refine lv_if_eq (tgt := 102) hx hb dX6_readWord_86 (by decide) (fun c87 => ?_) (fun c87 => ?_)
          · have c87 : v24_5.toInt = (0 : Int) := wk_eq.mp c87
            obtain rfl : r84 = 32 := wk_eq.mpr (show r84.toInt = 32 by omega)
            exact J102  H locs ls w1 (show 0 ≤ v24_2.toInt by omega) (show v24_2.toInt ≤ 400 by omega) (show 0 ≤ v24_3.toInt by omega) (show v24_3.toInt ≤ 26 by omega) (show 0 ≤ v24_4.toInt by omega) (show v24_4.toInt ≤ 426 by omega) (show 0 ≤ v24_5.toInt by omega) (show v24_5.toInt ≤ 1 by omega) (show 0 ≤ v24_6.toInt by omega) (show v24_6.toInt ≤ 25 by omega) (show 0 ≤ f24_1_1.toInt by omega) (show f24_1_1.toInt ≤ 400 by omega) (show v24_4.toInt ≤ v24_6.toInt + 401 by omega) (show v24_3.toInt ≤ v24_6.toInt + 1 by omega)  hw hT hF c14 (lv_sub hl [1, 2, 3, 4, 5, 6, 7, 0] rfl)
          · have c87 : ¬ v24_5.toInt = (0 : Int) := wk_eqF c87
            refine lv_iload hx hb dX6_readWord_89 (lv_at hl 5 rfl) ?_
            refine lv_iload_n hx hb dX6_readWord_91 rfl (lv_at hl 3 rfl) ?_
            refine lv_icmp_ne (tgt := 102) hx hb dX6_readWord_92 (by decide) (fun c88 => ?_) (fun c88 => ?_)
            · have c88 : ¬ v24_4.toInt = v24_2.toInt := wk_eqF c88
              obtain rfl : r84 = 32 := wk_eq.mpr (show r84.toInt = 32 by omega)
              exact J102  H locs ls w1 (show 0 ≤ v24_2.toInt by omega) (show v24_2.toInt ≤ 400 by omega) (show 0 ≤ v24_3.toInt by omega) (show v24_3.toInt ≤ 26 by omega) (show 0 ≤ v24_4.toInt by omega) (show v24_4.toInt ≤ 426 by omega) (show 0 ≤ v24_5.toInt by omega) (show v24_5.toInt ≤ 1 by omega) (show 0 ≤ v24_6.toInt by omega) (show v24_6.toInt ≤ 25 by omega) (show 0 ≤ f24_1_1.toInt by omega) (show f24_1_1.toInt ≤ 400 by omega) (show v24_4.toInt ≤ v24_6.toInt + 401 by omega) (show v24_3.toInt ≤ v24_6.toInt + 1 by omega)  hw hT hF c14 (lv_sub hl [1, 2, 3, 4, 5, 6, 7, 0] rfl)
            · have c88 : v24_4.toInt = v24_2.toInt := wk_eq.mp c88
              refine lv_aload_n hx hb dX6_readWord_95 rfl (lv_at hl 1 rfl) ?_
              refine lv_iload_n hx hb dX6_readWord_96 rfl (lv_at hl 3 rfl) ?_
              refine tk_puti hC hK hw hT hinX6 tyX6_ok nmX6 kC_at1 (by decide) rfl rfl 1 (by decide) (List.mem_of_getElem? (i := 1) rfl) rfl rfl rfl rfl (show 0 ≤ v24_2.toInt by omega) (show v24_2.toInt ≤ 400 by omega) dX6_readWord_97 (fun H locs w89 hw hT k91 c90 => ?_)
              have hF := hF.put kC_at1 (k := 1) (by decide) k91
              refine lv_iload_n hx hb dX6_readWord_100 rfl (lv_at hl 4 rfl) ?_
              exact tk_iret hC hr hlocks hK ⟨hT, hF, (Or.inl ⟨(show 0 ≤ v24_3.toInt by omega), (show v24_3.toInt ≤ 26 by omega)⟩)⟩ hw dX6_readWord_101
        · have c86 : ¬ r84.toInt = (32 : Int) := wk_eqF c86
          refine lv_iload hx hb dX6_readWord_48 (lv_at hl 6 rfl) ?_
          refine lv_if_eq (tgt := 75) hx hb dX6_readWord_50 (by decide) (fun c92 => ?_) (fun c92 => ?_)
          · have c92 : v24_5.toInt = (0 : Int) := wk_eq.mp c92
            exact J75 r84 H locs ls w1 (show 0 ≤ v24_2.toInt by omega) (show v24_2.toInt ≤ 400 by omega) (show 0 ≤ v24_3.toInt by omega) (show v24_3.toInt ≤ 26 by omega) (show 0 ≤ v24_4.toInt by omega) (show v24_4.toInt ≤ 426 by omega) (show 0 ≤ v24_5.toInt by omega) (show v24_5.toInt ≤ 1 by omega) (show 0 ≤ v24_6.toInt by omega) (show v24_6.toInt ≤ 25 by omega) (show 0 ≤ f24_1_1.toInt by omega) (show f24_1_1.toInt ≤ 400 by omega) (show v24_4.toInt ≤ v24_6.toInt + 401 by omega) (show v24_3.toInt ≤ v24_6.toInt + 1 by omega)  hw hT hF c14 (lv_sub hl [1, 2, 3, 4, 5, 6, 7, 0] rfl)
          · have c92 : ¬ v24_5.toInt = (0 : Int) := wk_eqF c92
            refine lv_iload hx hb dX6_readWord_53 (lv_at hl 5 rfl) ?_
            refine lv_iload_n hx hb dX6_readWord_55 rfl (lv_at hl 3 rfl) ?_
            refine lv_icmp_ge (tgt := 75) hx hb dX6_readWord_56 (by decide) (fun c93 => ?_) (fun c93 => ?_)
            · have c93 : v24_2.toInt ≤ v24_4.toInt := wk_le.mp c93
              exact J75 r84 H locs ls w1 (show 0 ≤ v24_2.toInt by omega) (show v24_2.toInt ≤ 400 by omega) (show 0 ≤ v24_3.toInt by omega) (show v24_3.toInt ≤ 26 by omega) (show 0 ≤ v24_4.toInt by omega) (show v24_4.toInt ≤ 426 by omega) (show 0 ≤ v24_5.toInt by omega) (show v24_5.toInt ≤ 1 by omega) (show 0 ≤ v24_6.toInt by omega) (show v24_6.toInt ≤ 25 by omega) (show 0 ≤ f24_1_1.toInt by omega) (show f24_1_1.toInt ≤ 400 by omega) (show v24_4.toInt ≤ v24_6.toInt + 401 by omega) (show v24_3.toInt ≤ v24_6.toInt + 1 by omega)  hw hT hF c14 (lv_sub hl [1, 2, 3, 4, 5, 6, 7, 0] rfl)
            · have c93 : v24_4.toInt < v24_2.toInt := wk_leF c93
              refine lv_aload_n hx hb dX6_readWord_59 rfl (lv_at hl 1 rfl) ?_
              refine tk_getA hC hK hw hT hinX6 kC_at1 (by decide) rfl 0 (by decide) (List.mem_of_getElem? (i := 2) rfl) rfl rfl dX6_readWord_60 ?_
              refine lv_iload hx hb dX6_readWord_63 (lv_at hl 5 rfl) ?_
              refine tk_iald hC hK hw hT kC_at2 rfl rfl (show 0 ≤ v24_4.toInt by omega) (show v24_4.toInt < 400 by omega) dX6_readWord_65 (fun x94 c95 rx94 tx94 => ?_)
              refine lv_iload hx hb dX6_readWord_66 (lv_at hl 0 rfl) ?_
              refine lv_icmp_ne (tgt := 75) hx hb dX6_readWord_68 (by decide) (fun c96 => ?_) (fun c96 => ?_)
              · have c96 : ¬ x94.toInt = r84.toInt := wk_eqF c96
                exact J75 r84 H locs ls w1 (show 0 ≤ v24_2.toInt by omega) (show v24_2.toInt ≤ 400 by omega) (show 0 ≤ v24_3.toInt by omega) (show v24_3.toInt ≤ 26 by omega) (show 0 ≤ v24_4.toInt by omega) (show v24_4.toInt ≤ 426 by omega) (show 0 ≤ v24_5.toInt by omega) (show v24_5.toInt ≤ 1 by omega) (show 0 ≤ v24_6.toInt by omega) (show v24_6.toInt ≤ 25 by omega) (show 0 ≤ f24_1_1.toInt by omega) (show f24_1_1.toInt ≤ 400 by omega) (show v24_4.toInt ≤ v24_6.toInt + 401 by omega) (show v24_3.toInt ≤ v24_6.toInt + 1 by omega)  hw hT hF c14 (lv_sub hl [1, 2, 3, 4, 5, 6, 7, 0] rfl)
              · have c96 : x94.toInt = r84.toInt := wk_eq.mp c96
                refine lv_iconst (v := 1) hx hb dX6_readWord_71 (by decide) ?_
                refine lv_goto (tgt := 76) hx hb dX6_readWord_72 (by decide) ?_
                refine lv_istore (lv' := [(5, .int 1), (7, .int r84), (0, .ref (ad 1)), (1, .ref (adK 0)), (2, .int v24_2), (3, .int v24_3), (4, .int v24_4), (6, .int v24_6)]) hx hb dX6_readWord_76 hl (by decide) rfl (fun ls hl => ?_)
                obtain ⟨x97, ex97⟩ : ∃ y : Int32, y = v24_4 + Int32.ofInt 1 := ⟨_, rfl⟩
                refine lv_iinc (v := x97) (lv' := [(4, .int x97), (5, .int 1), (7, .int r84), (0, .ref (ad 1)), (1, .ref (adK 0)), (2, .int v24_2), (3, .int v24_3), (6, .int v24_6)]) hx hb dX6_readWord_78 hl (k := 6) rfl ex97.symm (by decide) rfl (fun ls hl => ?_)
                have ex97 : x97.toInt = v24_4.toInt + 1 := by rw [ex97]; exact wk_add (y := 1) (show -2147483648 ≤ v24_4.toInt + 1 by omega) (show v24_4.toInt + 1 ≤ 2147483647 by omega)
                refine lv_goto (tgt := 114) hx hb dX6_readWord_81 (by decide) ?_
                exact J114 v24_3 x97 1 r84 H locs ls w1 (show 0 ≤ v24_2.toInt by omega) (show v24_2.toInt ≤ 400 by omega) (show 0 ≤ v24_3.toInt by omega) (show v24_3.toInt ≤ 26 by omega) (show 0 ≤ x97.toInt by omega) (show x97.toInt ≤ 426 by omega) (by decide) (by decide) (show 0 ≤ v24_6.toInt by omega) (show v24_6.toInt ≤ 25 by omega) (show 0 ≤ f24_1_1.toInt by omega) (show f24_1_1.toInt ≤ 400 by omega) (show x97.toInt ≤ v24_6.toInt + 401 by omega) (show v24_3.toInt ≤ v24_6.toInt + 1 by omega)  hw hT hF c14 (lv_sub hl [3, 4, 5, 6, 0, 1, 7, 2] rfl)
  refine lv_aload_n hx hb dX6_readWord_0 rfl (lv_at hl 0 rfl) ?_
  refine tk_Vi hC hK hw hT hA hE hSR kC_at1 (by decide) rfl (k_X6_lookBehindBlanks_1 l adK adV dC dI cy ad B (by omega) (by omega) qr s1    w0 s.heap.size hT ) (cwV 0 hC.2.2.2.2 gX6_readWord_X6_lookBehindBlanks rfl rfl rfl (by decide +kernel) ⟨Nat.le_of_ble_eq_true rfl, Nat.le_of_ble_eq_true rfl⟩) rfl hl.1 rfl (Nat.le_of_ble_eq_true rfl) dX6_readWord_1 (fun r98 w100 H locs hp99 hw => ?_)
  obtain ⟨hT, k101, hg110⟩ := hp99
  have hF := hF.tr k101 (by decide)
  rcases hg110 with ⟨g102, g103, ⟨x104, c105, rx104, tx104⟩, ⟨x106, c107, rx106, tx106⟩, ⟨x108, c109, rx108, tx108⟩⟩ | rfl
  · refine lv_pop hx hb dX6_readWord_4 rfl ?_
    refine lv_aload_n hx hb dX6_readWord_5 rfl (lv_at hl 0 rfl) ?_
    refine tk_Vi hC hK hw hT hA hE hSR kC_at1 (by decide) rfl (k_X6_endOfWord_1 l adK adV dC dI cy ad B (by omega) (by omega) qr s1    w100 H.size hT ) (cwV 0 hC.2.2.2.2 gX6_readWord_X6_endOfWord rfl rfl rfl (by decide +kernel) ⟨Nat.le_of_ble_eq_true rfl, Nat.le_of_ble_eq_true rfl⟩) rfl hl.1 rfl (Nat.le_of_ble_eq_true rfl) dX6_readWord_6 (fun r111 w113 H locs hp112 hw => ?_)
    obtain ⟨hT, k114, hg117⟩ := hp112
    have hF := hF.tr k114 (by decide)
    have c118 := k114.gi kC_at1 (by decide) c105
    have c119 := k114.gi kC_at1 (by decide) c107
    have c120 := k114.gi kC_at1 (by decide) c109
    obtain ⟨g115, g116⟩ := hg117
    refine lv_istore_n (lv' := [(2, .int r111), (0, .ref (ad 1)), (1, .ref (adK 0))]) hx hb dX6_readWord_9 rfl hl (by decide) rfl (fun ls hl => ?_)
    refine lv_iconst (v := 0) hx hb dX6_readWord_10 (by decide) ?_
    refine lv_istore_n (lv' := [(3, .int 0), (2, .int r111), (0, .ref (ad 1)), (1, .ref (adK 0))]) hx hb dX6_readWord_11 rfl hl (by decide) rfl (fun ls hl => ?_)
    refine lv_aload_n hx hb dX6_readWord_12 rfl (lv_at hl 2 rfl) ?_
    refine tk_geti hC hK hw hT hinX6 kC_at1 (by decide) rfl 1 (by decide) (List.mem_of_getElem? (i := 1) rfl) rfl rfl dX6_readWord_13 (fun x121 c122 rx121 tx121 => ?_)
    refine wk_top x104 (c122.symm.trans c118) ?_
    refine lv_istore (lv' := [(4, .int x104), (3, .int 0), (2, .int r111), (0, .ref (ad 1)), (1, .ref (adK 0))]) hx hb dX6_readWord_16 hl (by decide) rfl (fun ls hl => ?_)
    refine lv_iconst (v := 1) hx hb dX6_readWord_18 (by decide) ?_
    refine lv_istore (lv' := [(5, .int 1), (4, .int x104), (3, .int 0), (2, .int r111), (0, .ref (ad 1)), (1, .ref (adK 0))]) hx hb dX6_readWord_19 hl (by decide) rfl (fun ls hl => ?_)
    refine lv_iconst (v := 0) hx hb dX6_readWord_21 (by decide) ?_
    refine lv_istore (lv' := [(6, .int 0), (5, .int 1), (4, .int x104), (3, .int 0), (2, .int r111), (0, .ref (ad 1)), (1, .ref (adK 0))]) hx hb dX6_readWord_22 hl (by decide) rfl (fun ls hl => ?_)
    exact L24 ((26 - (0 : Int)).toNat + 1) r111 0 x104 1 0 x104 H locs ls w113 (show 0 ≤ r111.toInt by omega) (show r111.toInt ≤ 400 by omega) (by decide) (by decide) (show 0 ≤ x104.toInt by omega) (show x104.toInt ≤ 426 by omega) (by decide) (by decide) (by decide) (by decide) (show 0 ≤ x104.toInt by omega) (show x104.toInt ≤ 400 by omega) (show x104.toInt ≤ (0 : Int) + 400 by omega) (show (0 : Int) ≤ (0 : Int) + 0 by omega) (Nat.lt_succ_self _) hw hT hF c118 (lv_sub hl [5, 6, 4, 3, 2, 1, 0] rfl)
  · refine lv_pop hx hb dX6_readWord_4 rfl ?_
    refine lv_aload_n hx hb dX6_readWord_5 rfl (lv_at hl 0 rfl) ?_
    refine tk_Vi hC hK hw hT hA hE hSR kC_at1 (by decide) rfl (k_X6_endOfWord_1 l adK adV dC dI cy ad B (by omega) (by omega) qr s1    w100 H.size hT ) (cwV 0 hC.2.2.2.2 gX6_readWord_X6_endOfWord rfl rfl rfl (by decide +kernel) ⟨Nat.le_of_ble_eq_true rfl, Nat.le_of_ble_eq_true rfl⟩) rfl hl.1 rfl (Nat.le_of_ble_eq_true rfl) dX6_readWord_6 (fun r123 w125 H locs hp124 hw => ?_)
    obtain ⟨hT, k126, hg129⟩ := hp124
    have hF := hF.tr k126 (by decide)
    obtain ⟨g127, g128⟩ := hg129
    refine lv_istore_n (lv' := [(2, .int r123), (0, .ref (ad 1)), (1, .ref (adK 0))]) hx hb dX6_readWord_9 rfl hl (by decide) rfl (fun ls hl => ?_)
    refine lv_iconst (v := 0) hx hb dX6_readWord_10 (by decide) ?_
    refine lv_istore_n (lv' := [(3, .int 0), (2, .int r123), (0, .ref (ad 1)), (1, .ref (adK 0))]) hx hb dX6_readWord_11 rfl hl (by decide) rfl (fun ls hl => ?_)
    refine lv_aload_n hx hb dX6_readWord_12 rfl (lv_at hl 2 rfl) ?_
    refine tk_geti hC hK hw hT hinX6 kC_at1 (by decide) rfl 1 (by decide) (List.mem_of_getElem? (i := 1) rfl) rfl rfl dX6_readWord_13 (fun x130 c131 rx130 tx130 => ?_)
    refine lv_istore (lv' := [(4, .int x130), (3, .int 0), (2, .int r123), (0, .ref (ad 1)), (1, .ref (adK 0))]) hx hb dX6_readWord_16 hl (by decide) rfl (fun ls hl => ?_)
    refine lv_iconst (v := 1) hx hb dX6_readWord_18 (by decide) ?_
    refine lv_istore (lv' := [(5, .int 1), (4, .int x130), (3, .int 0), (2, .int r123), (0, .ref (ad 1)), (1, .ref (adK 0))]) hx hb dX6_readWord_19 hl (by decide) rfl (fun ls hl => ?_)
    refine lv_iconst (v := 0) hx hb dX6_readWord_21 (by decide) ?_
    refine lv_istore (lv' := [(6, .int 0), (5, .int 1), (4, .int x130), (3, .int 0), (2, .int r123), (0, .ref (ad 1)), (1, .ref (adK 0))]) hx hb dX6_readWord_22 hl (by decide) rfl (fun ls hl => ?_)
    exact L24 ((26 - (0 : Int)).toNat + 1) r123 0 x130 1 0 x130 H locs ls w125 (show 0 ≤ r123.toInt by omega) (show r123.toInt ≤ 400 by omega) (by decide) (by decide) (show 0 ≤ x130.toInt by omega) (show x130.toInt ≤ 426 by omega) (by decide) (by decide) (by decide) (by decide) (show 0 ≤ x130.toInt by omega) (show x130.toInt ≤ 400 by omega) (show x130.toInt ≤ (0 : Int) + 400 by omega) (show (0 : Int) ≤ (0 : Int) + 0 by omega) (Nat.lt_succ_self _) hw hT hF c131 (lv_sub hl [5, 6, 4, 3, 2, 1, 0] rfl)
abbrev P_X7_isTooMany_1 (ad : Nat → Nat) (cy : Nat → ClassId) (B : Int) (qr : Nat) (s1 : Int) (a1 : Int32) (a2 : Int32) (w0 : va_W) : Int32 → va_W → Prop := fun r u => TW ksC ad cy B qr s1 u ∧ FE ksC ([] : List (Nat × Nat × Nat)) w0 u ∧ ((r = 0 ∧ a1.toInt ≤ 0 ∧ a2.toInt ≤ 0) ∨ (r = 0 ∧ 1 ≤ a1.toInt ∧ a1.toInt ≤ 1 ∧ 1 ≤ a2.toInt ∧ a2.toInt ≤ 31 ∧ (∃ y : Int32, gi u 29 9 = y ∧ 0 ≤ y.toInt ∧ y.toInt ≤ 11)) ∨ (r = 0 ∧ 2 ≤ a1.toInt ∧ a1.toInt ≤ 2 ∧ 1 ≤ a2.toInt ∧ a2.toInt ≤ 31 ∧ (∃ y : Int32, gi u 29 10 = y ∧ 0 ≤ y.toInt ∧ y.toInt ≤ 7)) ∨ (r = 0 ∧ 3 ≤ a1.toInt ∧ 1 ≤ a2.toInt ∧ a2.toInt ≤ 31 ∧ (∃ y : Int32, gi u 29 11 = y ∧ 0 ≤ y.toInt ∧ y.toInt ≤ 3)) ∨ (r = 1) ∨ (r = 1 ∧ 1 ≤ a1.toInt ∧ a1.toInt ≤ 1 ∧ 1 ≤ a2.toInt ∧ a2.toInt ≤ 31 ∧ (∃ y : Int32, gi u 29 9 = y ∧ 12 ≤ y.toInt ∧ y.toInt ≤ 12)) ∨ (r = 1 ∧ 2 ≤ a1.toInt ∧ a1.toInt ≤ 2 ∧ 1 ≤ a2.toInt ∧ a2.toInt ≤ 31 ∧ (∃ y : Int32, gi u 29 10 = y ∧ 8 ≤ y.toInt ∧ y.toInt ≤ 8)) ∨ (r = 1 ∧ 3 ≤ a1.toInt ∧ 1 ≤ a2.toInt ∧ a2.toInt ≤ 31 ∧ (∃ y : Int32, gi u 29 11 = y ∧ 4 ≤ y.toInt ∧ y.toInt ≤ 4)))
set_option maxHeartbeats 4000000 in
set_option maxRecDepth 100000 in
theorem k_X7_isTooMany_1 (l : Launch) (adK adV : Nat → Nat) (dC : Nat → ClassId) (dI : Nat → Nat → Nat) (cy : Nat → ClassId) (ad : Nat → Nat) (B : Int) (hB0 : 2147483648 ≤ B) (hB1 : B ≤ 1152921504606846976) (qr : Nat) (s1 : Int)  (a1 : Int32) (ra1 : 0 ≤ a1.toInt) (ta1 : a1.toInt ≤ 26) (a2 : Int32) (ra2 : 0 ≤ a2.toInt) (ta2 : a2.toInt ≤ 32) (w0 : va_W) (sz : Nat) (hT : TW ksC ad cy B qr s1 w0)  : Met l yX7_isTooMany wsX7_isTooMany ({ frames := 1, cells := 0, slots := 0, locals := 12 }) (va_Pc [.ref (ad 29), .int a1, .int a2] (wpreS adK adV dC dI cy sz w0)) (va_Qi (P_X7_isTooMany_1 ad cy B qr s1 a1 a2 w0) (fun u : va_W => wpost dC dI cy (va_A w0 sz) u) (va_A w0 sz)) 0 0 (va_A w0 sz) := by
  refine Met.ofW (cc := cX7_isTooMany) (maxL := 3) (ret := (some .boolean)) (by decide) rfl ?_
  intro p e s m args below meth c s₁ Bk hml hv
  obtain ⟨rfl, ⟨hsz, hP, hK, hD0⟩, hE, hSR⟩ := hv
  have hx := Bk.exec
  have hb := Bk.bytes
  have hr := Bk.returns
  have hlocks := Bk.notSynchronized
  have hC : CallFix p m c cX7_isTooMany 3 s _ wsX7_isTooMany RX7 := ⟨hx, hb, hml, findClass_of_methodNamed Bk.named, atoms_spec (ws := wsX7_isTooMany) Bk.pre⟩
  subst hsz
  have hD := hD0.self (sz := s.heap.size)
  generalize hAe : va_A w0 s.heap.size = A at hD hE ⊢
  have hA : ∀ q : Nat, s.heap.size ≤ q → A q := fun q h => by rw [← hAe]; exact Or.inr h
  have hw : Wd dC dI A s.heap s.heap [] w0 := ⟨hP, hD, va_S.rf⟩
  have hF : FE ksC ([] : List (Nat × Nat × Nat)) w0 w0 := FE.rf
  have hl := lv_entry ([.ref (ad 29), .int a1, .int a2]) (n := 3) (Nat.le_of_ble_eq_true rfl)
  rw [lg_entry_eq]
  generalize (lg_sl ([.ref (ad 29), .int a1, .int a2]) ++ List.replicate (3 - (lg_sl ([.ref (ad 29), .int a1, .int a2])).length) Slot.unset).toArray = ls at hl ⊢
  have hl : lv_has ls 3 [(0, .ref (ad 29)), (1, .int a1), (2, .int a2)] := hl
  generalize hloc : ([] : List Loc) = locs at hw ⊢
  have hinX7 : ∀ w ∈ u_ws RX7 TX7 12, w ∈ wsX7_isTooMany := fun _ h => List.mem_cons_of_mem _ (List.mem_append_right _ (h))
  have J27 : ∀ (H : Heap) (locs : List Loc) (ls : Array Slot) (w1 : va_W), 0 ≤ a1.toInt → a1.toInt ≤ 26 → 0 ≤ a2.toInt → a2.toInt ≤ 32 → Wd dC dI A s.heap H locs w1 → TW ksC ad cy B qr s1 w1 → FE ksC ([] : List (Nat × Nat × Nat)) w0 w1 → lv_has ls 3 [(0, .ref (ad 29)), (1, .int a1), (2, .int a2)] → W p l e ({ frames := 1, cells := 0, slots := 0, locals := 12 }) s m (List.toArray [.ref (ad 29), .int a1, .int a2]) below meth c H locs 0 0 (MQ below (va_Qi (P_X7_isTooMany_1 ad cy B qr s1 a1 a2 w0) (fun u : va_W => wpost dC dI cy A u) A) (List.toArray [.ref (ad 29), .int a1, .int a2]) s 0 0 A) (F0 m 27 ls []) := by
    intro H locs ls w1 r2 t3 r4 t5 hw hT hF hl
    refine lv_iconst (v := 1) hx hb dX7_isTooMany_27 (by decide) ?_
    exact tk_zret hC hr rfl hlocks hK ⟨hT, hF, (Or.inr (Or.inr (Or.inr (Or.inr (Or.inl rfl)))))⟩ hw dX7_isTooMany_28
  refine lv_iload_n hx hb dX7_isTooMany_0 rfl (lv_at hl 2 rfl) ?_
  refine lv_bipush (v := 32) hx hb dX7_isTooMany_1 (by decide) ?_
  refine lv_icmp_ge (tgt := 27) hx hb dX7_isTooMany_3 (by decide) (fun c6 => ?_) (fun c6 => ?_)
  · have c6 : (32 : Int) ≤ a2.toInt := wk_le.mp c6
    exact J27  s.heap locs ls w0 (show 0 ≤ a1.toInt by omega) (show a1.toInt ≤ 26 by omega) (show 0 ≤ a2.toInt by omega) (show a2.toInt ≤ 32 by omega)  hw hT hF  (lv_sub hl [0, 1, 2] rfl)
  · have c6 : a2.toInt < (32 : Int) := wk_leF c6
    refine lv_iload_n hx hb dX7_isTooMany_6 rfl (lv_at hl 1 rfl) ?_
    refine lv_if_ne (tgt := 14) hx hb dX7_isTooMany_7 (by decide) (fun c7 => ?_) (fun c7 => ?_)
    · have c7 : ¬ a1.toInt = (0 : Int) := wk_eqF c7
      refine lv_iconst (v := 0) hx hb dX7_isTooMany_14 (by decide) ?_
      refine lv_iload_n hx hb dX7_isTooMany_15 rfl (lv_at hl 2 rfl) ?_
      refine lv_if_ne (tgt := 23) hx hb dX7_isTooMany_16 (by decide) (fun c8 => ?_) (fun c8 => ?_)
      · have c8 : ¬ a2.toInt = (0 : Int) := wk_eqF c8
        refine lv_iconst (v := 0) hx hb dX7_isTooMany_23 (by decide) ?_
        refine lv_icmp_eq (tgt := 29) hx hb dX7_isTooMany_24 (by decide) (fun _ => ?_) (fun c => absurd (by decide) c)
        refine lv_iload_n hx hb dX7_isTooMany_29 rfl (lv_at hl 1 rfl) ?_
        rcases (show a1.toInt = 1 ∨ a1.toInt = 2 ∨ (a1.toInt < 0 ∨ 2 < a1.toInt) by omega) with c9 | c9 | c9
        · refine lv_tableIn (off := 28) (tgt := 58) hx hb dX7_isTooMany_30 (by omega) (by omega) (by rw [c9]; rfl) (by decide) ?_
          refine lv_aload_n hx hb dX7_isTooMany_58 rfl (lv_at hl 0 rfl) ?_
          refine tk_geti hC hK hw hT hinX7 kC_at29 (by decide) rfl 9 (by decide) (List.mem_of_getElem? (i := 1) rfl) rfl rfl dX7_isTooMany_59 (fun x10 c11 rx10 tx10 => ?_)
          refine lv_bipush (v := 12) hx hb dX7_isTooMany_62 (by decide) ?_
          refine lv_icmp_lt (tgt := 71) hx hb dX7_isTooMany_64 (by decide) (fun c12 => ?_) (fun c12 => ?_)
          · have c12 : x10.toInt < (12 : Int) := wk_lt.mp c12
            refine lv_iconst (v := 0) hx hb dX7_isTooMany_71 (by decide) ?_
            exact tk_zret hC hr rfl hlocks hK ⟨hT, hF, (Or.inr (Or.inl ⟨rfl, (show 1 ≤ a1.toInt by omega), (show a1.toInt ≤ 1 by omega), (show 1 ≤ a2.toInt by omega), (show a2.toInt ≤ 31 by omega), ⟨x10, c11, (show 0 ≤ x10.toInt by omega), (show x10.toInt ≤ 11 by omega)⟩⟩))⟩ hw dX7_isTooMany_72
          · have c12 : (12 : Int) ≤ x10.toInt := wk_ltF c12
            refine lv_iconst (v := 1) hx hb dX7_isTooMany_67 (by decide) ?_
            refine lv_goto (tgt := 72) hx hb dX7_isTooMany_68 (by decide) ?_
            exact tk_zret hC hr rfl hlocks hK ⟨hT, hF, (Or.inr (Or.inr (Or.inr (Or.inr (Or.inr (Or.inl ⟨rfl, (show 1 ≤ a1.toInt by omega), (show a1.toInt ≤ 1 by omega), (show 1 ≤ a2.toInt by omega), (show a2.toInt ≤ 31 by omega), ⟨x10, c11, (show 12 ≤ x10.toInt by omega), (show x10.toInt ≤ 12 by omega)⟩⟩))))))⟩ hw dX7_isTooMany_72
        · refine lv_tableIn (off := 43) (tgt := 73) hx hb dX7_isTooMany_30 (by omega) (by omega) (by rw [c9]; rfl) (by decide) ?_
          refine lv_aload_n hx hb dX7_isTooMany_73 rfl (lv_at hl 0 rfl) ?_
          refine tk_geti hC hK hw hT hinX7 kC_at29 (by decide) rfl 10 (by decide) (List.mem_of_getElem? (i := 2) rfl) rfl rfl dX7_isTooMany_74 (fun x13 c14 rx13 tx13 => ?_)
          refine lv_bipush (v := 8) hx hb dX7_isTooMany_77 (by decide) ?_
          refine lv_icmp_lt (tgt := 86) hx hb dX7_isTooMany_79 (by decide) (fun c15 => ?_) (fun c15 => ?_)
          · have c15 : x13.toInt < (8 : Int) := wk_lt.mp c15
            refine lv_iconst (v := 0) hx hb dX7_isTooMany_86 (by decide) ?_
            exact tk_zret hC hr rfl hlocks hK ⟨hT, hF, (Or.inr (Or.inr (Or.inl ⟨rfl, (show 2 ≤ a1.toInt by omega), (show a1.toInt ≤ 2 by omega), (show 1 ≤ a2.toInt by omega), (show a2.toInt ≤ 31 by omega), ⟨x13, c14, (show 0 ≤ x13.toInt by omega), (show x13.toInt ≤ 7 by omega)⟩⟩)))⟩ hw dX7_isTooMany_87
          · have c15 : (8 : Int) ≤ x13.toInt := wk_ltF c15
            refine lv_iconst (v := 1) hx hb dX7_isTooMany_82 (by decide) ?_
            refine lv_goto (tgt := 87) hx hb dX7_isTooMany_83 (by decide) ?_
            exact tk_zret hC hr rfl hlocks hK ⟨hT, hF, (Or.inr (Or.inr (Or.inr (Or.inr (Or.inr (Or.inr (Or.inl ⟨rfl, (show 2 ≤ a1.toInt by omega), (show a1.toInt ≤ 2 by omega), (show 1 ≤ a2.toInt by omega), (show a2.toInt ≤ 31 by omega), ⟨x13, c14, (show 8 ≤ x13.toInt by omega), (show x13.toInt ≤ 8 by omega)⟩⟩)))))))⟩ hw dX7_isTooMany_87
        · refine lv_tableOut (tgt := 88) hx hb dX7_isTooMany_30 c9 (by decide) ?_
          refine lv_aload_n hx hb dX7_isTooMany_88 rfl (lv_at hl 0 rfl) ?_
          refine tk_geti hC hK hw hT hinX7 kC_at29 (by decide) rfl 11 (by decide) (List.mem_of_getElem? (i := 3) rfl) rfl rfl dX7_isTooMany_89 (fun x16 c17 rx16 tx16 => ?_)
          refine lv_iconst (v := 4) hx hb dX7_isTooMany_92 (by decide) ?_
          refine lv_icmp_lt (tgt := 100) hx hb dX7_isTooMany_93 (by decide) (fun c18 => ?_) (fun c18 => ?_)
          · have c18 : x16.toInt < (4 : Int) := wk_lt.mp c18
            refine lv_iconst (v := 0) hx hb dX7_isTooMany_100 (by decide) ?_
            exact tk_zret hC hr rfl hlocks hK ⟨hT, hF, (Or.inr (Or.inr (Or.inr (Or.inl ⟨rfl, (show 3 ≤ a1.toInt by omega), (show 1 ≤ a2.toInt by omega), (show a2.toInt ≤ 31 by omega), ⟨x16, c17, (show 0 ≤ x16.toInt by omega), (show x16.toInt ≤ 3 by omega)⟩⟩))))⟩ hw dX7_isTooMany_101
          · have c18 : (4 : Int) ≤ x16.toInt := wk_ltF c18
            refine lv_iconst (v := 1) hx hb dX7_isTooMany_96 (by decide) ?_
            refine lv_goto (tgt := 101) hx hb dX7_isTooMany_97 (by decide) ?_
            exact tk_zret hC hr rfl hlocks hK ⟨hT, hF, (Or.inr (Or.inr (Or.inr (Or.inr (Or.inr (Or.inr (Or.inr ⟨rfl, (show 3 ≤ a1.toInt by omega), (show 1 ≤ a2.toInt by omega), (show a2.toInt ≤ 31 by omega), ⟨x16, c17, (show 4 ≤ x16.toInt by omega), (show x16.toInt ≤ 4 by omega)⟩⟩)))))))⟩ hw dX7_isTooMany_101
      · have c8 : a2.toInt = (0 : Int) := wk_eq.mp c8
        refine lv_iconst (v := 1) hx hb dX7_isTooMany_19 (by decide) ?_
        refine lv_goto (tgt := 24) hx hb dX7_isTooMany_20 (by decide) ?_
        refine lv_icmp_eq (tgt := 29) hx hb dX7_isTooMany_24 (by decide) (fun c => absurd c (by decide)) (fun _ => ?_)
        exact J27  s.heap locs ls w0 (show 0 ≤ a1.toInt by omega) (show a1.toInt ≤ 26 by omega) (show 0 ≤ a2.toInt by omega) (show a2.toInt ≤ 32 by omega)  hw hT hF  (lv_sub hl [0, 1, 2] rfl)
    · have c7 : a1.toInt = (0 : Int) := wk_eq.mp c7
      refine lv_iconst (v := 1) hx hb dX7_isTooMany_10 (by decide) ?_
      refine lv_goto (tgt := 15) hx hb dX7_isTooMany_11 (by decide) ?_
      refine lv_iload_n hx hb dX7_isTooMany_15 rfl (lv_at hl 2 rfl) ?_
      refine lv_if_ne (tgt := 23) hx hb dX7_isTooMany_16 (by decide) (fun c19 => ?_) (fun c19 => ?_)
      · have c19 : ¬ a2.toInt = (0 : Int) := wk_eqF c19
        refine lv_iconst (v := 0) hx hb dX7_isTooMany_23 (by decide) ?_
        refine lv_icmp_eq (tgt := 29) hx hb dX7_isTooMany_24 (by decide) (fun c => absurd c (by decide)) (fun _ => ?_)
        exact J27  s.heap locs ls w0 (show 0 ≤ a1.toInt by omega) (show a1.toInt ≤ 26 by omega) (show 0 ≤ a2.toInt by omega) (show a2.toInt ≤ 32 by omega)  hw hT hF  (lv_sub hl [0, 1, 2] rfl)
      · have c19 : a2.toInt = (0 : Int) := wk_eq.mp c19
        refine lv_iconst (v := 1) hx hb dX7_isTooMany_19 (by decide) ?_
        refine lv_goto (tgt := 24) hx hb dX7_isTooMany_20 (by decide) ?_
        refine lv_icmp_eq (tgt := 29) hx hb dX7_isTooMany_24 (by decide) (fun _ => ?_) (fun c => absurd (by decide) c)
        refine lv_iload_n hx hb dX7_isTooMany_29 rfl (lv_at hl 1 rfl) ?_
        have c20 : a1.toInt = 0 := by omega
        refine lv_tableIn (off := 26) (tgt := 56) hx hb dX7_isTooMany_30 (by omega) (by omega) (by rw [c20]; rfl) (by decide) ?_
        refine lv_iconst (v := 0) hx hb dX7_isTooMany_56 (by decide) ?_
        exact tk_zret hC hr rfl hlocks hK ⟨hT, hF, (Or.inl ⟨rfl, (show a1.toInt ≤ 0 by omega), (show a2.toInt ≤ 0 by omega)⟩)⟩ hw dX7_isTooMany_57
abbrev P_X6_readNumber_2 (ad : Nat → Nat) (cy : Nat → ClassId) (B : Int) (qr : Nat) (s1 : Int)  (w0 : va_W) : Int32 → va_W → Prop := fun r u => TW ksC ad cy B qr s1 u ∧ FE ksC [(6, 1, 1), (6, 3, 3), (6, 4, 4)] w0 u ∧ ((2 ≤ r.toInt ∧ r.toInt ≤ 10 ∧ (∃ y : Int32, gi u 1 2 = y ∧ 1 ≤ y.toInt ∧ y.toInt ≤ 400) ∧ (∃ y : Int32, gi u 1 3 = y ∧ 0 ≤ y.toInt ∧ y.toInt ≤ 399) ∧ (∃ y : Int32, gi u 1 4 = y ∧ 0 ≤ y.toInt ∧ y.toInt ≤ 0)) ∨ (r = (-1) ∧ (∃ y : Int32, gi u 1 4 = y ∧ 1 ≤ y.toInt ∧ y.toInt ≤ 3205)))
set_option maxHeartbeats 4000000 in
set_option maxRecDepth 100000 in
theorem k_X6_readNumber_2 (l : Launch) (adK adV : Nat → Nat) (dC : Nat → ClassId) (dI : Nat → Nat → Nat) (cy : Nat → ClassId) (ad : Nat → Nat) (B : Int) (hB0 : 2147483648 ≤ B) (hB1 : B ≤ 1152921504606846976) (qr : Nat) (s1 : Int)   (w0 : va_W) (sz : Nat) (hT : TW ksC ad cy B qr s1 w0) (cf0_ : gi w0 1 4 = 0) : Met l yX6_readNumber wsX6_readNumber ({ frames := 2, cells := 0, slots := 0, locals := 34 }) (va_Pc [.ref (ad 1), .int 2, .int 10] (wpreS adK adV dC dI cy sz w0)) (va_Qi (P_X6_readNumber_2 ad cy B qr s1  w0) (fun u : va_W => wpost dC dI cy (va_A w0 sz) u) (va_A w0 sz)) 0 0 (va_A w0 sz) := by
  refine Met.ofW (cc := cX6_readNumber) (maxL := 4) (ret := (some .int)) (by decide) rfl ?_
  intro p e s m args below meth c s₁ Bk hml hv
  obtain ⟨rfl, ⟨hsz, hP, hK, hD0⟩, hE, hSR⟩ := hv
  have hx := Bk.exec
  have hb := Bk.bytes
  have hr := Bk.returns
  have hlocks := Bk.notSynchronized
  have hC : CallFix p m c cX6_readNumber 4 s _ wsX6_readNumber RX6 := ⟨hx, hb, hml, findClass_of_methodNamed Bk.named, atoms_spec (ws := wsX6_readNumber) Bk.pre⟩
  subst hsz
  have hD := hD0.self (sz := s.heap.size)
  generalize hAe : va_A w0 s.heap.size = A at hD hE ⊢
  have hA : ∀ q : Nat, s.heap.size ≤ q → A q := fun q h => by rw [← hAe]; exact Or.inr h
  have hw : Wd dC dI A s.heap s.heap [] w0 := ⟨hP, hD, va_S.rf⟩
  have hF : FE ksC [(6, 1, 1), (6, 3, 3), (6, 4, 4)] w0 w0 := FE.rf
  have hl := lv_entry ([.ref (ad 1), .int 2, .int 10]) (n := 4) (Nat.le_of_ble_eq_true rfl)
  rw [lg_entry_eq]
  generalize (lg_sl ([.ref (ad 1), .int 2, .int 10]) ++ List.replicate (4 - (lg_sl ([.ref (ad 1), .int 2, .int 10])).length) Slot.unset).toArray = ls at hl ⊢
  have hl : lv_has ls 4 [(0, .ref (ad 1)), (1, .int 2), (2, .int 10)] := hl
  generalize hloc : ([] : List Loc) = locs at hw ⊢
  have hinX6 : ∀ w ∈ u_ws RX6 TX6 5, w ∈ wsX6_readNumber := fun _ h => List.mem_cons_of_mem _ (List.mem_append_right _ (h))
  have J125 : ∀ (v125_3 : Int32) (f125_1_1 : Int32) (f125_1_2 : Int32) (f125_1_3 : Int32) (H : Heap) (locs : List Loc) (ls : Array Slot) (w1 : va_W), 0 ≤ f125_1_1.toInt → f125_1_1.toInt ≤ 400 → 1 ≤ f125_1_2.toInt → f125_1_2.toInt ≤ 400 → 0 ≤ f125_1_3.toInt → f125_1_3.toInt ≤ 399 → Wd dC dI A s.heap H locs w1 → TW ksC ad cy B qr s1 w1 → FE ksC [(6, 1, 1), (6, 3, 3), (6, 4, 4)] w0 w1 → gi w1 1 1 = f125_1_1 → gi w1 1 2 = f125_1_2 → gi w1 1 3 = f125_1_3 → gi w1 1 4 = 0 → lv_has ls 4 [(0, .ref (ad 1)), (1, .int 2), (2, .int 10), (3, .int v125_3)] → W p l e ({ frames := 2, cells := 0, slots := 0, locals := 34 }) s m (List.toArray [.ref (ad 1), .int 2, .int 10]) below meth c H locs 0 0 (MQ below (va_Qi (P_X6_readNumber_2 ad cy B qr s1  w0) (fun u : va_W => wpost dC dI cy A u) A) (List.toArray [.ref (ad 1), .int 2, .int 10]) s 0 0 A) (F0 m 125 ls []) := by
    intro v125_3 f125_1_1 f125_1_2 f125_1_3 H locs ls w1 r2 t3 r5 t6 r8 t9 hw hT hF c4 c7 c10 c11 hl
    refine lv_aload_n hx hb dX6_readNumber_125 rfl (lv_at hl 0 rfl) ?_
    refine lv_aload_n hx hb dX6_readNumber_126 rfl (lv_at hl 0 rfl) ?_
    refine tk_geti hC hK hw hT hinX6 kC_at1 (by decide) rfl 3 (by decide) (List.mem_of_getElem? (i := 1) rfl) rfl rfl dX6_readNumber_127 (fun x12 c13 rx12 tx12 => ?_)
    refine wk_top f125_1_3 (c13.symm.trans c10) ?_
    refine lv_iconst (v := 1) hx hb dX6_readNumber_130 (by decide) ?_
    refine tk_Vv hC hK hw hT hA hE hSR kC_at1 (by decide) rfl (k_X6_blame_1 l adK adV dC dI cy ad B (by omega) (by omega) qr s1   f125_1_3 (show 0 ≤ f125_1_3.toInt by omega) (show f125_1_3.toInt ≤ 400 by omega) 1 (by decide) (by decide) w1 H.size hT c11) (cwV 2 hC.2.2.2.2 gX6_readNumber_X6_blame rfl rfl rfl (by decide +kernel) ⟨Nat.le_of_ble_eq_true rfl, Nat.le_of_ble_eq_true rfl⟩) rfl hl.1 rfl (Nat.le_of_ble_eq_true rfl) dX6_readNumber_131 (fun w16 H locs hp15 hw => ?_)
    obtain ⟨hT, k17, hg20⟩ := hp15
    have hF := hF.tr k17 (by decide)
    have c21 := k17.gi kC_at1 (by decide) c4
    have c22 := k17.gi kC_at1 (by decide) c7
    have c23 := k17.gi kC_at1 (by decide) c10
    obtain ⟨x18, c19, rx18, tx18⟩ := hg20
    refine lv_iconst (v := (-1)) hx hb dX6_readNumber_134 (by decide) ?_
    exact tk_iret hC hr hlocks hK ⟨hT, hF, (Or.inr ⟨rfl, ⟨x18, c19, (show 1 ≤ x18.toInt by omega), (show x18.toInt ≤ 3205 by omega)⟩⟩)⟩ hw dX6_readNumber_135
  have J102 : ∀ (v102_3 : Int32) (f102_1_1 : Int32) (f102_1_2 : Int32) (f102_1_3 : Int32) (H : Heap) (locs : List Loc) (ls : Array Slot) (w24 : va_W), 0 ≤ f102_1_1.toInt → f102_1_1.toInt ≤ 400 → 1 ≤ f102_1_2.toInt → f102_1_2.toInt ≤ 400 → 0 ≤ f102_1_3.toInt → f102_1_3.toInt ≤ 399 → Wd dC dI A s.heap H locs w24 → TW ksC ad cy B qr s1 w24 → FE ksC [(6, 1, 1), (6, 3, 3), (6, 4, 4)] w0 w24 → gi w24 1 1 = f102_1_1 → gi w24 1 2 = f102_1_2 → gi w24 1 3 = f102_1_3 → gi w24 1 4 = 0 → lv_has ls 4 [(0, .ref (ad 1)), (1, .int 2), (2, .int 10), (3, .int v102_3)] → W p l e ({ frames := 2, cells := 0, slots := 0, locals := 34 }) s m (List.toArray [.ref (ad 1), .int 2, .int 10]) below meth c H locs 0 0 (MQ below (va_Qi (P_X6_readNumber_2 ad cy B qr s1  w0) (fun u : va_W => wpost dC dI cy A u) A) (List.toArray [.ref (ad 1), .int 2, .int 10]) s 0 0 A) (F0 m 102 ls []) := by
    intro v102_3 f102_1_1 f102_1_2 f102_1_3 H locs ls w24 r25 t26 r28 t29 r31 t32 hw hT hF c27 c30 c33 c34 hl
    refine lv_aload_n hx hb dX6_readNumber_102 rfl (lv_at hl 0 rfl) ?_
    refine tk_geti hC hK hw hT hinX6 kC_at1 (by decide) rfl 1 (by decide) (List.mem_of_getElem? (i := 2) rfl) rfl rfl dX6_readNumber_103 (fun x35 c36 rx35 tx35 => ?_)
    refine wk_top f102_1_1 (c36.symm.trans c27) ?_
    refine lv_aload_n hx hb dX6_readNumber_106 rfl (lv_at hl 0 rfl) ?_
    refine tk_geti hC hK hw hT hinX6 kC_at1 (by decide) rfl 3 (by decide) (List.mem_of_getElem? (i := 1) rfl) rfl rfl dX6_readNumber_107 (fun x37 c38 rx37 tx37 => ?_)
    refine wk_top f102_1_3 (c38.symm.trans c33) ?_
    refine lv_isub hx hb dX6_readNumber_110 ?_
    refine lv_topi (fun x39 ex39 => ?_)
    have ex39 : x39.toInt = f102_1_1.toInt - f102_1_3.toInt := by rw [ex39]; exact wk_sub (show (-2147483648) ≤ f102_1_1.toInt - f102_1_3.toInt by omega) (show f102_1_1.toInt - f102_1_3.toInt ≤ 2147483647 by omega)
    refine lv_iconst (v := 5) hx hb dX6_readNumber_111 (by decide) ?_
    refine lv_icmp_gt (tgt := 125) hx hb dX6_readNumber_112 (by decide) (fun c40 => ?_) (fun c40 => ?_)
    · have c40 : (5 : Int) < x39.toInt := wk_lt.mp c40
      exact J125 v102_3 f102_1_1 f102_1_2 f102_1_3 H locs ls w24 (show 0 ≤ f102_1_1.toInt by omega) (show f102_1_1.toInt ≤ 400 by omega) (show 1 ≤ f102_1_2.toInt by omega) (show f102_1_2.toInt ≤ 400 by omega) (show 0 ≤ f102_1_3.toInt by omega) (show f102_1_3.toInt ≤ 399 by omega)  hw hT hF c27 c30 c33 c34 (lv_sub hl [0, 1, 2, 3] rfl)
    · have c40 : x39.toInt ≤ (5 : Int) := wk_ltF c40
      refine lv_iload_n hx hb dX6_readNumber_115 rfl (lv_at hl 3 rfl) ?_
      refine lv_iload_n hx hb dX6_readNumber_116 rfl (lv_at hl 1 rfl) ?_
      refine lv_icmp_lt (tgt := 125) hx hb dX6_readNumber_117 (by decide) (fun c41 => ?_) (fun c41 => ?_)
      · have c41 : v102_3.toInt < (2 : Int) := wk_lt.mp c41
        exact J125 v102_3 f102_1_1 f102_1_2 f102_1_3 H locs ls w24 (show 0 ≤ f102_1_1.toInt by omega) (show f102_1_1.toInt ≤ 400 by omega) (show 1 ≤ f102_1_2.toInt by omega) (show f102_1_2.toInt ≤ 400 by omega) (show 0 ≤ f102_1_3.toInt by omega) (show f102_1_3.toInt ≤ 399 by omega)  hw hT hF c27 c30 c33 c34 (lv_sub hl [0, 1, 2, 3] rfl)
      · have c41 : (2 : Int) ≤ v102_3.toInt := wk_ltF c41
        refine lv_iload_n hx hb dX6_readNumber_120 rfl (lv_at hl 3 rfl) ?_
        refine lv_iload_n hx hb dX6_readNumber_121 rfl (lv_at hl 2 rfl) ?_
        refine lv_icmp_le (tgt := 136) hx hb dX6_readNumber_122 (by decide) (fun c42 => ?_) (fun c42 => ?_)
        · have c42 : v102_3.toInt ≤ (10 : Int) := wk_le.mp c42
          refine lv_iload_n hx hb dX6_readNumber_136 rfl (lv_at hl 3 rfl) ?_
          exact tk_iret hC hr hlocks hK ⟨hT, hF, (Or.inl ⟨(show 2 ≤ v102_3.toInt by omega), (show v102_3.toInt ≤ 10 by omega), ⟨f102_1_2, c30, (show 1 ≤ f102_1_2.toInt by omega), (show f102_1_2.toInt ≤ 400 by omega)⟩, ⟨f102_1_3, c33, (show 0 ≤ f102_1_3.toInt by omega), (show f102_1_3.toInt ≤ 399 by omega)⟩, ⟨0, c34, (by decide), (by decide)⟩⟩)⟩ hw dX6_readNumber_137
        · have c42 : (10 : Int) < v102_3.toInt := wk_leF c42
          exact J125 v102_3 f102_1_1 f102_1_2 f102_1_3 H locs ls w24 (show 0 ≤ f102_1_1.toInt by omega) (show f102_1_1.toInt ≤ 400 by omega) (show 1 ≤ f102_1_2.toInt by omega) (show f102_1_2.toInt ≤ 400 by omega) (show 0 ≤ f102_1_3.toInt by omega) (show f102_1_3.toInt ≤ 399 by omega)  hw hT hF c27 c30 c33 c34 (lv_sub hl [0, 1, 2, 3] rfl)
  have L32 : ∀ (n32 : Nat) (v32_3 : Int32) (f32_1_1 : Int32) (f32_1_2 : Int32) (f32_1_3 : Int32) (H : Heap) (locs : List Loc) (ls : Array Slot) (w43 : va_W), 0 ≤ f32_1_1.toInt → f32_1_1.toInt ≤ 400 → 1 ≤ f32_1_2.toInt → f32_1_2.toInt ≤ 400 → 0 ≤ f32_1_3.toInt → f32_1_3.toInt ≤ 399 → (400 - f32_1_1.toInt).toNat < n32 → Wd dC dI A s.heap H locs w43 → TW ksC ad cy B qr s1 w43 → FE ksC [(6, 1, 1), (6, 3, 3), (6, 4, 4)] w0 w43 → gi w43 1 1 = f32_1_1 → gi w43 1 2 = f32_1_2 → gi w43 1 3 = f32_1_3 → gi w43 1 4 = 0 → lv_has ls 4 [(0, .ref (ad 1)), (1, .int 2), (2, .int 10), (3, .int v32_3)] → W p l e ({ frames := 2, cells := 0, slots := 0, locals := 34 }) s m (List.toArray [.ref (ad 1), .int 2, .int 10]) below meth c H locs 0 0 (MQ below (va_Qi (P_X6_readNumber_2 ad cy B qr s1  w0) (fun u : va_W => wpost dC dI cy A u) A) (List.toArray [.ref (ad 1), .int 2, .int 10]) s 0 0 A) (F0 m 32 ls []) := by
    intro n32
    induction n32 with
    | zero => intro v32_3 f32_1_1 f32_1_2 f32_1_3 H locs ls w43 r44 t45 r47 t48 r50 t51 hm32 hw hT hF c46 c49 c52 c53 hl; omega
    | succ n32 ih32 =>
      intro v32_3 f32_1_1 f32_1_2 f32_1_3 H locs ls w43 r44 t45 r47 t48 r50 t51 hm32 hw hT hF c46 c49 c52 c53 hl
      have J89 : ∀ (v89_3 : Int32) (H : Heap) (locs : List Loc) (ls : Array Slot) (w54 : va_W), 0 ≤ f32_1_1.toInt → f32_1_1.toInt ≤ 399 → 1 ≤ f32_1_2.toInt → f32_1_2.toInt ≤ 400 → 0 ≤ f32_1_3.toInt → f32_1_3.toInt ≤ 399 → Wd dC dI A s.heap H locs w54 → TW ksC ad cy B qr s1 w54 → FE ksC [(6, 1, 1), (6, 3, 3), (6, 4, 4)] w0 w54 → gi w54 1 1 = f32_1_1 → gi w54 1 2 = f32_1_2 → gi w54 1 3 = f32_1_3 → gi w54 1 4 = 0 → lv_has ls 4 [(0, .ref (ad 1)), (1, .int 2), (2, .int 10), (3, .int v89_3)] → W p l e ({ frames := 2, cells := 0, slots := 0, locals := 34 }) s m (List.toArray [.ref (ad 1), .int 2, .int 10]) below meth c H locs 0 0 (MQ below (va_Qi (P_X6_readNumber_2 ad cy B qr s1  w0) (fun u : va_W => wpost dC dI cy A u) A) (List.toArray [.ref (ad 1), .int 2, .int 10]) s 0 0 A) (F0 m 89 ls []) := by
        intro v89_3 H locs ls w54 r55 t56 r58 t59 r61 t62 hw hT hF c57 c60 c63 c64 hl
        refine lv_aload_n hx hb dX6_readNumber_89 rfl (lv_at hl 0 rfl) ?_
        refine lv_dup hx hb dX6_readNumber_90 rfl ?_
        refine tk_geti hC hK hw hT hinX6 kC_at1 (by decide) rfl 1 (by decide) (List.mem_of_getElem? (i := 2) rfl) rfl rfl dX6_readNumber_91 (fun x65 c66 rx65 tx65 => ?_)
        refine wk_top f32_1_1 (c66.symm.trans c57) ?_
        refine lv_iconst (v := 1) hx hb dX6_readNumber_94 (by decide) ?_
        refine lv_iadd hx hb dX6_readNumber_95 ?_
        refine lv_topi (fun x67 ex67 => ?_)
        have ex67 : x67.toInt = f32_1_1.toInt + (1 : Int) := by rw [ex67]; exact wk_add (show (-2147483648) ≤ f32_1_1.toInt + (1 : Int) by omega) (show f32_1_1.toInt + (1 : Int) ≤ 2147483647 by omega)
        refine tk_puti hC hK hw hT hinX6 tyX6_ok nmX6 kC_at1 (by decide) rfl rfl 1 (by decide) (List.mem_of_getElem? (i := 2) rfl) rfl rfl rfl rfl (show 0 ≤ x67.toInt by omega) (show x67.toInt ≤ 400 by omega) dX6_readNumber_96 (fun H locs w68 hw hT k70 c69 => ?_)
        have hF := hF.put kC_at1 (k := 1) (by decide) k70
        have c71 := k70.gi (Or.inr (by decide)) c60
        have c72 := k70.gi (Or.inr (by decide)) c63
        have c73 := k70.gi (Or.inr (by decide)) c64
        refine lv_goto (tgt := 32) hx hb dX6_readNumber_99 (by decide) ?_
        exact ih32 v89_3 x67 f32_1_2 f32_1_3 H locs ls w68 (show 0 ≤ x67.toInt by omega) (show x67.toInt ≤ 400 by omega) (show 1 ≤ f32_1_2.toInt by omega) (show f32_1_2.toInt ≤ 400 by omega) (show 0 ≤ f32_1_3.toInt by omega) (show f32_1_3.toInt ≤ 399 by omega) (show (400 - x67.toInt).toNat < n32 by omega) hw hT hF c69 c71 c72 c73 (lv_sub hl [0, 1, 2, 3] rfl)
      refine lv_aload_n hx hb dX6_readNumber_32 rfl (lv_at hl 0 rfl) ?_
      refine tk_geti hC hK hw hT hinX6 kC_at1 (by decide) rfl 1 (by decide) (List.mem_of_getElem? (i := 2) rfl) rfl rfl dX6_readNumber_33 (fun x74 c75 rx74 tx74 => ?_)
      refine wk_top f32_1_1 (c75.symm.trans c46) ?_
      refine lv_aload_n hx hb dX6_readNumber_36 rfl (lv_at hl 0 rfl) ?_
      refine tk_geti hC hK hw hT hinX6 kC_at1 (by decide) rfl 2 (by decide) (List.mem_of_getElem? (i := 3) rfl) rfl rfl dX6_readNumber_37 (fun x76 c77 rx76 tx76 => ?_)
      refine wk_top f32_1_2 (c77.symm.trans c49) ?_
      refine lv_icmp_ge (tgt := 102) hx hb dX6_readNumber_40 (by decide) (fun c78 => ?_) (fun c78 => ?_)
      · have c78 : f32_1_2.toInt ≤ f32_1_1.toInt := wk_le.mp c78
        exact J102 v32_3 f32_1_1 f32_1_2 f32_1_3 H locs ls w43 (show 0 ≤ f32_1_1.toInt by omega) (show f32_1_1.toInt ≤ 400 by omega) (show 1 ≤ f32_1_2.toInt by omega) (show f32_1_2.toInt ≤ 400 by omega) (show 0 ≤ f32_1_3.toInt by omega) (show f32_1_3.toInt ≤ 399 by omega)  hw hT hF c46 c49 c52 c53 (lv_sub hl [0, 1, 2, 3] rfl)
      · have c78 : f32_1_1.toInt < f32_1_2.toInt := wk_leF c78
        refine lv_aload_n hx hb dX6_readNumber_43 rfl (lv_at hl 0 rfl) ?_
        refine tk_getA hC hK hw hT hinX6 kC_at1 (by decide) rfl 0 (by decide) (List.mem_of_getElem? (i := 4) rfl) rfl rfl dX6_readNumber_44 ?_
        refine lv_aload_n hx hb dX6_readNumber_47 rfl (lv_at hl 0 rfl) ?_
        refine tk_geti hC hK hw hT hinX6 kC_at1 (by decide) rfl 1 (by decide) (List.mem_of_getElem? (i := 2) rfl) rfl rfl dX6_readNumber_48 (fun x79 c80 rx79 tx79 => ?_)
        refine wk_top f32_1_1 (c80.symm.trans c46) ?_
        refine tk_iald hC hK hw hT kC_at2 rfl rfl (show 0 ≤ f32_1_1.toInt by omega) (show f32_1_1.toInt < 400 by omega) dX6_readNumber_51 (fun x81 c82 rx81 tx81 => ?_)
        refine tk_Si hC hK hw hT hA hE hSR (k_X6_isDigit_1 l adK adV dC dI cy ad B (by omega) (by omega) qr s1   x81 (show 0 ≤ x81.toInt by omega) (show x81.toInt ≤ 255 by omega) w43 H.size hT ) (va_cwS 1 hC.2.2.2.2 gX6_readNumber_X6_isDigit rfl rfl rfl (by decide +kernel) ⟨Nat.le_of_ble_eq_true rfl, Nat.le_of_ble_eq_true rfl⟩) rfl hl.1 rfl (Nat.le_of_ble_eq_true rfl) dX6_readNumber_52 (fun r83 w85 H locs hp84 hw => ?_)
        obtain ⟨hT, k86, hg89⟩ := hp84
        have hF := hF.tr k86 (by decide)
        have c90 := k86.gi kC_at1 (by decide) c46
        have c91 := k86.gi kC_at1 (by decide) c49
        have c92 := k86.gi kC_at1 (by decide) c52
        have c93 := k86.gi kC_at1 (by decide) c53
        rcases hg89 with rfl | ⟨rfl, g87, g88⟩
        · refine lv_if_eq (tgt := 102) hx hb dX6_readNumber_55 (by decide) (fun _ => ?_) (fun c => absurd (by decide) c)
          exact J102 v32_3 f32_1_1 f32_1_2 f32_1_3 H locs ls w85 (show 0 ≤ f32_1_1.toInt by omega) (show f32_1_1.toInt ≤ 400 by omega) (show 1 ≤ f32_1_2.toInt by omega) (show f32_1_2.toInt ≤ 400 by omega) (show 0 ≤ f32_1_3.toInt by omega) (show f32_1_3.toInt ≤ 399 by omega)  hw hT hF c90 c91 c92 c93 (lv_sub hl [0, 1, 2, 3] rfl)
        · refine lv_if_eq (tgt := 102) hx hb dX6_readNumber_55 (by decide) (fun c => absurd c (by decide)) (fun _ => ?_)
          refine lv_aload_n hx hb dX6_readNumber_58 rfl (lv_at hl 0 rfl) ?_
          refine tk_geti hC hK hw hT hinX6 kC_at1 (by decide) rfl 1 (by decide) (List.mem_of_getElem? (i := 2) rfl) rfl rfl dX6_readNumber_59 (fun x94 c95 rx94 tx94 => ?_)
          refine wk_top f32_1_1 (c95.symm.trans c90) ?_
          refine lv_aload_n hx hb dX6_readNumber_62 rfl (lv_at hl 0 rfl) ?_
          refine tk_geti hC hK hw hT hinX6 kC_at1 (by decide) rfl 3 (by decide) (List.mem_of_getElem? (i := 1) rfl) rfl rfl dX6_readNumber_63 (fun x96 c97 rx96 tx96 => ?_)
          refine wk_top f32_1_3 (c97.symm.trans c92) ?_
          refine lv_isub hx hb dX6_readNumber_66 ?_
          refine lv_topi (fun x98 ex98 => ?_)
          have ex98 : x98.toInt = f32_1_1.toInt - f32_1_3.toInt := by rw [ex98]; exact wk_sub (show (-2147483648) ≤ f32_1_1.toInt - f32_1_3.toInt by omega) (show f32_1_1.toInt - f32_1_3.toInt ≤ 2147483647 by omega)
          refine lv_iconst (v := 5) hx hb dX6_readNumber_67 (by decide) ?_
          refine lv_icmp_ge (tgt := 89) hx hb dX6_readNumber_68 (by decide) (fun c99 => ?_) (fun c99 => ?_)
          · have c99 : (5 : Int) ≤ x98.toInt := wk_le.mp c99
            exact J89 v32_3 H locs ls w85 (show 0 ≤ f32_1_1.toInt by omega) (show f32_1_1.toInt ≤ 399 by omega) (show 1 ≤ f32_1_2.toInt by omega) (show f32_1_2.toInt ≤ 400 by omega) (show 0 ≤ f32_1_3.toInt by omega) (show f32_1_3.toInt ≤ 399 by omega)  hw hT hF c90 c91 c92 c93 (lv_sub hl [0, 1, 2, 3] rfl)
          · have c99 : x98.toInt < (5 : Int) := wk_leF c99
            refine lv_iload_n hx hb dX6_readNumber_71 rfl (lv_at hl 3 rfl) ?_
            refine lv_bipush (v := 10) hx hb dX6_readNumber_72 (by decide) ?_
            refine lv_imul hx hb dX6_readNumber_74 ?_
            have nx100 := wk_i32 v32_3
            refine lv_topi (fun x101 ex101 => ?_)
            refine lv_aload_n hx hb dX6_readNumber_75 rfl (lv_at hl 0 rfl) ?_
            refine tk_getA hC hK hw hT hinX6 kC_at1 (by decide) rfl 0 (by decide) (List.mem_of_getElem? (i := 4) rfl) rfl rfl dX6_readNumber_76 ?_
            refine lv_aload_n hx hb dX6_readNumber_79 rfl (lv_at hl 0 rfl) ?_
            refine tk_geti hC hK hw hT hinX6 kC_at1 (by decide) rfl 1 (by decide) (List.mem_of_getElem? (i := 2) rfl) rfl rfl dX6_readNumber_80 (fun x102 c103 rx102 tx102 => ?_)
            refine wk_top f32_1_1 (c103.symm.trans c90) ?_
            refine tk_iald hC hK hw hT kC_at2 rfl rfl (show 0 ≤ f32_1_1.toInt by omega) (show f32_1_1.toInt < 400 by omega) dX6_readNumber_83 (fun x104 c105 rx104 tx104 => ?_)
            refine lv_iadd hx hb dX6_readNumber_84 ?_
            have nx106 := wk_i32 x101
            refine lv_topi (fun x107 ex107 => ?_)
            refine lv_bipush (v := 48) hx hb dX6_readNumber_85 (by decide) ?_
            refine lv_isub hx hb dX6_readNumber_87 ?_
            have nx108 := wk_i32 x107
            refine lv_topi (fun x109 ex109 => ?_)
            refine lv_istore_n (lv' := [(3, .int x109), (0, .ref (ad 1)), (1, .int 2), (2, .int 10)]) hx hb dX6_readNumber_88 rfl hl (by decide) rfl (fun ls hl => ?_)
            exact J89 x109 H locs ls w85 (show 0 ≤ f32_1_1.toInt by omega) (show f32_1_1.toInt ≤ 399 by omega) (show 1 ≤ f32_1_2.toInt by omega) (show f32_1_2.toInt ≤ 400 by omega) (show 0 ≤ f32_1_3.toInt by omega) (show f32_1_3.toInt ≤ 399 by omega)  hw hT hF c90 c91 c92 c93 (lv_sub hl [1, 2, 3, 0] rfl)
  refine lv_aload_n hx hb dX6_readNumber_0 rfl (lv_at hl 0 rfl) ?_
  refine tk_Vi hC hK hw hT hA hE hSR kC_at1 (by decide) rfl (k_X6_isFaulty_2 l adK adV dC dI cy ad B (by omega) (by omega) qr s1    w0 s.heap.size hT cf0_) (cwV 0 hC.2.2.2.2 gX6_readNumber_X6_isFaulty rfl rfl rfl (by decide +kernel) ⟨Nat.le_of_ble_eq_true rfl, Nat.le_of_ble_eq_true rfl⟩) rfl hl.1 rfl (Nat.le_of_ble_eq_true rfl) dX6_readNumber_1 (fun r110 w112 H locs hp111 hw => ?_)
  obtain ⟨hT, k113, hg116⟩ := hp111
  have hF := hF.tr k113 (by decide)
  have c117 := k113.gi kC_at1 (by decide) cf0_
  obtain ⟨rfl, ⟨x114, c115, rx114, tx114⟩⟩ := hg116
  have ex114 : x114.toInt = (0 : Int) := by rw [show x114 = 0 from c115.symm.trans c117]; decide
  refine lv_if_eq (tgt := 9) hx hb dX6_readNumber_4 (by decide) (fun _ => ?_) (fun c => absurd (by decide) c)
  refine lv_aload_n hx hb dX6_readNumber_9 rfl (lv_at hl 0 rfl) ?_
  refine tk_Vi hC hK hw hT hA hE hSR kC_at1 (by decide) rfl (k_X6_lookBehindBlanks_1 l adK adV dC dI cy ad B (by omega) (by omega) qr s1    w112 H.size hT ) (cwV 0 hC.2.2.2.2 gX6_readNumber_X6_lookBehindBlanks rfl rfl rfl (by decide +kernel) ⟨Nat.le_of_ble_eq_true rfl, Nat.le_of_ble_eq_true rfl⟩) rfl hl.1 rfl (Nat.le_of_ble_eq_true rfl) dX6_readNumber_10 (fun r118 w120 H locs hp119 hw => ?_)
  obtain ⟨hT, k121, hg130⟩ := hp119
  have hF := hF.tr k121 (by decide)
  have c131 := k121.gi kC_at1 (by decide) c117
  rcases hg130 with ⟨g122, g123, ⟨x124, c125, rx124, tx124⟩, ⟨x126, c127, rx126, tx126⟩, ⟨x128, c129, rx128, tx128⟩⟩ | rfl
  · refine tk_Si hC hK hw hT hA hE hSR (k_X6_isDigit_1 l adK adV dC dI cy ad B (by omega) (by omega) qr s1   r118 (show 0 ≤ r118.toInt by omega) (show r118.toInt ≤ 255 by omega) w120 H.size hT ) (va_cwS 1 hC.2.2.2.2 gX6_readNumber_X6_isDigit rfl rfl rfl (by decide +kernel) ⟨Nat.le_of_ble_eq_true rfl, Nat.le_of_ble_eq_true rfl⟩) rfl hl.1 rfl (Nat.le_of_ble_eq_true rfl) dX6_readNumber_13 (fun r132 w134 H locs hp133 hw => ?_)
    obtain ⟨hT, k135, hg138⟩ := hp133
    have hF := hF.tr k135 (by decide)
    have c139 := k135.gi kC_at1 (by decide) c131
    have c140 := k135.gi kC_at1 (by decide) c125
    have c141 := k135.gi kC_at1 (by decide) c127
    have c142 := k135.gi kC_at1 (by decide) c129
    rcases hg138 with rfl | ⟨rfl, g136, g137⟩
    · refine lv_if_ne (tgt := 30) hx hb dX6_readNumber_16 (by decide) (fun c => absurd (by decide) c) (fun _ => ?_)
      refine lv_aload_n hx hb dX6_readNumber_19 rfl (lv_at hl 0 rfl) ?_
      refine lv_aload_n hx hb dX6_readNumber_20 rfl (lv_at hl 0 rfl) ?_
      refine tk_geti hC hK hw hT hinX6 kC_at1 (by decide) rfl 3 (by decide) (List.mem_of_getElem? (i := 1) rfl) rfl rfl dX6_readNumber_21 (fun x143 c144 rx143 tx143 => ?_)
      refine wk_top x128 (c144.symm.trans c142) ?_
      refine lv_iconst (v := 0) hx hb dX6_readNumber_24 (by decide) ?_
      refine tk_Vv hC hK hw hT hA hE hSR kC_at1 (by decide) rfl (k_X6_blame_1 l adK adV dC dI cy ad B (by omega) (by omega) qr s1   x128 (show 0 ≤ x128.toInt by omega) (show x128.toInt ≤ 400 by omega) 0 (by decide) (by decide) w134 H.size hT c139) (cwV 2 hC.2.2.2.2 gX6_readNumber_X6_blame rfl rfl rfl (by decide +kernel) ⟨Nat.le_of_ble_eq_true rfl, Nat.le_of_ble_eq_true rfl⟩) rfl hl.1 rfl (Nat.le_of_ble_eq_true rfl) dX6_readNumber_25 (fun w147 H locs hp146 hw => ?_)
      obtain ⟨hT, k148, hg151⟩ := hp146
      have hF := hF.tr k148 (by decide)
      have c152 := k148.gi kC_at1 (by decide) c140
      have c153 := k148.gi kC_at1 (by decide) c141
      have c154 := k148.gi kC_at1 (by decide) c142
      obtain ⟨x149, c150, rx149, tx149⟩ := hg151
      refine lv_iconst (v := (-1)) hx hb dX6_readNumber_28 (by decide) ?_
      exact tk_iret hC hr hlocks hK ⟨hT, hF, (Or.inr ⟨rfl, ⟨x149, c150, (show 1 ≤ x149.toInt by omega), (show x149.toInt ≤ 3205 by omega)⟩⟩)⟩ hw dX6_readNumber_29
    · refine lv_if_ne (tgt := 30) hx hb dX6_readNumber_16 (by decide) (fun _ => ?_) (fun c => absurd c (by decide))
      refine lv_iconst (v := 0) hx hb dX6_readNumber_30 (by decide) ?_
      refine lv_istore_n (lv' := [(3, .int 0), (0, .ref (ad 1)), (1, .int 2), (2, .int 10)]) hx hb dX6_readNumber_31 rfl hl (by decide) rfl (fun ls hl => ?_)
      exact L32 ((400 - x124.toInt).toNat + 1) 0 x124 x126 x128 H locs ls w134 (show 0 ≤ x124.toInt by omega) (show x124.toInt ≤ 400 by omega) (show 1 ≤ x126.toInt by omega) (show x126.toInt ≤ 400 by omega) (show 0 ≤ x128.toInt by omega) (show x128.toInt ≤ 399 by omega) (Nat.lt_succ_self _) hw hT hF c140 c141 c142 c139 (lv_sub hl [1, 2, 3, 0] rfl)
  · refine tk_Si hC hK hw hT hA hE hSR (k_X6_isDigit_2 l adK adV dC dI cy ad B (by omega) (by omega) qr s1    w120 H.size hT ) (va_cwS 1 hC.2.2.2.2 gX6_readNumber_X6_isDigit rfl rfl rfl (by decide +kernel) ⟨Nat.le_of_ble_eq_true rfl, Nat.le_of_ble_eq_true rfl⟩) rfl hl.1 rfl (Nat.le_of_ble_eq_true rfl) dX6_readNumber_13 (fun r155 w157 H locs hp156 hw => ?_)
    obtain ⟨hT, k158, hg159⟩ := hp156
    have hF := hF.tr k158 (by decide)
    have c160 := k158.gi kC_at1 (by decide) c131
    obtain rfl := hg159
    refine lv_if_ne (tgt := 30) hx hb dX6_readNumber_16 (by decide) (fun c => absurd (by decide) c) (fun _ => ?_)
    refine lv_aload_n hx hb dX6_readNumber_19 rfl (lv_at hl 0 rfl) ?_
    refine lv_aload_n hx hb dX6_readNumber_20 rfl (lv_at hl 0 rfl) ?_
    refine tk_geti hC hK hw hT hinX6 kC_at1 (by decide) rfl 3 (by decide) (List.mem_of_getElem? (i := 1) rfl) rfl rfl dX6_readNumber_21 (fun x161 c162 rx161 tx161 => ?_)
    refine lv_iconst (v := 0) hx hb dX6_readNumber_24 (by decide) ?_
    refine tk_Vv hC hK hw hT hA hE hSR kC_at1 (by decide) rfl (k_X6_blame_1 l adK adV dC dI cy ad B (by omega) (by omega) qr s1   x161 (show 0 ≤ x161.toInt by omega) (show x161.toInt ≤ 400 by omega) 0 (by decide) (by decide) w157 H.size hT c160) (cwV 2 hC.2.2.2.2 gX6_readNumber_X6_blame rfl rfl rfl (by decide +kernel) ⟨Nat.le_of_ble_eq_true rfl, Nat.le_of_ble_eq_true rfl⟩) rfl hl.1 rfl (Nat.le_of_ble_eq_true rfl) dX6_readNumber_25 (fun w165 H locs hp164 hw => ?_)
    obtain ⟨hT, k166, hg169⟩ := hp164
    have hF := hF.tr k166 (by decide)
    have c170 := k166.gi kC_at1 (by decide) c162
    obtain ⟨x167, c168, rx167, tx167⟩ := hg169
    refine lv_iconst (v := (-1)) hx hb dX6_readNumber_28 (by decide) ?_
    exact tk_iret hC hr hlocks hK ⟨hT, hF, (Or.inr ⟨rfl, ⟨x167, c168, (show 1 ≤ x167.toInt by omega), (show x167.toInt ≤ 3205 by omega)⟩⟩)⟩ hw dX6_readNumber_29
abbrev P_X7_readClause_1 (ad : Nat → Nat) (cy : Nat → ClassId) (B : Int) (qr : Nat) (s1 : Int)  (w0 : va_W) : va_W → Prop := fun u => TW ksC ad cy B qr s1 u ∧ FE ksC [(6, 1, 1), (6, 3, 3), (6, 4, 4), (7, 8, 8)] w0 u ∧ (((∃ y : Int32, gi u 1 4 = y ∧ 1 ≤ y.toInt ∧ y.toInt ≤ 3205)) ∨ ((∃ y : Int32, gi u 1 4 = y ∧ 0 ≤ y.toInt ∧ y.toInt ≤ 3205)))
set_option maxHeartbeats 4000000 in
set_option maxRecDepth 100000 in
theorem k_X7_readClause_1 (l : Launch) (adK adV : Nat → Nat) (dC : Nat → ClassId) (dI : Nat → Nat → Nat) (cy : Nat → ClassId) (ad : Nat → Nat) (B : Int) (hB0 : 2147483648 ≤ B) (hB1 : B ≤ 1152921504606846976) (qr : Nat) (s1 : Int)   (w0 : va_W) (sz : Nat) (hT : TW ksC ad cy B qr s1 w0)  : Met l yX7_readClause wsX7_readClause ({ frames := 3, cells := 0, slots := 0, locals := 57 }) (va_Pc [.ref (ad 29), .ref (ad 1), .int 0] (wpreS adK adV dC dI cy sz w0)) (va_Qv (P_X7_readClause_1 ad cy B qr s1  w0) (fun u : va_W => wpost dC dI cy (va_A w0 sz) u) (va_A w0 sz)) 0 0 (va_A w0 sz) := by
  refine Met.ofW (cc := cX7_readClause) (maxL := 3) (ret := none) (by decide) rfl ?_
  intro p e s m args below meth c s₁ Bk hml hv
  obtain ⟨rfl, ⟨hsz, hP, hK, hD0⟩, hE, hSR⟩ := hv
  have hx := Bk.exec
  have hb := Bk.bytes
  have hr := Bk.returns
  have hlocks := Bk.notSynchronized
  have hC : CallFix p m c cX7_readClause 3 s _ wsX7_readClause RX7 := ⟨hx, hb, hml, findClass_of_methodNamed Bk.named, atoms_spec (ws := wsX7_readClause) Bk.pre⟩
  subst hsz
  have hD := hD0.self (sz := s.heap.size)
  generalize hAe : va_A w0 s.heap.size = A at hD hE ⊢
  have hA : ∀ q : Nat, s.heap.size ≤ q → A q := fun q h => by rw [← hAe]; exact Or.inr h
  have hw : Wd dC dI A s.heap s.heap [] w0 := ⟨hP, hD, va_S.rf⟩
  have hF : FE ksC [(6, 1, 1), (6, 3, 3), (6, 4, 4), (7, 8, 8)] w0 w0 := FE.rf
  have hl := lv_entry ([.ref (ad 29), .ref (ad 1), .int 0]) (n := 3) (Nat.le_of_ble_eq_true rfl)
  rw [lg_entry_eq]
  generalize (lg_sl ([.ref (ad 29), .ref (ad 1), .int 0]) ++ List.replicate (3 - (lg_sl ([.ref (ad 29), .ref (ad 1), .int 0])).length) Slot.unset).toArray = ls at hl ⊢
  have hl : lv_has ls 3 [(0, .ref (ad 29)), (1, .ref (ad 1)), (2, .int 0)] := hl
  generalize hloc : ([] : List Loc) = locs at hw ⊢
  have hinX7 : ∀ w ∈ u_ws RX7 TX7 12, w ∈ wsX7_readClause := fun _ h => List.mem_cons_of_mem _ (List.mem_append_left _ (List.mem_append_right _ (h)))
  have J57 : ∀ (f57_1_4 : Int32) (f57_29_8 : Int32) (H : Heap) (locs : List Loc) (ls : Array Slot) (w1 : va_W), 0 ≤ f57_1_4.toInt → f57_1_4.toInt ≤ 3205 → (-1) ≤ f57_29_8.toInt → f57_29_8.toInt ≤ 10 → Wd dC dI A s.heap H locs w1 → TW ksC ad cy B qr s1 w1 → FE ksC [(6, 1, 1), (6, 3, 3), (6, 4, 4), (7, 8, 8)] w0 w1 → gi w1 1 4 = f57_1_4 → gi w1 29 8 = f57_29_8 → lv_has ls 3 [(0, .ref (ad 29)), (1, .ref (ad 1)), (2, .int 0)] → W p l e ({ frames := 3, cells := 0, slots := 0, locals := 57 }) s m (List.toArray [.ref (ad 29), .ref (ad 1), .int 0]) below meth c H locs 0 0 (MQ below (va_Qv (P_X7_readClause_1 ad cy B qr s1  w0) (fun u : va_W => wpost dC dI cy A u) A) (List.toArray [.ref (ad 29), .ref (ad 1), .int 0]) s 0 0 A) (F0 m 57 ls []) := by
    intro f57_1_4 f57_29_8 H locs ls w1 r2 t3 r5 t6 hw hT hF c4 c7 hl
    exact tk_vret hC hr hlocks hK ⟨hT, hF, (Or.inr ⟨f57_1_4, c4, (show 0 ≤ f57_1_4.toInt by omega), (show f57_1_4.toInt ≤ 3205 by omega)⟩)⟩ hw dX7_readClause_57
  refine lv_aload_n hx hb dX7_readClause_0 rfl (lv_at hl 1 rfl) ?_
  refine tk_Vi hC hK hw hT hA hE hSR kC_at1 (by decide) rfl (k_X6_isFaulty_1 l adK adV dC dI cy ad B (by omega) (by omega) qr s1    w0 s.heap.size hT ) (cwV 0 hC.2.2.2.2 gX7_readClause_X6_isFaulty rfl rfl rfl (by decide +kernel) ⟨Nat.le_of_ble_eq_true rfl, Nat.le_of_ble_eq_true rfl⟩) rfl hl.1 rfl (Nat.le_of_ble_eq_true rfl) dX7_readClause_1 (fun r8 w10 H locs hp9 hw => ?_)
  obtain ⟨hT, k11, hg16⟩ := hp9
  have hF := hF.tr k11 (by decide)
  rcases hg16 with ⟨rfl, ⟨x12, c13, rx12, tx12⟩⟩ | ⟨rfl, ⟨x14, c15, rx14, tx14⟩⟩
  · refine lv_if_eq (tgt := 8) hx hb dX7_readClause_4 (by decide) (fun _ => ?_) (fun c => absurd (by decide) c)
    refine lv_iload_n hx hb dX7_readClause_8 rfl (lv_at hl 2 rfl) ?_
    refine lv_if_ne (tgt := 26) hx hb dX7_readClause_9 (by decide) (fun c => absurd (by decide) c) (fun _ => ?_)
    refine lv_aload_n hx hb dX7_readClause_12 rfl (lv_at hl 0 rfl) ?_
    refine lv_aload_n hx hb dX7_readClause_13 rfl (lv_at hl 1 rfl) ?_
    refine lv_iconst (v := 2) hx hb dX7_readClause_14 (by decide) ?_
    refine lv_bipush (v := 10) hx hb dX7_readClause_15 (by decide) ?_
    refine tk_Vi hC hK hw hT hA hE hSR kC_at1 (by decide) rfl (k_X6_readNumber_2 l adK adV dC dI cy ad B (by omega) (by omega) qr s1    w10 H.size hT (c13.trans (wk_eq.mpr (show x12.toInt = 0 by omega)))) (cwV 2 hC.2.2.2.2 gX7_readClause_X6_readNumber rfl rfl rfl (by decide +kernel) ⟨Nat.le_of_ble_eq_true rfl, Nat.le_of_ble_eq_true rfl⟩) rfl hl.1 rfl (Nat.le_of_ble_eq_true rfl) dX7_readClause_17 (fun r17 w19 H locs hp18 hw => ?_)
    obtain ⟨hT, k20, hg31⟩ := hp18
    have hF := hF.tr k20 (by decide)
    rcases hg31 with ⟨g21, g22, ⟨x23, c24, rx23, tx23⟩, ⟨x25, c26, rx25, tx25⟩, ⟨x27, c28, rx27, tx27⟩⟩ | ⟨rfl, ⟨x29, c30, rx29, tx29⟩⟩
    · refine tk_puti hC hK hw hT hinX7 tyX7_ok nmX7 kC_at29 (by decide) rfl rfl 8 (by decide) (List.mem_of_getElem? (i := 1) rfl) rfl rfl rfl rfl (show (-1) ≤ r17.toInt by omega) (show r17.toInt ≤ 10 by omega) dX7_readClause_20 (fun H locs w32 hw hT k34 c33 => ?_)
      have hF := hF.put kC_at29 (k := 8) (by decide) k34
      have c35 := k34.gi (Or.inr (by decide)) c24
      have c36 := k34.gi (Or.inr (by decide)) c26
      have c37 := k34.gi (Or.inr (by decide)) c28
      refine lv_goto (tgt := 57) hx hb dX7_readClause_23 (by decide) ?_
      exact J57 x27 r17 H locs ls w32 (show 0 ≤ x27.toInt by omega) (show x27.toInt ≤ 3205 by omega) (show (-1) ≤ r17.toInt by omega) (show r17.toInt ≤ 10 by omega)  hw hT hF c37 c33 (lv_sub hl [0, 1, 2] rfl)
    · refine tk_puti hC hK hw hT hinX7 tyX7_ok nmX7 kC_at29 (by decide) rfl rfl 8 (by decide) (List.mem_of_getElem? (i := 1) rfl) rfl rfl rfl rfl (by decide) (by decide) dX7_readClause_20 (fun H locs w38 hw hT k40 c39 => ?_)
      have hF := hF.put kC_at29 (k := 8) (by decide) k40
      have c41 := k40.gi (Or.inr (by decide)) c30
      refine lv_goto (tgt := 57) hx hb dX7_readClause_23 (by decide) ?_
      exact J57 x29 (-1) H locs ls w38 (show 0 ≤ x29.toInt by omega) (show x29.toInt ≤ 3205 by omega) (by decide) (by decide)  hw hT hF c41 c39 (lv_sub hl [0, 1, 2] rfl)
  · refine lv_if_eq (tgt := 8) hx hb dX7_readClause_4 (by decide) (fun c => absurd c (by decide)) (fun _ => ?_)
    exact tk_vret hC hr hlocks hK ⟨hT, hF, (Or.inl ⟨x14, c15, (show 1 ≤ x14.toInt by omega), (show x14.toInt ≤ 3205 by omega)⟩)⟩ hw dX7_readClause_7
abbrev P_X6_takeSemicolon_2 (ad : Nat → Nat) (cy : Nat → ClassId) (B : Int) (qr : Nat) (s1 : Int)  (w0 : va_W) : Int32 → va_W → Prop := fun r u => TW ksC ad cy B qr s1 u ∧ FE ksC ([] : List (Nat × Nat × Nat)) w0 u ∧ ((r = 0 ∧ (∃ y : Int32, gi u 1 4 = y ∧ 1 ≤ y.toInt ∧ y.toInt ≤ 3205)))
set_option maxHeartbeats 4000000 in
set_option maxRecDepth 100000 in
theorem k_X6_takeSemicolon_2 (l : Launch) (adK adV : Nat → Nat) (dC : Nat → ClassId) (dI : Nat → Nat → Nat) (cy : Nat → ClassId) (ad : Nat → Nat) (B : Int) (hB0 : 2147483648 ≤ B) (hB1 : B ≤ 1152921504606846976) (qr : Nat) (s1 : Int)   (w0 : va_W) (sz : Nat) (hT : TW ksC ad cy B qr s1 w0) (f0_ : Int32) (cf0_ : gi w0 1 4 = f0_) (rf0_ : 1 ≤ f0_.toInt) (tf0_ : f0_.toInt ≤ 3205) : Met l yX6_takeSemicolon wsX6_takeSemicolon ({ frames := 2, cells := 0, slots := 0, locals := 32 }) (va_Pc [.ref (ad 1)] (wpreS adK adV dC dI cy sz w0)) (va_Qi (P_X6_takeSemicolon_2 ad cy B qr s1  w0) (fun u : va_W => wpost dC dI cy (va_A w0 sz) u) (va_A w0 sz)) 0 0 (va_A w0 sz) := by
  refine Met.ofW (cc := cX6_takeSemicolon) (maxL := 1) (ret := (some .boolean)) (by decide) rfl ?_
  intro p e s m args below meth c s₁ Bk hml hv
  obtain ⟨rfl, ⟨hsz, hP, hK, hD0⟩, hE, hSR⟩ := hv
  have hx := Bk.exec
  have hb := Bk.bytes
  have hr := Bk.returns
  have hlocks := Bk.notSynchronized
  have hC : CallFix p m c cX6_takeSemicolon 1 s _ wsX6_takeSemicolon RX6 := ⟨hx, hb, hml, findClass_of_methodNamed Bk.named, atoms_spec (ws := wsX6_takeSemicolon) Bk.pre⟩
  subst hsz
  have hD := hD0.self (sz := s.heap.size)
  generalize hAe : va_A w0 s.heap.size = A at hD hE ⊢
  have hA : ∀ q : Nat, s.heap.size ≤ q → A q := fun q h => by rw [← hAe]; exact Or.inr h
  have hw : Wd dC dI A s.heap s.heap [] w0 := ⟨hP, hD, va_S.rf⟩
  have hF : FE ksC ([] : List (Nat × Nat × Nat)) w0 w0 := FE.rf
  have hl := lv_entry ([.ref (ad 1)]) (n := 1) (Nat.le_of_ble_eq_true rfl)
  rw [lg_entry_eq]
  generalize (lg_sl ([.ref (ad 1)]) ++ List.replicate (1 - (lg_sl ([.ref (ad 1)])).length) Slot.unset).toArray = ls at hl ⊢
  have hl : lv_has ls 1 [(0, .ref (ad 1))] := hl
  generalize hloc : ([] : List Loc) = locs at hw ⊢
  refine lv_aload_n hx hb dX6_takeSemicolon_0 rfl (lv_at hl 0 rfl) ?_
  refine tk_Vi hC hK hw hT hA hE hSR kC_at1 (by decide) rfl (k_X6_isFaulty_3 l adK adV dC dI cy ad B (by omega) (by omega) qr s1    w0 s.heap.size hT f0_ cf0_ (show 1 ≤ f0_.toInt by omega) (show f0_.toInt ≤ 3205 by omega)) (cwV 0 hC.2.2.2.2 gX6_takeSemicolon_X6_isFaulty rfl rfl rfl (by decide +kernel) ⟨Nat.le_of_ble_eq_true rfl, Nat.le_of_ble_eq_true rfl⟩) rfl hl.1 rfl (Nat.le_of_ble_eq_true rfl) dX6_takeSemicolon_1 (fun r1 w3 H locs hp2 hw => ?_)
  obtain ⟨hT, k4, hg7⟩ := hp2
  have hF := hF.tr k4 (by decide)
  have c8 := k4.gi kC_at1 (by decide) cf0_
  obtain ⟨rfl, ⟨x5, c6, rx5, tx5⟩⟩ := hg7
  have ex5 : x5.toInt = f0_.toInt := by rw [← c8.symm.trans c6]
  refine lv_if_eq (tgt := 9) hx hb dX6_takeSemicolon_4 (by decide) (fun c => absurd c (by decide)) (fun _ => ?_)
  refine lv_iconst (v := 0) hx hb dX6_takeSemicolon_7 (by decide) ?_
  exact tk_zret hC hr rfl hlocks hK ⟨hT, hF, ⟨rfl, ⟨f0_, c8, (show 1 ≤ f0_.toInt by omega), (show f0_.toInt ≤ 3205 by omega)⟩⟩⟩ hw dX6_takeSemicolon_8
abbrev P_X6_readNumber_3 (ad : Nat → Nat) (cy : Nat → ClassId) (B : Int) (qr : Nat) (s1 : Int) (a2 : Int32) (w0 : va_W) : Int32 → va_W → Prop := fun r u => TW ksC ad cy B qr s1 u ∧ FE ksC [(6, 1, 1), (6, 3, 3), (6, 4, 4)] w0 u ∧ ((0 ≤ r.toInt ∧ r.toInt ≤ 9 ∧ 0 ≤ a2.toInt ∧ (∃ y : Int32, gi u 1 2 = y ∧ 1 ≤ y.toInt ∧ y.toInt ≤ 400) ∧ (∃ y : Int32, gi u 1 3 = y ∧ 0 ≤ y.toInt ∧ y.toInt ≤ 399) ∧ (∃ y : Int32, gi u 1 4 = y ∧ 0 ≤ y.toInt ∧ y.toInt ≤ 0)) ∨ (r = (-1) ∧ (∃ y : Int32, gi u 1 4 = y ∧ 1 ≤ y.toInt ∧ y.toInt ≤ 3205)))
set_option maxHeartbeats 4000000 in
set_option maxRecDepth 100000 in
theorem k_X6_readNumber_3 (l : Launch) (adK adV : Nat → Nat) (dC : Nat → ClassId) (dI : Nat → Nat → Nat) (cy : Nat → ClassId) (ad : Nat → Nat) (B : Int) (hB0 : 2147483648 ≤ B) (hB1 : B ≤ 1152921504606846976) (qr : Nat) (s1 : Int)  (a2 : Int32) (ra2 : (-2) ≤ a2.toInt) (ta2 : a2.toInt ≤ 9) (w0 : va_W) (sz : Nat) (hT : TW ksC ad cy B qr s1 w0) (cf0_ : gi w0 1 4 = 0) : Met l yX6_readNumber wsX6_readNumber ({ frames := 2, cells := 0, slots := 0, locals := 34 }) (va_Pc [.ref (ad 1), .int 0, .int a2] (wpreS adK adV dC dI cy sz w0)) (va_Qi (P_X6_readNumber_3 ad cy B qr s1 a2 w0) (fun u : va_W => wpost dC dI cy (va_A w0 sz) u) (va_A w0 sz)) 0 0 (va_A w0 sz) := by
  refine Met.ofW (cc := cX6_readNumber) (maxL := 4) (ret := (some .int)) (by decide) rfl ?_
  intro p e s m args below meth c s₁ Bk hml hv
  obtain ⟨rfl, ⟨hsz, hP, hK, hD0⟩, hE, hSR⟩ := hv
  have hx := Bk.exec
  have hb := Bk.bytes
  have hr := Bk.returns
  have hlocks := Bk.notSynchronized
  have hC : CallFix p m c cX6_readNumber 4 s _ wsX6_readNumber RX6 := ⟨hx, hb, hml, findClass_of_methodNamed Bk.named, atoms_spec (ws := wsX6_readNumber) Bk.pre⟩
  subst hsz
  have hD := hD0.self (sz := s.heap.size)
  generalize hAe : va_A w0 s.heap.size = A at hD hE ⊢
  have hA : ∀ q : Nat, s.heap.size ≤ q → A q := fun q h => by rw [← hAe]; exact Or.inr h
  have hw : Wd dC dI A s.heap s.heap [] w0 := ⟨hP, hD, va_S.rf⟩
  have hF : FE ksC [(6, 1, 1), (6, 3, 3), (6, 4, 4)] w0 w0 := FE.rf
  have hl := lv_entry ([.ref (ad 1), .int 0, .int a2]) (n := 4) (Nat.le_of_ble_eq_true rfl)
  rw [lg_entry_eq]
  generalize (lg_sl ([.ref (ad 1), .int 0, .int a2]) ++ List.replicate (4 - (lg_sl ([.ref (ad 1), .int 0, .int a2])).length) Slot.unset).toArray = ls at hl ⊢
  have hl : lv_has ls 4 [(0, .ref (ad 1)), (1, .int 0), (2, .int a2)] := hl
  generalize hloc : ([] : List Loc) = locs at hw ⊢
  have hinX6 : ∀ w ∈ u_ws RX6 TX6 5, w ∈ wsX6_readNumber := fun _ h => List.mem_cons_of_mem _ (List.mem_append_right _ (h))
  have J125 : ∀ (v125_3 : Int32) (f125_1_1 : Int32) (f125_1_2 : Int32) (f125_1_3 : Int32) (H : Heap) (locs : List Loc) (ls : Array Slot) (w1 : va_W), (-2) ≤ a2.toInt → a2.toInt ≤ 9 → 0 ≤ f125_1_1.toInt → f125_1_1.toInt ≤ 400 → 1 ≤ f125_1_2.toInt → f125_1_2.toInt ≤ 400 → 0 ≤ f125_1_3.toInt → f125_1_3.toInt ≤ 399 → Wd dC dI A s.heap H locs w1 → TW ksC ad cy B qr s1 w1 → FE ksC [(6, 1, 1), (6, 3, 3), (6, 4, 4)] w0 w1 → gi w1 1 1 = f125_1_1 → gi w1 1 2 = f125_1_2 → gi w1 1 3 = f125_1_3 → gi w1 1 4 = 0 → lv_has ls 4 [(0, .ref (ad 1)), (1, .int 0), (2, .int a2), (3, .int v125_3)] → W p l e ({ frames := 2, cells := 0, slots := 0, locals := 34 }) s m (List.toArray [.ref (ad 1), .int 0, .int a2]) below meth c H locs 0 0 (MQ below (va_Qi (P_X6_readNumber_3 ad cy B qr s1 a2 w0) (fun u : va_W => wpost dC dI cy A u) A) (List.toArray [.ref (ad 1), .int 0, .int a2]) s 0 0 A) (F0 m 125 ls []) := by
    intro v125_3 f125_1_1 f125_1_2 f125_1_3 H locs ls w1 r2 t3 r4 t5 r7 t8 r10 t11 hw hT hF c6 c9 c12 c13 hl
    refine lv_aload_n hx hb dX6_readNumber_125 rfl (lv_at hl 0 rfl) ?_
    refine lv_aload_n hx hb dX6_readNumber_126 rfl (lv_at hl 0 rfl) ?_
    refine tk_geti hC hK hw hT hinX6 kC_at1 (by decide) rfl 3 (by decide) (List.mem_of_getElem? (i := 1) rfl) rfl rfl dX6_readNumber_127 (fun x14 c15 rx14 tx14 => ?_)
    refine wk_top f125_1_3 (c15.symm.trans c12) ?_
    refine lv_iconst (v := 1) hx hb dX6_readNumber_130 (by decide) ?_
    refine tk_Vv hC hK hw hT hA hE hSR kC_at1 (by decide) rfl (k_X6_blame_1 l adK adV dC dI cy ad B (by omega) (by omega) qr s1   f125_1_3 (show 0 ≤ f125_1_3.toInt by omega) (show f125_1_3.toInt ≤ 400 by omega) 1 (by decide) (by decide) w1 H.size hT c13) (cwV 2 hC.2.2.2.2 gX6_readNumber_X6_blame rfl rfl rfl (by decide +kernel) ⟨Nat.le_of_ble_eq_true rfl, Nat.le_of_ble_eq_true rfl⟩) rfl hl.1 rfl (Nat.le_of_ble_eq_true rfl) dX6_readNumber_131 (fun w18 H locs hp17 hw => ?_)
    obtain ⟨hT, k19, hg22⟩ := hp17
    have hF := hF.tr k19 (by decide)
    have c23 := k19.gi kC_at1 (by decide) c6
    have c24 := k19.gi kC_at1 (by decide) c9
    have c25 := k19.gi kC_at1 (by decide) c12
    obtain ⟨x20, c21, rx20, tx20⟩ := hg22
    refine lv_iconst (v := (-1)) hx hb dX6_readNumber_134 (by decide) ?_
    exact tk_iret hC hr hlocks hK ⟨hT, hF, (Or.inr ⟨rfl, ⟨x20, c21, (show 1 ≤ x20.toInt by omega), (show x20.toInt ≤ 3205 by omega)⟩⟩)⟩ hw dX6_readNumber_135
  have J102 : ∀ (v102_3 : Int32) (f102_1_1 : Int32) (f102_1_2 : Int32) (f102_1_3 : Int32) (H : Heap) (locs : List Loc) (ls : Array Slot) (w26 : va_W), (-2) ≤ a2.toInt → a2.toInt ≤ 9 → 0 ≤ f102_1_1.toInt → f102_1_1.toInt ≤ 400 → 1 ≤ f102_1_2.toInt → f102_1_2.toInt ≤ 400 → 0 ≤ f102_1_3.toInt → f102_1_3.toInt ≤ 399 → Wd dC dI A s.heap H locs w26 → TW ksC ad cy B qr s1 w26 → FE ksC [(6, 1, 1), (6, 3, 3), (6, 4, 4)] w0 w26 → gi w26 1 1 = f102_1_1 → gi w26 1 2 = f102_1_2 → gi w26 1 3 = f102_1_3 → gi w26 1 4 = 0 → lv_has ls 4 [(0, .ref (ad 1)), (1, .int 0), (2, .int a2), (3, .int v102_3)] → W p l e ({ frames := 2, cells := 0, slots := 0, locals := 34 }) s m (List.toArray [.ref (ad 1), .int 0, .int a2]) below meth c H locs 0 0 (MQ below (va_Qi (P_X6_readNumber_3 ad cy B qr s1 a2 w0) (fun u : va_W => wpost dC dI cy A u) A) (List.toArray [.ref (ad 1), .int 0, .int a2]) s 0 0 A) (F0 m 102 ls []) := by
    intro v102_3 f102_1_1 f102_1_2 f102_1_3 H locs ls w26 r27 t28 r29 t30 r32 t33 r35 t36 hw hT hF c31 c34 c37 c38 hl
    refine lv_aload_n hx hb dX6_readNumber_102 rfl (lv_at hl 0 rfl) ?_
    refine tk_geti hC hK hw hT hinX6 kC_at1 (by decide) rfl 1 (by decide) (List.mem_of_getElem? (i := 2) rfl) rfl rfl dX6_readNumber_103 (fun x39 c40 rx39 tx39 => ?_)
    refine wk_top f102_1_1 (c40.symm.trans c31) ?_
    refine lv_aload_n hx hb dX6_readNumber_106 rfl (lv_at hl 0 rfl) ?_
    refine tk_geti hC hK hw hT hinX6 kC_at1 (by decide) rfl 3 (by decide) (List.mem_of_getElem? (i := 1) rfl) rfl rfl dX6_readNumber_107 (fun x41 c42 rx41 tx41 => ?_)
    refine wk_top f102_1_3 (c42.symm.trans c37) ?_
    refine lv_isub hx hb dX6_readNumber_110 ?_
    refine lv_topi (fun x43 ex43 => ?_)
    have ex43 : x43.toInt = f102_1_1.toInt - f102_1_3.toInt := by rw [ex43]; exact wk_sub (show (-2147483648) ≤ f102_1_1.toInt - f102_1_3.toInt by omega) (show f102_1_1.toInt - f102_1_3.toInt ≤ 2147483647 by omega)
    refine lv_iconst (v := 5) hx hb dX6_readNumber_111 (by decide) ?_
    refine lv_icmp_gt (tgt := 125) hx hb dX6_readNumber_112 (by decide) (fun c44 => ?_) (fun c44 => ?_)
    · have c44 : (5 : Int) < x43.toInt := wk_lt.mp c44
      exact J125 v102_3 f102_1_1 f102_1_2 f102_1_3 H locs ls w26 (show (-2) ≤ a2.toInt by omega) (show a2.toInt ≤ 9 by omega) (show 0 ≤ f102_1_1.toInt by omega) (show f102_1_1.toInt ≤ 400 by omega) (show 1 ≤ f102_1_2.toInt by omega) (show f102_1_2.toInt ≤ 400 by omega) (show 0 ≤ f102_1_3.toInt by omega) (show f102_1_3.toInt ≤ 399 by omega)  hw hT hF c31 c34 c37 c38 (lv_sub hl [0, 1, 2, 3] rfl)
    · have c44 : x43.toInt ≤ (5 : Int) := wk_ltF c44
      refine lv_iload_n hx hb dX6_readNumber_115 rfl (lv_at hl 3 rfl) ?_
      refine lv_iload_n hx hb dX6_readNumber_116 rfl (lv_at hl 1 rfl) ?_
      refine lv_icmp_lt (tgt := 125) hx hb dX6_readNumber_117 (by decide) (fun c45 => ?_) (fun c45 => ?_)
      · have c45 : v102_3.toInt < (0 : Int) := wk_lt.mp c45
        exact J125 v102_3 f102_1_1 f102_1_2 f102_1_3 H locs ls w26 (show (-2) ≤ a2.toInt by omega) (show a2.toInt ≤ 9 by omega) (show 0 ≤ f102_1_1.toInt by omega) (show f102_1_1.toInt ≤ 400 by omega) (show 1 ≤ f102_1_2.toInt by omega) (show f102_1_2.toInt ≤ 400 by omega) (show 0 ≤ f102_1_3.toInt by omega) (show f102_1_3.toInt ≤ 399 by omega)  hw hT hF c31 c34 c37 c38 (lv_sub hl [0, 1, 2, 3] rfl)
      · have c45 : (0 : Int) ≤ v102_3.toInt := wk_ltF c45
        refine lv_iload_n hx hb dX6_readNumber_120 rfl (lv_at hl 3 rfl) ?_
        refine lv_iload_n hx hb dX6_readNumber_121 rfl (lv_at hl 2 rfl) ?_
        refine lv_icmp_le (tgt := 136) hx hb dX6_readNumber_122 (by decide) (fun c46 => ?_) (fun c46 => ?_)
        · have c46 : v102_3.toInt ≤ a2.toInt := wk_le.mp c46
          refine lv_iload_n hx hb dX6_readNumber_136 rfl (lv_at hl 3 rfl) ?_
          exact tk_iret hC hr hlocks hK ⟨hT, hF, (Or.inl ⟨(show 0 ≤ v102_3.toInt by omega), (show v102_3.toInt ≤ 9 by omega), (show 0 ≤ a2.toInt by omega), ⟨f102_1_2, c34, (show 1 ≤ f102_1_2.toInt by omega), (show f102_1_2.toInt ≤ 400 by omega)⟩, ⟨f102_1_3, c37, (show 0 ≤ f102_1_3.toInt by omega), (show f102_1_3.toInt ≤ 399 by omega)⟩, ⟨0, c38, (by decide), (by decide)⟩⟩)⟩ hw dX6_readNumber_137
        · have c46 : a2.toInt < v102_3.toInt := wk_leF c46
          exact J125 v102_3 f102_1_1 f102_1_2 f102_1_3 H locs ls w26 (show (-2) ≤ a2.toInt by omega) (show a2.toInt ≤ 9 by omega) (show 0 ≤ f102_1_1.toInt by omega) (show f102_1_1.toInt ≤ 400 by omega) (show 1 ≤ f102_1_2.toInt by omega) (show f102_1_2.toInt ≤ 400 by omega) (show 0 ≤ f102_1_3.toInt by omega) (show f102_1_3.toInt ≤ 399 by omega)  hw hT hF c31 c34 c37 c38 (lv_sub hl [0, 1, 2, 3] rfl)
  have L32 : ∀ (n32 : Nat) (v32_3 : Int32) (f32_1_1 : Int32) (f32_1_2 : Int32) (f32_1_3 : Int32) (H : Heap) (locs : List Loc) (ls : Array Slot) (w47 : va_W), (-2) ≤ a2.toInt → a2.toInt ≤ 9 → 0 ≤ f32_1_1.toInt → f32_1_1.toInt ≤ 400 → 1 ≤ f32_1_2.toInt → f32_1_2.toInt ≤ 400 → 0 ≤ f32_1_3.toInt → f32_1_3.toInt ≤ 399 → (400 - f32_1_1.toInt).toNat < n32 → Wd dC dI A s.heap H locs w47 → TW ksC ad cy B qr s1 w47 → FE ksC [(6, 1, 1), (6, 3, 3), (6, 4, 4)] w0 w47 → gi w47 1 1 = f32_1_1 → gi w47 1 2 = f32_1_2 → gi w47 1 3 = f32_1_3 → gi w47 1 4 = 0 → lv_has ls 4 [(0, .ref (ad 1)), (1, .int 0), (2, .int a2), (3, .int v32_3)] → W p l e ({ frames := 2, cells := 0, slots := 0, locals := 34 }) s m (List.toArray [.ref (ad 1), .int 0, .int a2]) below meth c H locs 0 0 (MQ below (va_Qi (P_X6_readNumber_3 ad cy B qr s1 a2 w0) (fun u : va_W => wpost dC dI cy A u) A) (List.toArray [.ref (ad 1), .int 0, .int a2]) s 0 0 A) (F0 m 32 ls []) := by
    intro n32
    induction n32 with
    | zero => intro v32_3 f32_1_1 f32_1_2 f32_1_3 H locs ls w47 r48 t49 r50 t51 r53 t54 r56 t57 hm32 hw hT hF c52 c55 c58 c59 hl; omega
    | succ n32 ih32 =>
      intro v32_3 f32_1_1 f32_1_2 f32_1_3 H locs ls w47 r48 t49 r50 t51 r53 t54 r56 t57 hm32 hw hT hF c52 c55 c58 c59 hl
      have J89 : ∀ (v89_3 : Int32) (H : Heap) (locs : List Loc) (ls : Array Slot) (w60 : va_W), (-2) ≤ a2.toInt → a2.toInt ≤ 9 → 0 ≤ f32_1_1.toInt → f32_1_1.toInt ≤ 399 → 1 ≤ f32_1_2.toInt → f32_1_2.toInt ≤ 400 → 0 ≤ f32_1_3.toInt → f32_1_3.toInt ≤ 399 → Wd dC dI A s.heap H locs w60 → TW ksC ad cy B qr s1 w60 → FE ksC [(6, 1, 1), (6, 3, 3), (6, 4, 4)] w0 w60 → gi w60 1 1 = f32_1_1 → gi w60 1 2 = f32_1_2 → gi w60 1 3 = f32_1_3 → gi w60 1 4 = 0 → lv_has ls 4 [(0, .ref (ad 1)), (1, .int 0), (2, .int a2), (3, .int v89_3)] → W p l e ({ frames := 2, cells := 0, slots := 0, locals := 34 }) s m (List.toArray [.ref (ad 1), .int 0, .int a2]) below meth c H locs 0 0 (MQ below (va_Qi (P_X6_readNumber_3 ad cy B qr s1 a2 w0) (fun u : va_W => wpost dC dI cy A u) A) (List.toArray [.ref (ad 1), .int 0, .int a2]) s 0 0 A) (F0 m 89 ls []) := by
        intro v89_3 H locs ls w60 r61 t62 r63 t64 r66 t67 r69 t70 hw hT hF c65 c68 c71 c72 hl
        refine lv_aload_n hx hb dX6_readNumber_89 rfl (lv_at hl 0 rfl) ?_
        refine lv_dup hx hb dX6_readNumber_90 rfl ?_
        refine tk_geti hC hK hw hT hinX6 kC_at1 (by decide) rfl 1 (by decide) (List.mem_of_getElem? (i := 2) rfl) rfl rfl dX6_readNumber_91 (fun x73 c74 rx73 tx73 => ?_)
        refine wk_top f32_1_1 (c74.symm.trans c65) ?_
        refine lv_iconst (v := 1) hx hb dX6_readNumber_94 (by decide) ?_
        refine lv_iadd hx hb dX6_readNumber_95 ?_
        refine lv_topi (fun x75 ex75 => ?_)
        have ex75 : x75.toInt = f32_1_1.toInt + (1 : Int) := by rw [ex75]; exact wk_add (show (-2147483648) ≤ f32_1_1.toInt + (1 : Int) by omega) (show f32_1_1.toInt + (1 : Int) ≤ 2147483647 by omega)
        refine tk_puti hC hK hw hT hinX6 tyX6_ok nmX6 kC_at1 (by decide) rfl rfl 1 (by decide) (List.mem_of_getElem? (i := 2) rfl) rfl rfl rfl rfl (show 0 ≤ x75.toInt by omega) (show x75.toInt ≤ 400 by omega) dX6_readNumber_96 (fun H locs w76 hw hT k78 c77 => ?_)
        have hF := hF.put kC_at1 (k := 1) (by decide) k78
        have c79 := k78.gi (Or.inr (by decide)) c68
        have c80 := k78.gi (Or.inr (by decide)) c71
        have c81 := k78.gi (Or.inr (by decide)) c72
        refine lv_goto (tgt := 32) hx hb dX6_readNumber_99 (by decide) ?_
        exact ih32 v89_3 x75 f32_1_2 f32_1_3 H locs ls w76 (show (-2) ≤ a2.toInt by omega) (show a2.toInt ≤ 9 by omega) (show 0 ≤ x75.toInt by omega) (show x75.toInt ≤ 400 by omega) (show 1 ≤ f32_1_2.toInt by omega) (show f32_1_2.toInt ≤ 400 by omega) (show 0 ≤ f32_1_3.toInt by omega) (show f32_1_3.toInt ≤ 399 by omega) (show (400 - x75.toInt).toNat < n32 by omega) hw hT hF c77 c79 c80 c81 (lv_sub hl [0, 1, 2, 3] rfl)
      refine lv_aload_n hx hb dX6_readNumber_32 rfl (lv_at hl 0 rfl) ?_
      refine tk_geti hC hK hw hT hinX6 kC_at1 (by decide) rfl 1 (by decide) (List.mem_of_getElem? (i := 2) rfl) rfl rfl dX6_readNumber_33 (fun x82 c83 rx82 tx82 => ?_)
      refine wk_top f32_1_1 (c83.symm.trans c52) ?_
      refine lv_aload_n hx hb dX6_readNumber_36 rfl (lv_at hl 0 rfl) ?_
      refine tk_geti hC hK hw hT hinX6 kC_at1 (by decide) rfl 2 (by decide) (List.mem_of_getElem? (i := 3) rfl) rfl rfl dX6_readNumber_37 (fun x84 c85 rx84 tx84 => ?_)
      refine wk_top f32_1_2 (c85.symm.trans c55) ?_
      refine lv_icmp_ge (tgt := 102) hx hb dX6_readNumber_40 (by decide) (fun c86 => ?_) (fun c86 => ?_)
      · have c86 : f32_1_2.toInt ≤ f32_1_1.toInt := wk_le.mp c86
        exact J102 v32_3 f32_1_1 f32_1_2 f32_1_3 H locs ls w47 (show (-2) ≤ a2.toInt by omega) (show a2.toInt ≤ 9 by omega) (show 0 ≤ f32_1_1.toInt by omega) (show f32_1_1.toInt ≤ 400 by omega) (show 1 ≤ f32_1_2.toInt by omega) (show f32_1_2.toInt ≤ 400 by omega) (show 0 ≤ f32_1_3.toInt by omega) (show f32_1_3.toInt ≤ 399 by omega)  hw hT hF c52 c55 c58 c59 (lv_sub hl [0, 1, 2, 3] rfl)
      · have c86 : f32_1_1.toInt < f32_1_2.toInt := wk_leF c86
        refine lv_aload_n hx hb dX6_readNumber_43 rfl (lv_at hl 0 rfl) ?_
        refine tk_getA hC hK hw hT hinX6 kC_at1 (by decide) rfl 0 (by decide) (List.mem_of_getElem? (i := 4) rfl) rfl rfl dX6_readNumber_44 ?_
        refine lv_aload_n hx hb dX6_readNumber_47 rfl (lv_at hl 0 rfl) ?_
        refine tk_geti hC hK hw hT hinX6 kC_at1 (by decide) rfl 1 (by decide) (List.mem_of_getElem? (i := 2) rfl) rfl rfl dX6_readNumber_48 (fun x87 c88 rx87 tx87 => ?_)
        refine wk_top f32_1_1 (c88.symm.trans c52) ?_
        refine tk_iald hC hK hw hT kC_at2 rfl rfl (show 0 ≤ f32_1_1.toInt by omega) (show f32_1_1.toInt < 400 by omega) dX6_readNumber_51 (fun x89 c90 rx89 tx89 => ?_)
        refine tk_Si hC hK hw hT hA hE hSR (k_X6_isDigit_1 l adK adV dC dI cy ad B (by omega) (by omega) qr s1   x89 (show 0 ≤ x89.toInt by omega) (show x89.toInt ≤ 255 by omega) w47 H.size hT ) (va_cwS 1 hC.2.2.2.2 gX6_readNumber_X6_isDigit rfl rfl rfl (by decide +kernel) ⟨Nat.le_of_ble_eq_true rfl, Nat.le_of_ble_eq_true rfl⟩) rfl hl.1 rfl (Nat.le_of_ble_eq_true rfl) dX6_readNumber_52 (fun r91 w93 H locs hp92 hw => ?_)
        obtain ⟨hT, k94, hg97⟩ := hp92
        have hF := hF.tr k94 (by decide)
        have c98 := k94.gi kC_at1 (by decide) c52
        have c99 := k94.gi kC_at1 (by decide) c55
        have c100 := k94.gi kC_at1 (by decide) c58
        have c101 := k94.gi kC_at1 (by decide) c59
        rcases hg97 with rfl | ⟨rfl, g95, g96⟩
        · refine lv_if_eq (tgt := 102) hx hb dX6_readNumber_55 (by decide) (fun _ => ?_) (fun c => absurd (by decide) c)
          exact J102 v32_3 f32_1_1 f32_1_2 f32_1_3 H locs ls w93 (show (-2) ≤ a2.toInt by omega) (show a2.toInt ≤ 9 by omega) (show 0 ≤ f32_1_1.toInt by omega) (show f32_1_1.toInt ≤ 400 by omega) (show 1 ≤ f32_1_2.toInt by omega) (show f32_1_2.toInt ≤ 400 by omega) (show 0 ≤ f32_1_3.toInt by omega) (show f32_1_3.toInt ≤ 399 by omega)  hw hT hF c98 c99 c100 c101 (lv_sub hl [0, 1, 2, 3] rfl)
        · refine lv_if_eq (tgt := 102) hx hb dX6_readNumber_55 (by decide) (fun c => absurd c (by decide)) (fun _ => ?_)
          refine lv_aload_n hx hb dX6_readNumber_58 rfl (lv_at hl 0 rfl) ?_
          refine tk_geti hC hK hw hT hinX6 kC_at1 (by decide) rfl 1 (by decide) (List.mem_of_getElem? (i := 2) rfl) rfl rfl dX6_readNumber_59 (fun x102 c103 rx102 tx102 => ?_)
          refine wk_top f32_1_1 (c103.symm.trans c98) ?_
          refine lv_aload_n hx hb dX6_readNumber_62 rfl (lv_at hl 0 rfl) ?_
          refine tk_geti hC hK hw hT hinX6 kC_at1 (by decide) rfl 3 (by decide) (List.mem_of_getElem? (i := 1) rfl) rfl rfl dX6_readNumber_63 (fun x104 c105 rx104 tx104 => ?_)
          refine wk_top f32_1_3 (c105.symm.trans c100) ?_
          refine lv_isub hx hb dX6_readNumber_66 ?_
          refine lv_topi (fun x106 ex106 => ?_)
          have ex106 : x106.toInt = f32_1_1.toInt - f32_1_3.toInt := by rw [ex106]; exact wk_sub (show (-2147483648) ≤ f32_1_1.toInt - f32_1_3.toInt by omega) (show f32_1_1.toInt - f32_1_3.toInt ≤ 2147483647 by omega)
          refine lv_iconst (v := 5) hx hb dX6_readNumber_67 (by decide) ?_
          refine lv_icmp_ge (tgt := 89) hx hb dX6_readNumber_68 (by decide) (fun c107 => ?_) (fun c107 => ?_)
          · have c107 : (5 : Int) ≤ x106.toInt := wk_le.mp c107
            exact J89 v32_3 H locs ls w93 (show (-2) ≤ a2.toInt by omega) (show a2.toInt ≤ 9 by omega) (show 0 ≤ f32_1_1.toInt by omega) (show f32_1_1.toInt ≤ 399 by omega) (show 1 ≤ f32_1_2.toInt by omega) (show f32_1_2.toInt ≤ 400 by omega) (show 0 ≤ f32_1_3.toInt by omega) (show f32_1_3.toInt ≤ 399 by omega)  hw hT hF c98 c99 c100 c101 (lv_sub hl [0, 1, 2, 3] rfl)
          · have c107 : x106.toInt < (5 : Int) := wk_leF c107
            refine lv_iload_n hx hb dX6_readNumber_71 rfl (lv_at hl 3 rfl) ?_
            refine lv_bipush (v := 10) hx hb dX6_readNumber_72 (by decide) ?_
            refine lv_imul hx hb dX6_readNumber_74 ?_
            have nx108 := wk_i32 v32_3
            refine lv_topi (fun x109 ex109 => ?_)
            refine lv_aload_n hx hb dX6_readNumber_75 rfl (lv_at hl 0 rfl) ?_
            refine tk_getA hC hK hw hT hinX6 kC_at1 (by decide) rfl 0 (by decide) (List.mem_of_getElem? (i := 4) rfl) rfl rfl dX6_readNumber_76 ?_
            refine lv_aload_n hx hb dX6_readNumber_79 rfl (lv_at hl 0 rfl) ?_
            refine tk_geti hC hK hw hT hinX6 kC_at1 (by decide) rfl 1 (by decide) (List.mem_of_getElem? (i := 2) rfl) rfl rfl dX6_readNumber_80 (fun x110 c111 rx110 tx110 => ?_)
            refine wk_top f32_1_1 (c111.symm.trans c98) ?_
            refine tk_iald hC hK hw hT kC_at2 rfl rfl (show 0 ≤ f32_1_1.toInt by omega) (show f32_1_1.toInt < 400 by omega) dX6_readNumber_83 (fun x112 c113 rx112 tx112 => ?_)
            refine lv_iadd hx hb dX6_readNumber_84 ?_
            have nx114 := wk_i32 x109
            refine lv_topi (fun x115 ex115 => ?_)
            refine lv_bipush (v := 48) hx hb dX6_readNumber_85 (by decide) ?_
            refine lv_isub hx hb dX6_readNumber_87 ?_
            have nx116 := wk_i32 x115
            refine lv_topi (fun x117 ex117 => ?_)
            refine lv_istore_n (lv' := [(3, .int x117), (0, .ref (ad 1)), (1, .int 0), (2, .int a2)]) hx hb dX6_readNumber_88 rfl hl (by decide) rfl (fun ls hl => ?_)
            exact J89 x117 H locs ls w93 (show (-2) ≤ a2.toInt by omega) (show a2.toInt ≤ 9 by omega) (show 0 ≤ f32_1_1.toInt by omega) (show f32_1_1.toInt ≤ 399 by omega) (show 1 ≤ f32_1_2.toInt by omega) (show f32_1_2.toInt ≤ 400 by omega) (show 0 ≤ f32_1_3.toInt by omega) (show f32_1_3.toInt ≤ 399 by omega)  hw hT hF c98 c99 c100 c101 (lv_sub hl [1, 2, 3, 0] rfl)
  refine lv_aload_n hx hb dX6_readNumber_0 rfl (lv_at hl 0 rfl) ?_
  refine tk_Vi hC hK hw hT hA hE hSR kC_at1 (by decide) rfl (k_X6_isFaulty_2 l adK adV dC dI cy ad B (by omega) (by omega) qr s1    w0 s.heap.size hT cf0_) (cwV 0 hC.2.2.2.2 gX6_readNumber_X6_isFaulty rfl rfl rfl (by decide +kernel) ⟨Nat.le_of_ble_eq_true rfl, Nat.le_of_ble_eq_true rfl⟩) rfl hl.1 rfl (Nat.le_of_ble_eq_true rfl) dX6_readNumber_1 (fun r118 w120 H locs hp119 hw => ?_)
  obtain ⟨hT, k121, hg124⟩ := hp119
  have hF := hF.tr k121 (by decide)
  have c125 := k121.gi kC_at1 (by decide) cf0_
  obtain ⟨rfl, ⟨x122, c123, rx122, tx122⟩⟩ := hg124
  have ex122 : x122.toInt = (0 : Int) := by rw [show x122 = 0 from c123.symm.trans c125]; decide
  refine lv_if_eq (tgt := 9) hx hb dX6_readNumber_4 (by decide) (fun _ => ?_) (fun c => absurd (by decide) c)
  refine lv_aload_n hx hb dX6_readNumber_9 rfl (lv_at hl 0 rfl) ?_
  refine tk_Vi hC hK hw hT hA hE hSR kC_at1 (by decide) rfl (k_X6_lookBehindBlanks_1 l adK adV dC dI cy ad B (by omega) (by omega) qr s1    w120 H.size hT ) (cwV 0 hC.2.2.2.2 gX6_readNumber_X6_lookBehindBlanks rfl rfl rfl (by decide +kernel) ⟨Nat.le_of_ble_eq_true rfl, Nat.le_of_ble_eq_true rfl⟩) rfl hl.1 rfl (Nat.le_of_ble_eq_true rfl) dX6_readNumber_10 (fun r126 w128 H locs hp127 hw => ?_)
  obtain ⟨hT, k129, hg138⟩ := hp127
  have hF := hF.tr k129 (by decide)
  have c139 := k129.gi kC_at1 (by decide) c125
  rcases hg138 with ⟨g130, g131, ⟨x132, c133, rx132, tx132⟩, ⟨x134, c135, rx134, tx134⟩, ⟨x136, c137, rx136, tx136⟩⟩ | rfl
  · refine tk_Si hC hK hw hT hA hE hSR (k_X6_isDigit_1 l adK adV dC dI cy ad B (by omega) (by omega) qr s1   r126 (show 0 ≤ r126.toInt by omega) (show r126.toInt ≤ 255 by omega) w128 H.size hT ) (va_cwS 1 hC.2.2.2.2 gX6_readNumber_X6_isDigit rfl rfl rfl (by decide +kernel) ⟨Nat.le_of_ble_eq_true rfl, Nat.le_of_ble_eq_true rfl⟩) rfl hl.1 rfl (Nat.le_of_ble_eq_true rfl) dX6_readNumber_13 (fun r140 w142 H locs hp141 hw => ?_)
    obtain ⟨hT, k143, hg146⟩ := hp141
    have hF := hF.tr k143 (by decide)
    have c147 := k143.gi kC_at1 (by decide) c139
    have c148 := k143.gi kC_at1 (by decide) c133
    have c149 := k143.gi kC_at1 (by decide) c135
    have c150 := k143.gi kC_at1 (by decide) c137
    rcases hg146 with rfl | ⟨rfl, g144, g145⟩
    · refine lv_if_ne (tgt := 30) hx hb dX6_readNumber_16 (by decide) (fun c => absurd (by decide) c) (fun _ => ?_)
      refine lv_aload_n hx hb dX6_readNumber_19 rfl (lv_at hl 0 rfl) ?_
      refine lv_aload_n hx hb dX6_readNumber_20 rfl (lv_at hl 0 rfl) ?_
      refine tk_geti hC hK hw hT hinX6 kC_at1 (by decide) rfl 3 (by decide) (List.mem_of_getElem? (i := 1) rfl) rfl rfl dX6_readNumber_21 (fun x151 c152 rx151 tx151 => ?_)
      refine wk_top x136 (c152.symm.trans c150) ?_
      refine lv_iconst (v := 0) hx hb dX6_readNumber_24 (by decide) ?_
      refine tk_Vv hC hK hw hT hA hE hSR kC_at1 (by decide) rfl (k_X6_blame_1 l adK adV dC dI cy ad B (by omega) (by omega) qr s1   x136 (show 0 ≤ x136.toInt by omega) (show x136.toInt ≤ 400 by omega) 0 (by decide) (by decide) w142 H.size hT c147) (cwV 2 hC.2.2.2.2 gX6_readNumber_X6_blame rfl rfl rfl (by decide +kernel) ⟨Nat.le_of_ble_eq_true rfl, Nat.le_of_ble_eq_true rfl⟩) rfl hl.1 rfl (Nat.le_of_ble_eq_true rfl) dX6_readNumber_25 (fun w155 H locs hp154 hw => ?_)
      obtain ⟨hT, k156, hg159⟩ := hp154
      have hF := hF.tr k156 (by decide)
      have c160 := k156.gi kC_at1 (by decide) c148
      have c161 := k156.gi kC_at1 (by decide) c149
      have c162 := k156.gi kC_at1 (by decide) c150
      obtain ⟨x157, c158, rx157, tx157⟩ := hg159
      refine lv_iconst (v := (-1)) hx hb dX6_readNumber_28 (by decide) ?_
      exact tk_iret hC hr hlocks hK ⟨hT, hF, (Or.inr ⟨rfl, ⟨x157, c158, (show 1 ≤ x157.toInt by omega), (show x157.toInt ≤ 3205 by omega)⟩⟩)⟩ hw dX6_readNumber_29
    · refine lv_if_ne (tgt := 30) hx hb dX6_readNumber_16 (by decide) (fun _ => ?_) (fun c => absurd c (by decide))
      refine lv_iconst (v := 0) hx hb dX6_readNumber_30 (by decide) ?_
      refine lv_istore_n (lv' := [(3, .int 0), (0, .ref (ad 1)), (1, .int 0), (2, .int a2)]) hx hb dX6_readNumber_31 rfl hl (by decide) rfl (fun ls hl => ?_)
      exact L32 ((400 - x132.toInt).toNat + 1) 0 x132 x134 x136 H locs ls w142 (show (-2) ≤ a2.toInt by omega) (show a2.toInt ≤ 9 by omega) (show 0 ≤ x132.toInt by omega) (show x132.toInt ≤ 400 by omega) (show 1 ≤ x134.toInt by omega) (show x134.toInt ≤ 400 by omega) (show 0 ≤ x136.toInt by omega) (show x136.toInt ≤ 399 by omega) (Nat.lt_succ_self _) hw hT hF c148 c149 c150 c147 (lv_sub hl [1, 2, 3, 0] rfl)
  · refine tk_Si hC hK hw hT hA hE hSR (k_X6_isDigit_2 l adK adV dC dI cy ad B (by omega) (by omega) qr s1    w128 H.size hT ) (va_cwS 1 hC.2.2.2.2 gX6_readNumber_X6_isDigit rfl rfl rfl (by decide +kernel) ⟨Nat.le_of_ble_eq_true rfl, Nat.le_of_ble_eq_true rfl⟩) rfl hl.1 rfl (Nat.le_of_ble_eq_true rfl) dX6_readNumber_13 (fun r163 w165 H locs hp164 hw => ?_)
    obtain ⟨hT, k166, hg167⟩ := hp164
    have hF := hF.tr k166 (by decide)
    have c168 := k166.gi kC_at1 (by decide) c139
    obtain rfl := hg167
    refine lv_if_ne (tgt := 30) hx hb dX6_readNumber_16 (by decide) (fun c => absurd (by decide) c) (fun _ => ?_)
    refine lv_aload_n hx hb dX6_readNumber_19 rfl (lv_at hl 0 rfl) ?_
    refine lv_aload_n hx hb dX6_readNumber_20 rfl (lv_at hl 0 rfl) ?_
    refine tk_geti hC hK hw hT hinX6 kC_at1 (by decide) rfl 3 (by decide) (List.mem_of_getElem? (i := 1) rfl) rfl rfl dX6_readNumber_21 (fun x169 c170 rx169 tx169 => ?_)
    refine lv_iconst (v := 0) hx hb dX6_readNumber_24 (by decide) ?_
    refine tk_Vv hC hK hw hT hA hE hSR kC_at1 (by decide) rfl (k_X6_blame_1 l adK adV dC dI cy ad B (by omega) (by omega) qr s1   x169 (show 0 ≤ x169.toInt by omega) (show x169.toInt ≤ 400 by omega) 0 (by decide) (by decide) w165 H.size hT c168) (cwV 2 hC.2.2.2.2 gX6_readNumber_X6_blame rfl rfl rfl (by decide +kernel) ⟨Nat.le_of_ble_eq_true rfl, Nat.le_of_ble_eq_true rfl⟩) rfl hl.1 rfl (Nat.le_of_ble_eq_true rfl) dX6_readNumber_25 (fun w173 H locs hp172 hw => ?_)
    obtain ⟨hT, k174, hg177⟩ := hp172
    have hF := hF.tr k174 (by decide)
    have c178 := k174.gi kC_at1 (by decide) c170
    obtain ⟨x175, c176, rx175, tx175⟩ := hg177
    refine lv_iconst (v := (-1)) hx hb dX6_readNumber_28 (by decide) ?_
    exact tk_iret hC hr hlocks hK ⟨hT, hF, (Or.inr ⟨rfl, ⟨x175, c176, (show 1 ≤ x175.toInt by omega), (show x175.toInt ≤ 3205 by omega)⟩⟩)⟩ hw dX6_readNumber_29
abbrev P_X6_readNumber_4 (ad : Nat → Nat) (cy : Nat → ClassId) (B : Int) (qr : Nat) (s1 : Int) (a2 : Int32) (w0 : va_W) : Int32 → va_W → Prop := fun r u => TW ksC ad cy B qr s1 u ∧ FE ksC [(6, 1, 1), (6, 3, 3), (6, 4, 4)] w0 u ∧ ((0 ≤ r.toInt ∧ r.toInt ≤ 9 ∧ (∃ y : Int32, gi u 1 2 = y ∧ 1 ≤ y.toInt ∧ y.toInt ≤ 400) ∧ (∃ y : Int32, gi u 1 3 = y ∧ 0 ≤ y.toInt ∧ y.toInt ≤ 399) ∧ (∃ y : Int32, gi u 1 4 = y ∧ 0 ≤ y.toInt ∧ y.toInt ≤ 0)) ∨ (r = (-1) ∧ (∃ y : Int32, gi u 1 4 = y ∧ 1 ≤ y.toInt ∧ y.toInt ≤ 3205)))
set_option maxHeartbeats 4000000 in
set_option maxRecDepth 100000 in
theorem k_X6_readNumber_4 (l : Launch) (adK adV : Nat → Nat) (dC : Nat → ClassId) (dI : Nat → Nat → Nat) (cy : Nat → ClassId) (ad : Nat → Nat) (B : Int) (hB0 : 2147483648 ≤ B) (hB1 : B ≤ 1152921504606846976) (qr : Nat) (s1 : Int)  (a2 : Int32) (ra2 : 0 ≤ a2.toInt) (ta2 : a2.toInt ≤ 9) (w0 : va_W) (sz : Nat) (hT : TW ksC ad cy B qr s1 w0) (cf0_ : gi w0 1 4 = 0) : Met l yX6_readNumber wsX6_readNumber ({ frames := 2, cells := 0, slots := 0, locals := 34 }) (va_Pc [.ref (ad 1), .int 0, .int a2] (wpreS adK adV dC dI cy sz w0)) (va_Qi (P_X6_readNumber_4 ad cy B qr s1 a2 w0) (fun u : va_W => wpost dC dI cy (va_A w0 sz) u) (va_A w0 sz)) 0 0 (va_A w0 sz) := by
  refine Met.ofW (cc := cX6_readNumber) (maxL := 4) (ret := (some .int)) (by decide) rfl ?_
  intro p e s m args below meth c s₁ Bk hml hv
  obtain ⟨rfl, ⟨hsz, hP, hK, hD0⟩, hE, hSR⟩ := hv
  have hx := Bk.exec
  have hb := Bk.bytes
  have hr := Bk.returns
  have hlocks := Bk.notSynchronized
  have hC : CallFix p m c cX6_readNumber 4 s _ wsX6_readNumber RX6 := ⟨hx, hb, hml, findClass_of_methodNamed Bk.named, atoms_spec (ws := wsX6_readNumber) Bk.pre⟩
  subst hsz
  have hD := hD0.self (sz := s.heap.size)
  generalize hAe : va_A w0 s.heap.size = A at hD hE ⊢
  have hA : ∀ q : Nat, s.heap.size ≤ q → A q := fun q h => by rw [← hAe]; exact Or.inr h
  have hw : Wd dC dI A s.heap s.heap [] w0 := ⟨hP, hD, va_S.rf⟩
  have hF : FE ksC [(6, 1, 1), (6, 3, 3), (6, 4, 4)] w0 w0 := FE.rf
  have hl := lv_entry ([.ref (ad 1), .int 0, .int a2]) (n := 4) (Nat.le_of_ble_eq_true rfl)
  rw [lg_entry_eq]
  generalize (lg_sl ([.ref (ad 1), .int 0, .int a2]) ++ List.replicate (4 - (lg_sl ([.ref (ad 1), .int 0, .int a2])).length) Slot.unset).toArray = ls at hl ⊢
  have hl : lv_has ls 4 [(0, .ref (ad 1)), (1, .int 0), (2, .int a2)] := hl
  generalize hloc : ([] : List Loc) = locs at hw ⊢
  have hinX6 : ∀ w ∈ u_ws RX6 TX6 5, w ∈ wsX6_readNumber := fun _ h => List.mem_cons_of_mem _ (List.mem_append_right _ (h))
  have J125 : ∀ (v125_3 : Int32) (f125_1_1 : Int32) (f125_1_2 : Int32) (f125_1_3 : Int32) (H : Heap) (locs : List Loc) (ls : Array Slot) (w1 : va_W), 0 ≤ a2.toInt → a2.toInt ≤ 9 → 0 ≤ f125_1_1.toInt → f125_1_1.toInt ≤ 400 → 1 ≤ f125_1_2.toInt → f125_1_2.toInt ≤ 400 → 0 ≤ f125_1_3.toInt → f125_1_3.toInt ≤ 399 → Wd dC dI A s.heap H locs w1 → TW ksC ad cy B qr s1 w1 → FE ksC [(6, 1, 1), (6, 3, 3), (6, 4, 4)] w0 w1 → gi w1 1 1 = f125_1_1 → gi w1 1 2 = f125_1_2 → gi w1 1 3 = f125_1_3 → gi w1 1 4 = 0 → lv_has ls 4 [(0, .ref (ad 1)), (1, .int 0), (2, .int a2), (3, .int v125_3)] → W p l e ({ frames := 2, cells := 0, slots := 0, locals := 34 }) s m (List.toArray [.ref (ad 1), .int 0, .int a2]) below meth c H locs 0 0 (MQ below (va_Qi (P_X6_readNumber_4 ad cy B qr s1 a2 w0) (fun u : va_W => wpost dC dI cy A u) A) (List.toArray [.ref (ad 1), .int 0, .int a2]) s 0 0 A) (F0 m 125 ls []) := by
    intro v125_3 f125_1_1 f125_1_2 f125_1_3 H locs ls w1 r2 t3 r4 t5 r7 t8 r10 t11 hw hT hF c6 c9 c12 c13 hl
    refine lv_aload_n hx hb dX6_readNumber_125 rfl (lv_at hl 0 rfl) ?_
    refine lv_aload_n hx hb dX6_readNumber_126 rfl (lv_at hl 0 rfl) ?_
    refine tk_geti hC hK hw hT hinX6 kC_at1 (by decide) rfl 3 (by decide) (List.mem_of_getElem? (i := 1) rfl) rfl rfl dX6_readNumber_127 (fun x14 c15 rx14 tx14 => ?_)
    refine wk_top f125_1_3 (c15.symm.trans c12) ?_
    refine lv_iconst (v := 1) hx hb dX6_readNumber_130 (by decide) ?_
    refine tk_Vv hC hK hw hT hA hE hSR kC_at1 (by decide) rfl (k_X6_blame_1 l adK adV dC dI cy ad B (by omega) (by omega) qr s1   f125_1_3 (show 0 ≤ f125_1_3.toInt by omega) (show f125_1_3.toInt ≤ 400 by omega) 1 (by decide) (by decide) w1 H.size hT c13) (cwV 2 hC.2.2.2.2 gX6_readNumber_X6_blame rfl rfl rfl (by decide +kernel) ⟨Nat.le_of_ble_eq_true rfl, Nat.le_of_ble_eq_true rfl⟩) rfl hl.1 rfl (Nat.le_of_ble_eq_true rfl) dX6_readNumber_131 (fun w18 H locs hp17 hw => ?_)
    obtain ⟨hT, k19, hg22⟩ := hp17
    have hF := hF.tr k19 (by decide)
    have c23 := k19.gi kC_at1 (by decide) c6
    have c24 := k19.gi kC_at1 (by decide) c9
    have c25 := k19.gi kC_at1 (by decide) c12
    obtain ⟨x20, c21, rx20, tx20⟩ := hg22
    refine lv_iconst (v := (-1)) hx hb dX6_readNumber_134 (by decide) ?_
    exact tk_iret hC hr hlocks hK ⟨hT, hF, (Or.inr ⟨rfl, ⟨x20, c21, (show 1 ≤ x20.toInt by omega), (show x20.toInt ≤ 3205 by omega)⟩⟩)⟩ hw dX6_readNumber_135
  have J102 : ∀ (v102_3 : Int32) (f102_1_1 : Int32) (f102_1_2 : Int32) (f102_1_3 : Int32) (H : Heap) (locs : List Loc) (ls : Array Slot) (w26 : va_W), 0 ≤ a2.toInt → a2.toInt ≤ 9 → 0 ≤ f102_1_1.toInt → f102_1_1.toInt ≤ 400 → 1 ≤ f102_1_2.toInt → f102_1_2.toInt ≤ 400 → 0 ≤ f102_1_3.toInt → f102_1_3.toInt ≤ 399 → Wd dC dI A s.heap H locs w26 → TW ksC ad cy B qr s1 w26 → FE ksC [(6, 1, 1), (6, 3, 3), (6, 4, 4)] w0 w26 → gi w26 1 1 = f102_1_1 → gi w26 1 2 = f102_1_2 → gi w26 1 3 = f102_1_3 → gi w26 1 4 = 0 → lv_has ls 4 [(0, .ref (ad 1)), (1, .int 0), (2, .int a2), (3, .int v102_3)] → W p l e ({ frames := 2, cells := 0, slots := 0, locals := 34 }) s m (List.toArray [.ref (ad 1), .int 0, .int a2]) below meth c H locs 0 0 (MQ below (va_Qi (P_X6_readNumber_4 ad cy B qr s1 a2 w0) (fun u : va_W => wpost dC dI cy A u) A) (List.toArray [.ref (ad 1), .int 0, .int a2]) s 0 0 A) (F0 m 102 ls []) := by
    intro v102_3 f102_1_1 f102_1_2 f102_1_3 H locs ls w26 r27 t28 r29 t30 r32 t33 r35 t36 hw hT hF c31 c34 c37 c38 hl
    refine lv_aload_n hx hb dX6_readNumber_102 rfl (lv_at hl 0 rfl) ?_
    refine tk_geti hC hK hw hT hinX6 kC_at1 (by decide) rfl 1 (by decide) (List.mem_of_getElem? (i := 2) rfl) rfl rfl dX6_readNumber_103 (fun x39 c40 rx39 tx39 => ?_)
    refine wk_top f102_1_1 (c40.symm.trans c31) ?_
    refine lv_aload_n hx hb dX6_readNumber_106 rfl (lv_at hl 0 rfl) ?_
    refine tk_geti hC hK hw hT hinX6 kC_at1 (by decide) rfl 3 (by decide) (List.mem_of_getElem? (i := 1) rfl) rfl rfl dX6_readNumber_107 (fun x41 c42 rx41 tx41 => ?_)
    refine wk_top f102_1_3 (c42.symm.trans c37) ?_
    refine lv_isub hx hb dX6_readNumber_110 ?_
    refine lv_topi (fun x43 ex43 => ?_)
    have ex43 : x43.toInt = f102_1_1.toInt - f102_1_3.toInt := by rw [ex43]; exact wk_sub (show (-2147483648) ≤ f102_1_1.toInt - f102_1_3.toInt by omega) (show f102_1_1.toInt - f102_1_3.toInt ≤ 2147483647 by omega)
    refine lv_iconst (v := 5) hx hb dX6_readNumber_111 (by decide) ?_
    refine lv_icmp_gt (tgt := 125) hx hb dX6_readNumber_112 (by decide) (fun c44 => ?_) (fun c44 => ?_)
    · have c44 : (5 : Int) < x43.toInt := wk_lt.mp c44
      exact J125 v102_3 f102_1_1 f102_1_2 f102_1_3 H locs ls w26 (show 0 ≤ a2.toInt by omega) (show a2.toInt ≤ 9 by omega) (show 0 ≤ f102_1_1.toInt by omega) (show f102_1_1.toInt ≤ 400 by omega) (show 1 ≤ f102_1_2.toInt by omega) (show f102_1_2.toInt ≤ 400 by omega) (show 0 ≤ f102_1_3.toInt by omega) (show f102_1_3.toInt ≤ 399 by omega)  hw hT hF c31 c34 c37 c38 (lv_sub hl [0, 1, 2, 3] rfl)
    · have c44 : x43.toInt ≤ (5 : Int) := wk_ltF c44
      refine lv_iload_n hx hb dX6_readNumber_115 rfl (lv_at hl 3 rfl) ?_
      refine lv_iload_n hx hb dX6_readNumber_116 rfl (lv_at hl 1 rfl) ?_
      refine lv_icmp_lt (tgt := 125) hx hb dX6_readNumber_117 (by decide) (fun c45 => ?_) (fun c45 => ?_)
      · have c45 : v102_3.toInt < (0 : Int) := wk_lt.mp c45
        exact J125 v102_3 f102_1_1 f102_1_2 f102_1_3 H locs ls w26 (show 0 ≤ a2.toInt by omega) (show a2.toInt ≤ 9 by omega) (show 0 ≤ f102_1_1.toInt by omega) (show f102_1_1.toInt ≤ 400 by omega) (show 1 ≤ f102_1_2.toInt by omega) (show f102_1_2.toInt ≤ 400 by omega) (show 0 ≤ f102_1_3.toInt by omega) (show f102_1_3.toInt ≤ 399 by omega)  hw hT hF c31 c34 c37 c38 (lv_sub hl [0, 1, 2, 3] rfl)
      · have c45 : (0 : Int) ≤ v102_3.toInt := wk_ltF c45
        refine lv_iload_n hx hb dX6_readNumber_120 rfl (lv_at hl 3 rfl) ?_
        refine lv_iload_n hx hb dX6_readNumber_121 rfl (lv_at hl 2 rfl) ?_
        refine lv_icmp_le (tgt := 136) hx hb dX6_readNumber_122 (by decide) (fun c46 => ?_) (fun c46 => ?_)
        · have c46 : v102_3.toInt ≤ a2.toInt := wk_le.mp c46
          refine lv_iload_n hx hb dX6_readNumber_136 rfl (lv_at hl 3 rfl) ?_
          exact tk_iret hC hr hlocks hK ⟨hT, hF, (Or.inl ⟨(show 0 ≤ v102_3.toInt by omega), (show v102_3.toInt ≤ 9 by omega), ⟨f102_1_2, c34, (show 1 ≤ f102_1_2.toInt by omega), (show f102_1_2.toInt ≤ 400 by omega)⟩, ⟨f102_1_3, c37, (show 0 ≤ f102_1_3.toInt by omega), (show f102_1_3.toInt ≤ 399 by omega)⟩, ⟨0, c38, (by decide), (by decide)⟩⟩)⟩ hw dX6_readNumber_137
        · have c46 : a2.toInt < v102_3.toInt := wk_leF c46
          exact J125 v102_3 f102_1_1 f102_1_2 f102_1_3 H locs ls w26 (show 0 ≤ a2.toInt by omega) (show a2.toInt ≤ 9 by omega) (show 0 ≤ f102_1_1.toInt by omega) (show f102_1_1.toInt ≤ 400 by omega) (show 1 ≤ f102_1_2.toInt by omega) (show f102_1_2.toInt ≤ 400 by omega) (show 0 ≤ f102_1_3.toInt by omega) (show f102_1_3.toInt ≤ 399 by omega)  hw hT hF c31 c34 c37 c38 (lv_sub hl [0, 1, 2, 3] rfl)
  have L32 : ∀ (n32 : Nat) (v32_3 : Int32) (f32_1_1 : Int32) (f32_1_2 : Int32) (f32_1_3 : Int32) (H : Heap) (locs : List Loc) (ls : Array Slot) (w47 : va_W), 0 ≤ a2.toInt → a2.toInt ≤ 9 → 0 ≤ f32_1_1.toInt → f32_1_1.toInt ≤ 400 → 1 ≤ f32_1_2.toInt → f32_1_2.toInt ≤ 400 → 0 ≤ f32_1_3.toInt → f32_1_3.toInt ≤ 399 → (400 - f32_1_1.toInt).toNat < n32 → Wd dC dI A s.heap H locs w47 → TW ksC ad cy B qr s1 w47 → FE ksC [(6, 1, 1), (6, 3, 3), (6, 4, 4)] w0 w47 → gi w47 1 1 = f32_1_1 → gi w47 1 2 = f32_1_2 → gi w47 1 3 = f32_1_3 → gi w47 1 4 = 0 → lv_has ls 4 [(0, .ref (ad 1)), (1, .int 0), (2, .int a2), (3, .int v32_3)] → W p l e ({ frames := 2, cells := 0, slots := 0, locals := 34 }) s m (List.toArray [.ref (ad 1), .int 0, .int a2]) below meth c H locs 0 0 (MQ below (va_Qi (P_X6_readNumber_4 ad cy B qr s1 a2 w0) (fun u : va_W => wpost dC dI cy A u) A) (List.toArray [.ref (ad 1), .int 0, .int a2]) s 0 0 A) (F0 m 32 ls []) := by
    intro n32
    induction n32 with
    | zero => intro v32_3 f32_1_1 f32_1_2 f32_1_3 H locs ls w47 r48 t49 r50 t51 r53 t54 r56 t57 hm32 hw hT hF c52 c55 c58 c59 hl; omega
    | succ n32 ih32 =>
      intro v32_3 f32_1_1 f32_1_2 f32_1_3 H locs ls w47 r48 t49 r50 t51 r53 t54 r56 t57 hm32 hw hT hF c52 c55 c58 c59 hl
      have J89 : ∀ (v89_3 : Int32) (H : Heap) (locs : List Loc) (ls : Array Slot) (w60 : va_W), 0 ≤ a2.toInt → a2.toInt ≤ 9 → 0 ≤ f32_1_1.toInt → f32_1_1.toInt ≤ 399 → 1 ≤ f32_1_2.toInt → f32_1_2.toInt ≤ 400 → 0 ≤ f32_1_3.toInt → f32_1_3.toInt ≤ 399 → Wd dC dI A s.heap H locs w60 → TW ksC ad cy B qr s1 w60 → FE ksC [(6, 1, 1), (6, 3, 3), (6, 4, 4)] w0 w60 → gi w60 1 1 = f32_1_1 → gi w60 1 2 = f32_1_2 → gi w60 1 3 = f32_1_3 → gi w60 1 4 = 0 → lv_has ls 4 [(0, .ref (ad 1)), (1, .int 0), (2, .int a2), (3, .int v89_3)] → W p l e ({ frames := 2, cells := 0, slots := 0, locals := 34 }) s m (List.toArray [.ref (ad 1), .int 0, .int a2]) below meth c H locs 0 0 (MQ below (va_Qi (P_X6_readNumber_4 ad cy B qr s1 a2 w0) (fun u : va_W => wpost dC dI cy A u) A) (List.toArray [.ref (ad 1), .int 0, .int a2]) s 0 0 A) (F0 m 89 ls []) := by
        intro v89_3 H locs ls w60 r61 t62 r63 t64 r66 t67 r69 t70 hw hT hF c65 c68 c71 c72 hl
        refine lv_aload_n hx hb dX6_readNumber_89 rfl (lv_at hl 0 rfl) ?_
        refine lv_dup hx hb dX6_readNumber_90 rfl ?_
        refine tk_geti hC hK hw hT hinX6 kC_at1 (by decide) rfl 1 (by decide) (List.mem_of_getElem? (i := 2) rfl) rfl rfl dX6_readNumber_91 (fun x73 c74 rx73 tx73 => ?_)
        refine wk_top f32_1_1 (c74.symm.trans c65) ?_
        refine lv_iconst (v := 1) hx hb dX6_readNumber_94 (by decide) ?_
        refine lv_iadd hx hb dX6_readNumber_95 ?_
        refine lv_topi (fun x75 ex75 => ?_)
        have ex75 : x75.toInt = f32_1_1.toInt + (1 : Int) := by rw [ex75]; exact wk_add (show (-2147483648) ≤ f32_1_1.toInt + (1 : Int) by omega) (show f32_1_1.toInt + (1 : Int) ≤ 2147483647 by omega)
        refine tk_puti hC hK hw hT hinX6 tyX6_ok nmX6 kC_at1 (by decide) rfl rfl 1 (by decide) (List.mem_of_getElem? (i := 2) rfl) rfl rfl rfl rfl (show 0 ≤ x75.toInt by omega) (show x75.toInt ≤ 400 by omega) dX6_readNumber_96 (fun H locs w76 hw hT k78 c77 => ?_)
        have hF := hF.put kC_at1 (k := 1) (by decide) k78
        have c79 := k78.gi (Or.inr (by decide)) c68
        have c80 := k78.gi (Or.inr (by decide)) c71
        have c81 := k78.gi (Or.inr (by decide)) c72
        refine lv_goto (tgt := 32) hx hb dX6_readNumber_99 (by decide) ?_
        exact ih32 v89_3 x75 f32_1_2 f32_1_3 H locs ls w76 (show 0 ≤ a2.toInt by omega) (show a2.toInt ≤ 9 by omega) (show 0 ≤ x75.toInt by omega) (show x75.toInt ≤ 400 by omega) (show 1 ≤ f32_1_2.toInt by omega) (show f32_1_2.toInt ≤ 400 by omega) (show 0 ≤ f32_1_3.toInt by omega) (show f32_1_3.toInt ≤ 399 by omega) (show (400 - x75.toInt).toNat < n32 by omega) hw hT hF c77 c79 c80 c81 (lv_sub hl [0, 1, 2, 3] rfl)
      refine lv_aload_n hx hb dX6_readNumber_32 rfl (lv_at hl 0 rfl) ?_
      refine tk_geti hC hK hw hT hinX6 kC_at1 (by decide) rfl 1 (by decide) (List.mem_of_getElem? (i := 2) rfl) rfl rfl dX6_readNumber_33 (fun x82 c83 rx82 tx82 => ?_)
      refine wk_top f32_1_1 (c83.symm.trans c52) ?_
      refine lv_aload_n hx hb dX6_readNumber_36 rfl (lv_at hl 0 rfl) ?_
      refine tk_geti hC hK hw hT hinX6 kC_at1 (by decide) rfl 2 (by decide) (List.mem_of_getElem? (i := 3) rfl) rfl rfl dX6_readNumber_37 (fun x84 c85 rx84 tx84 => ?_)
      refine wk_top f32_1_2 (c85.symm.trans c55) ?_
      refine lv_icmp_ge (tgt := 102) hx hb dX6_readNumber_40 (by decide) (fun c86 => ?_) (fun c86 => ?_)
      · have c86 : f32_1_2.toInt ≤ f32_1_1.toInt := wk_le.mp c86
        exact J102 v32_3 f32_1_1 f32_1_2 f32_1_3 H locs ls w47 (show 0 ≤ a2.toInt by omega) (show a2.toInt ≤ 9 by omega) (show 0 ≤ f32_1_1.toInt by omega) (show f32_1_1.toInt ≤ 400 by omega) (show 1 ≤ f32_1_2.toInt by omega) (show f32_1_2.toInt ≤ 400 by omega) (show 0 ≤ f32_1_3.toInt by omega) (show f32_1_3.toInt ≤ 399 by omega)  hw hT hF c52 c55 c58 c59 (lv_sub hl [0, 1, 2, 3] rfl)
      · have c86 : f32_1_1.toInt < f32_1_2.toInt := wk_leF c86
        refine lv_aload_n hx hb dX6_readNumber_43 rfl (lv_at hl 0 rfl) ?_
        refine tk_getA hC hK hw hT hinX6 kC_at1 (by decide) rfl 0 (by decide) (List.mem_of_getElem? (i := 4) rfl) rfl rfl dX6_readNumber_44 ?_
        refine lv_aload_n hx hb dX6_readNumber_47 rfl (lv_at hl 0 rfl) ?_
        refine tk_geti hC hK hw hT hinX6 kC_at1 (by decide) rfl 1 (by decide) (List.mem_of_getElem? (i := 2) rfl) rfl rfl dX6_readNumber_48 (fun x87 c88 rx87 tx87 => ?_)
        refine wk_top f32_1_1 (c88.symm.trans c52) ?_
        refine tk_iald hC hK hw hT kC_at2 rfl rfl (show 0 ≤ f32_1_1.toInt by omega) (show f32_1_1.toInt < 400 by omega) dX6_readNumber_51 (fun x89 c90 rx89 tx89 => ?_)
        refine tk_Si hC hK hw hT hA hE hSR (k_X6_isDigit_1 l adK adV dC dI cy ad B (by omega) (by omega) qr s1   x89 (show 0 ≤ x89.toInt by omega) (show x89.toInt ≤ 255 by omega) w47 H.size hT ) (va_cwS 1 hC.2.2.2.2 gX6_readNumber_X6_isDigit rfl rfl rfl (by decide +kernel) ⟨Nat.le_of_ble_eq_true rfl, Nat.le_of_ble_eq_true rfl⟩) rfl hl.1 rfl (Nat.le_of_ble_eq_true rfl) dX6_readNumber_52 (fun r91 w93 H locs hp92 hw => ?_)
        obtain ⟨hT, k94, hg97⟩ := hp92
        have hF := hF.tr k94 (by decide)
        have c98 := k94.gi kC_at1 (by decide) c52
        have c99 := k94.gi kC_at1 (by decide) c55
        have c100 := k94.gi kC_at1 (by decide) c58
        have c101 := k94.gi kC_at1 (by decide) c59
        rcases hg97 with rfl | ⟨rfl, g95, g96⟩
        · refine lv_if_eq (tgt := 102) hx hb dX6_readNumber_55 (by decide) (fun _ => ?_) (fun c => absurd (by decide) c)
          exact J102 v32_3 f32_1_1 f32_1_2 f32_1_3 H locs ls w93 (show 0 ≤ a2.toInt by omega) (show a2.toInt ≤ 9 by omega) (show 0 ≤ f32_1_1.toInt by omega) (show f32_1_1.toInt ≤ 400 by omega) (show 1 ≤ f32_1_2.toInt by omega) (show f32_1_2.toInt ≤ 400 by omega) (show 0 ≤ f32_1_3.toInt by omega) (show f32_1_3.toInt ≤ 399 by omega)  hw hT hF c98 c99 c100 c101 (lv_sub hl [0, 1, 2, 3] rfl)
        · refine lv_if_eq (tgt := 102) hx hb dX6_readNumber_55 (by decide) (fun c => absurd c (by decide)) (fun _ => ?_)
          refine lv_aload_n hx hb dX6_readNumber_58 rfl (lv_at hl 0 rfl) ?_
          refine tk_geti hC hK hw hT hinX6 kC_at1 (by decide) rfl 1 (by decide) (List.mem_of_getElem? (i := 2) rfl) rfl rfl dX6_readNumber_59 (fun x102 c103 rx102 tx102 => ?_)
          refine wk_top f32_1_1 (c103.symm.trans c98) ?_
          refine lv_aload_n hx hb dX6_readNumber_62 rfl (lv_at hl 0 rfl) ?_
          refine tk_geti hC hK hw hT hinX6 kC_at1 (by decide) rfl 3 (by decide) (List.mem_of_getElem? (i := 1) rfl) rfl rfl dX6_readNumber_63 (fun x104 c105 rx104 tx104 => ?_)
          refine wk_top f32_1_3 (c105.symm.trans c100) ?_
          refine lv_isub hx hb dX6_readNumber_66 ?_
          refine lv_topi (fun x106 ex106 => ?_)
          have ex106 : x106.toInt = f32_1_1.toInt - f32_1_3.toInt := by rw [ex106]; exact wk_sub (show (-2147483648) ≤ f32_1_1.toInt - f32_1_3.toInt by omega) (show f32_1_1.toInt - f32_1_3.toInt ≤ 2147483647 by omega)
          refine lv_iconst (v := 5) hx hb dX6_readNumber_67 (by decide) ?_
          refine lv_icmp_ge (tgt := 89) hx hb dX6_readNumber_68 (by decide) (fun c107 => ?_) (fun c107 => ?_)
          · have c107 : (5 : Int) ≤ x106.toInt := wk_le.mp c107
            exact J89 v32_3 H locs ls w93 (show 0 ≤ a2.toInt by omega) (show a2.toInt ≤ 9 by omega) (show 0 ≤ f32_1_1.toInt by omega) (show f32_1_1.toInt ≤ 399 by omega) (show 1 ≤ f32_1_2.toInt by omega) (show f32_1_2.toInt ≤ 400 by omega) (show 0 ≤ f32_1_3.toInt by omega) (show f32_1_3.toInt ≤ 399 by omega)  hw hT hF c98 c99 c100 c101 (lv_sub hl [0, 1, 2, 3] rfl)
          · have c107 : x106.toInt < (5 : Int) := wk_leF c107
            refine lv_iload_n hx hb dX6_readNumber_71 rfl (lv_at hl 3 rfl) ?_
            refine lv_bipush (v := 10) hx hb dX6_readNumber_72 (by decide) ?_
            refine lv_imul hx hb dX6_readNumber_74 ?_
            have nx108 := wk_i32 v32_3
            refine lv_topi (fun x109 ex109 => ?_)
            refine lv_aload_n hx hb dX6_readNumber_75 rfl (lv_at hl 0 rfl) ?_
            refine tk_getA hC hK hw hT hinX6 kC_at1 (by decide) rfl 0 (by decide) (List.mem_of_getElem? (i := 4) rfl) rfl rfl dX6_readNumber_76 ?_
            refine lv_aload_n hx hb dX6_readNumber_79 rfl (lv_at hl 0 rfl) ?_
            refine tk_geti hC hK hw hT hinX6 kC_at1 (by decide) rfl 1 (by decide) (List.mem_of_getElem? (i := 2) rfl) rfl rfl dX6_readNumber_80 (fun x110 c111 rx110 tx110 => ?_)
            refine wk_top f32_1_1 (c111.symm.trans c98) ?_
            refine tk_iald hC hK hw hT kC_at2 rfl rfl (show 0 ≤ f32_1_1.toInt by omega) (show f32_1_1.toInt < 400 by omega) dX6_readNumber_83 (fun x112 c113 rx112 tx112 => ?_)
            refine lv_iadd hx hb dX6_readNumber_84 ?_
            have nx114 := wk_i32 x109
            refine lv_topi (fun x115 ex115 => ?_)
            refine lv_bipush (v := 48) hx hb dX6_readNumber_85 (by decide) ?_
            refine lv_isub hx hb dX6_readNumber_87 ?_
            have nx116 := wk_i32 x115
            refine lv_topi (fun x117 ex117 => ?_)
            refine lv_istore_n (lv' := [(3, .int x117), (0, .ref (ad 1)), (1, .int 0), (2, .int a2)]) hx hb dX6_readNumber_88 rfl hl (by decide) rfl (fun ls hl => ?_)
            exact J89 x117 H locs ls w93 (show 0 ≤ a2.toInt by omega) (show a2.toInt ≤ 9 by omega) (show 0 ≤ f32_1_1.toInt by omega) (show f32_1_1.toInt ≤ 399 by omega) (show 1 ≤ f32_1_2.toInt by omega) (show f32_1_2.toInt ≤ 400 by omega) (show 0 ≤ f32_1_3.toInt by omega) (show f32_1_3.toInt ≤ 399 by omega)  hw hT hF c98 c99 c100 c101 (lv_sub hl [1, 2, 3, 0] rfl)
  refine lv_aload_n hx hb dX6_readNumber_0 rfl (lv_at hl 0 rfl) ?_
  refine tk_Vi hC hK hw hT hA hE hSR kC_at1 (by decide) rfl (k_X6_isFaulty_2 l adK adV dC dI cy ad B (by omega) (by omega) qr s1    w0 s.heap.size hT cf0_) (cwV 0 hC.2.2.2.2 gX6_readNumber_X6_isFaulty rfl rfl rfl (by decide +kernel) ⟨Nat.le_of_ble_eq_true rfl, Nat.le_of_ble_eq_true rfl⟩) rfl hl.1 rfl (Nat.le_of_ble_eq_true rfl) dX6_readNumber_1 (fun r118 w120 H locs hp119 hw => ?_)
  obtain ⟨hT, k121, hg124⟩ := hp119
  have hF := hF.tr k121 (by decide)
  have c125 := k121.gi kC_at1 (by decide) cf0_
  obtain ⟨rfl, ⟨x122, c123, rx122, tx122⟩⟩ := hg124
  have ex122 : x122.toInt = (0 : Int) := by rw [show x122 = 0 from c123.symm.trans c125]; decide
  refine lv_if_eq (tgt := 9) hx hb dX6_readNumber_4 (by decide) (fun _ => ?_) (fun c => absurd (by decide) c)
  refine lv_aload_n hx hb dX6_readNumber_9 rfl (lv_at hl 0 rfl) ?_
  refine tk_Vi hC hK hw hT hA hE hSR kC_at1 (by decide) rfl (k_X6_lookBehindBlanks_1 l adK adV dC dI cy ad B (by omega) (by omega) qr s1    w120 H.size hT ) (cwV 0 hC.2.2.2.2 gX6_readNumber_X6_lookBehindBlanks rfl rfl rfl (by decide +kernel) ⟨Nat.le_of_ble_eq_true rfl, Nat.le_of_ble_eq_true rfl⟩) rfl hl.1 rfl (Nat.le_of_ble_eq_true rfl) dX6_readNumber_10 (fun r126 w128 H locs hp127 hw => ?_)
  obtain ⟨hT, k129, hg138⟩ := hp127
  have hF := hF.tr k129 (by decide)
  have c139 := k129.gi kC_at1 (by decide) c125
  rcases hg138 with ⟨g130, g131, ⟨x132, c133, rx132, tx132⟩, ⟨x134, c135, rx134, tx134⟩, ⟨x136, c137, rx136, tx136⟩⟩ | rfl
  · refine tk_Si hC hK hw hT hA hE hSR (k_X6_isDigit_1 l adK adV dC dI cy ad B (by omega) (by omega) qr s1   r126 (show 0 ≤ r126.toInt by omega) (show r126.toInt ≤ 255 by omega) w128 H.size hT ) (va_cwS 1 hC.2.2.2.2 gX6_readNumber_X6_isDigit rfl rfl rfl (by decide +kernel) ⟨Nat.le_of_ble_eq_true rfl, Nat.le_of_ble_eq_true rfl⟩) rfl hl.1 rfl (Nat.le_of_ble_eq_true rfl) dX6_readNumber_13 (fun r140 w142 H locs hp141 hw => ?_)
    obtain ⟨hT, k143, hg146⟩ := hp141
    have hF := hF.tr k143 (by decide)
    have c147 := k143.gi kC_at1 (by decide) c139
    have c148 := k143.gi kC_at1 (by decide) c133
    have c149 := k143.gi kC_at1 (by decide) c135
    have c150 := k143.gi kC_at1 (by decide) c137
    rcases hg146 with rfl | ⟨rfl, g144, g145⟩
    · refine lv_if_ne (tgt := 30) hx hb dX6_readNumber_16 (by decide) (fun c => absurd (by decide) c) (fun _ => ?_)
      refine lv_aload_n hx hb dX6_readNumber_19 rfl (lv_at hl 0 rfl) ?_
      refine lv_aload_n hx hb dX6_readNumber_20 rfl (lv_at hl 0 rfl) ?_
      refine tk_geti hC hK hw hT hinX6 kC_at1 (by decide) rfl 3 (by decide) (List.mem_of_getElem? (i := 1) rfl) rfl rfl dX6_readNumber_21 (fun x151 c152 rx151 tx151 => ?_)
      refine wk_top x136 (c152.symm.trans c150) ?_
      refine lv_iconst (v := 0) hx hb dX6_readNumber_24 (by decide) ?_
      refine tk_Vv hC hK hw hT hA hE hSR kC_at1 (by decide) rfl (k_X6_blame_1 l adK adV dC dI cy ad B (by omega) (by omega) qr s1   x136 (show 0 ≤ x136.toInt by omega) (show x136.toInt ≤ 400 by omega) 0 (by decide) (by decide) w142 H.size hT c147) (cwV 2 hC.2.2.2.2 gX6_readNumber_X6_blame rfl rfl rfl (by decide +kernel) ⟨Nat.le_of_ble_eq_true rfl, Nat.le_of_ble_eq_true rfl⟩) rfl hl.1 rfl (Nat.le_of_ble_eq_true rfl) dX6_readNumber_25 (fun w155 H locs hp154 hw => ?_)
      obtain ⟨hT, k156, hg159⟩ := hp154
      have hF := hF.tr k156 (by decide)
      have c160 := k156.gi kC_at1 (by decide) c148
      have c161 := k156.gi kC_at1 (by decide) c149
      have c162 := k156.gi kC_at1 (by decide) c150
      obtain ⟨x157, c158, rx157, tx157⟩ := hg159
      refine lv_iconst (v := (-1)) hx hb dX6_readNumber_28 (by decide) ?_
      exact tk_iret hC hr hlocks hK ⟨hT, hF, (Or.inr ⟨rfl, ⟨x157, c158, (show 1 ≤ x157.toInt by omega), (show x157.toInt ≤ 3205 by omega)⟩⟩)⟩ hw dX6_readNumber_29
    · refine lv_if_ne (tgt := 30) hx hb dX6_readNumber_16 (by decide) (fun _ => ?_) (fun c => absurd c (by decide))
      refine lv_iconst (v := 0) hx hb dX6_readNumber_30 (by decide) ?_
      refine lv_istore_n (lv' := [(3, .int 0), (0, .ref (ad 1)), (1, .int 0), (2, .int a2)]) hx hb dX6_readNumber_31 rfl hl (by decide) rfl (fun ls hl => ?_)
      exact L32 ((400 - x132.toInt).toNat + 1) 0 x132 x134 x136 H locs ls w142 (show 0 ≤ a2.toInt by omega) (show a2.toInt ≤ 9 by omega) (show 0 ≤ x132.toInt by omega) (show x132.toInt ≤ 400 by omega) (show 1 ≤ x134.toInt by omega) (show x134.toInt ≤ 400 by omega) (show 0 ≤ x136.toInt by omega) (show x136.toInt ≤ 399 by omega) (Nat.lt_succ_self _) hw hT hF c148 c149 c150 c147 (lv_sub hl [1, 2, 3, 0] rfl)
  · refine tk_Si hC hK hw hT hA hE hSR (k_X6_isDigit_2 l adK adV dC dI cy ad B (by omega) (by omega) qr s1    w128 H.size hT ) (va_cwS 1 hC.2.2.2.2 gX6_readNumber_X6_isDigit rfl rfl rfl (by decide +kernel) ⟨Nat.le_of_ble_eq_true rfl, Nat.le_of_ble_eq_true rfl⟩) rfl hl.1 rfl (Nat.le_of_ble_eq_true rfl) dX6_readNumber_13 (fun r163 w165 H locs hp164 hw => ?_)
    obtain ⟨hT, k166, hg167⟩ := hp164
    have hF := hF.tr k166 (by decide)
    have c168 := k166.gi kC_at1 (by decide) c139
    obtain rfl := hg167
    refine lv_if_ne (tgt := 30) hx hb dX6_readNumber_16 (by decide) (fun c => absurd (by decide) c) (fun _ => ?_)
    refine lv_aload_n hx hb dX6_readNumber_19 rfl (lv_at hl 0 rfl) ?_
    refine lv_aload_n hx hb dX6_readNumber_20 rfl (lv_at hl 0 rfl) ?_
    refine tk_geti hC hK hw hT hinX6 kC_at1 (by decide) rfl 3 (by decide) (List.mem_of_getElem? (i := 1) rfl) rfl rfl dX6_readNumber_21 (fun x169 c170 rx169 tx169 => ?_)
    refine lv_iconst (v := 0) hx hb dX6_readNumber_24 (by decide) ?_
    refine tk_Vv hC hK hw hT hA hE hSR kC_at1 (by decide) rfl (k_X6_blame_1 l adK adV dC dI cy ad B (by omega) (by omega) qr s1   x169 (show 0 ≤ x169.toInt by omega) (show x169.toInt ≤ 400 by omega) 0 (by decide) (by decide) w165 H.size hT c168) (cwV 2 hC.2.2.2.2 gX6_readNumber_X6_blame rfl rfl rfl (by decide +kernel) ⟨Nat.le_of_ble_eq_true rfl, Nat.le_of_ble_eq_true rfl⟩) rfl hl.1 rfl (Nat.le_of_ble_eq_true rfl) dX6_readNumber_25 (fun w173 H locs hp172 hw => ?_)
    obtain ⟨hT, k174, hg177⟩ := hp172
    have hF := hF.tr k174 (by decide)
    have c178 := k174.gi kC_at1 (by decide) c170
    obtain ⟨x175, c176, rx175, tx175⟩ := hg177
    refine lv_iconst (v := (-1)) hx hb dX6_readNumber_28 (by decide) ?_
    exact tk_iret hC hr hlocks hK ⟨hT, hF, (Or.inr ⟨rfl, ⟨x175, c176, (show 1 ≤ x175.toInt by omega), (show x175.toInt ≤ 3205 by omega)⟩⟩)⟩ hw dX6_readNumber_29
abbrev P_X6_readNumber_5 (ad : Nat → Nat) (cy : Nat → ClassId) (B : Int) (qr : Nat) (s1 : Int)  (w0 : va_W) : Int32 → va_W → Prop := fun r u => TW ksC ad cy B qr s1 u ∧ FE ksC [(6, 1, 1), (6, 3, 3), (6, 4, 4)] w0 u ∧ ((1 ≤ r.toInt ∧ r.toInt ≤ 9 ∧ (∃ y : Int32, gi u 1 2 = y ∧ 1 ≤ y.toInt ∧ y.toInt ≤ 400) ∧ (∃ y : Int32, gi u 1 3 = y ∧ 0 ≤ y.toInt ∧ y.toInt ≤ 399) ∧ (∃ y : Int32, gi u 1 4 = y ∧ 0 ≤ y.toInt ∧ y.toInt ≤ 0)) ∨ (r = (-1) ∧ (∃ y : Int32, gi u 1 4 = y ∧ 1 ≤ y.toInt ∧ y.toInt ≤ 3205)))
set_option maxHeartbeats 4000000 in
set_option maxRecDepth 100000 in
theorem k_X6_readNumber_5 (l : Launch) (adK adV : Nat → Nat) (dC : Nat → ClassId) (dI : Nat → Nat → Nat) (cy : Nat → ClassId) (ad : Nat → Nat) (B : Int) (hB0 : 2147483648 ≤ B) (hB1 : B ≤ 1152921504606846976) (qr : Nat) (s1 : Int)   (w0 : va_W) (sz : Nat) (hT : TW ksC ad cy B qr s1 w0) (cf0_ : gi w0 1 4 = 0) : Met l yX6_readNumber wsX6_readNumber ({ frames := 2, cells := 0, slots := 0, locals := 34 }) (va_Pc [.ref (ad 1), .int 1, .int 9] (wpreS adK adV dC dI cy sz w0)) (va_Qi (P_X6_readNumber_5 ad cy B qr s1  w0) (fun u : va_W => wpost dC dI cy (va_A w0 sz) u) (va_A w0 sz)) 0 0 (va_A w0 sz) := by
  refine Met.ofW (cc := cX6_readNumber) (maxL := 4) (ret := (some .int)) (by decide) rfl ?_
  intro p e s m args below meth c s₁ Bk hml hv
  obtain ⟨rfl, ⟨hsz, hP, hK, hD0⟩, hE, hSR⟩ := hv
  have hx := Bk.exec
  have hb := Bk.bytes
  have hr := Bk.returns
  have hlocks := Bk.notSynchronized
  have hC : CallFix p m c cX6_readNumber 4 s _ wsX6_readNumber RX6 := ⟨hx, hb, hml, findClass_of_methodNamed Bk.named, atoms_spec (ws := wsX6_readNumber) Bk.pre⟩
  subst hsz
  have hD := hD0.self (sz := s.heap.size)
  generalize hAe : va_A w0 s.heap.size = A at hD hE ⊢
  have hA : ∀ q : Nat, s.heap.size ≤ q → A q := fun q h => by rw [← hAe]; exact Or.inr h
  have hw : Wd dC dI A s.heap s.heap [] w0 := ⟨hP, hD, va_S.rf⟩
  have hF : FE ksC [(6, 1, 1), (6, 3, 3), (6, 4, 4)] w0 w0 := FE.rf
  have hl := lv_entry ([.ref (ad 1), .int 1, .int 9]) (n := 4) (Nat.le_of_ble_eq_true rfl)
  rw [lg_entry_eq]
  generalize (lg_sl ([.ref (ad 1), .int 1, .int 9]) ++ List.replicate (4 - (lg_sl ([.ref (ad 1), .int 1, .int 9])).length) Slot.unset).toArray = ls at hl ⊢
  have hl : lv_has ls 4 [(0, .ref (ad 1)), (1, .int 1), (2, .int 9)] := hl
  generalize hloc : ([] : List Loc) = locs at hw ⊢
  have hinX6 : ∀ w ∈ u_ws RX6 TX6 5, w ∈ wsX6_readNumber := fun _ h => List.mem_cons_of_mem _ (List.mem_append_right _ (h))
  have J125 : ∀ (v125_3 : Int32) (f125_1_1 : Int32) (f125_1_2 : Int32) (f125_1_3 : Int32) (H : Heap) (locs : List Loc) (ls : Array Slot) (w1 : va_W), 0 ≤ f125_1_1.toInt → f125_1_1.toInt ≤ 400 → 1 ≤ f125_1_2.toInt → f125_1_2.toInt ≤ 400 → 0 ≤ f125_1_3.toInt → f125_1_3.toInt ≤ 399 → Wd dC dI A s.heap H locs w1 → TW ksC ad cy B qr s1 w1 → FE ksC [(6, 1, 1), (6, 3, 3), (6, 4, 4)] w0 w1 → gi w1 1 1 = f125_1_1 → gi w1 1 2 = f125_1_2 → gi w1 1 3 = f125_1_3 → gi w1 1 4 = 0 → lv_has ls 4 [(0, .ref (ad 1)), (1, .int 1), (2, .int 9), (3, .int v125_3)] → W p l e ({ frames := 2, cells := 0, slots := 0, locals := 34 }) s m (List.toArray [.ref (ad 1), .int 1, .int 9]) below meth c H locs 0 0 (MQ below (va_Qi (P_X6_readNumber_5 ad cy B qr s1  w0) (fun u : va_W => wpost dC dI cy A u) A) (List.toArray [.ref (ad 1), .int 1, .int 9]) s 0 0 A) (F0 m 125 ls []) := by
    intro v125_3 f125_1_1 f125_1_2 f125_1_3 H locs ls w1 r2 t3 r5 t6 r8 t9 hw hT hF c4 c7 c10 c11 hl
    refine lv_aload_n hx hb dX6_readNumber_125 rfl (lv_at hl 0 rfl) ?_
    refine lv_aload_n hx hb dX6_readNumber_126 rfl (lv_at hl 0 rfl) ?_
    refine tk_geti hC hK hw hT hinX6 kC_at1 (by decide) rfl 3 (by decide) (List.mem_of_getElem? (i := 1) rfl) rfl rfl dX6_readNumber_127 (fun x12 c13 rx12 tx12 => ?_)
    refine wk_top f125_1_3 (c13.symm.trans c10) ?_
    refine lv_iconst (v := 1) hx hb dX6_readNumber_130 (by decide) ?_
    refine tk_Vv hC hK hw hT hA hE hSR kC_at1 (by decide) rfl (k_X6_blame_1 l adK adV dC dI cy ad B (by omega) (by omega) qr s1   f125_1_3 (show 0 ≤ f125_1_3.toInt by omega) (show f125_1_3.toInt ≤ 400 by omega) 1 (by decide) (by decide) w1 H.size hT c11) (cwV 2 hC.2.2.2.2 gX6_readNumber_X6_blame rfl rfl rfl (by decide +kernel) ⟨Nat.le_of_ble_eq_true rfl, Nat.le_of_ble_eq_true rfl⟩) rfl hl.1 rfl (Nat.le_of_ble_eq_true rfl) dX6_readNumber_131 (fun w16 H locs hp15 hw => ?_)
    obtain ⟨hT, k17, hg20⟩ := hp15
    have hF := hF.tr k17 (by decide)
    have c21 := k17.gi kC_at1 (by decide) c4
    have c22 := k17.gi kC_at1 (by decide) c7
    have c23 := k17.gi kC_at1 (by decide) c10
    obtain ⟨x18, c19, rx18, tx18⟩ := hg20
    refine lv_iconst (v := (-1)) hx hb dX6_readNumber_134 (by decide) ?_
    exact tk_iret hC hr hlocks hK ⟨hT, hF, (Or.inr ⟨rfl, ⟨x18, c19, (show 1 ≤ x18.toInt by omega), (show x18.toInt ≤ 3205 by omega)⟩⟩)⟩ hw dX6_readNumber_135
  have J102 : ∀ (v102_3 : Int32) (f102_1_1 : Int32) (f102_1_2 : Int32) (f102_1_3 : Int32) (H : Heap) (locs : List Loc) (ls : Array Slot) (w24 : va_W), 0 ≤ f102_1_1.toInt → f102_1_1.toInt ≤ 400 → 1 ≤ f102_1_2.toInt → f102_1_2.toInt ≤ 400 → 0 ≤ f102_1_3.toInt → f102_1_3.toInt ≤ 399 → Wd dC dI A s.heap H locs w24 → TW ksC ad cy B qr s1 w24 → FE ksC [(6, 1, 1), (6, 3, 3), (6, 4, 4)] w0 w24 → gi w24 1 1 = f102_1_1 → gi w24 1 2 = f102_1_2 → gi w24 1 3 = f102_1_3 → gi w24 1 4 = 0 → lv_has ls 4 [(0, .ref (ad 1)), (1, .int 1), (2, .int 9), (3, .int v102_3)] → W p l e ({ frames := 2, cells := 0, slots := 0, locals := 34 }) s m (List.toArray [.ref (ad 1), .int 1, .int 9]) below meth c H locs 0 0 (MQ below (va_Qi (P_X6_readNumber_5 ad cy B qr s1  w0) (fun u : va_W => wpost dC dI cy A u) A) (List.toArray [.ref (ad 1), .int 1, .int 9]) s 0 0 A) (F0 m 102 ls []) := by
    intro v102_3 f102_1_1 f102_1_2 f102_1_3 H locs ls w24 r25 t26 r28 t29 r31 t32 hw hT hF c27 c30 c33 c34 hl
    refine lv_aload_n hx hb dX6_readNumber_102 rfl (lv_at hl 0 rfl) ?_
    refine tk_geti hC hK hw hT hinX6 kC_at1 (by decide) rfl 1 (by decide) (List.mem_of_getElem? (i := 2) rfl) rfl rfl dX6_readNumber_103 (fun x35 c36 rx35 tx35 => ?_)
    refine wk_top f102_1_1 (c36.symm.trans c27) ?_
    refine lv_aload_n hx hb dX6_readNumber_106 rfl (lv_at hl 0 rfl) ?_
    refine tk_geti hC hK hw hT hinX6 kC_at1 (by decide) rfl 3 (by decide) (List.mem_of_getElem? (i := 1) rfl) rfl rfl dX6_readNumber_107 (fun x37 c38 rx37 tx37 => ?_)
    refine wk_top f102_1_3 (c38.symm.trans c33) ?_
    refine lv_isub hx hb dX6_readNumber_110 ?_
    refine lv_topi (fun x39 ex39 => ?_)
    have ex39 : x39.toInt = f102_1_1.toInt - f102_1_3.toInt := by rw [ex39]; exact wk_sub (show (-2147483648) ≤ f102_1_1.toInt - f102_1_3.toInt by omega) (show f102_1_1.toInt - f102_1_3.toInt ≤ 2147483647 by omega)
    refine lv_iconst (v := 5) hx hb dX6_readNumber_111 (by decide) ?_
    refine lv_icmp_gt (tgt := 125) hx hb dX6_readNumber_112 (by decide) (fun c40 => ?_) (fun c40 => ?_)
    · have c40 : (5 : Int) < x39.toInt := wk_lt.mp c40
      exact J125 v102_3 f102_1_1 f102_1_2 f102_1_3 H locs ls w24 (show 0 ≤ f102_1_1.toInt by omega) (show f102_1_1.toInt ≤ 400 by omega) (show 1 ≤ f102_1_2.toInt by omega) (show f102_1_2.toInt ≤ 400 by omega) (show 0 ≤ f102_1_3.toInt by omega) (show f102_1_3.toInt ≤ 399 by omega)  hw hT hF c27 c30 c33 c34 (lv_sub hl [0, 1, 2, 3] rfl)
    · have c40 : x39.toInt ≤ (5 : Int) := wk_ltF c40
      refine lv_iload_n hx hb dX6_readNumber_115 rfl (lv_at hl 3 rfl) ?_
      refine lv_iload_n hx hb dX6_readNumber_116 rfl (lv_at hl 1 rfl) ?_
      refine lv_icmp_lt (tgt := 125) hx hb dX6_readNumber_117 (by decide) (fun c41 => ?_) (fun c41 => ?_)
      · have c41 : v102_3.toInt < (1 : Int) := wk_lt.mp c41
        exact J125 v102_3 f102_1_1 f102_1_2 f102_1_3 H locs ls w24 (show 0 ≤ f102_1_1.toInt by omega) (show f102_1_1.toInt ≤ 400 by omega) (show 1 ≤ f102_1_2.toInt by omega) (show f102_1_2.toInt ≤ 400 by omega) (show 0 ≤ f102_1_3.toInt by omega) (show f102_1_3.toInt ≤ 399 by omega)  hw hT hF c27 c30 c33 c34 (lv_sub hl [0, 1, 2, 3] rfl)
      · have c41 : (1 : Int) ≤ v102_3.toInt := wk_ltF c41
        refine lv_iload_n hx hb dX6_readNumber_120 rfl (lv_at hl 3 rfl) ?_
        refine lv_iload_n hx hb dX6_readNumber_121 rfl (lv_at hl 2 rfl) ?_
        refine lv_icmp_le (tgt := 136) hx hb dX6_readNumber_122 (by decide) (fun c42 => ?_) (fun c42 => ?_)
        · have c42 : v102_3.toInt ≤ (9 : Int) := wk_le.mp c42
          refine lv_iload_n hx hb dX6_readNumber_136 rfl (lv_at hl 3 rfl) ?_
          exact tk_iret hC hr hlocks hK ⟨hT, hF, (Or.inl ⟨(show 1 ≤ v102_3.toInt by omega), (show v102_3.toInt ≤ 9 by omega), ⟨f102_1_2, c30, (show 1 ≤ f102_1_2.toInt by omega), (show f102_1_2.toInt ≤ 400 by omega)⟩, ⟨f102_1_3, c33, (show 0 ≤ f102_1_3.toInt by omega), (show f102_1_3.toInt ≤ 399 by omega)⟩, ⟨0, c34, (by decide), (by decide)⟩⟩)⟩ hw dX6_readNumber_137
        · have c42 : (9 : Int) < v102_3.toInt := wk_leF c42
          exact J125 v102_3 f102_1_1 f102_1_2 f102_1_3 H locs ls w24 (show 0 ≤ f102_1_1.toInt by omega) (show f102_1_1.toInt ≤ 400 by omega) (show 1 ≤ f102_1_2.toInt by omega) (show f102_1_2.toInt ≤ 400 by omega) (show 0 ≤ f102_1_3.toInt by omega) (show f102_1_3.toInt ≤ 399 by omega)  hw hT hF c27 c30 c33 c34 (lv_sub hl [0, 1, 2, 3] rfl)
  have L32 : ∀ (n32 : Nat) (v32_3 : Int32) (f32_1_1 : Int32) (f32_1_2 : Int32) (f32_1_3 : Int32) (H : Heap) (locs : List Loc) (ls : Array Slot) (w43 : va_W), 0 ≤ f32_1_1.toInt → f32_1_1.toInt ≤ 400 → 1 ≤ f32_1_2.toInt → f32_1_2.toInt ≤ 400 → 0 ≤ f32_1_3.toInt → f32_1_3.toInt ≤ 399 → (400 - f32_1_1.toInt).toNat < n32 → Wd dC dI A s.heap H locs w43 → TW ksC ad cy B qr s1 w43 → FE ksC [(6, 1, 1), (6, 3, 3), (6, 4, 4)] w0 w43 → gi w43 1 1 = f32_1_1 → gi w43 1 2 = f32_1_2 → gi w43 1 3 = f32_1_3 → gi w43 1 4 = 0 → lv_has ls 4 [(0, .ref (ad 1)), (1, .int 1), (2, .int 9), (3, .int v32_3)] → W p l e ({ frames := 2, cells := 0, slots := 0, locals := 34 }) s m (List.toArray [.ref (ad 1), .int 1, .int 9]) below meth c H locs 0 0 (MQ below (va_Qi (P_X6_readNumber_5 ad cy B qr s1  w0) (fun u : va_W => wpost dC dI cy A u) A) (List.toArray [.ref (ad 1), .int 1, .int 9]) s 0 0 A) (F0 m 32 ls []) := by
    intro n32
    induction n32 with
    | zero => intro v32_3 f32_1_1 f32_1_2 f32_1_3 H locs ls w43 r44 t45 r47 t48 r50 t51 hm32 hw hT hF c46 c49 c52 c53 hl; omega
    | succ n32 ih32 =>
      intro v32_3 f32_1_1 f32_1_2 f32_1_3 H locs ls w43 r44 t45 r47 t48 r50 t51 hm32 hw hT hF c46 c49 c52 c53 hl
      have J89 : ∀ (v89_3 : Int32) (H : Heap) (locs : List Loc) (ls : Array Slot) (w54 : va_W), 0 ≤ f32_1_1.toInt → f32_1_1.toInt ≤ 399 → 1 ≤ f32_1_2.toInt → f32_1_2.toInt ≤ 400 → 0 ≤ f32_1_3.toInt → f32_1_3.toInt ≤ 399 → Wd dC dI A s.heap H locs w54 → TW ksC ad cy B qr s1 w54 → FE ksC [(6, 1, 1), (6, 3, 3), (6, 4, 4)] w0 w54 → gi w54 1 1 = f32_1_1 → gi w54 1 2 = f32_1_2 → gi w54 1 3 = f32_1_3 → gi w54 1 4 = 0 → lv_has ls 4 [(0, .ref (ad 1)), (1, .int 1), (2, .int 9), (3, .int v89_3)] → W p l e ({ frames := 2, cells := 0, slots := 0, locals := 34 }) s m (List.toArray [.ref (ad 1), .int 1, .int 9]) below meth c H locs 0 0 (MQ below (va_Qi (P_X6_readNumber_5 ad cy B qr s1  w0) (fun u : va_W => wpost dC dI cy A u) A) (List.toArray [.ref (ad 1), .int 1, .int 9]) s 0 0 A) (F0 m 89 ls []) := by
        intro v89_3 H locs ls w54 r55 t56 r58 t59 r61 t62 hw hT hF c57 c60 c63 c64 hl
        refine lv_aload_n hx hb dX6_readNumber_89 rfl (lv_at hl 0 rfl) ?_
        refine lv_dup hx hb dX6_readNumber_90 rfl ?_
        refine tk_geti hC hK hw hT hinX6 kC_at1 (by decide) rfl 1 (by decide) (List.mem_of_getElem? (i := 2) rfl) rfl rfl dX6_readNumber_91 (fun x65 c66 rx65 tx65 => ?_)
        refine wk_top f32_1_1 (c66.symm.trans c57) ?_
        refine lv_iconst (v := 1) hx hb dX6_readNumber_94 (by decide) ?_
        refine lv_iadd hx hb dX6_readNumber_95 ?_
        refine lv_topi (fun x67 ex67 => ?_)
        have ex67 : x67.toInt = f32_1_1.toInt + (1 : Int) := by rw [ex67]; exact wk_add (show (-2147483648) ≤ f32_1_1.toInt + (1 : Int) by omega) (show f32_1_1.toInt + (1 : Int) ≤ 2147483647 by omega)
        refine tk_puti hC hK hw hT hinX6 tyX6_ok nmX6 kC_at1 (by decide) rfl rfl 1 (by decide) (List.mem_of_getElem? (i := 2) rfl) rfl rfl rfl rfl (show 0 ≤ x67.toInt by omega) (show x67.toInt ≤ 400 by omega) dX6_readNumber_96 (fun H locs w68 hw hT k70 c69 => ?_)
        have hF := hF.put kC_at1 (k := 1) (by decide) k70
        have c71 := k70.gi (Or.inr (by decide)) c60
        have c72 := k70.gi (Or.inr (by decide)) c63
        have c73 := k70.gi (Or.inr (by decide)) c64
        refine lv_goto (tgt := 32) hx hb dX6_readNumber_99 (by decide) ?_
        exact ih32 v89_3 x67 f32_1_2 f32_1_3 H locs ls w68 (show 0 ≤ x67.toInt by omega) (show x67.toInt ≤ 400 by omega) (show 1 ≤ f32_1_2.toInt by omega) (show f32_1_2.toInt ≤ 400 by omega) (show 0 ≤ f32_1_3.toInt by omega) (show f32_1_3.toInt ≤ 399 by omega) (show (400 - x67.toInt).toNat < n32 by omega) hw hT hF c69 c71 c72 c73 (lv_sub hl [0, 1, 2, 3] rfl)
      refine lv_aload_n hx hb dX6_readNumber_32 rfl (lv_at hl 0 rfl) ?_
      refine tk_geti hC hK hw hT hinX6 kC_at1 (by decide) rfl 1 (by decide) (List.mem_of_getElem? (i := 2) rfl) rfl rfl dX6_readNumber_33 (fun x74 c75 rx74 tx74 => ?_)
      refine wk_top f32_1_1 (c75.symm.trans c46) ?_
      refine lv_aload_n hx hb dX6_readNumber_36 rfl (lv_at hl 0 rfl) ?_
      refine tk_geti hC hK hw hT hinX6 kC_at1 (by decide) rfl 2 (by decide) (List.mem_of_getElem? (i := 3) rfl) rfl rfl dX6_readNumber_37 (fun x76 c77 rx76 tx76 => ?_)
      refine wk_top f32_1_2 (c77.symm.trans c49) ?_
      refine lv_icmp_ge (tgt := 102) hx hb dX6_readNumber_40 (by decide) (fun c78 => ?_) (fun c78 => ?_)
      · have c78 : f32_1_2.toInt ≤ f32_1_1.toInt := wk_le.mp c78
        exact J102 v32_3 f32_1_1 f32_1_2 f32_1_3 H locs ls w43 (show 0 ≤ f32_1_1.toInt by omega) (show f32_1_1.toInt ≤ 400 by omega) (show 1 ≤ f32_1_2.toInt by omega) (show f32_1_2.toInt ≤ 400 by omega) (show 0 ≤ f32_1_3.toInt by omega) (show f32_1_3.toInt ≤ 399 by omega)  hw hT hF c46 c49 c52 c53 (lv_sub hl [0, 1, 2, 3] rfl)
      · have c78 : f32_1_1.toInt < f32_1_2.toInt := wk_leF c78
        refine lv_aload_n hx hb dX6_readNumber_43 rfl (lv_at hl 0 rfl) ?_
        refine tk_getA hC hK hw hT hinX6 kC_at1 (by decide) rfl 0 (by decide) (List.mem_of_getElem? (i := 4) rfl) rfl rfl dX6_readNumber_44 ?_
        refine lv_aload_n hx hb dX6_readNumber_47 rfl (lv_at hl 0 rfl) ?_
        refine tk_geti hC hK hw hT hinX6 kC_at1 (by decide) rfl 1 (by decide) (List.mem_of_getElem? (i := 2) rfl) rfl rfl dX6_readNumber_48 (fun x79 c80 rx79 tx79 => ?_)
        refine wk_top f32_1_1 (c80.symm.trans c46) ?_
        refine tk_iald hC hK hw hT kC_at2 rfl rfl (show 0 ≤ f32_1_1.toInt by omega) (show f32_1_1.toInt < 400 by omega) dX6_readNumber_51 (fun x81 c82 rx81 tx81 => ?_)
        refine tk_Si hC hK hw hT hA hE hSR (k_X6_isDigit_1 l adK adV dC dI cy ad B (by omega) (by omega) qr s1   x81 (show 0 ≤ x81.toInt by omega) (show x81.toInt ≤ 255 by omega) w43 H.size hT ) (va_cwS 1 hC.2.2.2.2 gX6_readNumber_X6_isDigit rfl rfl rfl (by decide +kernel) ⟨Nat.le_of_ble_eq_true rfl, Nat.le_of_ble_eq_true rfl⟩) rfl hl.1 rfl (Nat.le_of_ble_eq_true rfl) dX6_readNumber_52 (fun r83 w85 H locs hp84 hw => ?_)
        obtain ⟨hT, k86, hg89⟩ := hp84
        have hF := hF.tr k86 (by decide)
        have c90 := k86.gi kC_at1 (by decide) c46
        have c91 := k86.gi kC_at1 (by decide) c49
        have c92 := k86.gi kC_at1 (by decide) c52
        have c93 := k86.gi kC_at1 (by decide) c53
        rcases hg89 with rfl | ⟨rfl, g87, g88⟩
        · refine lv_if_eq (tgt := 102) hx hb dX6_readNumber_55 (by decide) (fun _ => ?_) (fun c => absurd (by decide) c)
          exact J102 v32_3 f32_1_1 f32_1_2 f32_1_3 H locs ls w85 (show 0 ≤ f32_1_1.toInt by omega) (show f32_1_1.toInt ≤ 400 by omega) (show 1 ≤ f32_1_2.toInt by omega) (show f32_1_2.toInt ≤ 400 by omega) (show 0 ≤ f32_1_3.toInt by omega) (show f32_1_3.toInt ≤ 399 by omega)  hw hT hF c90 c91 c92 c93 (lv_sub hl [0, 1, 2, 3] rfl)
        · refine lv_if_eq (tgt := 102) hx hb dX6_readNumber_55 (by decide) (fun c => absurd c (by decide)) (fun _ => ?_)
          refine lv_aload_n hx hb dX6_readNumber_58 rfl (lv_at hl 0 rfl) ?_
          refine tk_geti hC hK hw hT hinX6 kC_at1 (by decide) rfl 1 (by decide) (List.mem_of_getElem? (i := 2) rfl) rfl rfl dX6_readNumber_59 (fun x94 c95 rx94 tx94 => ?_)
          refine wk_top f32_1_1 (c95.symm.trans c90) ?_
          refine lv_aload_n hx hb dX6_readNumber_62 rfl (lv_at hl 0 rfl) ?_
          refine tk_geti hC hK hw hT hinX6 kC_at1 (by decide) rfl 3 (by decide) (List.mem_of_getElem? (i := 1) rfl) rfl rfl dX6_readNumber_63 (fun x96 c97 rx96 tx96 => ?_)
          refine wk_top f32_1_3 (c97.symm.trans c92) ?_
          refine lv_isub hx hb dX6_readNumber_66 ?_
          refine lv_topi (fun x98 ex98 => ?_)
          have ex98 : x98.toInt = f32_1_1.toInt - f32_1_3.toInt := by rw [ex98]; exact wk_sub (show (-2147483648) ≤ f32_1_1.toInt - f32_1_3.toInt by omega) (show f32_1_1.toInt - f32_1_3.toInt ≤ 2147483647 by omega)
          refine lv_iconst (v := 5) hx hb dX6_readNumber_67 (by decide) ?_
          refine lv_icmp_ge (tgt := 89) hx hb dX6_readNumber_68 (by decide) (fun c99 => ?_) (fun c99 => ?_)
          · have c99 : (5 : Int) ≤ x98.toInt := wk_le.mp c99
            exact J89 v32_3 H locs ls w85 (show 0 ≤ f32_1_1.toInt by omega) (show f32_1_1.toInt ≤ 399 by omega) (show 1 ≤ f32_1_2.toInt by omega) (show f32_1_2.toInt ≤ 400 by omega) (show 0 ≤ f32_1_3.toInt by omega) (show f32_1_3.toInt ≤ 399 by omega)  hw hT hF c90 c91 c92 c93 (lv_sub hl [0, 1, 2, 3] rfl)
          · have c99 : x98.toInt < (5 : Int) := wk_leF c99
            refine lv_iload_n hx hb dX6_readNumber_71 rfl (lv_at hl 3 rfl) ?_
            refine lv_bipush (v := 10) hx hb dX6_readNumber_72 (by decide) ?_
            refine lv_imul hx hb dX6_readNumber_74 ?_
            have nx100 := wk_i32 v32_3
            refine lv_topi (fun x101 ex101 => ?_)
            refine lv_aload_n hx hb dX6_readNumber_75 rfl (lv_at hl 0 rfl) ?_
            refine tk_getA hC hK hw hT hinX6 kC_at1 (by decide) rfl 0 (by decide) (List.mem_of_getElem? (i := 4) rfl) rfl rfl dX6_readNumber_76 ?_
            refine lv_aload_n hx hb dX6_readNumber_79 rfl (lv_at hl 0 rfl) ?_
            refine tk_geti hC hK hw hT hinX6 kC_at1 (by decide) rfl 1 (by decide) (List.mem_of_getElem? (i := 2) rfl) rfl rfl dX6_readNumber_80 (fun x102 c103 rx102 tx102 => ?_)
            refine wk_top f32_1_1 (c103.symm.trans c90) ?_
            refine tk_iald hC hK hw hT kC_at2 rfl rfl (show 0 ≤ f32_1_1.toInt by omega) (show f32_1_1.toInt < 400 by omega) dX6_readNumber_83 (fun x104 c105 rx104 tx104 => ?_)
            refine lv_iadd hx hb dX6_readNumber_84 ?_
            have nx106 := wk_i32 x101
            refine lv_topi (fun x107 ex107 => ?_)
            refine lv_bipush (v := 48) hx hb dX6_readNumber_85 (by decide) ?_
            refine lv_isub hx hb dX6_readNumber_87 ?_
            have nx108 := wk_i32 x107
            refine lv_topi (fun x109 ex109 => ?_)
            refine lv_istore_n (lv' := [(3, .int x109), (0, .ref (ad 1)), (1, .int 1), (2, .int 9)]) hx hb dX6_readNumber_88 rfl hl (by decide) rfl (fun ls hl => ?_)
            exact J89 x109 H locs ls w85 (show 0 ≤ f32_1_1.toInt by omega) (show f32_1_1.toInt ≤ 399 by omega) (show 1 ≤ f32_1_2.toInt by omega) (show f32_1_2.toInt ≤ 400 by omega) (show 0 ≤ f32_1_3.toInt by omega) (show f32_1_3.toInt ≤ 399 by omega)  hw hT hF c90 c91 c92 c93 (lv_sub hl [1, 2, 3, 0] rfl)
  refine lv_aload_n hx hb dX6_readNumber_0 rfl (lv_at hl 0 rfl) ?_
  refine tk_Vi hC hK hw hT hA hE hSR kC_at1 (by decide) rfl (k_X6_isFaulty_2 l adK adV dC dI cy ad B (by omega) (by omega) qr s1    w0 s.heap.size hT cf0_) (cwV 0 hC.2.2.2.2 gX6_readNumber_X6_isFaulty rfl rfl rfl (by decide +kernel) ⟨Nat.le_of_ble_eq_true rfl, Nat.le_of_ble_eq_true rfl⟩) rfl hl.1 rfl (Nat.le_of_ble_eq_true rfl) dX6_readNumber_1 (fun r110 w112 H locs hp111 hw => ?_)
  obtain ⟨hT, k113, hg116⟩ := hp111
  have hF := hF.tr k113 (by decide)
  have c117 := k113.gi kC_at1 (by decide) cf0_
  obtain ⟨rfl, ⟨x114, c115, rx114, tx114⟩⟩ := hg116
  have ex114 : x114.toInt = (0 : Int) := by rw [show x114 = 0 from c115.symm.trans c117]; decide
  refine lv_if_eq (tgt := 9) hx hb dX6_readNumber_4 (by decide) (fun _ => ?_) (fun c => absurd (by decide) c)
  refine lv_aload_n hx hb dX6_readNumber_9 rfl (lv_at hl 0 rfl) ?_
  refine tk_Vi hC hK hw hT hA hE hSR kC_at1 (by decide) rfl (k_X6_lookBehindBlanks_1 l adK adV dC dI cy ad B (by omega) (by omega) qr s1    w112 H.size hT ) (cwV 0 hC.2.2.2.2 gX6_readNumber_X6_lookBehindBlanks rfl rfl rfl (by decide +kernel) ⟨Nat.le_of_ble_eq_true rfl, Nat.le_of_ble_eq_true rfl⟩) rfl hl.1 rfl (Nat.le_of_ble_eq_true rfl) dX6_readNumber_10 (fun r118 w120 H locs hp119 hw => ?_)
  obtain ⟨hT, k121, hg130⟩ := hp119
  have hF := hF.tr k121 (by decide)
  have c131 := k121.gi kC_at1 (by decide) c117
  rcases hg130 with ⟨g122, g123, ⟨x124, c125, rx124, tx124⟩, ⟨x126, c127, rx126, tx126⟩, ⟨x128, c129, rx128, tx128⟩⟩ | rfl
  · refine tk_Si hC hK hw hT hA hE hSR (k_X6_isDigit_1 l adK adV dC dI cy ad B (by omega) (by omega) qr s1   r118 (show 0 ≤ r118.toInt by omega) (show r118.toInt ≤ 255 by omega) w120 H.size hT ) (va_cwS 1 hC.2.2.2.2 gX6_readNumber_X6_isDigit rfl rfl rfl (by decide +kernel) ⟨Nat.le_of_ble_eq_true rfl, Nat.le_of_ble_eq_true rfl⟩) rfl hl.1 rfl (Nat.le_of_ble_eq_true rfl) dX6_readNumber_13 (fun r132 w134 H locs hp133 hw => ?_)
    obtain ⟨hT, k135, hg138⟩ := hp133
    have hF := hF.tr k135 (by decide)
    have c139 := k135.gi kC_at1 (by decide) c131
    have c140 := k135.gi kC_at1 (by decide) c125
    have c141 := k135.gi kC_at1 (by decide) c127
    have c142 := k135.gi kC_at1 (by decide) c129
    rcases hg138 with rfl | ⟨rfl, g136, g137⟩
    · refine lv_if_ne (tgt := 30) hx hb dX6_readNumber_16 (by decide) (fun c => absurd (by decide) c) (fun _ => ?_)
      refine lv_aload_n hx hb dX6_readNumber_19 rfl (lv_at hl 0 rfl) ?_
      refine lv_aload_n hx hb dX6_readNumber_20 rfl (lv_at hl 0 rfl) ?_
      refine tk_geti hC hK hw hT hinX6 kC_at1 (by decide) rfl 3 (by decide) (List.mem_of_getElem? (i := 1) rfl) rfl rfl dX6_readNumber_21 (fun x143 c144 rx143 tx143 => ?_)
      refine wk_top x128 (c144.symm.trans c142) ?_
      refine lv_iconst (v := 0) hx hb dX6_readNumber_24 (by decide) ?_
      refine tk_Vv hC hK hw hT hA hE hSR kC_at1 (by decide) rfl (k_X6_blame_1 l adK adV dC dI cy ad B (by omega) (by omega) qr s1   x128 (show 0 ≤ x128.toInt by omega) (show x128.toInt ≤ 400 by omega) 0 (by decide) (by decide) w134 H.size hT c139) (cwV 2 hC.2.2.2.2 gX6_readNumber_X6_blame rfl rfl rfl (by decide +kernel) ⟨Nat.le_of_ble_eq_true rfl, Nat.le_of_ble_eq_true rfl⟩) rfl hl.1 rfl (Nat.le_of_ble_eq_true rfl) dX6_readNumber_25 (fun w147 H locs hp146 hw => ?_)
      obtain ⟨hT, k148, hg151⟩ := hp146
      have hF := hF.tr k148 (by decide)
      have c152 := k148.gi kC_at1 (by decide) c140
      have c153 := k148.gi kC_at1 (by decide) c141
      have c154 := k148.gi kC_at1 (by decide) c142
      obtain ⟨x149, c150, rx149, tx149⟩ := hg151
      refine lv_iconst (v := (-1)) hx hb dX6_readNumber_28 (by decide) ?_
      exact tk_iret hC hr hlocks hK ⟨hT, hF, (Or.inr ⟨rfl, ⟨x149, c150, (show 1 ≤ x149.toInt by omega), (show x149.toInt ≤ 3205 by omega)⟩⟩)⟩ hw dX6_readNumber_29
    · refine lv_if_ne (tgt := 30) hx hb dX6_readNumber_16 (by decide) (fun _ => ?_) (fun c => absurd c (by decide))
      refine lv_iconst (v := 0) hx hb dX6_readNumber_30 (by decide) ?_
      refine lv_istore_n (lv' := [(3, .int 0), (0, .ref (ad 1)), (1, .int 1), (2, .int 9)]) hx hb dX6_readNumber_31 rfl hl (by decide) rfl (fun ls hl => ?_)
      exact L32 ((400 - x124.toInt).toNat + 1) 0 x124 x126 x128 H locs ls w134 (show 0 ≤ x124.toInt by omega) (show x124.toInt ≤ 400 by omega) (show 1 ≤ x126.toInt by omega) (show x126.toInt ≤ 400 by omega) (show 0 ≤ x128.toInt by omega) (show x128.toInt ≤ 399 by omega) (Nat.lt_succ_self _) hw hT hF c140 c141 c142 c139 (lv_sub hl [1, 2, 3, 0] rfl)
  · refine tk_Si hC hK hw hT hA hE hSR (k_X6_isDigit_2 l adK adV dC dI cy ad B (by omega) (by omega) qr s1    w120 H.size hT ) (va_cwS 1 hC.2.2.2.2 gX6_readNumber_X6_isDigit rfl rfl rfl (by decide +kernel) ⟨Nat.le_of_ble_eq_true rfl, Nat.le_of_ble_eq_true rfl⟩) rfl hl.1 rfl (Nat.le_of_ble_eq_true rfl) dX6_readNumber_13 (fun r155 w157 H locs hp156 hw => ?_)
    obtain ⟨hT, k158, hg159⟩ := hp156
    have hF := hF.tr k158 (by decide)
    have c160 := k158.gi kC_at1 (by decide) c131
    obtain rfl := hg159
    refine lv_if_ne (tgt := 30) hx hb dX6_readNumber_16 (by decide) (fun c => absurd (by decide) c) (fun _ => ?_)
    refine lv_aload_n hx hb dX6_readNumber_19 rfl (lv_at hl 0 rfl) ?_
    refine lv_aload_n hx hb dX6_readNumber_20 rfl (lv_at hl 0 rfl) ?_
    refine tk_geti hC hK hw hT hinX6 kC_at1 (by decide) rfl 3 (by decide) (List.mem_of_getElem? (i := 1) rfl) rfl rfl dX6_readNumber_21 (fun x161 c162 rx161 tx161 => ?_)
    refine lv_iconst (v := 0) hx hb dX6_readNumber_24 (by decide) ?_
    refine tk_Vv hC hK hw hT hA hE hSR kC_at1 (by decide) rfl (k_X6_blame_1 l adK adV dC dI cy ad B (by omega) (by omega) qr s1   x161 (show 0 ≤ x161.toInt by omega) (show x161.toInt ≤ 400 by omega) 0 (by decide) (by decide) w157 H.size hT c160) (cwV 2 hC.2.2.2.2 gX6_readNumber_X6_blame rfl rfl rfl (by decide +kernel) ⟨Nat.le_of_ble_eq_true rfl, Nat.le_of_ble_eq_true rfl⟩) rfl hl.1 rfl (Nat.le_of_ble_eq_true rfl) dX6_readNumber_25 (fun w165 H locs hp164 hw => ?_)
    obtain ⟨hT, k166, hg169⟩ := hp164
    have hF := hF.tr k166 (by decide)
    have c170 := k166.gi kC_at1 (by decide) c162
    obtain ⟨x167, c168, rx167, tx167⟩ := hg169
    refine lv_iconst (v := (-1)) hx hb dX6_readNumber_28 (by decide) ?_
    exact tk_iret hC hr hlocks hK ⟨hT, hF, (Or.inr ⟨rfl, ⟨x167, c168, (show 1 ≤ x167.toInt by omega), (show x167.toInt ≤ 3205 by omega)⟩⟩)⟩ hw dX6_readNumber_29
abbrev P_X7_placeStreet_2 (ad : Nat → Nat) (cy : Nat → ClassId) (B : Int) (qr : Nat) (s1 : Int) (a1 : Int32) (a2 : Int32) (a3 : Int32) (a4 : Int32) (w0 : va_W) : va_W → Prop := fun u => TW ksC ad cy B qr s1 u ∧ FE ksC [(24, 0, 26), (25, 0, 13), (27, 0, 13), (28, 0, 26)] w0 u ∧ ((True))
set_option maxHeartbeats 4000000 in
set_option maxRecDepth 100000 in
theorem k_X7_placeStreet_2 (l : Launch) (adK adV : Nat → Nat) (dC : Nat → ClassId) (dI : Nat → Nat → Nat) (cy : Nat → ClassId) (ad : Nat → Nat) (B : Int) (hB0 : 2147483648 ≤ B) (hB1 : B ≤ 1152921504606846976) (qr : Nat) (s1 : Int)  (a1 : Int32) (ra1 : 0 ≤ a1.toInt) (ta1 : a1.toInt ≤ 11) (a2 : Int32) (ra2 : 0 ≤ a2.toInt) (ta2 : a2.toInt ≤ 9) (a3 : Int32) (ra3 : 0 ≤ a3.toInt) (ta3 : a3.toInt ≤ 9) (a4 : Int32) (ra4 : 1 ≤ a4.toInt) (ta4 : a4.toInt ≤ 9) (w0 : va_W) (sz : Nat) (hT : TW ksC ad cy B qr s1 w0)  : Met l yX7_placeStreet wsX7_placeStreet ({ frames := 1, cells := 0, slots := 0, locals := 12 }) (va_Pc [.ref (ad 29), .int a1, .int a2, .int a3, .int a4] (wpreS adK adV dC dI cy sz w0)) (va_Qv (P_X7_placeStreet_2 ad cy B qr s1 a1 a2 a3 a4 w0) (fun u : va_W => wpost dC dI cy (va_A w0 sz) u) (va_A w0 sz)) 0 0 (va_A w0 sz) := by
  refine Met.ofW (cc := cX7_placeStreet) (maxL := 5) (ret := none) (by decide) rfl ?_
  intro p e s m args below meth c s₁ Bk hml hv
  obtain ⟨rfl, ⟨hsz, hP, hK, hD0⟩, hE, hSR⟩ := hv
  have hx := Bk.exec
  have hb := Bk.bytes
  have hr := Bk.returns
  have hlocks := Bk.notSynchronized
  have hC : CallFix p m c cX7_placeStreet 5 s _ wsX7_placeStreet RX7 := ⟨hx, hb, hml, findClass_of_methodNamed Bk.named, atoms_spec (ws := wsX7_placeStreet) Bk.pre⟩
  subst hsz
  have hD := hD0.self (sz := s.heap.size)
  generalize hAe : va_A w0 s.heap.size = A at hD hE ⊢
  have hA : ∀ q : Nat, s.heap.size ≤ q → A q := fun q h => by rw [← hAe]; exact Or.inr h
  have hw : Wd dC dI A s.heap s.heap [] w0 := ⟨hP, hD, va_S.rf⟩
  have hF : FE ksC [(24, 0, 26), (25, 0, 13), (27, 0, 13), (28, 0, 26)] w0 w0 := FE.rf
  have hl := lv_entry ([.ref (ad 29), .int a1, .int a2, .int a3, .int a4]) (n := 5) (Nat.le_of_ble_eq_true rfl)
  rw [lg_entry_eq]
  generalize (lg_sl ([.ref (ad 29), .int a1, .int a2, .int a3, .int a4]) ++ List.replicate (5 - (lg_sl ([.ref (ad 29), .int a1, .int a2, .int a3, .int a4])).length) Slot.unset).toArray = ls at hl ⊢
  have hl : lv_has ls 5 [(0, .ref (ad 29)), (1, .int a1), (2, .int a2), (3, .int a3), (4, .int a4)] := hl
  generalize hloc : ([] : List Loc) = locs at hw ⊢
  have hinX7 : ∀ w ∈ u_ws RX7 TX7 12, w ∈ wsX7_placeStreet := fun _ h => List.mem_cons_of_mem _ (List.mem_append_right _ (h))
  refine lv_aload_n hx hb dX7_placeStreet_0 rfl (lv_at hl 0 rfl) ?_
  refine tk_getO hC hK hw hT hinX7 kC_at29 (by decide) rfl 0 (by decide) (List.mem_of_getElem? (i := 1) rfl) rfl rfl dX7_placeStreet_1 ?_
  refine lv_iconst (v := 2) hx hb dX7_placeStreet_4 (by decide) ?_
  refine lv_iload_n hx hb dX7_placeStreet_5 rfl (lv_at hl 1 rfl) ?_
  refine lv_imul hx hb dX7_placeStreet_6 ?_
  refine lv_topi (fun x1 ex1 => ?_)
  have ex1 : x1.toInt = (2 : Int) * a1.toInt := by rw [ex1]; exact wk_mul (show (-2147483648) ≤ (2 : Int) * a1.toInt by omega) (show (2 : Int) * a1.toInt ≤ 2147483647 by omega)
  refine lv_iload_n hx hb dX7_placeStreet_7 rfl (lv_at hl 2 rfl) ?_
  refine tk_iast hC hK hw hT kC_at30 (by decide) rfl rfl (show 0 ≤ x1.toInt by omega) (show x1.toInt < 26 by omega) (show 0 ≤ a2.toInt by omega) (show a2.toInt ≤ 9 by omega) dX7_placeStreet_8 (fun H locs w2 hw hT k4 c3 => ?_)
  have hF := hF.put kC_at30 (inE_of (a := 0) (b := 26) (by decide) (show 0 ≤ x1.toInt.toNat by omega) (show x1.toInt.toNat ≤ 26 by omega)) k4
  refine lv_aload_n hx hb dX7_placeStreet_9 rfl (lv_at hl 0 rfl) ?_
  refine tk_getO hC hK hw hT hinX7 kC_at29 (by decide) rfl 0 (by decide) (List.mem_of_getElem? (i := 1) rfl) rfl rfl dX7_placeStreet_10 ?_
  refine lv_iconst (v := 2) hx hb dX7_placeStreet_13 (by decide) ?_
  refine lv_iload_n hx hb dX7_placeStreet_14 rfl (lv_at hl 1 rfl) ?_
  refine lv_imul hx hb dX7_placeStreet_15 ?_
  refine lv_topi (fun x5 ex5 => ?_)
  have ex5 : x5.toInt = (2 : Int) * a1.toInt := by rw [ex5]; exact wk_mul (show (-2147483648) ≤ (2 : Int) * a1.toInt by omega) (show (2 : Int) * a1.toInt ≤ 2147483647 by omega)
  refine lv_iconst (v := 1) hx hb dX7_placeStreet_16 (by decide) ?_
  refine lv_iadd hx hb dX7_placeStreet_17 ?_
  refine lv_topi (fun x6 ex6 => ?_)
  have ex6 : x6.toInt = x5.toInt + (1 : Int) := by rw [ex6]; exact wk_add (show (-2147483648) ≤ x5.toInt + (1 : Int) by omega) (show x5.toInt + (1 : Int) ≤ 2147483647 by omega)
  refine lv_iload_n hx hb dX7_placeStreet_18 rfl (lv_at hl 3 rfl) ?_
  refine tk_iast hC hK hw hT kC_at30 (by decide) rfl rfl (show 0 ≤ x6.toInt by omega) (show x6.toInt < 26 by omega) (show 0 ≤ a3.toInt by omega) (show a3.toInt ≤ 9 by omega) dX7_placeStreet_19 (fun H locs w7 hw hT k9 c8 => ?_)
  have hF := hF.put kC_at30 (inE_of (a := 0) (b := 26) (by decide) (show 0 ≤ x6.toInt.toNat by omega) (show x6.toInt.toNat ≤ 26 by omega)) k9
  refine lv_aload_n hx hb dX7_placeStreet_20 rfl (lv_at hl 0 rfl) ?_
  refine tk_getO hC hK hw hT hinX7 kC_at29 (by decide) rfl 1 (by decide) (List.mem_of_getElem? (i := 2) rfl) rfl rfl dX7_placeStreet_21 ?_
  refine lv_iload_n hx hb dX7_placeStreet_24 rfl (lv_at hl 1 rfl) ?_
  refine lv_iload hx hb dX7_placeStreet_25 (lv_at hl 4 rfl) ?_
  refine tk_iast hC hK hw hT kC_at31 (by decide) rfl rfl (show 0 ≤ a1.toInt by omega) (show a1.toInt < 13 by omega) (show 0 ≤ a4.toInt by omega) (show a4.toInt ≤ 9 by omega) dX7_placeStreet_27 (fun H locs w10 hw hT k12 c11 => ?_)
  have hF := hF.put kC_at31 (inE_of (a := 0) (b := 13) (by decide) (show 0 ≤ a1.toInt.toNat by omega) (show a1.toInt.toNat ≤ 13 by omega)) k12
  refine lv_aload_n hx hb dX7_placeStreet_28 rfl (lv_at hl 0 rfl) ?_
  refine tk_getO hC hK hw hT hinX7 kC_at29 (by decide) rfl 3 (by decide) (List.mem_of_getElem? (i := 3) rfl) rfl rfl dX7_placeStreet_29 ?_
  refine lv_iload_n hx hb dX7_placeStreet_32 rfl (lv_at hl 1 rfl) ?_
  refine lv_iconst (v := 0) hx hb dX7_placeStreet_33 (by decide) ?_
  refine tk_iast hC hK hw hT kC_at33 (by decide) rfl rfl (show 0 ≤ a1.toInt by omega) (show a1.toInt < 13 by omega) (by decide) (by decide) dX7_placeStreet_34 (fun H locs w13 hw hT k15 c14 => ?_)
  have hF := hF.put kC_at33 (inE_of (a := 0) (b := 13) (by decide) (show 0 ≤ a1.toInt.toNat by omega) (show a1.toInt.toNat ≤ 13 by omega)) k15
  refine lv_aload_n hx hb dX7_placeStreet_35 rfl (lv_at hl 0 rfl) ?_
  refine tk_getO hC hK hw hT hinX7 kC_at29 (by decide) rfl 4 (by decide) (List.mem_of_getElem? (i := 4) rfl) rfl rfl dX7_placeStreet_36 ?_
  refine lv_iconst (v := 2) hx hb dX7_placeStreet_39 (by decide) ?_
  refine lv_iload_n hx hb dX7_placeStreet_40 rfl (lv_at hl 1 rfl) ?_
  refine lv_imul hx hb dX7_placeStreet_41 ?_
  refine lv_topi (fun x16 ex16 => ?_)
  have ex16 : x16.toInt = (2 : Int) * a1.toInt := by rw [ex16]; exact wk_mul (show (-2147483648) ≤ (2 : Int) * a1.toInt by omega) (show (2 : Int) * a1.toInt ≤ 2147483647 by omega)
  refine lv_iconst (v := 0) hx hb dX7_placeStreet_42 (by decide) ?_
  refine tk_iast hC hK hw hT kC_at34 (by decide) rfl rfl (show 0 ≤ x16.toInt by omega) (show x16.toInt < 26 by omega) (by decide) (by decide) dX7_placeStreet_43 (fun H locs w17 hw hT k19 c18 => ?_)
  have hF := hF.put kC_at34 (inE_of (a := 0) (b := 26) (by decide) (show 0 ≤ x16.toInt.toNat by omega) (show x16.toInt.toNat ≤ 26 by omega)) k19
  refine lv_aload_n hx hb dX7_placeStreet_44 rfl (lv_at hl 0 rfl) ?_
  refine tk_getO hC hK hw hT hinX7 kC_at29 (by decide) rfl 4 (by decide) (List.mem_of_getElem? (i := 4) rfl) rfl rfl dX7_placeStreet_45 ?_
  refine lv_iconst (v := 2) hx hb dX7_placeStreet_48 (by decide) ?_
  refine lv_iload_n hx hb dX7_placeStreet_49 rfl (lv_at hl 1 rfl) ?_
  refine lv_imul hx hb dX7_placeStreet_50 ?_
  refine lv_topi (fun x20 ex20 => ?_)
  have ex20 : x20.toInt = (2 : Int) * a1.toInt := by rw [ex20]; exact wk_mul (show (-2147483648) ≤ (2 : Int) * a1.toInt by omega) (show (2 : Int) * a1.toInt ≤ 2147483647 by omega)
  refine lv_iconst (v := 1) hx hb dX7_placeStreet_51 (by decide) ?_
  refine lv_iadd hx hb dX7_placeStreet_52 ?_
  refine lv_topi (fun x21 ex21 => ?_)
  have ex21 : x21.toInt = x20.toInt + (1 : Int) := by rw [ex21]; exact wk_add (show (-2147483648) ≤ x20.toInt + (1 : Int) by omega) (show x20.toInt + (1 : Int) ≤ 2147483647 by omega)
  refine lv_iconst (v := 0) hx hb dX7_placeStreet_53 (by decide) ?_
  refine tk_iast hC hK hw hT kC_at34 (by decide) rfl rfl (show 0 ≤ x21.toInt by omega) (show x21.toInt < 26 by omega) (by decide) (by decide) dX7_placeStreet_54 (fun H locs w22 hw hT k24 c23 => ?_)
  have hF := hF.put kC_at34 (inE_of (a := 0) (b := 26) (by decide) (show 0 ≤ x21.toInt.toNat by omega) (show x21.toInt.toNat ≤ 26 by omega)) k24
  exact tk_vret hC hr hlocks hK ⟨hT, hF, trivial⟩ hw dX7_placeStreet_55
abbrev P_X7_placeSign_2 (ad : Nat → Nat) (cy : Nat → ClassId) (B : Int) (qr : Nat) (s1 : Int) (a1 : Int32) (a2 : Int32) (a3 : Int32) (w0 : va_W) : va_W → Prop := fun u => TW ksC ad cy B qr s1 u ∧ FE ksC [(26, 0, 91), (28, 0, 26)] w0 u ∧ ((True))
set_option maxHeartbeats 4000000 in
set_option maxRecDepth 100000 in
theorem k_X7_placeSign_2 (l : Launch) (adK adV : Nat → Nat) (dC : Nat → ClassId) (dI : Nat → Nat → Nat) (cy : Nat → ClassId) (ad : Nat → Nat) (B : Int) (hB0 : 2147483648 ≤ B) (hB1 : B ≤ 1152921504606846976) (qr : Nat) (s1 : Int)  (a1 : Int32) (ra1 : 0 ≤ a1.toInt) (ta1 : a1.toInt ≤ 11) (a2 : Int32) (ra2 : 0 ≤ a2.toInt) (ta2 : a2.toInt ≤ 6) (a3 : Int32) (ra3 : 0 ≤ a3.toInt) (ta3 : a3.toInt ≤ 3) (w0 : va_W) (sz : Nat) (hT : TW ksC ad cy B qr s1 w0)  : Met l yX7_placeSign wsX7_placeSign ({ frames := 1, cells := 0, slots := 0, locals := 12 }) (va_Pc [.ref (ad 29), .int a1, .int a2, .int a3] (wpreS adK adV dC dI cy sz w0)) (va_Qv (P_X7_placeSign_2 ad cy B qr s1 a1 a2 a3 w0) (fun u : va_W => wpost dC dI cy (va_A w0 sz) u) (va_A w0 sz)) 0 0 (va_A w0 sz) := by
  refine Met.ofW (cc := cX7_placeSign) (maxL := 4) (ret := none) (by decide) rfl ?_
  intro p e s m args below meth c s₁ Bk hml hv
  obtain ⟨rfl, ⟨hsz, hP, hK, hD0⟩, hE, hSR⟩ := hv
  have hx := Bk.exec
  have hb := Bk.bytes
  have hr := Bk.returns
  have hlocks := Bk.notSynchronized
  have hC : CallFix p m c cX7_placeSign 4 s _ wsX7_placeSign RX7 := ⟨hx, hb, hml, findClass_of_methodNamed Bk.named, atoms_spec (ws := wsX7_placeSign) Bk.pre⟩
  subst hsz
  have hD := hD0.self (sz := s.heap.size)
  generalize hAe : va_A w0 s.heap.size = A at hD hE ⊢
  have hA : ∀ q : Nat, s.heap.size ≤ q → A q := fun q h => by rw [← hAe]; exact Or.inr h
  have hw : Wd dC dI A s.heap s.heap [] w0 := ⟨hP, hD, va_S.rf⟩
  have hF : FE ksC [(26, 0, 91), (28, 0, 26)] w0 w0 := FE.rf
  have hl := lv_entry ([.ref (ad 29), .int a1, .int a2, .int a3]) (n := 4) (Nat.le_of_ble_eq_true rfl)
  rw [lg_entry_eq]
  generalize (lg_sl ([.ref (ad 29), .int a1, .int a2, .int a3]) ++ List.replicate (4 - (lg_sl ([.ref (ad 29), .int a1, .int a2, .int a3])).length) Slot.unset).toArray = ls at hl ⊢
  have hl : lv_has ls 4 [(0, .ref (ad 29)), (1, .int a1), (2, .int a2), (3, .int a3)] := hl
  generalize hloc : ([] : List Loc) = locs at hw ⊢
  have hinX7 : ∀ w ∈ u_ws RX7 TX7 12, w ∈ wsX7_placeSign := fun _ h => List.mem_cons_of_mem _ (List.mem_append_right _ (h))
  refine lv_aload_n hx hb dX7_placeSign_0 rfl (lv_at hl 0 rfl) ?_
  refine tk_getO hC hK hw hT hinX7 kC_at29 (by decide) rfl 2 (by decide) (List.mem_of_getElem? (i := 1) rfl) rfl rfl dX7_placeSign_1 ?_
  refine lv_bipush (v := 7) hx hb dX7_placeSign_4 (by decide) ?_
  refine lv_iload_n hx hb dX7_placeSign_6 rfl (lv_at hl 1 rfl) ?_
  refine lv_imul hx hb dX7_placeSign_7 ?_
  refine lv_topi (fun x1 ex1 => ?_)
  have ex1 : x1.toInt = (7 : Int) * a1.toInt := by rw [ex1]; exact wk_mul (show (-2147483648) ≤ (7 : Int) * a1.toInt by omega) (show (7 : Int) * a1.toInt ≤ 2147483647 by omega)
  refine lv_iload_n hx hb dX7_placeSign_8 rfl (lv_at hl 2 rfl) ?_
  refine lv_iadd hx hb dX7_placeSign_9 ?_
  refine lv_topi (fun x2 ex2 => ?_)
  have ex2 : x2.toInt = x1.toInt + a2.toInt := by rw [ex2]; exact wk_add (show (-2147483648) ≤ x1.toInt + a2.toInt by omega) (show x1.toInt + a2.toInt ≤ 2147483647 by omega)
  refine lv_iload_n hx hb dX7_placeSign_10 rfl (lv_at hl 3 rfl) ?_
  refine tk_iast hC hK hw hT kC_at32 (by decide) rfl rfl (show 0 ≤ x2.toInt by omega) (show x2.toInt < 91 by omega) (show 0 ≤ a3.toInt by omega) (show a3.toInt ≤ 3 by omega) dX7_placeSign_11 (fun H locs w3 hw hT k5 c4 => ?_)
  have hF := hF.put kC_at32 (inE_of (a := 0) (b := 91) (by decide) (show 0 ≤ x2.toInt.toNat by omega) (show x2.toInt.toNat ≤ 91 by omega)) k5
  refine lv_aload_n hx hb dX7_placeSign_12 rfl (lv_at hl 0 rfl) ?_
  refine tk_getO hC hK hw hT hinX7 kC_at29 (by decide) rfl 4 (by decide) (List.mem_of_getElem? (i := 2) rfl) rfl rfl dX7_placeSign_13 ?_
  refine lv_iconst (v := 2) hx hb dX7_placeSign_16 (by decide) ?_
  refine lv_iload_n hx hb dX7_placeSign_17 rfl (lv_at hl 1 rfl) ?_
  refine lv_imul hx hb dX7_placeSign_18 ?_
  refine lv_topi (fun x6 ex6 => ?_)
  have ex6 : x6.toInt = (2 : Int) * a1.toInt := by rw [ex6]; exact wk_mul (show (-2147483648) ≤ (2 : Int) * a1.toInt by omega) (show (2 : Int) * a1.toInt ≤ 2147483647 by omega)
  refine lv_dup2_11 hx hb dX7_placeSign_19 rfl rfl ?_
  refine tk_iald hC hK hw hT kC_at34 rfl rfl (show 0 ≤ x6.toInt by omega) (show x6.toInt < 26 by omega) dX7_placeSign_20 (fun x7 c8 rx7 tx7 => ?_)
  refine lv_iload_n hx hb dX7_placeSign_21 rfl (lv_at hl 3 rfl) ?_
  refine lv_iconst (v := 1) hx hb dX7_placeSign_22 (by decide) ?_
  refine lv_iand hx hb dX7_placeSign_23 ?_
  refine lv_topi (fun x9 ex9 => ?_)
  have bx9 : 0 ≤ x9.toInt ∧ x9.toInt ≤ (1 : Int) := by rw [ex9]; exact wk_and (by decide)
  refine lv_iload_n hx hb dX7_placeSign_24 rfl (lv_at hl 2 rfl) ?_
  refine lv_ishl hx hb dX7_placeSign_25 ?_
  refine lv_topi (fun x10 ex10 => ?_)
  refine lv_ior hx hb dX7_placeSign_26 ?_
  refine lv_topi (fun x11 ex11 => ?_)
  refine tk_iast hC hK hw hT kC_at34 (by decide) rfl rfl (show 0 ≤ x6.toInt by omega) (show x6.toInt < 26 by omega) (wk_i32 x11).1 (wk_i32 x11).2 dX7_placeSign_27 (fun H locs w12 hw hT k14 c13 => ?_)
  have hF := hF.put kC_at34 (inE_of (a := 0) (b := 26) (by decide) (show 0 ≤ x6.toInt.toNat by omega) (show x6.toInt.toNat ≤ 26 by omega)) k14
  refine lv_aload_n hx hb dX7_placeSign_28 rfl (lv_at hl 0 rfl) ?_
  refine tk_getO hC hK hw hT hinX7 kC_at29 (by decide) rfl 4 (by decide) (List.mem_of_getElem? (i := 2) rfl) rfl rfl dX7_placeSign_29 ?_
  refine lv_iconst (v := 2) hx hb dX7_placeSign_32 (by decide) ?_
  refine lv_iload_n hx hb dX7_placeSign_33 rfl (lv_at hl 1 rfl) ?_
  refine lv_imul hx hb dX7_placeSign_34 ?_
  refine lv_topi (fun x15 ex15 => ?_)
  have ex15 : x15.toInt = (2 : Int) * a1.toInt := by rw [ex15]; exact wk_mul (show (-2147483648) ≤ (2 : Int) * a1.toInt by omega) (show (2 : Int) * a1.toInt ≤ 2147483647 by omega)
  refine lv_iconst (v := 1) hx hb dX7_placeSign_35 (by decide) ?_
  refine lv_iadd hx hb dX7_placeSign_36 ?_
  refine lv_topi (fun x16 ex16 => ?_)
  have ex16 : x16.toInt = x15.toInt + (1 : Int) := by rw [ex16]; exact wk_add (show (-2147483648) ≤ x15.toInt + (1 : Int) by omega) (show x15.toInt + (1 : Int) ≤ 2147483647 by omega)
  refine lv_dup2_11 hx hb dX7_placeSign_37 rfl rfl ?_
  refine tk_iald hC hK hw hT kC_at34 rfl rfl (show 0 ≤ x16.toInt by omega) (show x16.toInt < 26 by omega) dX7_placeSign_38 (fun x17 c18 rx17 tx17 => ?_)
  refine lv_iload_n hx hb dX7_placeSign_39 rfl (lv_at hl 3 rfl) ?_
  refine lv_iconst (v := 1) hx hb dX7_placeSign_40 (by decide) ?_
  refine lv_ishr hx hb dX7_placeSign_41 ?_
  refine lv_topi (fun x19 ex19 => ?_)
  have bx19 : 0 ≤ x19.toInt ∧ x19.toInt ≤ a3.toInt := by rw [ex19]; exact wk_shr (by omega)
  refine lv_iload_n hx hb dX7_placeSign_42 rfl (lv_at hl 2 rfl) ?_
  refine lv_ishl hx hb dX7_placeSign_43 ?_
  refine lv_topi (fun x20 ex20 => ?_)
  refine lv_ior hx hb dX7_placeSign_44 ?_
  refine lv_topi (fun x21 ex21 => ?_)
  refine tk_iast hC hK hw hT kC_at34 (by decide) rfl rfl (show 0 ≤ x16.toInt by omega) (show x16.toInt < 26 by omega) (wk_i32 x21).1 (wk_i32 x21).2 dX7_placeSign_45 (fun H locs w22 hw hT k24 c23 => ?_)
  have hF := hF.put kC_at34 (inE_of (a := 0) (b := 26) (by decide) (show 0 ≤ x16.toInt.toNat by omega) (show x16.toInt.toNat ≤ 26 by omega)) k24
  exact tk_vret hC hr hlocks hK ⟨hT, hF, trivial⟩ hw dX7_placeSign_46
abbrev P_X7_readSigns_1 (ad : Nat → Nat) (cy : Nat → ClassId) (B : Int) (qr : Nat) (s1 : Int)  (w0 : va_W) : va_W → Prop := fun u => TW ksC ad cy B qr s1 u ∧ FE ksC [(6, 1, 1), (6, 3, 3), (6, 4, 4), (26, 0, 91), (28, 0, 26)] w0 u ∧ (((∃ y : Int32, gi u 1 4 = y ∧ 1 ≤ y.toInt ∧ y.toInt ≤ 3205) ∧ (∃ y : Int32, gi u 29 9 = y ∧ 0 ≤ y.toInt ∧ y.toInt ≤ 11)) ∨ ((∃ y : Int32, gi u 1 4 = y ∧ 0 ≤ y.toInt ∧ y.toInt ≤ 0) ∧ (∃ y : Int32, gi u 29 9 = y ∧ 0 ≤ y.toInt ∧ y.toInt ≤ 11)))
set_option maxHeartbeats 4000000 in
set_option maxRecDepth 100000 in
theorem k_X7_readSigns_1 (l : Launch) (adK adV : Nat → Nat) (dC : Nat → ClassId) (dI : Nat → Nat → Nat) (cy : Nat → ClassId) (ad : Nat → Nat) (B : Int) (hB0 : 2147483648 ≤ B) (hB1 : B ≤ 1152921504606846976) (qr : Nat) (s1 : Int)   (w0 : va_W) (sz : Nat) (hT : TW ksC ad cy B qr s1 w0) (cf0_ : gi w0 1 4 = 0) (f1_ : Int32) (cf1_ : gi w0 29 9 = f1_) (rf1_ : 0 ≤ f1_.toInt) (tf1_ : f1_.toInt ≤ 11) : Met l yX7_readSigns wsX7_readSigns ({ frames := 5, cells := 0, slots := 0, locals := 161 }) (va_Pc [.ref (ad 29), .ref (ad 1)] (wpreS adK adV dC dI cy sz w0)) (va_Qv (P_X7_readSigns_1 ad cy B qr s1  w0) (fun u : va_W => wpost dC dI cy (va_A w0 sz) u) (va_A w0 sz)) 0 0 (va_A w0 sz) := by
  refine Met.ofW (cc := cX7_readSigns) (maxL := 5) (ret := none) (by decide) rfl ?_
  intro p e s m args below meth c s₁ Bk hml hv
  obtain ⟨rfl, ⟨hsz, hP, hK, hD0⟩, hE, hSR⟩ := hv
  have hx := Bk.exec
  have hb := Bk.bytes
  have hr := Bk.returns
  have hlocks := Bk.notSynchronized
  have hC : CallFix p m c cX7_readSigns 5 s _ wsX7_readSigns RX7 := ⟨hx, hb, hml, findClass_of_methodNamed Bk.named, atoms_spec (ws := wsX7_readSigns) Bk.pre⟩
  subst hsz
  have hD := hD0.self (sz := s.heap.size)
  generalize hAe : va_A w0 s.heap.size = A at hD hE ⊢
  have hA : ∀ q : Nat, s.heap.size ≤ q → A q := fun q h => by rw [← hAe]; exact Or.inr h
  have hw : Wd dC dI A s.heap s.heap [] w0 := ⟨hP, hD, va_S.rf⟩
  have hF : FE ksC [(6, 1, 1), (6, 3, 3), (6, 4, 4), (26, 0, 91), (28, 0, 26)] w0 w0 := FE.rf
  have hl := lv_entry ([.ref (ad 29), .ref (ad 1)]) (n := 5) (Nat.le_of_ble_eq_true rfl)
  rw [lg_entry_eq]
  generalize (lg_sl ([.ref (ad 29), .ref (ad 1)]) ++ List.replicate (5 - (lg_sl ([.ref (ad 29), .ref (ad 1)])).length) Slot.unset).toArray = ls at hl ⊢
  have hl : lv_has ls 5 [(0, .ref (ad 29)), (1, .ref (ad 1))] := hl
  generalize hloc : ([] : List Loc) = locs at hw ⊢
  have hinX7 : ∀ w ∈ u_ws RX7 TX7 12, w ∈ wsX7_readSigns := fun _ h => List.mem_cons_of_mem _ (List.mem_append_left _ (List.mem_append_right _ (h)))
  have L7 : ∀ (n7 : Nat) (v7_2 : Int32) (H : Heap) (locs : List Loc) (ls : Array Slot) (w1 : va_W), 0 ≤ v7_2.toInt → v7_2.toInt ≤ 7 → 0 ≤ f1_.toInt → f1_.toInt ≤ 11 → (7 - v7_2.toInt).toNat < n7 → Wd dC dI A s.heap H locs w1 → TW ksC ad cy B qr s1 w1 → FE ksC [(6, 1, 1), (6, 3, 3), (6, 4, 4), (26, 0, 91), (28, 0, 26)] w0 w1 → gi w1 1 4 = 0 → gi w1 29 9 = f1_ → lv_has ls 5 [(0, .ref (ad 29)), (1, .ref (ad 1)), (2, .int v7_2)] → W p l e ({ frames := 5, cells := 0, slots := 0, locals := 161 }) s m (List.toArray [.ref (ad 29), .ref (ad 1)]) below meth c H locs 0 0 (MQ below (va_Qv (P_X7_readSigns_1 ad cy B qr s1  w0) (fun u : va_W => wpost dC dI cy A u) A) (List.toArray [.ref (ad 29), .ref (ad 1)]) s 0 0 A) (F0 m 7 ls []) := by
    intro n7
    induction n7 with
    | zero => intro v7_2 H locs ls w1 r2 t3 r5 t6 hm7 hw hT hF c4 c7 hl; omega
    | succ n7 ih7 =>
      intro v7_2 H locs ls w1 r2 t3 r5 t6 hm7 hw hT hF c4 c7 hl
      refine lv_iload_n hx hb dX7_readSigns_7 rfl (lv_at hl 2 rfl) ?_
      refine lv_bipush (v := 7) hx hb dX7_readSigns_8 (by decide) ?_
      refine lv_icmp_ge (tgt := 67) hx hb dX7_readSigns_10 (by decide) (fun c8 => ?_) (fun c8 => ?_)
      · have c8 : (7 : Int) ≤ v7_2.toInt := wk_le.mp c8
        exact tk_vret hC hr hlocks hK ⟨hT, hF, (Or.inr ⟨⟨0, c4, (by decide), (by decide)⟩, ⟨f1_, c7, (show 0 ≤ f1_.toInt by omega), (show f1_.toInt ≤ 11 by omega)⟩⟩)⟩ hw dX7_readSigns_67
      · have c8 : v7_2.toInt < (7 : Int) := wk_leF c8
        refine lv_aload_n hx hb dX7_readSigns_13 rfl (lv_at hl 1 rfl) ?_
        refine tk_Vi hC hK hw hT hA hE hSR kC_at1 (by decide) rfl (k_X6_look_1 l adK adV dC dI cy ad B (by omega) (by omega) qr s1    w1 H.size hT ) (cwV 0 hC.2.2.2.2 gX7_readSigns_X6_look rfl rfl rfl (by decide +kernel) ⟨Nat.le_of_ble_eq_true rfl, Nat.le_of_ble_eq_true rfl⟩) rfl hl.1 rfl (Nat.le_of_ble_eq_true rfl) dX7_readSigns_14 (fun r9 w11 H locs hp10 hw => ?_)
        obtain ⟨hT, k12, hg19⟩ := hp10
        have hF := hF.tr k12 (by decide)
        have c20 := k12.gi kC_at1 (by decide) c4
        have c21 := k12.gi kC_at29 (by decide) c7
        rcases hg19 with ⟨g13, g14, ⟨x15, c16, rx15, tx15⟩, ⟨x17, c18, rx17, tx17⟩⟩ | rfl
        · refine lv_istore_n (lv' := [(3, .int r9), (0, .ref (ad 29)), (1, .ref (ad 1)), (2, .int v7_2)]) hx hb dX7_readSigns_17 rfl hl (by decide) rfl (fun ls hl => ?_)
          refine lv_iload_n hx hb dX7_readSigns_18 rfl (lv_at hl 0 rfl) ?_
          refine lv_iconst (v := (-1)) hx hb dX7_readSigns_19 (by decide) ?_
          refine lv_icmp_ne (tgt := 27) hx hb dX7_readSigns_20 (by decide) (fun _ => ?_) (fun c => absurd (show r9.toInt = (-1 : Int) from wk_eq.mp c) (by omega))
          refine va_ldcS hx hb hC.2.2.2.1 hSR.2.1 dX7_readSigns_27 ?_
          refine lv_iload_n hx hb dX7_readSigns_29 rfl (lv_at hl 0 rfl) ?_
          refine lv_i2c hx hb dX7_readSigns_30 rfl ?_
          refine lv_topi (fun x22 ex22 => ?_)
          refine tk_ViT hC hK hw hA hE hSR (s_io l adK adV dC dI cy x22 H.size) (cwV 1 hC.2.2.2.2 gX7_readSigns_J0_indexOf_0f7a4 rfl rfl rfl (by decide +kernel) ⟨Nat.le_of_ble_eq_true rfl, Nat.le_of_ble_eq_true rfl⟩) 1 (by decide) rfl rfl rfl hl.1 rfl (Nat.le_of_ble_eq_true rfl) dX7_readSigns_31 (fun r23 H locs hp24 hw => ?_)
          obtain ⟨-, uhp24, vhp24⟩ := hp24
          refine lv_istore (lv' := [(4, .int r23), (3, .int r9), (0, .ref (ad 29)), (1, .ref (ad 1)), (2, .int v7_2)]) hx hb dX7_readSigns_34 hl (by decide) rfl (fun ls hl => ?_)
          refine lv_iload hx hb dX7_readSigns_36 (lv_at hl 0 rfl) ?_
          refine lv_if_ge (tgt := 46) hx hb dX7_readSigns_38 (by decide) (fun c25 => ?_) (fun c25 => ?_)
          · have c25 : (0 : Int) ≤ r23.toInt := wk_le.mp c25
            refine lv_aload_n hx hb dX7_readSigns_46 rfl (lv_at hl 3 rfl) ?_
            refine tk_Vv hC hK hw hT hA hE hSR kC_at1 (by decide) rfl (k_X6_pass_1 l adK adV dC dI cy ad B (by omega) (by omega) qr s1    w11 H.size hT ) (cwV 0 hC.2.2.2.2 gX7_readSigns_X6_pass rfl rfl rfl (by decide +kernel) ⟨Nat.le_of_ble_eq_true rfl, Nat.le_of_ble_eq_true rfl⟩) rfl hl.1 rfl (Nat.le_of_ble_eq_true rfl) dX7_readSigns_47 (fun w28 H locs hp27 hw => ?_)
            obtain ⟨hT, k29, hg30⟩ := hp27
            have hF := hF.tr k29 (by decide)
            have c31 := k29.gi kC_at1 (by decide) c20
            have c32 := k29.gi kC_at29 (by decide) c21
            have c33 := k29.gi kC_at1 (by decide) c18
            clear hg30
            refine lv_aload_n hx hb dX7_readSigns_50 rfl (lv_at hl 2 rfl) ?_
            refine lv_aload_n hx hb dX7_readSigns_51 rfl (lv_at hl 2 rfl) ?_
            refine tk_geti hC hK hw hT hinX7 kC_at29 (by decide) rfl 9 (by decide) (List.mem_of_getElem? (i := 1) rfl) rfl rfl dX7_readSigns_52 (fun x34 c35 rx34 tx34 => ?_)
            refine wk_top f1_ (c35.symm.trans c32) ?_
            refine lv_iload_n hx hb dX7_readSigns_55 rfl (lv_at hl 4 rfl) ?_
            refine lv_iload hx hb dX7_readSigns_56 (lv_at hl 0 rfl) ?_
            refine tk_Vv hC hK hw hT hA hE hSR kC_at29 (by decide) rfl (k_X7_placeSign_2 l adK adV dC dI cy ad B (by omega) (by omega) qr s1   f1_ (show 0 ≤ f1_.toInt by omega) (show f1_.toInt ≤ 11 by omega) v7_2 (show 0 ≤ v7_2.toInt by omega) (show v7_2.toInt ≤ 6 by omega) r23 (show 0 ≤ r23.toInt by omega) (show r23.toInt ≤ 3 by omega) w28 H.size hT ) (cwV 3 hC.2.2.2.2 gX7_readSigns_X7_placeSign rfl rfl rfl (by decide +kernel) ⟨Nat.le_of_ble_eq_true rfl, Nat.le_of_ble_eq_true rfl⟩) rfl hl.1 rfl (Nat.le_of_ble_eq_true rfl) dX7_readSigns_58 (fun w38 H locs hp37 hw => ?_)
            obtain ⟨hT, k39, hg40⟩ := hp37
            have hF := hF.tr k39 (by decide)
            have c41 := k39.gi kC_at1 (by decide) c31
            have c42 := k39.gi kC_at29 (by decide) c32
            have c43 := k39.gi kC_at1 (by decide) c33
            clear hg40
            obtain ⟨x44, ex44⟩ : ∃ y : Int32, y = v7_2 + Int32.ofInt 1 := ⟨_, rfl⟩
            refine lv_iinc (v := x44) (lv' := [(2, .int x44), (4, .int r23), (3, .int r9), (0, .ref (ad 29)), (1, .ref (ad 1))]) hx hb dX7_readSigns_61 hl (k := 4) rfl ex44.symm (by decide) rfl (fun ls hl => ?_)
            have ex44 : x44.toInt = v7_2.toInt + 1 := by rw [ex44]; exact wk_add (y := 1) (show -2147483648 ≤ v7_2.toInt + 1 by omega) (show v7_2.toInt + 1 ≤ 2147483647 by omega)
            refine lv_goto (tgt := 7) hx hb dX7_readSigns_64 (by decide) ?_
            exact ih7 x44 H locs ls w38 (show 0 ≤ x44.toInt by omega) (show x44.toInt ≤ 7 by omega) (show 0 ≤ f1_.toInt by omega) (show f1_.toInt ≤ 11 by omega) (show (7 - x44.toInt).toNat < n7 by omega) hw hT hF c41 c42 (lv_sub hl [3, 4, 0] rfl)
          · have c25 : r23.toInt < (0 : Int) := wk_leF c25
            refine lv_aload_n hx hb dX7_readSigns_41 rfl (lv_at hl 3 rfl) ?_
            refine tk_Vv hC hK hw hT hA hE hSR kC_at1 (by decide) rfl (k_X6_blameHere_1 l adK adV dC dI cy ad B (by omega) (by omega) qr s1    w11 H.size hT c20) (cwV 0 hC.2.2.2.2 gX7_readSigns_X6_blameHere rfl rfl rfl (by decide +kernel) ⟨Nat.le_of_ble_eq_true rfl, Nat.le_of_ble_eq_true rfl⟩) rfl hl.1 rfl (Nat.le_of_ble_eq_true rfl) dX7_readSigns_42 (fun w47 H locs hp46 hw => ?_)
            obtain ⟨hT, k48, hg51⟩ := hp46
            have hF := hF.tr k48 (by decide)
            have c52 := k48.gi kC_at29 (by decide) c21
            have c53 := k48.gi kC_at1 (by decide) c16
            have c54 := k48.gi kC_at1 (by decide) c18
            obtain ⟨x49, c50, rx49, tx49⟩ := hg51
            exact tk_vret hC hr hlocks hK ⟨hT, hF, (Or.inl ⟨⟨x49, c50, (show 1 ≤ x49.toInt by omega), (show x49.toInt ≤ 3205 by omega)⟩, ⟨f1_, c52, (show 0 ≤ f1_.toInt by omega), (show f1_.toInt ≤ 11 by omega)⟩⟩)⟩ hw dX7_readSigns_45
        · refine lv_istore_n (lv' := [(3, .int (-1)), (0, .ref (ad 29)), (1, .ref (ad 1)), (2, .int v7_2)]) hx hb dX7_readSigns_17 rfl hl (by decide) rfl (fun ls hl => ?_)
          refine lv_iload_n hx hb dX7_readSigns_18 rfl (lv_at hl 0 rfl) ?_
          refine lv_iconst (v := (-1)) hx hb dX7_readSigns_19 (by decide) ?_
          refine lv_icmp_ne (tgt := 27) hx hb dX7_readSigns_20 (by decide) (fun c => absurd (by decide) c) (fun _ => ?_)
          refine lv_iconst (v := (-1)) hx hb dX7_readSigns_23 (by decide) ?_
          refine lv_goto (tgt := 34) hx hb dX7_readSigns_24 (by decide) ?_
          refine lv_istore (lv' := [(4, .int (-1)), (3, .int (-1)), (0, .ref (ad 29)), (1, .ref (ad 1)), (2, .int v7_2)]) hx hb dX7_readSigns_34 hl (by decide) rfl (fun ls hl => ?_)
          refine lv_iload hx hb dX7_readSigns_36 (lv_at hl 0 rfl) ?_
          refine lv_if_ge (tgt := 46) hx hb dX7_readSigns_38 (by decide) (fun c => absurd c (by decide)) (fun _ => ?_)
          refine lv_aload_n hx hb dX7_readSigns_41 rfl (lv_at hl 3 rfl) ?_
          refine tk_Vv hC hK hw hT hA hE hSR kC_at1 (by decide) rfl (k_X6_blameHere_1 l adK adV dC dI cy ad B (by omega) (by omega) qr s1    w11 H.size hT c20) (cwV 0 hC.2.2.2.2 gX7_readSigns_X6_blameHere rfl rfl rfl (by decide +kernel) ⟨Nat.le_of_ble_eq_true rfl, Nat.le_of_ble_eq_true rfl⟩) rfl hl.1 rfl (Nat.le_of_ble_eq_true rfl) dX7_readSigns_42 (fun w57 H locs hp56 hw => ?_)
          obtain ⟨hT, k58, hg61⟩ := hp56
          have hF := hF.tr k58 (by decide)
          have c62 := k58.gi kC_at29 (by decide) c21
          obtain ⟨x59, c60, rx59, tx59⟩ := hg61
          exact tk_vret hC hr hlocks hK ⟨hT, hF, (Or.inl ⟨⟨x59, c60, (show 1 ≤ x59.toInt by omega), (show x59.toInt ≤ 3205 by omega)⟩, ⟨f1_, c62, (show 0 ≤ f1_.toInt by omega), (show f1_.toInt ≤ 11 by omega)⟩⟩)⟩ hw dX7_readSigns_45
  refine lv_aload_n hx hb dX7_readSigns_0 rfl (lv_at hl 1 rfl) ?_
  refine tk_Vi hC hK hw hT hA hE hSR kC_at1 (by decide) rfl (k_X6_lookBehindBlanks_1 l adK adV dC dI cy ad B (by omega) (by omega) qr s1    w0 s.heap.size hT ) (cwV 0 hC.2.2.2.2 gX7_readSigns_X6_lookBehindBlanks rfl rfl rfl (by decide +kernel) ⟨Nat.le_of_ble_eq_true rfl, Nat.le_of_ble_eq_true rfl⟩) rfl hl.1 rfl (Nat.le_of_ble_eq_true rfl) dX7_readSigns_1 (fun r63 w65 H locs hp64 hw => ?_)
  obtain ⟨hT, k66, hg75⟩ := hp64
  have hF := hF.tr k66 (by decide)
  have c76 := k66.gi kC_at1 (by decide) cf0_
  have c77 := k66.gi kC_at29 (by decide) cf1_
  rcases hg75 with ⟨g67, g68, ⟨x69, c70, rx69, tx69⟩, ⟨x71, c72, rx71, tx71⟩, ⟨x73, c74, rx73, tx73⟩⟩ | rfl
  · refine lv_pop hx hb dX7_readSigns_4 rfl ?_
    refine lv_iconst (v := 0) hx hb dX7_readSigns_5 (by decide) ?_
    refine lv_istore_n (lv' := [(2, .int 0), (0, .ref (ad 29)), (1, .ref (ad 1))]) hx hb dX7_readSigns_6 rfl hl (by decide) rfl (fun ls hl => ?_)
    exact L7 ((7 - (0 : Int)).toNat + 1) 0 H locs ls w65 (by decide) (by decide) (show 0 ≤ f1_.toInt by omega) (show f1_.toInt ≤ 11 by omega) (Nat.lt_succ_self _) hw hT hF c76 c77 (lv_sub hl [1, 2, 0] rfl)
  · refine lv_pop hx hb dX7_readSigns_4 rfl ?_
    refine lv_iconst (v := 0) hx hb dX7_readSigns_5 (by decide) ?_
    refine lv_istore_n (lv' := [(2, .int 0), (0, .ref (ad 29)), (1, .ref (ad 1))]) hx hb dX7_readSigns_6 rfl hl (by decide) rfl (fun ls hl => ?_)
    exact L7 ((7 - (0 : Int)).toNat + 1) 0 H locs ls w65 (by decide) (by decide) (show 0 ≤ f1_.toInt by omega) (show f1_.toInt ≤ 11 by omega) (Nat.lt_succ_self _) hw hT hF c76 c77 (lv_sub hl [1, 2, 0] rfl)
abbrev P_X6_readNumber_6 (ad : Nat → Nat) (cy : Nat → ClassId) (B : Int) (qr : Nat) (s1 : Int)  (w0 : va_W) : Int32 → va_W → Prop := fun r u => TW ksC ad cy B qr s1 u ∧ FE ksC ([] : List (Nat × Nat × Nat)) w0 u ∧ ((r = (-1) ∧ (∃ y : Int32, gi u 1 4 = y ∧ 1 ≤ y.toInt ∧ y.toInt ≤ 3205)))
set_option maxHeartbeats 4000000 in
set_option maxRecDepth 100000 in
theorem k_X6_readNumber_6 (l : Launch) (adK adV : Nat → Nat) (dC : Nat → ClassId) (dI : Nat → Nat → Nat) (cy : Nat → ClassId) (ad : Nat → Nat) (B : Int) (hB0 : 2147483648 ≤ B) (hB1 : B ≤ 1152921504606846976) (qr : Nat) (s1 : Int)   (w0 : va_W) (sz : Nat) (hT : TW ksC ad cy B qr s1 w0) (f0_ : Int32) (cf0_ : gi w0 1 4 = f0_) (rf0_ : 1 ≤ f0_.toInt) (tf0_ : f0_.toInt ≤ 3205) : Met l yX6_readNumber wsX6_readNumber ({ frames := 2, cells := 0, slots := 0, locals := 32 }) (va_Pc [.ref (ad 1), .int 1, .int 9] (wpreS adK adV dC dI cy sz w0)) (va_Qi (P_X6_readNumber_6 ad cy B qr s1  w0) (fun u : va_W => wpost dC dI cy (va_A w0 sz) u) (va_A w0 sz)) 0 0 (va_A w0 sz) := by
  refine Met.ofW (cc := cX6_readNumber) (maxL := 4) (ret := (some .int)) (by decide) rfl ?_
  intro p e s m args below meth c s₁ Bk hml hv
  obtain ⟨rfl, ⟨hsz, hP, hK, hD0⟩, hE, hSR⟩ := hv
  have hx := Bk.exec
  have hb := Bk.bytes
  have hr := Bk.returns
  have hlocks := Bk.notSynchronized
  have hC : CallFix p m c cX6_readNumber 4 s _ wsX6_readNumber RX6 := ⟨hx, hb, hml, findClass_of_methodNamed Bk.named, atoms_spec (ws := wsX6_readNumber) Bk.pre⟩
  subst hsz
  have hD := hD0.self (sz := s.heap.size)
  generalize hAe : va_A w0 s.heap.size = A at hD hE ⊢
  have hA : ∀ q : Nat, s.heap.size ≤ q → A q := fun q h => by rw [← hAe]; exact Or.inr h
  have hw : Wd dC dI A s.heap s.heap [] w0 := ⟨hP, hD, va_S.rf⟩
  have hF : FE ksC ([] : List (Nat × Nat × Nat)) w0 w0 := FE.rf
  have hl := lv_entry ([.ref (ad 1), .int 1, .int 9]) (n := 4) (Nat.le_of_ble_eq_true rfl)
  rw [lg_entry_eq]
  generalize (lg_sl ([.ref (ad 1), .int 1, .int 9]) ++ List.replicate (4 - (lg_sl ([.ref (ad 1), .int 1, .int 9])).length) Slot.unset).toArray = ls at hl ⊢
  have hl : lv_has ls 4 [(0, .ref (ad 1)), (1, .int 1), (2, .int 9)] := hl
  generalize hloc : ([] : List Loc) = locs at hw ⊢
  refine lv_aload_n hx hb dX6_readNumber_0 rfl (lv_at hl 0 rfl) ?_
  refine tk_Vi hC hK hw hT hA hE hSR kC_at1 (by decide) rfl (k_X6_isFaulty_3 l adK adV dC dI cy ad B (by omega) (by omega) qr s1    w0 s.heap.size hT f0_ cf0_ (show 1 ≤ f0_.toInt by omega) (show f0_.toInt ≤ 3205 by omega)) (cwV 0 hC.2.2.2.2 gX6_readNumber_X6_isFaulty rfl rfl rfl (by decide +kernel) ⟨Nat.le_of_ble_eq_true rfl, Nat.le_of_ble_eq_true rfl⟩) rfl hl.1 rfl (Nat.le_of_ble_eq_true rfl) dX6_readNumber_1 (fun r1 w3 H locs hp2 hw => ?_)
  obtain ⟨hT, k4, hg7⟩ := hp2
  have hF := hF.tr k4 (by decide)
  have c8 := k4.gi kC_at1 (by decide) cf0_
  obtain ⟨rfl, ⟨x5, c6, rx5, tx5⟩⟩ := hg7
  have ex5 : x5.toInt = f0_.toInt := by rw [← c8.symm.trans c6]
  refine lv_if_eq (tgt := 9) hx hb dX6_readNumber_4 (by decide) (fun c => absurd c (by decide)) (fun _ => ?_)
  refine lv_iconst (v := (-1)) hx hb dX6_readNumber_7 (by decide) ?_
  exact tk_iret hC hr hlocks hK ⟨hT, hF, ⟨rfl, ⟨f0_, c8, (show 1 ≤ f0_.toInt by omega), (show f0_.toInt ≤ 3205 by omega)⟩⟩⟩ hw dX6_readNumber_8
abbrev P_X6_readNumber_7 (ad : Nat → Nat) (cy : Nat → ClassId) (B : Int) (qr : Nat) (s1 : Int) (a2 : Int32) (w0 : va_W) : Int32 → va_W → Prop := fun r u => TW ksC ad cy B qr s1 u ∧ FE ksC ([] : List (Nat × Nat × Nat)) w0 u ∧ ((r = (-1) ∧ (∃ y : Int32, gi u 1 4 = y ∧ 1 ≤ y.toInt ∧ y.toInt ≤ 3205)))
set_option maxHeartbeats 4000000 in
set_option maxRecDepth 100000 in
theorem k_X6_readNumber_7 (l : Launch) (adK adV : Nat → Nat) (dC : Nat → ClassId) (dI : Nat → Nat → Nat) (cy : Nat → ClassId) (ad : Nat → Nat) (B : Int) (hB0 : 2147483648 ≤ B) (hB1 : B ≤ 1152921504606846976) (qr : Nat) (s1 : Int)  (a2 : Int32) (ra2 : (-2) ≤ a2.toInt) (ta2 : a2.toInt ≤ 9) (w0 : va_W) (sz : Nat) (hT : TW ksC ad cy B qr s1 w0) (f0_ : Int32) (cf0_ : gi w0 1 4 = f0_) (rf0_ : 1 ≤ f0_.toInt) (tf0_ : f0_.toInt ≤ 3205) : Met l yX6_readNumber wsX6_readNumber ({ frames := 2, cells := 0, slots := 0, locals := 32 }) (va_Pc [.ref (ad 1), .int 0, .int a2] (wpreS adK adV dC dI cy sz w0)) (va_Qi (P_X6_readNumber_7 ad cy B qr s1 a2 w0) (fun u : va_W => wpost dC dI cy (va_A w0 sz) u) (va_A w0 sz)) 0 0 (va_A w0 sz) := by
  refine Met.ofW (cc := cX6_readNumber) (maxL := 4) (ret := (some .int)) (by decide) rfl ?_
  intro p e s m args below meth c s₁ Bk hml hv
  obtain ⟨rfl, ⟨hsz, hP, hK, hD0⟩, hE, hSR⟩ := hv
  have hx := Bk.exec
  have hb := Bk.bytes
  have hr := Bk.returns
  have hlocks := Bk.notSynchronized
  have hC : CallFix p m c cX6_readNumber 4 s _ wsX6_readNumber RX6 := ⟨hx, hb, hml, findClass_of_methodNamed Bk.named, atoms_spec (ws := wsX6_readNumber) Bk.pre⟩
  subst hsz
  have hD := hD0.self (sz := s.heap.size)
  generalize hAe : va_A w0 s.heap.size = A at hD hE ⊢
  have hA : ∀ q : Nat, s.heap.size ≤ q → A q := fun q h => by rw [← hAe]; exact Or.inr h
  have hw : Wd dC dI A s.heap s.heap [] w0 := ⟨hP, hD, va_S.rf⟩
  have hF : FE ksC ([] : List (Nat × Nat × Nat)) w0 w0 := FE.rf
  have hl := lv_entry ([.ref (ad 1), .int 0, .int a2]) (n := 4) (Nat.le_of_ble_eq_true rfl)
  rw [lg_entry_eq]
  generalize (lg_sl ([.ref (ad 1), .int 0, .int a2]) ++ List.replicate (4 - (lg_sl ([.ref (ad 1), .int 0, .int a2])).length) Slot.unset).toArray = ls at hl ⊢
  have hl : lv_has ls 4 [(0, .ref (ad 1)), (1, .int 0), (2, .int a2)] := hl
  generalize hloc : ([] : List Loc) = locs at hw ⊢
  refine lv_aload_n hx hb dX6_readNumber_0 rfl (lv_at hl 0 rfl) ?_
  refine tk_Vi hC hK hw hT hA hE hSR kC_at1 (by decide) rfl (k_X6_isFaulty_3 l adK adV dC dI cy ad B (by omega) (by omega) qr s1    w0 s.heap.size hT f0_ cf0_ (show 1 ≤ f0_.toInt by omega) (show f0_.toInt ≤ 3205 by omega)) (cwV 0 hC.2.2.2.2 gX6_readNumber_X6_isFaulty rfl rfl rfl (by decide +kernel) ⟨Nat.le_of_ble_eq_true rfl, Nat.le_of_ble_eq_true rfl⟩) rfl hl.1 rfl (Nat.le_of_ble_eq_true rfl) dX6_readNumber_1 (fun r1 w3 H locs hp2 hw => ?_)
  obtain ⟨hT, k4, hg7⟩ := hp2
  have hF := hF.tr k4 (by decide)
  have c8 := k4.gi kC_at1 (by decide) cf0_
  obtain ⟨rfl, ⟨x5, c6, rx5, tx5⟩⟩ := hg7
  have ex5 : x5.toInt = f0_.toInt := by rw [← c8.symm.trans c6]
  refine lv_if_eq (tgt := 9) hx hb dX6_readNumber_4 (by decide) (fun c => absurd c (by decide)) (fun _ => ?_)
  refine lv_iconst (v := (-1)) hx hb dX6_readNumber_7 (by decide) ?_
  exact tk_iret hC hr hlocks hK ⟨hT, hF, ⟨rfl, ⟨f0_, c8, (show 1 ≤ f0_.toInt by omega), (show f0_.toInt ≤ 3205 by omega)⟩⟩⟩ hw dX6_readNumber_8
abbrev P_X7_readStreet_1 (ad : Nat → Nat) (cy : Nat → ClassId) (B : Int) (qr : Nat) (s1 : Int)  (w0 : va_W) : va_W → Prop := fun u => TW ksC ad cy B qr s1 u ∧ FE ksC [(6, 1, 1), (6, 3, 3), (6, 4, 4), (7, 9, 9), (24, 0, 26), (25, 0, 13), (26, 0, 91), (27, 0, 13), (28, 0, 26)] w0 u ∧ (((∃ y : Int32, gi u 1 4 = y ∧ 1 ≤ y.toInt ∧ y.toInt ≤ 3205) ∧ (∃ y : Int32, gi u 29 9 = y ∧ 0 ≤ y.toInt ∧ y.toInt ≤ 12)) ∨ ((∃ y : Int32, gi u 1 2 = y ∧ 1 ≤ y.toInt ∧ y.toInt ≤ 400) ∧ (∃ y : Int32, gi u 1 4 = y ∧ 0 ≤ y.toInt ∧ y.toInt ≤ 0) ∧ (∃ y : Int32, gi u 29 8 = y ∧ 1 ≤ y.toInt ∧ y.toInt ≤ 10) ∧ (∃ y : Int32, gi u 29 9 = y ∧ 1 ≤ y.toInt ∧ y.toInt ≤ 12)))
set_option maxHeartbeats 4000000 in
set_option maxRecDepth 100000 in
theorem k_X7_readStreet_1 (l : Launch) (adK adV : Nat → Nat) (dC : Nat → ClassId) (dI : Nat → Nat → Nat) (cy : Nat → ClassId) (ad : Nat → Nat) (B : Int) (hB0 : 2147483648 ≤ B) (hB1 : B ≤ 1152921504606846976) (qr : Nat) (s1 : Int)   (w0 : va_W) (sz : Nat) (hT : TW ksC ad cy B qr s1 w0) (cf0_ : gi w0 1 4 = 0) (f1_ : Int32) (cf1_ : gi w0 29 9 = f1_) (rf1_ : 0 ≤ f1_.toInt) (tf1_ : f1_.toInt ≤ 11) : Met l yX7_readStreet wsX7_readStreet ({ frames := 6, cells := 0, slots := 0, locals := 185 }) (va_Pc [.ref (ad 29), .ref (ad 1)] (wpreS adK adV dC dI cy sz w0)) (va_Qv (P_X7_readStreet_1 ad cy B qr s1  w0) (fun u : va_W => wpost dC dI cy (va_A w0 sz) u) (va_A w0 sz)) 0 0 (va_A w0 sz) := by
  refine Met.ofW (cc := cX7_readStreet) (maxL := 5) (ret := none) (by decide) rfl ?_
  intro p e s m args below meth c s₁ Bk hml hv
  obtain ⟨rfl, ⟨hsz, hP, hK, hD0⟩, hE, hSR⟩ := hv
  have hx := Bk.exec
  have hb := Bk.bytes
  have hr := Bk.returns
  have hlocks := Bk.notSynchronized
  have hC : CallFix p m c cX7_readStreet 5 s _ wsX7_readStreet RX7 := ⟨hx, hb, hml, findClass_of_methodNamed Bk.named, atoms_spec (ws := wsX7_readStreet) Bk.pre⟩
  subst hsz
  have hD := hD0.self (sz := s.heap.size)
  generalize hAe : va_A w0 s.heap.size = A at hD hE ⊢
  have hA : ∀ q : Nat, s.heap.size ≤ q → A q := fun q h => by rw [← hAe]; exact Or.inr h
  have hw : Wd dC dI A s.heap s.heap [] w0 := ⟨hP, hD, va_S.rf⟩
  have hF : FE ksC [(6, 1, 1), (6, 3, 3), (6, 4, 4), (7, 9, 9), (24, 0, 26), (25, 0, 13), (26, 0, 91), (27, 0, 13), (28, 0, 26)] w0 w0 := FE.rf
  have hl := lv_entry ([.ref (ad 29), .ref (ad 1)]) (n := 5) (Nat.le_of_ble_eq_true rfl)
  rw [lg_entry_eq]
  generalize (lg_sl ([.ref (ad 29), .ref (ad 1)]) ++ List.replicate (5 - (lg_sl ([.ref (ad 29), .ref (ad 1)])).length) Slot.unset).toArray = ls at hl ⊢
  have hl : lv_has ls 5 [(0, .ref (ad 29)), (1, .ref (ad 1))] := hl
  generalize hloc : ([] : List Loc) = locs at hw ⊢
  have hinX7 : ∀ w ∈ u_ws RX7 TX7 12, w ∈ wsX7_readStreet := fun _ h => List.mem_cons_of_mem _ (List.mem_append_left _ (List.mem_append_right _ (h)))
  have hinX6 : ∀ w ∈ u_ws RX6 TX6 5, w ∈ wsX7_readStreet := fun _ h => List.mem_cons_of_mem _ (List.mem_append_right _ (h))
  refine lv_aload_n hx hb dX7_readStreet_0 rfl (lv_at hl 1 rfl) ?_
  refine lv_iconst (v := 0) hx hb dX7_readStreet_1 (by decide) ?_
  refine lv_aload_n hx hb dX7_readStreet_2 rfl (lv_at hl 0 rfl) ?_
  refine tk_geti hC hK hw hT hinX7 kC_at29 (by decide) rfl 8 (by decide) (List.mem_of_getElem? (i := 1) rfl) rfl rfl dX7_readStreet_3 (fun x1 c2 rx1 tx1 => ?_)
  refine lv_iconst (v := 1) hx hb dX7_readStreet_6 (by decide) ?_
  refine lv_isub hx hb dX7_readStreet_7 ?_
  refine lv_topi (fun x3 ex3 => ?_)
  have ex3 : x3.toInt = x1.toInt - (1 : Int) := by rw [ex3]; exact wk_sub (show (-2147483648) ≤ x1.toInt - (1 : Int) by omega) (show x1.toInt - (1 : Int) ≤ 2147483647 by omega)
  refine tk_Vi hC hK hw hT hA hE hSR kC_at1 (by decide) rfl (k_X6_readNumber_3 l adK adV dC dI cy ad B (by omega) (by omega) qr s1   x3 (show (-2) ≤ x3.toInt by omega) (show x3.toInt ≤ 9 by omega) w0 s.heap.size hT cf0_) (cwV 2 hC.2.2.2.2 gX7_readStreet_X6_readNumber rfl rfl rfl (by decide +kernel) ⟨Nat.le_of_ble_eq_true rfl, Nat.le_of_ble_eq_true rfl⟩) rfl hl.1 rfl (Nat.le_of_ble_eq_true rfl) dX7_readStreet_8 (fun r4 w6 H locs hp5 hw => ?_)
  obtain ⟨hT, k7, hg19⟩ := hp5
  have hF := hF.tr k7 (by decide)
  have c20 := k7.gi kC_at29 (by decide) cf1_
  have c21 := k7.gi kC_at29 (by decide) c2
  rcases hg19 with ⟨g8, g9, g10, ⟨x11, c12, rx11, tx11⟩, ⟨x13, c14, rx13, tx13⟩, ⟨x15, c16, rx15, tx15⟩⟩ | ⟨rfl, ⟨x17, c18, rx17, tx17⟩⟩
  · refine lv_istore_n (lv' := [(2, .int r4), (0, .ref (ad 29)), (1, .ref (ad 1))]) hx hb dX7_readStreet_11 rfl hl (by decide) rfl (fun ls hl => ?_)
    refine lv_aload_n hx hb dX7_readStreet_12 rfl (lv_at hl 2 rfl) ?_
    refine lv_iconst (v := 0) hx hb dX7_readStreet_13 (by decide) ?_
    refine lv_aload_n hx hb dX7_readStreet_14 rfl (lv_at hl 1 rfl) ?_
    refine tk_geti hC hK hw hT hinX7 kC_at29 (by decide) rfl 8 (by decide) (List.mem_of_getElem? (i := 1) rfl) rfl rfl dX7_readStreet_15 (fun x22 c23 rx22 tx22 => ?_)
    refine wk_top x1 (c23.symm.trans c21) ?_
    refine lv_iconst (v := 1) hx hb dX7_readStreet_18 (by decide) ?_
    refine lv_isub hx hb dX7_readStreet_19 ?_
    refine lv_topi (fun x24 ex24 => ?_)
    have ex24 : x24.toInt = x1.toInt - (1 : Int) := by rw [ex24]; exact wk_sub (show (-2147483648) ≤ x1.toInt - (1 : Int) by omega) (show x1.toInt - (1 : Int) ≤ 2147483647 by omega)
    refine tk_Vi hC hK hw hT hA hE hSR kC_at1 (by decide) rfl (k_X6_readNumber_4 l adK adV dC dI cy ad B (by omega) (by omega) qr s1   x24 (show 0 ≤ x24.toInt by omega) (show x24.toInt ≤ 9 by omega) w6 H.size hT (c16.trans (wk_eq.mpr (show x15.toInt = 0 by omega)))) (cwV 2 hC.2.2.2.2 gX7_readStreet_X6_readNumber rfl rfl rfl (by decide +kernel) ⟨Nat.le_of_ble_eq_true rfl, Nat.le_of_ble_eq_true rfl⟩) rfl hl.1 rfl (Nat.le_of_ble_eq_true rfl) dX7_readStreet_20 (fun r25 w27 H locs hp26 hw => ?_)
    obtain ⟨hT, k28, hg39⟩ := hp26
    have hF := hF.tr k28 (by decide)
    have c40 := k28.gi kC_at29 (by decide) c20
    have c41 := k28.gi kC_at29 (by decide) c21
    have c42 := k28.gi kC_at1 (by decide) c12
    rcases hg39 with ⟨g29, g30, ⟨x31, c32, rx31, tx31⟩, ⟨x33, c34, rx33, tx33⟩, ⟨x35, c36, rx35, tx35⟩⟩ | ⟨rfl, ⟨x37, c38, rx37, tx37⟩⟩
    · have ex31 : x31.toInt = x11.toInt := by rw [← c42.symm.trans c32]
      refine lv_istore_n (lv' := [(3, .int r25), (2, .int r4), (0, .ref (ad 29)), (1, .ref (ad 1))]) hx hb dX7_readStreet_23 rfl hl (by decide) rfl (fun ls hl => ?_)
      refine lv_iload_n hx hb dX7_readStreet_24 rfl (lv_at hl 0 rfl) ?_
      refine lv_iload_n hx hb dX7_readStreet_25 rfl (lv_at hl 1 rfl) ?_
      refine lv_icmp_ne (tgt := 38) hx hb dX7_readStreet_26 (by decide) (fun c43 => ?_) (fun c43 => ?_)
      · have c43 : ¬ r25.toInt = r4.toInt := wk_eqF c43
        refine lv_aload_n hx hb dX7_readStreet_38 rfl (lv_at hl 3 rfl) ?_
        refine lv_iconst (v := 1) hx hb dX7_readStreet_39 (by decide) ?_
        refine lv_bipush (v := 9) hx hb dX7_readStreet_40 (by decide) ?_
        refine tk_Vi hC hK hw hT hA hE hSR kC_at1 (by decide) rfl (k_X6_readNumber_5 l adK adV dC dI cy ad B (by omega) (by omega) qr s1    w27 H.size hT (c36.trans (wk_eq.mpr (show x35.toInt = 0 by omega)))) (cwV 2 hC.2.2.2.2 gX7_readStreet_X6_readNumber rfl rfl rfl (by decide +kernel) ⟨Nat.le_of_ble_eq_true rfl, Nat.le_of_ble_eq_true rfl⟩) rfl hl.1 rfl (Nat.le_of_ble_eq_true rfl) dX7_readStreet_42 (fun r44 w46 H locs hp45 hw => ?_)
        obtain ⟨hT, k47, hg58⟩ := hp45
        have hF := hF.tr k47 (by decide)
        have c59 := k47.gi kC_at29 (by decide) c40
        have c60 := k47.gi kC_at29 (by decide) c41
        have c61 := k47.gi kC_at1 (by decide) c42
        rcases hg58 with ⟨g48, g49, ⟨x50, c51, rx50, tx50⟩, ⟨x52, c53, rx52, tx52⟩, ⟨x54, c55, rx54, tx54⟩⟩ | ⟨rfl, ⟨x56, c57, rx56, tx56⟩⟩
        · have ex50 : x50.toInt = x11.toInt := by rw [← c61.symm.trans c51]
          refine lv_istore (lv' := [(4, .int r44), (3, .int r25), (2, .int r4), (0, .ref (ad 29)), (1, .ref (ad 1))]) hx hb dX7_readStreet_45 hl (by decide) rfl (fun ls hl => ?_)
          refine lv_aload_n hx hb dX7_readStreet_47 rfl (lv_at hl 4 rfl) ?_
          refine tk_Vi hC hK hw hT hA hE hSR kC_at1 (by decide) rfl (k_X6_isFaulty_2 l adK adV dC dI cy ad B (by omega) (by omega) qr s1    w46 H.size hT (c55.trans (wk_eq.mpr (show x54.toInt = 0 by omega)))) (cwV 0 hC.2.2.2.2 gX7_readStreet_X6_isFaulty rfl rfl rfl (by decide +kernel) ⟨Nat.le_of_ble_eq_true rfl, Nat.le_of_ble_eq_true rfl⟩) rfl hl.1 rfl (Nat.le_of_ble_eq_true rfl) dX7_readStreet_48 (fun r62 w64 H locs hp63 hw => ?_)
          obtain ⟨hT, k65, hg68⟩ := hp63
          have hF := hF.tr k65 (by decide)
          have c69 := k65.gi kC_at29 (by decide) c59
          have c70 := k65.gi kC_at29 (by decide) c60
          have c71 := k65.gi kC_at1 (by decide) c61
          have c72 := k65.gi kC_at1 (by decide) c53
          have c73 := k65.gi kC_at1 (by decide) c55
          obtain ⟨rfl, ⟨x66, c67, rx66, tx66⟩⟩ := hg68
          have ex66 : x66.toInt = x54.toInt := by rw [← c73.symm.trans c67]
          refine lv_if_eq (tgt := 55) hx hb dX7_readStreet_51 (by decide) (fun _ => ?_) (fun c => absurd (by decide) c)
          refine lv_aload_n hx hb dX7_readStreet_55 rfl (lv_at hl 3 rfl) ?_
          refine lv_aload_n hx hb dX7_readStreet_56 rfl (lv_at hl 3 rfl) ?_
          refine tk_geti hC hK hw hT hinX7 kC_at29 (by decide) rfl 9 (by decide) (List.mem_of_getElem? (i := 3) rfl) rfl rfl dX7_readStreet_57 (fun x74 c75 rx74 tx74 => ?_)
          refine wk_top f1_ (c75.symm.trans c69) ?_
          refine lv_iload_n hx hb dX7_readStreet_60 rfl (lv_at hl 2 rfl) ?_
          refine lv_iload_n hx hb dX7_readStreet_61 rfl (lv_at hl 1 rfl) ?_
          refine lv_iload hx hb dX7_readStreet_62 (lv_at hl 0 rfl) ?_
          refine tk_Vv hC hK hw hT hA hE hSR kC_at29 (by decide) rfl (k_X7_placeStreet_2 l adK adV dC dI cy ad B (by omega) (by omega) qr s1   f1_ (show 0 ≤ f1_.toInt by omega) (show f1_.toInt ≤ 11 by omega) r4 (show 0 ≤ r4.toInt by omega) (show r4.toInt ≤ 9 by omega) r25 (show 0 ≤ r25.toInt by omega) (show r25.toInt ≤ 9 by omega) r44 (show 1 ≤ r44.toInt by omega) (show r44.toInt ≤ 9 by omega) w64 H.size hT ) (cwV 4 hC.2.2.2.2 gX7_readStreet_X7_placeStreet rfl rfl rfl (by decide +kernel) ⟨Nat.le_of_ble_eq_true rfl, Nat.le_of_ble_eq_true rfl⟩) rfl hl.1 rfl (Nat.le_of_ble_eq_true rfl) dX7_readStreet_64 (fun w78 H locs hp77 hw => ?_)
          obtain ⟨hT, k79, hg80⟩ := hp77
          have hF := hF.tr k79 (by decide)
          have c81 := k79.gi kC_at29 (by decide) c69
          have c82 := k79.gi kC_at29 (by decide) c70
          have c83 := k79.gi kC_at1 (by decide) c71
          have c84 := k79.gi kC_at1 (by decide) c72
          have c85 := k79.gi kC_at1 (by decide) c73
          clear hg80
          refine lv_aload_n hx hb dX7_readStreet_67 rfl (lv_at hl 3 rfl) ?_
          refine lv_aload_n hx hb dX7_readStreet_68 rfl (lv_at hl 4 rfl) ?_
          refine tk_Vv hC hK hw hT hA hE hSR kC_at29 (by decide) rfl (k_X7_readSigns_1 l adK adV dC dI cy ad B (by omega) (by omega) qr s1    w78 H.size hT (c85.trans (wk_eq.mpr (show x54.toInt = 0 by omega))) f1_ c81 (show 0 ≤ f1_.toInt by omega) (show f1_.toInt ≤ 11 by omega)) (cwV 1 hC.2.2.2.2 gX7_readStreet_X7_readSigns rfl rfl rfl (by decide +kernel) ⟨Nat.le_of_ble_eq_true rfl, Nat.le_of_ble_eq_true rfl⟩) rfl hl.1 rfl (Nat.le_of_ble_eq_true rfl) dX7_readStreet_69 (fun w88 H locs hp87 hw => ?_)
          obtain ⟨hT, k89, hg98⟩ := hp87
          have hF := hF.tr k89 (by decide)
          have c99 := k89.gi kC_at29 (by decide) c81
          have c100 := k89.gi kC_at29 (by decide) c82
          have c101 := k89.gi kC_at1 (by decide) c83
          rcases hg98 with ⟨⟨x90, c91, rx90, tx90⟩, ⟨x92, c93, rx92, tx92⟩⟩ | ⟨⟨x94, c95, rx94, tx94⟩, ⟨x96, c97, rx96, tx96⟩⟩
          · have ex92 : x92.toInt = f1_.toInt := by rw [← c99.symm.trans c93]
            refine lv_aload_n hx hb dX7_readStreet_72 rfl (lv_at hl 3 rfl) ?_
            refine lv_dup hx hb dX7_readStreet_73 rfl ?_
            refine tk_geti hC hK hw hT hinX7 kC_at29 (by decide) rfl 9 (by decide) (List.mem_of_getElem? (i := 3) rfl) rfl rfl dX7_readStreet_74 (fun x102 c103 rx102 tx102 => ?_)
            refine wk_top f1_ (c103.symm.trans c99) ?_
            refine lv_iconst (v := 1) hx hb dX7_readStreet_77 (by decide) ?_
            refine lv_iadd hx hb dX7_readStreet_78 ?_
            refine lv_topi (fun x104 ex104 => ?_)
            have ex104 : x104.toInt = f1_.toInt + (1 : Int) := by rw [ex104]; exact wk_add (show (-2147483648) ≤ f1_.toInt + (1 : Int) by omega) (show f1_.toInt + (1 : Int) ≤ 2147483647 by omega)
            refine tk_puti hC hK hw hT hinX7 tyX7_ok nmX7 kC_at29 (by decide) rfl rfl 9 (by decide) (List.mem_of_getElem? (i := 3) rfl) rfl rfl rfl rfl (show 0 ≤ x104.toInt by omega) (show x104.toInt ≤ 12 by omega) dX7_readStreet_79 (fun H locs w105 hw hT k107 c106 => ?_)
            have hF := hF.put kC_at29 (k := 9) (by decide) k107
            have c108 := k107.gi (Or.inr (by decide)) c100
            have c109 := k107.gi (Or.inr (by decide)) c101
            have c110 := k107.gi (Or.inr (by decide)) c91
            exact tk_vret hC hr hlocks hK ⟨hT, hF, (Or.inl ⟨⟨x90, c110, (show 1 ≤ x90.toInt by omega), (show x90.toInt ≤ 3205 by omega)⟩, ⟨x104, c106, (show 0 ≤ x104.toInt by omega), (show x104.toInt ≤ 12 by omega)⟩⟩)⟩ hw dX7_readStreet_82
          · have ex96 : x96.toInt = f1_.toInt := by rw [← c99.symm.trans c97]
            refine lv_aload_n hx hb dX7_readStreet_72 rfl (lv_at hl 3 rfl) ?_
            refine lv_dup hx hb dX7_readStreet_73 rfl ?_
            refine tk_geti hC hK hw hT hinX7 kC_at29 (by decide) rfl 9 (by decide) (List.mem_of_getElem? (i := 3) rfl) rfl rfl dX7_readStreet_74 (fun x111 c112 rx111 tx111 => ?_)
            refine wk_top f1_ (c112.symm.trans c99) ?_
            refine lv_iconst (v := 1) hx hb dX7_readStreet_77 (by decide) ?_
            refine lv_iadd hx hb dX7_readStreet_78 ?_
            refine lv_topi (fun x113 ex113 => ?_)
            have ex113 : x113.toInt = f1_.toInt + (1 : Int) := by rw [ex113]; exact wk_add (show (-2147483648) ≤ f1_.toInt + (1 : Int) by omega) (show f1_.toInt + (1 : Int) ≤ 2147483647 by omega)
            refine tk_puti hC hK hw hT hinX7 tyX7_ok nmX7 kC_at29 (by decide) rfl rfl 9 (by decide) (List.mem_of_getElem? (i := 3) rfl) rfl rfl rfl rfl (show 0 ≤ x113.toInt by omega) (show x113.toInt ≤ 12 by omega) dX7_readStreet_79 (fun H locs w114 hw hT k116 c115 => ?_)
            have hF := hF.put kC_at29 (k := 9) (by decide) k116
            have c117 := k116.gi (Or.inr (by decide)) c100
            have c118 := k116.gi (Or.inr (by decide)) c101
            have c119 := k116.gi (Or.inr (by decide)) c95
            exact tk_vret hC hr hlocks hK ⟨hT, hF, (Or.inr ⟨⟨x11, c118, (show 1 ≤ x11.toInt by omega), (show x11.toInt ≤ 400 by omega)⟩, ⟨x94, c119, (show 0 ≤ x94.toInt by omega), (show x94.toInt ≤ 0 by omega)⟩, ⟨x1, c117, (show 1 ≤ x1.toInt by omega), (show x1.toInt ≤ 10 by omega)⟩, ⟨x113, c115, (show 1 ≤ x113.toInt by omega), (show x113.toInt ≤ 12 by omega)⟩⟩)⟩ hw dX7_readStreet_82
        · refine lv_istore (lv' := [(4, .int (-1)), (3, .int r25), (2, .int r4), (0, .ref (ad 29)), (1, .ref (ad 1))]) hx hb dX7_readStreet_45 hl (by decide) rfl (fun ls hl => ?_)
          refine lv_aload_n hx hb dX7_readStreet_47 rfl (lv_at hl 4 rfl) ?_
          refine tk_Vi hC hK hw hT hA hE hSR kC_at1 (by decide) rfl (k_X6_isFaulty_3 l adK adV dC dI cy ad B (by omega) (by omega) qr s1    w46 H.size hT x56 c57 (show 1 ≤ x56.toInt by omega) (show x56.toInt ≤ 3205 by omega)) (cwV 0 hC.2.2.2.2 gX7_readStreet_X6_isFaulty rfl rfl rfl (by decide +kernel) ⟨Nat.le_of_ble_eq_true rfl, Nat.le_of_ble_eq_true rfl⟩) rfl hl.1 rfl (Nat.le_of_ble_eq_true rfl) dX7_readStreet_48 (fun r120 w122 H locs hp121 hw => ?_)
          obtain ⟨hT, k123, hg126⟩ := hp121
          have hF := hF.tr k123 (by decide)
          have c127 := k123.gi kC_at29 (by decide) c59
          have c128 := k123.gi kC_at29 (by decide) c60
          have c129 := k123.gi kC_at1 (by decide) c61
          have c130 := k123.gi kC_at1 (by decide) c57
          obtain ⟨rfl, ⟨x124, c125, rx124, tx124⟩⟩ := hg126
          have ex124 : x124.toInt = x56.toInt := by rw [← c130.symm.trans c125]
          refine lv_if_eq (tgt := 55) hx hb dX7_readStreet_51 (by decide) (fun c => absurd c (by decide)) (fun _ => ?_)
          exact tk_vret hC hr hlocks hK ⟨hT, hF, (Or.inl ⟨⟨x56, c130, (show 1 ≤ x56.toInt by omega), (show x56.toInt ≤ 3205 by omega)⟩, ⟨f1_, c127, (show 0 ≤ f1_.toInt by omega), (show f1_.toInt ≤ 12 by omega)⟩⟩)⟩ hw dX7_readStreet_54
      · have c43 : r25.toInt = r4.toInt := wk_eq.mp c43
        refine lv_aload_n hx hb dX7_readStreet_29 rfl (lv_at hl 3 rfl) ?_
        refine lv_aload_n hx hb dX7_readStreet_30 rfl (lv_at hl 3 rfl) ?_
        refine tk_geti hC hK hw hT hinX6 kC_at1 (by decide) rfl 3 (by decide) (List.mem_of_getElem? (i := 2) rfl) rfl rfl dX7_readStreet_31 (fun x131 c132 rx131 tx131 => ?_)
        refine wk_top x33 (c132.symm.trans c34) ?_
        refine lv_iconst (v := 1) hx hb dX7_readStreet_34 (by decide) ?_
        refine tk_Vv hC hK hw hT hA hE hSR kC_at1 (by decide) rfl (k_X6_blame_1 l adK adV dC dI cy ad B (by omega) (by omega) qr s1   x33 (show 0 ≤ x33.toInt by omega) (show x33.toInt ≤ 400 by omega) 1 (by decide) (by decide) w27 H.size hT (c36.trans (wk_eq.mpr (show x35.toInt = 0 by omega)))) (cwV 2 hC.2.2.2.2 gX7_readStreet_X6_blame rfl rfl rfl (by decide +kernel) ⟨Nat.le_of_ble_eq_true rfl, Nat.le_of_ble_eq_true rfl⟩) rfl hl.1 rfl (Nat.le_of_ble_eq_true rfl) dX7_readStreet_35 (fun w135 H locs hp134 hw => ?_)
        obtain ⟨hT, k136, hg139⟩ := hp134
        have hF := hF.tr k136 (by decide)
        have c140 := k136.gi kC_at29 (by decide) c40
        have c141 := k136.gi kC_at29 (by decide) c41
        have c142 := k136.gi kC_at1 (by decide) c42
        have c143 := k136.gi kC_at1 (by decide) c34
        obtain ⟨x137, c138, rx137, tx137⟩ := hg139
        refine lv_aload_n hx hb dX7_readStreet_38 rfl (lv_at hl 3 rfl) ?_
        refine lv_iconst (v := 1) hx hb dX7_readStreet_39 (by decide) ?_
        refine lv_bipush (v := 9) hx hb dX7_readStreet_40 (by decide) ?_
        refine tk_Vi hC hK hw hT hA hE hSR kC_at1 (by decide) rfl (k_X6_readNumber_6 l adK adV dC dI cy ad B (by omega) (by omega) qr s1    w135 H.size hT x137 c138 (show 1 ≤ x137.toInt by omega) (show x137.toInt ≤ 3205 by omega)) (cwV 2 hC.2.2.2.2 gX7_readStreet_X6_readNumber rfl rfl rfl (by decide +kernel) ⟨Nat.le_of_ble_eq_true rfl, Nat.le_of_ble_eq_true rfl⟩) rfl hl.1 rfl (Nat.le_of_ble_eq_true rfl) dX7_readStreet_42 (fun r144 w146 H locs hp145 hw => ?_)
        obtain ⟨hT, k147, hg150⟩ := hp145
        have hF := hF.tr k147 (by decide)
        have c151 := k147.gi kC_at29 (by decide) c140
        have c152 := k147.gi kC_at29 (by decide) c141
        have c153 := k147.gi kC_at1 (by decide) c142
        have c154 := k147.gi kC_at1 (by decide) c143
        have c155 := k147.gi kC_at1 (by decide) c138
        obtain ⟨rfl, ⟨x148, c149, rx148, tx148⟩⟩ := hg150
        have ex148 : x148.toInt = x137.toInt := by rw [← c155.symm.trans c149]
        refine lv_istore (lv' := [(4, .int (-1)), (3, .int r25), (2, .int r4), (0, .ref (ad 29)), (1, .ref (ad 1))]) hx hb dX7_readStreet_45 hl (by decide) rfl (fun ls hl => ?_)
        refine lv_aload_n hx hb dX7_readStreet_47 rfl (lv_at hl 4 rfl) ?_
        refine tk_Vi hC hK hw hT hA hE hSR kC_at1 (by decide) rfl (k_X6_isFaulty_3 l adK adV dC dI cy ad B (by omega) (by omega) qr s1    w146 H.size hT x137 c155 (show 1 ≤ x137.toInt by omega) (show x137.toInt ≤ 3205 by omega)) (cwV 0 hC.2.2.2.2 gX7_readStreet_X6_isFaulty rfl rfl rfl (by decide +kernel) ⟨Nat.le_of_ble_eq_true rfl, Nat.le_of_ble_eq_true rfl⟩) rfl hl.1 rfl (Nat.le_of_ble_eq_true rfl) dX7_readStreet_48 (fun r156 w158 H locs hp157 hw => ?_)
        obtain ⟨hT, k159, hg162⟩ := hp157
        have hF := hF.tr k159 (by decide)
        have c163 := k159.gi kC_at29 (by decide) c151
        have c164 := k159.gi kC_at29 (by decide) c152
        have c165 := k159.gi kC_at1 (by decide) c153
        have c166 := k159.gi kC_at1 (by decide) c154
        have c167 := k159.gi kC_at1 (by decide) c155
        obtain ⟨rfl, ⟨x160, c161, rx160, tx160⟩⟩ := hg162
        have ex160 : x160.toInt = x137.toInt := by rw [← c167.symm.trans c161]
        refine lv_if_eq (tgt := 55) hx hb dX7_readStreet_51 (by decide) (fun c => absurd c (by decide)) (fun _ => ?_)
        exact tk_vret hC hr hlocks hK ⟨hT, hF, (Or.inl ⟨⟨x137, c167, (show 1 ≤ x137.toInt by omega), (show x137.toInt ≤ 3205 by omega)⟩, ⟨f1_, c163, (show 0 ≤ f1_.toInt by omega), (show f1_.toInt ≤ 12 by omega)⟩⟩)⟩ hw dX7_readStreet_54
    · refine lv_istore_n (lv' := [(3, .int (-1)), (2, .int r4), (0, .ref (ad 29)), (1, .ref (ad 1))]) hx hb dX7_readStreet_23 rfl hl (by decide) rfl (fun ls hl => ?_)
      refine lv_iload_n hx hb dX7_readStreet_24 rfl (lv_at hl 0 rfl) ?_
      refine lv_iload_n hx hb dX7_readStreet_25 rfl (lv_at hl 1 rfl) ?_
      refine lv_icmp_ne (tgt := 38) hx hb dX7_readStreet_26 (by decide) (fun _ => ?_) (fun c => absurd (show (-1 : Int) = r4.toInt from wk_eq.mp c) (by omega))
      refine lv_aload_n hx hb dX7_readStreet_38 rfl (lv_at hl 3 rfl) ?_
      refine lv_iconst (v := 1) hx hb dX7_readStreet_39 (by decide) ?_
      refine lv_bipush (v := 9) hx hb dX7_readStreet_40 (by decide) ?_
      refine tk_Vi hC hK hw hT hA hE hSR kC_at1 (by decide) rfl (k_X6_readNumber_6 l adK adV dC dI cy ad B (by omega) (by omega) qr s1    w27 H.size hT x37 c38 (show 1 ≤ x37.toInt by omega) (show x37.toInt ≤ 3205 by omega)) (cwV 2 hC.2.2.2.2 gX7_readStreet_X6_readNumber rfl rfl rfl (by decide +kernel) ⟨Nat.le_of_ble_eq_true rfl, Nat.le_of_ble_eq_true rfl⟩) rfl hl.1 rfl (Nat.le_of_ble_eq_true rfl) dX7_readStreet_42 (fun r168 w170 H locs hp169 hw => ?_)
      obtain ⟨hT, k171, hg174⟩ := hp169
      have hF := hF.tr k171 (by decide)
      have c175 := k171.gi kC_at29 (by decide) c40
      have c176 := k171.gi kC_at29 (by decide) c41
      have c177 := k171.gi kC_at1 (by decide) c42
      have c178 := k171.gi kC_at1 (by decide) c38
      obtain ⟨rfl, ⟨x172, c173, rx172, tx172⟩⟩ := hg174
      have ex172 : x172.toInt = x37.toInt := by rw [← c178.symm.trans c173]
      refine lv_istore (lv' := [(4, .int (-1)), (3, .int (-1)), (2, .int r4), (0, .ref (ad 29)), (1, .ref (ad 1))]) hx hb dX7_readStreet_45 hl (by decide) rfl (fun ls hl => ?_)
      refine lv_aload_n hx hb dX7_readStreet_47 rfl (lv_at hl 4 rfl) ?_
      refine tk_Vi hC hK hw hT hA hE hSR kC_at1 (by decide) rfl (k_X6_isFaulty_3 l adK adV dC dI cy ad B (by omega) (by omega) qr s1    w170 H.size hT x37 c178 (show 1 ≤ x37.toInt by omega) (show x37.toInt ≤ 3205 by omega)) (cwV 0 hC.2.2.2.2 gX7_readStreet_X6_isFaulty rfl rfl rfl (by decide +kernel) ⟨Nat.le_of_ble_eq_true rfl, Nat.le_of_ble_eq_true rfl⟩) rfl hl.1 rfl (Nat.le_of_ble_eq_true rfl) dX7_readStreet_48 (fun r179 w181 H locs hp180 hw => ?_)
      obtain ⟨hT, k182, hg185⟩ := hp180
      have hF := hF.tr k182 (by decide)
      have c186 := k182.gi kC_at29 (by decide) c175
      have c187 := k182.gi kC_at29 (by decide) c176
      have c188 := k182.gi kC_at1 (by decide) c177
      have c189 := k182.gi kC_at1 (by decide) c178
      obtain ⟨rfl, ⟨x183, c184, rx183, tx183⟩⟩ := hg185
      have ex183 : x183.toInt = x37.toInt := by rw [← c189.symm.trans c184]
      refine lv_if_eq (tgt := 55) hx hb dX7_readStreet_51 (by decide) (fun c => absurd c (by decide)) (fun _ => ?_)
      exact tk_vret hC hr hlocks hK ⟨hT, hF, (Or.inl ⟨⟨x37, c189, (show 1 ≤ x37.toInt by omega), (show x37.toInt ≤ 3205 by omega)⟩, ⟨f1_, c186, (show 0 ≤ f1_.toInt by omega), (show f1_.toInt ≤ 12 by omega)⟩⟩)⟩ hw dX7_readStreet_54
  · refine lv_istore_n (lv' := [(2, .int (-1)), (0, .ref (ad 29)), (1, .ref (ad 1))]) hx hb dX7_readStreet_11 rfl hl (by decide) rfl (fun ls hl => ?_)
    refine lv_aload_n hx hb dX7_readStreet_12 rfl (lv_at hl 2 rfl) ?_
    refine lv_iconst (v := 0) hx hb dX7_readStreet_13 (by decide) ?_
    refine lv_aload_n hx hb dX7_readStreet_14 rfl (lv_at hl 1 rfl) ?_
    refine tk_geti hC hK hw hT hinX7 kC_at29 (by decide) rfl 8 (by decide) (List.mem_of_getElem? (i := 1) rfl) rfl rfl dX7_readStreet_15 (fun x190 c191 rx190 tx190 => ?_)
    refine wk_top x1 (c191.symm.trans c21) ?_
    refine lv_iconst (v := 1) hx hb dX7_readStreet_18 (by decide) ?_
    refine lv_isub hx hb dX7_readStreet_19 ?_
    refine lv_topi (fun x192 ex192 => ?_)
    have ex192 : x192.toInt = x1.toInt - (1 : Int) := by rw [ex192]; exact wk_sub (show (-2147483648) ≤ x1.toInt - (1 : Int) by omega) (show x1.toInt - (1 : Int) ≤ 2147483647 by omega)
    refine tk_Vi hC hK hw hT hA hE hSR kC_at1 (by decide) rfl (k_X6_readNumber_7 l adK adV dC dI cy ad B (by omega) (by omega) qr s1   x192 (show (-2) ≤ x192.toInt by omega) (show x192.toInt ≤ 9 by omega) w6 H.size hT x17 c18 (show 1 ≤ x17.toInt by omega) (show x17.toInt ≤ 3205 by omega)) (cwV 2 hC.2.2.2.2 gX7_readStreet_X6_readNumber rfl rfl rfl (by decide +kernel) ⟨Nat.le_of_ble_eq_true rfl, Nat.le_of_ble_eq_true rfl⟩) rfl hl.1 rfl (Nat.le_of_ble_eq_true rfl) dX7_readStreet_20 (fun r193 w195 H locs hp194 hw => ?_)
    obtain ⟨hT, k196, hg199⟩ := hp194
    have hF := hF.tr k196 (by decide)
    have c200 := k196.gi kC_at29 (by decide) c20
    have c201 := k196.gi kC_at29 (by decide) c21
    have c202 := k196.gi kC_at1 (by decide) c18
    obtain ⟨rfl, ⟨x197, c198, rx197, tx197⟩⟩ := hg199
    have ex197 : x197.toInt = x17.toInt := by rw [← c202.symm.trans c198]
    refine lv_istore_n (lv' := [(3, .int (-1)), (2, .int (-1)), (0, .ref (ad 29)), (1, .ref (ad 1))]) hx hb dX7_readStreet_23 rfl hl (by decide) rfl (fun ls hl => ?_)
    refine lv_iload_n hx hb dX7_readStreet_24 rfl (lv_at hl 0 rfl) ?_
    refine lv_iload_n hx hb dX7_readStreet_25 rfl (lv_at hl 1 rfl) ?_
    refine lv_icmp_ne (tgt := 38) hx hb dX7_readStreet_26 (by decide) (fun c => absurd (by decide) c) (fun _ => ?_)
    refine lv_aload_n hx hb dX7_readStreet_29 rfl (lv_at hl 3 rfl) ?_
    refine lv_aload_n hx hb dX7_readStreet_30 rfl (lv_at hl 3 rfl) ?_
    refine tk_geti hC hK hw hT hinX6 kC_at1 (by decide) rfl 3 (by decide) (List.mem_of_getElem? (i := 2) rfl) rfl rfl dX7_readStreet_31 (fun x203 c204 rx203 tx203 => ?_)
    refine lv_iconst (v := 1) hx hb dX7_readStreet_34 (by decide) ?_
    refine tk_Vv hC hK hw hT hA hE hSR kC_at1 (by decide) rfl (k_X6_blame_3 l adK adV dC dI cy ad B (by omega) (by omega) qr s1   x203 (show 0 ≤ x203.toInt by omega) (show x203.toInt ≤ 400 by omega) 1 (by decide) (by decide) w195 H.size hT x17 c202 (show 1 ≤ x17.toInt by omega) (show x17.toInt ≤ 3205 by omega)) (cwV 2 hC.2.2.2.2 gX7_readStreet_X6_blame rfl rfl rfl (by decide +kernel) ⟨Nat.le_of_ble_eq_true rfl, Nat.le_of_ble_eq_true rfl⟩) rfl hl.1 rfl (Nat.le_of_ble_eq_true rfl) dX7_readStreet_35 (fun w207 H locs hp206 hw => ?_)
    obtain ⟨hT, k208, hg211⟩ := hp206
    have hF := hF.tr k208 (by decide)
    have c212 := k208.gi kC_at29 (by decide) c200
    have c213 := k208.gi kC_at29 (by decide) c201
    have c214 := k208.gi kC_at1 (by decide) c202
    have c215 := k208.gi kC_at1 (by decide) c204
    obtain ⟨x209, c210, rx209, tx209⟩ := hg211
    have ex209 : x209.toInt = x17.toInt := by rw [← c214.symm.trans c210]
    refine lv_aload_n hx hb dX7_readStreet_38 rfl (lv_at hl 3 rfl) ?_
    refine lv_iconst (v := 1) hx hb dX7_readStreet_39 (by decide) ?_
    refine lv_bipush (v := 9) hx hb dX7_readStreet_40 (by decide) ?_
    refine tk_Vi hC hK hw hT hA hE hSR kC_at1 (by decide) rfl (k_X6_readNumber_6 l adK adV dC dI cy ad B (by omega) (by omega) qr s1    w207 H.size hT x17 c214 (show 1 ≤ x17.toInt by omega) (show x17.toInt ≤ 3205 by omega)) (cwV 2 hC.2.2.2.2 gX7_readStreet_X6_readNumber rfl rfl rfl (by decide +kernel) ⟨Nat.le_of_ble_eq_true rfl, Nat.le_of_ble_eq_true rfl⟩) rfl hl.1 rfl (Nat.le_of_ble_eq_true rfl) dX7_readStreet_42 (fun r216 w218 H locs hp217 hw => ?_)
    obtain ⟨hT, k219, hg222⟩ := hp217
    have hF := hF.tr k219 (by decide)
    have c223 := k219.gi kC_at29 (by decide) c212
    have c224 := k219.gi kC_at29 (by decide) c213
    have c225 := k219.gi kC_at1 (by decide) c214
    have c226 := k219.gi kC_at1 (by decide) c215
    obtain ⟨rfl, ⟨x220, c221, rx220, tx220⟩⟩ := hg222
    have ex220 : x220.toInt = x17.toInt := by rw [← c225.symm.trans c221]
    refine lv_istore (lv' := [(4, .int (-1)), (3, .int (-1)), (2, .int (-1)), (0, .ref (ad 29)), (1, .ref (ad 1))]) hx hb dX7_readStreet_45 hl (by decide) rfl (fun ls hl => ?_)
    refine lv_aload_n hx hb dX7_readStreet_47 rfl (lv_at hl 4 rfl) ?_
    refine tk_Vi hC hK hw hT hA hE hSR kC_at1 (by decide) rfl (k_X6_isFaulty_3 l adK adV dC dI cy ad B (by omega) (by omega) qr s1    w218 H.size hT x17 c225 (show 1 ≤ x17.toInt by omega) (show x17.toInt ≤ 3205 by omega)) (cwV 0 hC.2.2.2.2 gX7_readStreet_X6_isFaulty rfl rfl rfl (by decide +kernel) ⟨Nat.le_of_ble_eq_true rfl, Nat.le_of_ble_eq_true rfl⟩) rfl hl.1 rfl (Nat.le_of_ble_eq_true rfl) dX7_readStreet_48 (fun r227 w229 H locs hp228 hw => ?_)
    obtain ⟨hT, k230, hg233⟩ := hp228
    have hF := hF.tr k230 (by decide)
    have c234 := k230.gi kC_at29 (by decide) c223
    have c235 := k230.gi kC_at29 (by decide) c224
    have c236 := k230.gi kC_at1 (by decide) c225
    have c237 := k230.gi kC_at1 (by decide) c226
    obtain ⟨rfl, ⟨x231, c232, rx231, tx231⟩⟩ := hg233
    have ex231 : x231.toInt = x17.toInt := by rw [← c236.symm.trans c232]
    refine lv_if_eq (tgt := 55) hx hb dX7_readStreet_51 (by decide) (fun c => absurd c (by decide)) (fun _ => ?_)
    exact tk_vret hC hr hlocks hK ⟨hT, hF, (Or.inl ⟨⟨x17, c236, (show 1 ≤ x17.toInt by omega), (show x17.toInt ≤ 3205 by omega)⟩, ⟨f1_, c234, (show 0 ≤ f1_.toInt by omega), (show f1_.toInt ≤ 12 by omega)⟩⟩)⟩ hw dX7_readStreet_54
abbrev P_X7_readClause_2 (ad : Nat → Nat) (cy : Nat → ClassId) (B : Int) (qr : Nat) (s1 : Int)  (w0 : va_W) : va_W → Prop := fun u => TW ksC ad cy B qr s1 u ∧ FE ksC [(6, 1, 1), (6, 3, 3), (6, 4, 4), (7, 9, 9), (24, 0, 26), (25, 0, 13), (26, 0, 91), (27, 0, 13), (28, 0, 26)] w0 u ∧ (((∃ y : Int32, gi u 1 4 = y ∧ 1 ≤ y.toInt ∧ y.toInt ≤ 3205) ∧ (∃ y : Int32, gi u 29 9 = y ∧ 0 ≤ y.toInt ∧ y.toInt ≤ 11)) ∨ ((∃ y : Int32, gi u 1 4 = y ∧ 0 ≤ y.toInt ∧ y.toInt ≤ 3205) ∧ (∃ y : Int32, gi u 29 9 = y ∧ 0 ≤ y.toInt ∧ y.toInt ≤ 12)))
set_option maxHeartbeats 4000000 in
set_option maxRecDepth 100000 in
theorem k_X7_readClause_2 (l : Launch) (adK adV : Nat → Nat) (dC : Nat → ClassId) (dI : Nat → Nat → Nat) (cy : Nat → ClassId) (ad : Nat → Nat) (B : Int) (hB0 : 2147483648 ≤ B) (hB1 : B ≤ 1152921504606846976) (qr : Nat) (s1 : Int)   (w0 : va_W) (sz : Nat) (hT : TW ksC ad cy B qr s1 w0) (f0_ : Int32) (cf0_ : gi w0 29 9 = f0_) (rf0_ : 0 ≤ f0_.toInt) (tf0_ : f0_.toInt ≤ 11) : Met l yX7_readClause wsX7_readClause ({ frames := 7, cells := 0, slots := 0, locals := 209 }) (va_Pc [.ref (ad 29), .ref (ad 1), .int 1] (wpreS adK adV dC dI cy sz w0)) (va_Qv (P_X7_readClause_2 ad cy B qr s1  w0) (fun u : va_W => wpost dC dI cy (va_A w0 sz) u) (va_A w0 sz)) 0 0 (va_A w0 sz) := by
  refine Met.ofW (cc := cX7_readClause) (maxL := 3) (ret := none) (by decide) rfl ?_
  intro p e s m args below meth c s₁ Bk hml hv
  obtain ⟨rfl, ⟨hsz, hP, hK, hD0⟩, hE, hSR⟩ := hv
  have hx := Bk.exec
  have hb := Bk.bytes
  have hr := Bk.returns
  have hlocks := Bk.notSynchronized
  have hC : CallFix p m c cX7_readClause 3 s _ wsX7_readClause RX7 := ⟨hx, hb, hml, findClass_of_methodNamed Bk.named, atoms_spec (ws := wsX7_readClause) Bk.pre⟩
  subst hsz
  have hD := hD0.self (sz := s.heap.size)
  generalize hAe : va_A w0 s.heap.size = A at hD hE ⊢
  have hA : ∀ q : Nat, s.heap.size ≤ q → A q := fun q h => by rw [← hAe]; exact Or.inr h
  have hw : Wd dC dI A s.heap s.heap [] w0 := ⟨hP, hD, va_S.rf⟩
  have hF : FE ksC [(6, 1, 1), (6, 3, 3), (6, 4, 4), (7, 9, 9), (24, 0, 26), (25, 0, 13), (26, 0, 91), (27, 0, 13), (28, 0, 26)] w0 w0 := FE.rf
  have hl := lv_entry ([.ref (ad 29), .ref (ad 1), .int 1]) (n := 3) (Nat.le_of_ble_eq_true rfl)
  rw [lg_entry_eq]
  generalize (lg_sl ([.ref (ad 29), .ref (ad 1), .int 1]) ++ List.replicate (3 - (lg_sl ([.ref (ad 29), .ref (ad 1), .int 1])).length) Slot.unset).toArray = ls at hl ⊢
  have hl : lv_has ls 3 [(0, .ref (ad 29)), (1, .ref (ad 1)), (2, .int 1)] := hl
  generalize hloc : ([] : List Loc) = locs at hw ⊢
  have J57 : ∀ (f57_1_4 : Int32) (f57_29_9 : Int32) (H : Heap) (locs : List Loc) (ls : Array Slot) (w1 : va_W), 0 ≤ f57_1_4.toInt → f57_1_4.toInt ≤ 3205 → 0 ≤ f57_29_9.toInt → f57_29_9.toInt ≤ 12 → Wd dC dI A s.heap H locs w1 → TW ksC ad cy B qr s1 w1 → FE ksC [(6, 1, 1), (6, 3, 3), (6, 4, 4), (7, 9, 9), (24, 0, 26), (25, 0, 13), (26, 0, 91), (27, 0, 13), (28, 0, 26)] w0 w1 → gi w1 1 4 = f57_1_4 → gi w1 29 9 = f57_29_9 → lv_has ls 3 [(0, .ref (ad 29)), (1, .ref (ad 1)), (2, .int 1)] → W p l e ({ frames := 7, cells := 0, slots := 0, locals := 209 }) s m (List.toArray [.ref (ad 29), .ref (ad 1), .int 1]) below meth c H locs 0 0 (MQ below (va_Qv (P_X7_readClause_2 ad cy B qr s1  w0) (fun u : va_W => wpost dC dI cy A u) A) (List.toArray [.ref (ad 29), .ref (ad 1), .int 1]) s 0 0 A) (F0 m 57 ls []) := by
    intro f57_1_4 f57_29_9 H locs ls w1 r2 t3 r5 t6 hw hT hF c4 c7 hl
    exact tk_vret hC hr hlocks hK ⟨hT, hF, (Or.inr ⟨⟨f57_1_4, c4, (show 0 ≤ f57_1_4.toInt by omega), (show f57_1_4.toInt ≤ 3205 by omega)⟩, ⟨f57_29_9, c7, (show 0 ≤ f57_29_9.toInt by omega), (show f57_29_9.toInt ≤ 12 by omega)⟩⟩)⟩ hw dX7_readClause_57
  refine lv_aload_n hx hb dX7_readClause_0 rfl (lv_at hl 1 rfl) ?_
  refine tk_Vi hC hK hw hT hA hE hSR kC_at1 (by decide) rfl (k_X6_isFaulty_1 l adK adV dC dI cy ad B (by omega) (by omega) qr s1    w0 s.heap.size hT ) (cwV 0 hC.2.2.2.2 gX7_readClause_X6_isFaulty rfl rfl rfl (by decide +kernel) ⟨Nat.le_of_ble_eq_true rfl, Nat.le_of_ble_eq_true rfl⟩) rfl hl.1 rfl (Nat.le_of_ble_eq_true rfl) dX7_readClause_1 (fun r8 w10 H locs hp9 hw => ?_)
  obtain ⟨hT, k11, hg16⟩ := hp9
  have hF := hF.tr k11 (by decide)
  have c17 := k11.gi kC_at29 (by decide) cf0_
  rcases hg16 with ⟨rfl, ⟨x12, c13, rx12, tx12⟩⟩ | ⟨rfl, ⟨x14, c15, rx14, tx14⟩⟩
  · refine lv_if_eq (tgt := 8) hx hb dX7_readClause_4 (by decide) (fun _ => ?_) (fun c => absurd (by decide) c)
    refine lv_iload_n hx hb dX7_readClause_8 rfl (lv_at hl 2 rfl) ?_
    refine lv_if_ne (tgt := 26) hx hb dX7_readClause_9 (by decide) (fun _ => ?_) (fun c => absurd c (by decide))
    refine lv_iload_n hx hb dX7_readClause_26 rfl (lv_at hl 2 rfl) ?_
    refine lv_iconst (v := 1) hx hb dX7_readClause_27 (by decide) ?_
    refine lv_icmp_ne (tgt := 39) hx hb dX7_readClause_28 (by decide) (fun c => absurd (by decide) c) (fun _ => ?_)
    refine lv_aload_n hx hb dX7_readClause_31 rfl (lv_at hl 0 rfl) ?_
    refine lv_aload_n hx hb dX7_readClause_32 rfl (lv_at hl 1 rfl) ?_
    refine tk_Vv hC hK hw hT hA hE hSR kC_at29 (by decide) rfl (k_X7_readStreet_1 l adK adV dC dI cy ad B (by omega) (by omega) qr s1    w10 H.size hT (c13.trans (wk_eq.mpr (show x12.toInt = 0 by omega))) f0_ c17 (show 0 ≤ f0_.toInt by omega) (show f0_.toInt ≤ 11 by omega)) (cwV 1 hC.2.2.2.2 gX7_readClause_X7_readStreet rfl rfl rfl (by decide +kernel) ⟨Nat.le_of_ble_eq_true rfl, Nat.le_of_ble_eq_true rfl⟩) rfl hl.1 rfl (Nat.le_of_ble_eq_true rfl) dX7_readClause_33 (fun w20 H locs hp19 hw => ?_)
    obtain ⟨hT, k21, hg34⟩ := hp19
    have hF := hF.tr k21 (by decide)
    rcases hg34 with ⟨⟨x22, c23, rx22, tx22⟩, ⟨x24, c25, rx24, tx24⟩⟩ | ⟨⟨x26, c27, rx26, tx26⟩, ⟨x28, c29, rx28, tx28⟩, ⟨x30, c31, rx30, tx30⟩, ⟨x32, c33, rx32, tx32⟩⟩
    · refine lv_goto (tgt := 57) hx hb dX7_readClause_36 (by decide) ?_
      exact J57 x22 x24 H locs ls w20 (show 0 ≤ x22.toInt by omega) (show x22.toInt ≤ 3205 by omega) (show 0 ≤ x24.toInt by omega) (show x24.toInt ≤ 12 by omega)  hw hT hF c23 c25 (lv_sub hl [0, 1, 2] rfl)
    · refine lv_goto (tgt := 57) hx hb dX7_readClause_36 (by decide) ?_
      exact J57 x28 x32 H locs ls w20 (show 0 ≤ x28.toInt by omega) (show x28.toInt ≤ 3205 by omega) (show 0 ≤ x32.toInt by omega) (show x32.toInt ≤ 12 by omega)  hw hT hF c29 c33 (lv_sub hl [0, 1, 2] rfl)
  · refine lv_if_eq (tgt := 8) hx hb dX7_readClause_4 (by decide) (fun c => absurd c (by decide)) (fun _ => ?_)
    exact tk_vret hC hr hlocks hK ⟨hT, hF, (Or.inl ⟨⟨x14, c15, (show 1 ≤ x14.toInt by omega), (show x14.toInt ≤ 3205 by omega)⟩, ⟨f0_, c17, (show 0 ≤ f0_.toInt by omega), (show f0_.toInt ≤ 11 by omega)⟩⟩)⟩ hw dX7_readClause_7
abbrev P_X6_readNumber_8 (ad : Nat → Nat) (cy : Nat → ClassId) (B : Int) (qr : Nat) (s1 : Int)  (w0 : va_W) : Int32 → va_W → Prop := fun r u => TW ksC ad cy B qr s1 u ∧ FE ksC [(6, 1, 1), (6, 3, 3), (6, 4, 4)] w0 u ∧ ((0 ≤ r.toInt ∧ r.toInt ≤ 359 ∧ (∃ y : Int32, gi u 1 2 = y ∧ 1 ≤ y.toInt ∧ y.toInt ≤ 400) ∧ (∃ y : Int32, gi u 1 3 = y ∧ 0 ≤ y.toInt ∧ y.toInt ≤ 399) ∧ (∃ y : Int32, gi u 1 4 = y ∧ 0 ≤ y.toInt ∧ y.toInt ≤ 0)) ∨ (r = (-1) ∧ (∃ y : Int32, gi u 1 4 = y ∧ 1 ≤ y.toInt ∧ y.toInt ≤ 3205)))
set_option maxHeartbeats 4000000 in
set_option maxRecDepth 100000 in
theorem k_X6_readNumber_8 (l : Launch) (adK adV : Nat → Nat) (dC : Nat → ClassId) (dI : Nat → Nat → Nat) (cy : Nat → ClassId) (ad : Nat → Nat) (B : Int) (hB0 : 2147483648 ≤ B) (hB1 : B ≤ 1152921504606846976) (qr : Nat) (s1 : Int)   (w0 : va_W) (sz : Nat) (hT : TW ksC ad cy B qr s1 w0) (cf0_ : gi w0 1 4 = 0) : Met l yX6_readNumber wsX6_readNumber ({ frames := 2, cells := 0, slots := 0, locals := 34 }) (va_Pc [.ref (ad 1), .int 0, .int 359] (wpreS adK adV dC dI cy sz w0)) (va_Qi (P_X6_readNumber_8 ad cy B qr s1  w0) (fun u : va_W => wpost dC dI cy (va_A w0 sz) u) (va_A w0 sz)) 0 0 (va_A w0 sz) := by
  refine Met.ofW (cc := cX6_readNumber) (maxL := 4) (ret := (some .int)) (by decide) rfl ?_
  intro p e s m args below meth c s₁ Bk hml hv
  obtain ⟨rfl, ⟨hsz, hP, hK, hD0⟩, hE, hSR⟩ := hv
  have hx := Bk.exec
  have hb := Bk.bytes
  have hr := Bk.returns
  have hlocks := Bk.notSynchronized
  have hC : CallFix p m c cX6_readNumber 4 s _ wsX6_readNumber RX6 := ⟨hx, hb, hml, findClass_of_methodNamed Bk.named, atoms_spec (ws := wsX6_readNumber) Bk.pre⟩
  subst hsz
  have hD := hD0.self (sz := s.heap.size)
  generalize hAe : va_A w0 s.heap.size = A at hD hE ⊢
  have hA : ∀ q : Nat, s.heap.size ≤ q → A q := fun q h => by rw [← hAe]; exact Or.inr h
  have hw : Wd dC dI A s.heap s.heap [] w0 := ⟨hP, hD, va_S.rf⟩
  have hF : FE ksC [(6, 1, 1), (6, 3, 3), (6, 4, 4)] w0 w0 := FE.rf
  have hl := lv_entry ([.ref (ad 1), .int 0, .int 359]) (n := 4) (Nat.le_of_ble_eq_true rfl)
  rw [lg_entry_eq]
  generalize (lg_sl ([.ref (ad 1), .int 0, .int 359]) ++ List.replicate (4 - (lg_sl ([.ref (ad 1), .int 0, .int 359])).length) Slot.unset).toArray = ls at hl ⊢
  have hl : lv_has ls 4 [(0, .ref (ad 1)), (1, .int 0), (2, .int 359)] := hl
  generalize hloc : ([] : List Loc) = locs at hw ⊢
  have hinX6 : ∀ w ∈ u_ws RX6 TX6 5, w ∈ wsX6_readNumber := fun _ h => List.mem_cons_of_mem _ (List.mem_append_right _ (h))
  have J125 : ∀ (v125_3 : Int32) (f125_1_1 : Int32) (f125_1_2 : Int32) (f125_1_3 : Int32) (H : Heap) (locs : List Loc) (ls : Array Slot) (w1 : va_W), 0 ≤ f125_1_1.toInt → f125_1_1.toInt ≤ 400 → 1 ≤ f125_1_2.toInt → f125_1_2.toInt ≤ 400 → 0 ≤ f125_1_3.toInt → f125_1_3.toInt ≤ 399 → Wd dC dI A s.heap H locs w1 → TW ksC ad cy B qr s1 w1 → FE ksC [(6, 1, 1), (6, 3, 3), (6, 4, 4)] w0 w1 → gi w1 1 1 = f125_1_1 → gi w1 1 2 = f125_1_2 → gi w1 1 3 = f125_1_3 → gi w1 1 4 = 0 → lv_has ls 4 [(0, .ref (ad 1)), (1, .int 0), (2, .int 359), (3, .int v125_3)] → W p l e ({ frames := 2, cells := 0, slots := 0, locals := 34 }) s m (List.toArray [.ref (ad 1), .int 0, .int 359]) below meth c H locs 0 0 (MQ below (va_Qi (P_X6_readNumber_8 ad cy B qr s1  w0) (fun u : va_W => wpost dC dI cy A u) A) (List.toArray [.ref (ad 1), .int 0, .int 359]) s 0 0 A) (F0 m 125 ls []) := by
    intro v125_3 f125_1_1 f125_1_2 f125_1_3 H locs ls w1 r2 t3 r5 t6 r8 t9 hw hT hF c4 c7 c10 c11 hl
    refine lv_aload_n hx hb dX6_readNumber_125 rfl (lv_at hl 0 rfl) ?_
    refine lv_aload_n hx hb dX6_readNumber_126 rfl (lv_at hl 0 rfl) ?_
    refine tk_geti hC hK hw hT hinX6 kC_at1 (by decide) rfl 3 (by decide) (List.mem_of_getElem? (i := 1) rfl) rfl rfl dX6_readNumber_127 (fun x12 c13 rx12 tx12 => ?_)
    refine wk_top f125_1_3 (c13.symm.trans c10) ?_
    refine lv_iconst (v := 1) hx hb dX6_readNumber_130 (by decide) ?_
    refine tk_Vv hC hK hw hT hA hE hSR kC_at1 (by decide) rfl (k_X6_blame_1 l adK adV dC dI cy ad B (by omega) (by omega) qr s1   f125_1_3 (show 0 ≤ f125_1_3.toInt by omega) (show f125_1_3.toInt ≤ 400 by omega) 1 (by decide) (by decide) w1 H.size hT c11) (cwV 2 hC.2.2.2.2 gX6_readNumber_X6_blame rfl rfl rfl (by decide +kernel) ⟨Nat.le_of_ble_eq_true rfl, Nat.le_of_ble_eq_true rfl⟩) rfl hl.1 rfl (Nat.le_of_ble_eq_true rfl) dX6_readNumber_131 (fun w16 H locs hp15 hw => ?_)
    obtain ⟨hT, k17, hg20⟩ := hp15
    have hF := hF.tr k17 (by decide)
    have c21 := k17.gi kC_at1 (by decide) c4
    have c22 := k17.gi kC_at1 (by decide) c7
    have c23 := k17.gi kC_at1 (by decide) c10
    obtain ⟨x18, c19, rx18, tx18⟩ := hg20
    refine lv_iconst (v := (-1)) hx hb dX6_readNumber_134 (by decide) ?_
    exact tk_iret hC hr hlocks hK ⟨hT, hF, (Or.inr ⟨rfl, ⟨x18, c19, (show 1 ≤ x18.toInt by omega), (show x18.toInt ≤ 3205 by omega)⟩⟩)⟩ hw dX6_readNumber_135
  have J102 : ∀ (v102_3 : Int32) (f102_1_1 : Int32) (f102_1_2 : Int32) (f102_1_3 : Int32) (H : Heap) (locs : List Loc) (ls : Array Slot) (w24 : va_W), 0 ≤ f102_1_1.toInt → f102_1_1.toInt ≤ 400 → 1 ≤ f102_1_2.toInt → f102_1_2.toInt ≤ 400 → 0 ≤ f102_1_3.toInt → f102_1_3.toInt ≤ 399 → Wd dC dI A s.heap H locs w24 → TW ksC ad cy B qr s1 w24 → FE ksC [(6, 1, 1), (6, 3, 3), (6, 4, 4)] w0 w24 → gi w24 1 1 = f102_1_1 → gi w24 1 2 = f102_1_2 → gi w24 1 3 = f102_1_3 → gi w24 1 4 = 0 → lv_has ls 4 [(0, .ref (ad 1)), (1, .int 0), (2, .int 359), (3, .int v102_3)] → W p l e ({ frames := 2, cells := 0, slots := 0, locals := 34 }) s m (List.toArray [.ref (ad 1), .int 0, .int 359]) below meth c H locs 0 0 (MQ below (va_Qi (P_X6_readNumber_8 ad cy B qr s1  w0) (fun u : va_W => wpost dC dI cy A u) A) (List.toArray [.ref (ad 1), .int 0, .int 359]) s 0 0 A) (F0 m 102 ls []) := by
    intro v102_3 f102_1_1 f102_1_2 f102_1_3 H locs ls w24 r25 t26 r28 t29 r31 t32 hw hT hF c27 c30 c33 c34 hl
    refine lv_aload_n hx hb dX6_readNumber_102 rfl (lv_at hl 0 rfl) ?_
    refine tk_geti hC hK hw hT hinX6 kC_at1 (by decide) rfl 1 (by decide) (List.mem_of_getElem? (i := 2) rfl) rfl rfl dX6_readNumber_103 (fun x35 c36 rx35 tx35 => ?_)
    refine wk_top f102_1_1 (c36.symm.trans c27) ?_
    refine lv_aload_n hx hb dX6_readNumber_106 rfl (lv_at hl 0 rfl) ?_
    refine tk_geti hC hK hw hT hinX6 kC_at1 (by decide) rfl 3 (by decide) (List.mem_of_getElem? (i := 1) rfl) rfl rfl dX6_readNumber_107 (fun x37 c38 rx37 tx37 => ?_)
    refine wk_top f102_1_3 (c38.symm.trans c33) ?_
    refine lv_isub hx hb dX6_readNumber_110 ?_
    refine lv_topi (fun x39 ex39 => ?_)
    have ex39 : x39.toInt = f102_1_1.toInt - f102_1_3.toInt := by rw [ex39]; exact wk_sub (show (-2147483648) ≤ f102_1_1.toInt - f102_1_3.toInt by omega) (show f102_1_1.toInt - f102_1_3.toInt ≤ 2147483647 by omega)
    refine lv_iconst (v := 5) hx hb dX6_readNumber_111 (by decide) ?_
    refine lv_icmp_gt (tgt := 125) hx hb dX6_readNumber_112 (by decide) (fun c40 => ?_) (fun c40 => ?_)
    · have c40 : (5 : Int) < x39.toInt := wk_lt.mp c40
      exact J125 v102_3 f102_1_1 f102_1_2 f102_1_3 H locs ls w24 (show 0 ≤ f102_1_1.toInt by omega) (show f102_1_1.toInt ≤ 400 by omega) (show 1 ≤ f102_1_2.toInt by omega) (show f102_1_2.toInt ≤ 400 by omega) (show 0 ≤ f102_1_3.toInt by omega) (show f102_1_3.toInt ≤ 399 by omega)  hw hT hF c27 c30 c33 c34 (lv_sub hl [0, 1, 2, 3] rfl)
    · have c40 : x39.toInt ≤ (5 : Int) := wk_ltF c40
      refine lv_iload_n hx hb dX6_readNumber_115 rfl (lv_at hl 3 rfl) ?_
      refine lv_iload_n hx hb dX6_readNumber_116 rfl (lv_at hl 1 rfl) ?_
      refine lv_icmp_lt (tgt := 125) hx hb dX6_readNumber_117 (by decide) (fun c41 => ?_) (fun c41 => ?_)
      · have c41 : v102_3.toInt < (0 : Int) := wk_lt.mp c41
        exact J125 v102_3 f102_1_1 f102_1_2 f102_1_3 H locs ls w24 (show 0 ≤ f102_1_1.toInt by omega) (show f102_1_1.toInt ≤ 400 by omega) (show 1 ≤ f102_1_2.toInt by omega) (show f102_1_2.toInt ≤ 400 by omega) (show 0 ≤ f102_1_3.toInt by omega) (show f102_1_3.toInt ≤ 399 by omega)  hw hT hF c27 c30 c33 c34 (lv_sub hl [0, 1, 2, 3] rfl)
      · have c41 : (0 : Int) ≤ v102_3.toInt := wk_ltF c41
        refine lv_iload_n hx hb dX6_readNumber_120 rfl (lv_at hl 3 rfl) ?_
        refine lv_iload_n hx hb dX6_readNumber_121 rfl (lv_at hl 2 rfl) ?_
        refine lv_icmp_le (tgt := 136) hx hb dX6_readNumber_122 (by decide) (fun c42 => ?_) (fun c42 => ?_)
        · have c42 : v102_3.toInt ≤ (359 : Int) := wk_le.mp c42
          refine lv_iload_n hx hb dX6_readNumber_136 rfl (lv_at hl 3 rfl) ?_
          exact tk_iret hC hr hlocks hK ⟨hT, hF, (Or.inl ⟨(show 0 ≤ v102_3.toInt by omega), (show v102_3.toInt ≤ 359 by omega), ⟨f102_1_2, c30, (show 1 ≤ f102_1_2.toInt by omega), (show f102_1_2.toInt ≤ 400 by omega)⟩, ⟨f102_1_3, c33, (show 0 ≤ f102_1_3.toInt by omega), (show f102_1_3.toInt ≤ 399 by omega)⟩, ⟨0, c34, (by decide), (by decide)⟩⟩)⟩ hw dX6_readNumber_137
        · have c42 : (359 : Int) < v102_3.toInt := wk_leF c42
          exact J125 v102_3 f102_1_1 f102_1_2 f102_1_3 H locs ls w24 (show 0 ≤ f102_1_1.toInt by omega) (show f102_1_1.toInt ≤ 400 by omega) (show 1 ≤ f102_1_2.toInt by omega) (show f102_1_2.toInt ≤ 400 by omega) (show 0 ≤ f102_1_3.toInt by omega) (show f102_1_3.toInt ≤ 399 by omega)  hw hT hF c27 c30 c33 c34 (lv_sub hl [0, 1, 2, 3] rfl)
  have L32 : ∀ (n32 : Nat) (v32_3 : Int32) (f32_1_1 : Int32) (f32_1_2 : Int32) (f32_1_3 : Int32) (H : Heap) (locs : List Loc) (ls : Array Slot) (w43 : va_W), 0 ≤ f32_1_1.toInt → f32_1_1.toInt ≤ 400 → 1 ≤ f32_1_2.toInt → f32_1_2.toInt ≤ 400 → 0 ≤ f32_1_3.toInt → f32_1_3.toInt ≤ 399 → (400 - f32_1_1.toInt).toNat < n32 → Wd dC dI A s.heap H locs w43 → TW ksC ad cy B qr s1 w43 → FE ksC [(6, 1, 1), (6, 3, 3), (6, 4, 4)] w0 w43 → gi w43 1 1 = f32_1_1 → gi w43 1 2 = f32_1_2 → gi w43 1 3 = f32_1_3 → gi w43 1 4 = 0 → lv_has ls 4 [(0, .ref (ad 1)), (1, .int 0), (2, .int 359), (3, .int v32_3)] → W p l e ({ frames := 2, cells := 0, slots := 0, locals := 34 }) s m (List.toArray [.ref (ad 1), .int 0, .int 359]) below meth c H locs 0 0 (MQ below (va_Qi (P_X6_readNumber_8 ad cy B qr s1  w0) (fun u : va_W => wpost dC dI cy A u) A) (List.toArray [.ref (ad 1), .int 0, .int 359]) s 0 0 A) (F0 m 32 ls []) := by
    intro n32
    induction n32 with
    | zero => intro v32_3 f32_1_1 f32_1_2 f32_1_3 H locs ls w43 r44 t45 r47 t48 r50 t51 hm32 hw hT hF c46 c49 c52 c53 hl; omega
    | succ n32 ih32 =>
      intro v32_3 f32_1_1 f32_1_2 f32_1_3 H locs ls w43 r44 t45 r47 t48 r50 t51 hm32 hw hT hF c46 c49 c52 c53 hl
      have J89 : ∀ (v89_3 : Int32) (H : Heap) (locs : List Loc) (ls : Array Slot) (w54 : va_W), 0 ≤ f32_1_1.toInt → f32_1_1.toInt ≤ 399 → 1 ≤ f32_1_2.toInt → f32_1_2.toInt ≤ 400 → 0 ≤ f32_1_3.toInt → f32_1_3.toInt ≤ 399 → Wd dC dI A s.heap H locs w54 → TW ksC ad cy B qr s1 w54 → FE ksC [(6, 1, 1), (6, 3, 3), (6, 4, 4)] w0 w54 → gi w54 1 1 = f32_1_1 → gi w54 1 2 = f32_1_2 → gi w54 1 3 = f32_1_3 → gi w54 1 4 = 0 → lv_has ls 4 [(0, .ref (ad 1)), (1, .int 0), (2, .int 359), (3, .int v89_3)] → W p l e ({ frames := 2, cells := 0, slots := 0, locals := 34 }) s m (List.toArray [.ref (ad 1), .int 0, .int 359]) below meth c H locs 0 0 (MQ below (va_Qi (P_X6_readNumber_8 ad cy B qr s1  w0) (fun u : va_W => wpost dC dI cy A u) A) (List.toArray [.ref (ad 1), .int 0, .int 359]) s 0 0 A) (F0 m 89 ls []) := by
        intro v89_3 H locs ls w54 r55 t56 r58 t59 r61 t62 hw hT hF c57 c60 c63 c64 hl
        refine lv_aload_n hx hb dX6_readNumber_89 rfl (lv_at hl 0 rfl) ?_
        refine lv_dup hx hb dX6_readNumber_90 rfl ?_
        refine tk_geti hC hK hw hT hinX6 kC_at1 (by decide) rfl 1 (by decide) (List.mem_of_getElem? (i := 2) rfl) rfl rfl dX6_readNumber_91 (fun x65 c66 rx65 tx65 => ?_)
        refine wk_top f32_1_1 (c66.symm.trans c57) ?_
        refine lv_iconst (v := 1) hx hb dX6_readNumber_94 (by decide) ?_
        refine lv_iadd hx hb dX6_readNumber_95 ?_
        refine lv_topi (fun x67 ex67 => ?_)
        have ex67 : x67.toInt = f32_1_1.toInt + (1 : Int) := by rw [ex67]; exact wk_add (show (-2147483648) ≤ f32_1_1.toInt + (1 : Int) by omega) (show f32_1_1.toInt + (1 : Int) ≤ 2147483647 by omega)
        refine tk_puti hC hK hw hT hinX6 tyX6_ok nmX6 kC_at1 (by decide) rfl rfl 1 (by decide) (List.mem_of_getElem? (i := 2) rfl) rfl rfl rfl rfl (show 0 ≤ x67.toInt by omega) (show x67.toInt ≤ 400 by omega) dX6_readNumber_96 (fun H locs w68 hw hT k70 c69 => ?_)
        have hF := hF.put kC_at1 (k := 1) (by decide) k70
        have c71 := k70.gi (Or.inr (by decide)) c60
        have c72 := k70.gi (Or.inr (by decide)) c63
        have c73 := k70.gi (Or.inr (by decide)) c64
        refine lv_goto (tgt := 32) hx hb dX6_readNumber_99 (by decide) ?_
        exact ih32 v89_3 x67 f32_1_2 f32_1_3 H locs ls w68 (show 0 ≤ x67.toInt by omega) (show x67.toInt ≤ 400 by omega) (show 1 ≤ f32_1_2.toInt by omega) (show f32_1_2.toInt ≤ 400 by omega) (show 0 ≤ f32_1_3.toInt by omega) (show f32_1_3.toInt ≤ 399 by omega) (show (400 - x67.toInt).toNat < n32 by omega) hw hT hF c69 c71 c72 c73 (lv_sub hl [0, 1, 2, 3] rfl)
      refine lv_aload_n hx hb dX6_readNumber_32 rfl (lv_at hl 0 rfl) ?_
      refine tk_geti hC hK hw hT hinX6 kC_at1 (by decide) rfl 1 (by decide) (List.mem_of_getElem? (i := 2) rfl) rfl rfl dX6_readNumber_33 (fun x74 c75 rx74 tx74 => ?_)
      refine wk_top f32_1_1 (c75.symm.trans c46) ?_
      refine lv_aload_n hx hb dX6_readNumber_36 rfl (lv_at hl 0 rfl) ?_
      refine tk_geti hC hK hw hT hinX6 kC_at1 (by decide) rfl 2 (by decide) (List.mem_of_getElem? (i := 3) rfl) rfl rfl dX6_readNumber_37 (fun x76 c77 rx76 tx76 => ?_)
      refine wk_top f32_1_2 (c77.symm.trans c49) ?_
      refine lv_icmp_ge (tgt := 102) hx hb dX6_readNumber_40 (by decide) (fun c78 => ?_) (fun c78 => ?_)
      · have c78 : f32_1_2.toInt ≤ f32_1_1.toInt := wk_le.mp c78
        exact J102 v32_3 f32_1_1 f32_1_2 f32_1_3 H locs ls w43 (show 0 ≤ f32_1_1.toInt by omega) (show f32_1_1.toInt ≤ 400 by omega) (show 1 ≤ f32_1_2.toInt by omega) (show f32_1_2.toInt ≤ 400 by omega) (show 0 ≤ f32_1_3.toInt by omega) (show f32_1_3.toInt ≤ 399 by omega)  hw hT hF c46 c49 c52 c53 (lv_sub hl [0, 1, 2, 3] rfl)
      · have c78 : f32_1_1.toInt < f32_1_2.toInt := wk_leF c78
        refine lv_aload_n hx hb dX6_readNumber_43 rfl (lv_at hl 0 rfl) ?_
        refine tk_getA hC hK hw hT hinX6 kC_at1 (by decide) rfl 0 (by decide) (List.mem_of_getElem? (i := 4) rfl) rfl rfl dX6_readNumber_44 ?_
        refine lv_aload_n hx hb dX6_readNumber_47 rfl (lv_at hl 0 rfl) ?_
        refine tk_geti hC hK hw hT hinX6 kC_at1 (by decide) rfl 1 (by decide) (List.mem_of_getElem? (i := 2) rfl) rfl rfl dX6_readNumber_48 (fun x79 c80 rx79 tx79 => ?_)
        refine wk_top f32_1_1 (c80.symm.trans c46) ?_
        refine tk_iald hC hK hw hT kC_at2 rfl rfl (show 0 ≤ f32_1_1.toInt by omega) (show f32_1_1.toInt < 400 by omega) dX6_readNumber_51 (fun x81 c82 rx81 tx81 => ?_)
        refine tk_Si hC hK hw hT hA hE hSR (k_X6_isDigit_1 l adK adV dC dI cy ad B (by omega) (by omega) qr s1   x81 (show 0 ≤ x81.toInt by omega) (show x81.toInt ≤ 255 by omega) w43 H.size hT ) (va_cwS 1 hC.2.2.2.2 gX6_readNumber_X6_isDigit rfl rfl rfl (by decide +kernel) ⟨Nat.le_of_ble_eq_true rfl, Nat.le_of_ble_eq_true rfl⟩) rfl hl.1 rfl (Nat.le_of_ble_eq_true rfl) dX6_readNumber_52 (fun r83 w85 H locs hp84 hw => ?_)
        obtain ⟨hT, k86, hg89⟩ := hp84
        have hF := hF.tr k86 (by decide)
        have c90 := k86.gi kC_at1 (by decide) c46
        have c91 := k86.gi kC_at1 (by decide) c49
        have c92 := k86.gi kC_at1 (by decide) c52
        have c93 := k86.gi kC_at1 (by decide) c53
        rcases hg89 with rfl | ⟨rfl, g87, g88⟩
        · refine lv_if_eq (tgt := 102) hx hb dX6_readNumber_55 (by decide) (fun _ => ?_) (fun c => absurd (by decide) c)
          exact J102 v32_3 f32_1_1 f32_1_2 f32_1_3 H locs ls w85 (show 0 ≤ f32_1_1.toInt by omega) (show f32_1_1.toInt ≤ 400 by omega) (show 1 ≤ f32_1_2.toInt by omega) (show f32_1_2.toInt ≤ 400 by omega) (show 0 ≤ f32_1_3.toInt by omega) (show f32_1_3.toInt ≤ 399 by omega)  hw hT hF c90 c91 c92 c93 (lv_sub hl [0, 1, 2, 3] rfl)
        · refine lv_if_eq (tgt := 102) hx hb dX6_readNumber_55 (by decide) (fun c => absurd c (by decide)) (fun _ => ?_)
          refine lv_aload_n hx hb dX6_readNumber_58 rfl (lv_at hl 0 rfl) ?_
          refine tk_geti hC hK hw hT hinX6 kC_at1 (by decide) rfl 1 (by decide) (List.mem_of_getElem? (i := 2) rfl) rfl rfl dX6_readNumber_59 (fun x94 c95 rx94 tx94 => ?_)
          refine wk_top f32_1_1 (c95.symm.trans c90) ?_
          refine lv_aload_n hx hb dX6_readNumber_62 rfl (lv_at hl 0 rfl) ?_
          refine tk_geti hC hK hw hT hinX6 kC_at1 (by decide) rfl 3 (by decide) (List.mem_of_getElem? (i := 1) rfl) rfl rfl dX6_readNumber_63 (fun x96 c97 rx96 tx96 => ?_)
          refine wk_top f32_1_3 (c97.symm.trans c92) ?_
          refine lv_isub hx hb dX6_readNumber_66 ?_
          refine lv_topi (fun x98 ex98 => ?_)
          have ex98 : x98.toInt = f32_1_1.toInt - f32_1_3.toInt := by rw [ex98]; exact wk_sub (show (-2147483648) ≤ f32_1_1.toInt - f32_1_3.toInt by omega) (show f32_1_1.toInt - f32_1_3.toInt ≤ 2147483647 by omega)
          refine lv_iconst (v := 5) hx hb dX6_readNumber_67 (by decide) ?_
          refine lv_icmp_ge (tgt := 89) hx hb dX6_readNumber_68 (by decide) (fun c99 => ?_) (fun c99 => ?_)
          · have c99 : (5 : Int) ≤ x98.toInt := wk_le.mp c99
            exact J89 v32_3 H locs ls w85 (show 0 ≤ f32_1_1.toInt by omega) (show f32_1_1.toInt ≤ 399 by omega) (show 1 ≤ f32_1_2.toInt by omega) (show f32_1_2.toInt ≤ 400 by omega) (show 0 ≤ f32_1_3.toInt by omega) (show f32_1_3.toInt ≤ 399 by omega)  hw hT hF c90 c91 c92 c93 (lv_sub hl [0, 1, 2, 3] rfl)
          · have c99 : x98.toInt < (5 : Int) := wk_leF c99
            refine lv_iload_n hx hb dX6_readNumber_71 rfl (lv_at hl 3 rfl) ?_
            refine lv_bipush (v := 10) hx hb dX6_readNumber_72 (by decide) ?_
            refine lv_imul hx hb dX6_readNumber_74 ?_
            have nx100 := wk_i32 v32_3
            refine lv_topi (fun x101 ex101 => ?_)
            refine lv_aload_n hx hb dX6_readNumber_75 rfl (lv_at hl 0 rfl) ?_
            refine tk_getA hC hK hw hT hinX6 kC_at1 (by decide) rfl 0 (by decide) (List.mem_of_getElem? (i := 4) rfl) rfl rfl dX6_readNumber_76 ?_
            refine lv_aload_n hx hb dX6_readNumber_79 rfl (lv_at hl 0 rfl) ?_
            refine tk_geti hC hK hw hT hinX6 kC_at1 (by decide) rfl 1 (by decide) (List.mem_of_getElem? (i := 2) rfl) rfl rfl dX6_readNumber_80 (fun x102 c103 rx102 tx102 => ?_)
            refine wk_top f32_1_1 (c103.symm.trans c90) ?_
            refine tk_iald hC hK hw hT kC_at2 rfl rfl (show 0 ≤ f32_1_1.toInt by omega) (show f32_1_1.toInt < 400 by omega) dX6_readNumber_83 (fun x104 c105 rx104 tx104 => ?_)
            refine lv_iadd hx hb dX6_readNumber_84 ?_
            have nx106 := wk_i32 x101
            refine lv_topi (fun x107 ex107 => ?_)
            refine lv_bipush (v := 48) hx hb dX6_readNumber_85 (by decide) ?_
            refine lv_isub hx hb dX6_readNumber_87 ?_
            have nx108 := wk_i32 x107
            refine lv_topi (fun x109 ex109 => ?_)
            refine lv_istore_n (lv' := [(3, .int x109), (0, .ref (ad 1)), (1, .int 0), (2, .int 359)]) hx hb dX6_readNumber_88 rfl hl (by decide) rfl (fun ls hl => ?_)
            exact J89 x109 H locs ls w85 (show 0 ≤ f32_1_1.toInt by omega) (show f32_1_1.toInt ≤ 399 by omega) (show 1 ≤ f32_1_2.toInt by omega) (show f32_1_2.toInt ≤ 400 by omega) (show 0 ≤ f32_1_3.toInt by omega) (show f32_1_3.toInt ≤ 399 by omega)  hw hT hF c90 c91 c92 c93 (lv_sub hl [1, 2, 3, 0] rfl)
  refine lv_aload_n hx hb dX6_readNumber_0 rfl (lv_at hl 0 rfl) ?_
  refine tk_Vi hC hK hw hT hA hE hSR kC_at1 (by decide) rfl (k_X6_isFaulty_2 l adK adV dC dI cy ad B (by omega) (by omega) qr s1    w0 s.heap.size hT cf0_) (cwV 0 hC.2.2.2.2 gX6_readNumber_X6_isFaulty rfl rfl rfl (by decide +kernel) ⟨Nat.le_of_ble_eq_true rfl, Nat.le_of_ble_eq_true rfl⟩) rfl hl.1 rfl (Nat.le_of_ble_eq_true rfl) dX6_readNumber_1 (fun r110 w112 H locs hp111 hw => ?_)
  obtain ⟨hT, k113, hg116⟩ := hp111
  have hF := hF.tr k113 (by decide)
  have c117 := k113.gi kC_at1 (by decide) cf0_
  obtain ⟨rfl, ⟨x114, c115, rx114, tx114⟩⟩ := hg116
  have ex114 : x114.toInt = (0 : Int) := by rw [show x114 = 0 from c115.symm.trans c117]; decide
  refine lv_if_eq (tgt := 9) hx hb dX6_readNumber_4 (by decide) (fun _ => ?_) (fun c => absurd (by decide) c)
  refine lv_aload_n hx hb dX6_readNumber_9 rfl (lv_at hl 0 rfl) ?_
  refine tk_Vi hC hK hw hT hA hE hSR kC_at1 (by decide) rfl (k_X6_lookBehindBlanks_1 l adK adV dC dI cy ad B (by omega) (by omega) qr s1    w112 H.size hT ) (cwV 0 hC.2.2.2.2 gX6_readNumber_X6_lookBehindBlanks rfl rfl rfl (by decide +kernel) ⟨Nat.le_of_ble_eq_true rfl, Nat.le_of_ble_eq_true rfl⟩) rfl hl.1 rfl (Nat.le_of_ble_eq_true rfl) dX6_readNumber_10 (fun r118 w120 H locs hp119 hw => ?_)
  obtain ⟨hT, k121, hg130⟩ := hp119
  have hF := hF.tr k121 (by decide)
  have c131 := k121.gi kC_at1 (by decide) c117
  rcases hg130 with ⟨g122, g123, ⟨x124, c125, rx124, tx124⟩, ⟨x126, c127, rx126, tx126⟩, ⟨x128, c129, rx128, tx128⟩⟩ | rfl
  · refine tk_Si hC hK hw hT hA hE hSR (k_X6_isDigit_1 l adK adV dC dI cy ad B (by omega) (by omega) qr s1   r118 (show 0 ≤ r118.toInt by omega) (show r118.toInt ≤ 255 by omega) w120 H.size hT ) (va_cwS 1 hC.2.2.2.2 gX6_readNumber_X6_isDigit rfl rfl rfl (by decide +kernel) ⟨Nat.le_of_ble_eq_true rfl, Nat.le_of_ble_eq_true rfl⟩) rfl hl.1 rfl (Nat.le_of_ble_eq_true rfl) dX6_readNumber_13 (fun r132 w134 H locs hp133 hw => ?_)
    obtain ⟨hT, k135, hg138⟩ := hp133
    have hF := hF.tr k135 (by decide)
    have c139 := k135.gi kC_at1 (by decide) c131
    have c140 := k135.gi kC_at1 (by decide) c125
    have c141 := k135.gi kC_at1 (by decide) c127
    have c142 := k135.gi kC_at1 (by decide) c129
    rcases hg138 with rfl | ⟨rfl, g136, g137⟩
    · refine lv_if_ne (tgt := 30) hx hb dX6_readNumber_16 (by decide) (fun c => absurd (by decide) c) (fun _ => ?_)
      refine lv_aload_n hx hb dX6_readNumber_19 rfl (lv_at hl 0 rfl) ?_
      refine lv_aload_n hx hb dX6_readNumber_20 rfl (lv_at hl 0 rfl) ?_
      refine tk_geti hC hK hw hT hinX6 kC_at1 (by decide) rfl 3 (by decide) (List.mem_of_getElem? (i := 1) rfl) rfl rfl dX6_readNumber_21 (fun x143 c144 rx143 tx143 => ?_)
      refine wk_top x128 (c144.symm.trans c142) ?_
      refine lv_iconst (v := 0) hx hb dX6_readNumber_24 (by decide) ?_
      refine tk_Vv hC hK hw hT hA hE hSR kC_at1 (by decide) rfl (k_X6_blame_1 l adK adV dC dI cy ad B (by omega) (by omega) qr s1   x128 (show 0 ≤ x128.toInt by omega) (show x128.toInt ≤ 400 by omega) 0 (by decide) (by decide) w134 H.size hT c139) (cwV 2 hC.2.2.2.2 gX6_readNumber_X6_blame rfl rfl rfl (by decide +kernel) ⟨Nat.le_of_ble_eq_true rfl, Nat.le_of_ble_eq_true rfl⟩) rfl hl.1 rfl (Nat.le_of_ble_eq_true rfl) dX6_readNumber_25 (fun w147 H locs hp146 hw => ?_)
      obtain ⟨hT, k148, hg151⟩ := hp146
      have hF := hF.tr k148 (by decide)
      have c152 := k148.gi kC_at1 (by decide) c140
      have c153 := k148.gi kC_at1 (by decide) c141
      have c154 := k148.gi kC_at1 (by decide) c142
      obtain ⟨x149, c150, rx149, tx149⟩ := hg151
      refine lv_iconst (v := (-1)) hx hb dX6_readNumber_28 (by decide) ?_
      exact tk_iret hC hr hlocks hK ⟨hT, hF, (Or.inr ⟨rfl, ⟨x149, c150, (show 1 ≤ x149.toInt by omega), (show x149.toInt ≤ 3205 by omega)⟩⟩)⟩ hw dX6_readNumber_29
    · refine lv_if_ne (tgt := 30) hx hb dX6_readNumber_16 (by decide) (fun _ => ?_) (fun c => absurd c (by decide))
      refine lv_iconst (v := 0) hx hb dX6_readNumber_30 (by decide) ?_
      refine lv_istore_n (lv' := [(3, .int 0), (0, .ref (ad 1)), (1, .int 0), (2, .int 359)]) hx hb dX6_readNumber_31 rfl hl (by decide) rfl (fun ls hl => ?_)
      exact L32 ((400 - x124.toInt).toNat + 1) 0 x124 x126 x128 H locs ls w134 (show 0 ≤ x124.toInt by omega) (show x124.toInt ≤ 400 by omega) (show 1 ≤ x126.toInt by omega) (show x126.toInt ≤ 400 by omega) (show 0 ≤ x128.toInt by omega) (show x128.toInt ≤ 399 by omega) (Nat.lt_succ_self _) hw hT hF c140 c141 c142 c139 (lv_sub hl [1, 2, 3, 0] rfl)
  · refine tk_Si hC hK hw hT hA hE hSR (k_X6_isDigit_2 l adK adV dC dI cy ad B (by omega) (by omega) qr s1    w120 H.size hT ) (va_cwS 1 hC.2.2.2.2 gX6_readNumber_X6_isDigit rfl rfl rfl (by decide +kernel) ⟨Nat.le_of_ble_eq_true rfl, Nat.le_of_ble_eq_true rfl⟩) rfl hl.1 rfl (Nat.le_of_ble_eq_true rfl) dX6_readNumber_13 (fun r155 w157 H locs hp156 hw => ?_)
    obtain ⟨hT, k158, hg159⟩ := hp156
    have hF := hF.tr k158 (by decide)
    have c160 := k158.gi kC_at1 (by decide) c131
    obtain rfl := hg159
    refine lv_if_ne (tgt := 30) hx hb dX6_readNumber_16 (by decide) (fun c => absurd (by decide) c) (fun _ => ?_)
    refine lv_aload_n hx hb dX6_readNumber_19 rfl (lv_at hl 0 rfl) ?_
    refine lv_aload_n hx hb dX6_readNumber_20 rfl (lv_at hl 0 rfl) ?_
    refine tk_geti hC hK hw hT hinX6 kC_at1 (by decide) rfl 3 (by decide) (List.mem_of_getElem? (i := 1) rfl) rfl rfl dX6_readNumber_21 (fun x161 c162 rx161 tx161 => ?_)
    refine lv_iconst (v := 0) hx hb dX6_readNumber_24 (by decide) ?_
    refine tk_Vv hC hK hw hT hA hE hSR kC_at1 (by decide) rfl (k_X6_blame_1 l adK adV dC dI cy ad B (by omega) (by omega) qr s1   x161 (show 0 ≤ x161.toInt by omega) (show x161.toInt ≤ 400 by omega) 0 (by decide) (by decide) w157 H.size hT c160) (cwV 2 hC.2.2.2.2 gX6_readNumber_X6_blame rfl rfl rfl (by decide +kernel) ⟨Nat.le_of_ble_eq_true rfl, Nat.le_of_ble_eq_true rfl⟩) rfl hl.1 rfl (Nat.le_of_ble_eq_true rfl) dX6_readNumber_25 (fun w165 H locs hp164 hw => ?_)
    obtain ⟨hT, k166, hg169⟩ := hp164
    have hF := hF.tr k166 (by decide)
    have c170 := k166.gi kC_at1 (by decide) c162
    obtain ⟨x167, c168, rx167, tx167⟩ := hg169
    refine lv_iconst (v := (-1)) hx hb dX6_readNumber_28 (by decide) ?_
    exact tk_iret hC hr hlocks hK ⟨hT, hF, (Or.inr ⟨rfl, ⟨x167, c168, (show 1 ≤ x167.toInt by omega), (show x167.toInt ≤ 3205 by omega)⟩⟩)⟩ hw dX6_readNumber_29
abbrev P_X6_readNumber_9 (ad : Nat → Nat) (cy : Nat → ClassId) (B : Int) (qr : Nat) (s1 : Int)  (w0 : va_W) : Int32 → va_W → Prop := fun r u => TW ksC ad cy B qr s1 u ∧ FE ksC ([] : List (Nat × Nat × Nat)) w0 u ∧ ((r = (-1) ∧ (∃ y : Int32, gi u 1 4 = y ∧ 1 ≤ y.toInt ∧ y.toInt ≤ 3205)))
set_option maxHeartbeats 4000000 in
set_option maxRecDepth 100000 in
theorem k_X6_readNumber_9 (l : Launch) (adK adV : Nat → Nat) (dC : Nat → ClassId) (dI : Nat → Nat → Nat) (cy : Nat → ClassId) (ad : Nat → Nat) (B : Int) (hB0 : 2147483648 ≤ B) (hB1 : B ≤ 1152921504606846976) (qr : Nat) (s1 : Int)   (w0 : va_W) (sz : Nat) (hT : TW ksC ad cy B qr s1 w0) (f0_ : Int32) (cf0_ : gi w0 1 4 = f0_) (rf0_ : 1 ≤ f0_.toInt) (tf0_ : f0_.toInt ≤ 3205) : Met l yX6_readNumber wsX6_readNumber ({ frames := 2, cells := 0, slots := 0, locals := 32 }) (va_Pc [.ref (ad 1), .int 0, .int 359] (wpreS adK adV dC dI cy sz w0)) (va_Qi (P_X6_readNumber_9 ad cy B qr s1  w0) (fun u : va_W => wpost dC dI cy (va_A w0 sz) u) (va_A w0 sz)) 0 0 (va_A w0 sz) := by
  refine Met.ofW (cc := cX6_readNumber) (maxL := 4) (ret := (some .int)) (by decide) rfl ?_
  intro p e s m args below meth c s₁ Bk hml hv
  obtain ⟨rfl, ⟨hsz, hP, hK, hD0⟩, hE, hSR⟩ := hv
  have hx := Bk.exec
  have hb := Bk.bytes
  have hr := Bk.returns
  have hlocks := Bk.notSynchronized
  have hC : CallFix p m c cX6_readNumber 4 s _ wsX6_readNumber RX6 := ⟨hx, hb, hml, findClass_of_methodNamed Bk.named, atoms_spec (ws := wsX6_readNumber) Bk.pre⟩
  subst hsz
  have hD := hD0.self (sz := s.heap.size)
  generalize hAe : va_A w0 s.heap.size = A at hD hE ⊢
  have hA : ∀ q : Nat, s.heap.size ≤ q → A q := fun q h => by rw [← hAe]; exact Or.inr h
  have hw : Wd dC dI A s.heap s.heap [] w0 := ⟨hP, hD, va_S.rf⟩
  have hF : FE ksC ([] : List (Nat × Nat × Nat)) w0 w0 := FE.rf
  have hl := lv_entry ([.ref (ad 1), .int 0, .int 359]) (n := 4) (Nat.le_of_ble_eq_true rfl)
  rw [lg_entry_eq]
  generalize (lg_sl ([.ref (ad 1), .int 0, .int 359]) ++ List.replicate (4 - (lg_sl ([.ref (ad 1), .int 0, .int 359])).length) Slot.unset).toArray = ls at hl ⊢
  have hl : lv_has ls 4 [(0, .ref (ad 1)), (1, .int 0), (2, .int 359)] := hl
  generalize hloc : ([] : List Loc) = locs at hw ⊢
  refine lv_aload_n hx hb dX6_readNumber_0 rfl (lv_at hl 0 rfl) ?_
  refine tk_Vi hC hK hw hT hA hE hSR kC_at1 (by decide) rfl (k_X6_isFaulty_3 l adK adV dC dI cy ad B (by omega) (by omega) qr s1    w0 s.heap.size hT f0_ cf0_ (show 1 ≤ f0_.toInt by omega) (show f0_.toInt ≤ 3205 by omega)) (cwV 0 hC.2.2.2.2 gX6_readNumber_X6_isFaulty rfl rfl rfl (by decide +kernel) ⟨Nat.le_of_ble_eq_true rfl, Nat.le_of_ble_eq_true rfl⟩) rfl hl.1 rfl (Nat.le_of_ble_eq_true rfl) dX6_readNumber_1 (fun r1 w3 H locs hp2 hw => ?_)
  obtain ⟨hT, k4, hg7⟩ := hp2
  have hF := hF.tr k4 (by decide)
  have c8 := k4.gi kC_at1 (by decide) cf0_
  obtain ⟨rfl, ⟨x5, c6, rx5, tx5⟩⟩ := hg7
  have ex5 : x5.toInt = f0_.toInt := by rw [← c8.symm.trans c6]
  refine lv_if_eq (tgt := 9) hx hb dX6_readNumber_4 (by decide) (fun c => absurd c (by decide)) (fun _ => ?_)
  refine lv_iconst (v := (-1)) hx hb dX6_readNumber_7 (by decide) ?_
  exact tk_iret hC hr hlocks hK ⟨hT, hF, ⟨rfl, ⟨f0_, c8, (show 1 ≤ f0_.toInt by omega), (show f0_.toInt ≤ 3205 by omega)⟩⟩⟩ hw dX6_readNumber_8
abbrev P_X7_readSaint_1 (ad : Nat → Nat) (cy : Nat → ClassId) (B : Int) (qr : Nat) (s1 : Int)  (w0 : va_W) : va_W → Prop := fun u => TW ksC ad cy B qr s1 u ∧ FE ksC [(6, 1, 1), (6, 3, 3), (6, 4, 4), (7, 10, 10), (29, 0, 8), (30, 0, 8)] w0 u ∧ (((∃ y : Int32, gi u 1 4 = y ∧ 1 ≤ y.toInt ∧ y.toInt ≤ 3205) ∧ (∃ y : Int32, gi u 29 10 = y ∧ 0 ≤ y.toInt ∧ y.toInt ≤ 7)) ∨ ((∃ y : Int32, gi u 1 2 = y ∧ 1 ≤ y.toInt ∧ y.toInt ≤ 400) ∧ (∃ y : Int32, gi u 1 3 = y ∧ 0 ≤ y.toInt ∧ y.toInt ≤ 399) ∧ (∃ y : Int32, gi u 1 4 = y ∧ 0 ≤ y.toInt ∧ y.toInt ≤ 0) ∧ (∃ y : Int32, gi u 29 8 = y ∧ 1 ≤ y.toInt ∧ y.toInt ≤ 10) ∧ (∃ y : Int32, gi u 29 10 = y ∧ 1 ≤ y.toInt ∧ y.toInt ≤ 8)))
set_option maxHeartbeats 4000000 in
set_option maxRecDepth 100000 in
theorem k_X7_readSaint_1 (l : Launch) (adK adV : Nat → Nat) (dC : Nat → ClassId) (dI : Nat → Nat → Nat) (cy : Nat → ClassId) (ad : Nat → Nat) (B : Int) (hB0 : 2147483648 ≤ B) (hB1 : B ≤ 1152921504606846976) (qr : Nat) (s1 : Int)   (w0 : va_W) (sz : Nat) (hT : TW ksC ad cy B qr s1 w0) (cf0_ : gi w0 1 4 = 0) (f1_ : Int32) (cf1_ : gi w0 29 10 = f1_) (rf1_ : 0 ≤ f1_.toInt) (tf1_ : f1_.toInt ≤ 7) : Met l yX7_readSaint wsX7_readSaint ({ frames := 3, cells := 0, slots := 0, locals := 57 }) (va_Pc [.ref (ad 29), .ref (ad 1)] (wpreS adK adV dC dI cy sz w0)) (va_Qv (P_X7_readSaint_1 ad cy B qr s1  w0) (fun u : va_W => wpost dC dI cy (va_A w0 sz) u) (va_A w0 sz)) 0 0 (va_A w0 sz) := by
  refine Met.ofW (cc := cX7_readSaint) (maxL := 4) (ret := none) (by decide) rfl ?_
  intro p e s m args below meth c s₁ Bk hml hv
  obtain ⟨rfl, ⟨hsz, hP, hK, hD0⟩, hE, hSR⟩ := hv
  have hx := Bk.exec
  have hb := Bk.bytes
  have hr := Bk.returns
  have hlocks := Bk.notSynchronized
  have hC : CallFix p m c cX7_readSaint 4 s _ wsX7_readSaint RX7 := ⟨hx, hb, hml, findClass_of_methodNamed Bk.named, atoms_spec (ws := wsX7_readSaint) Bk.pre⟩
  subst hsz
  have hD := hD0.self (sz := s.heap.size)
  generalize hAe : va_A w0 s.heap.size = A at hD hE ⊢
  have hA : ∀ q : Nat, s.heap.size ≤ q → A q := fun q h => by rw [← hAe]; exact Or.inr h
  have hw : Wd dC dI A s.heap s.heap [] w0 := ⟨hP, hD, va_S.rf⟩
  have hF : FE ksC [(6, 1, 1), (6, 3, 3), (6, 4, 4), (7, 10, 10), (29, 0, 8), (30, 0, 8)] w0 w0 := FE.rf
  have hl := lv_entry ([.ref (ad 29), .ref (ad 1)]) (n := 4) (Nat.le_of_ble_eq_true rfl)
  rw [lg_entry_eq]
  generalize (lg_sl ([.ref (ad 29), .ref (ad 1)]) ++ List.replicate (4 - (lg_sl ([.ref (ad 29), .ref (ad 1)])).length) Slot.unset).toArray = ls at hl ⊢
  have hl : lv_has ls 4 [(0, .ref (ad 29)), (1, .ref (ad 1))] := hl
  generalize hloc : ([] : List Loc) = locs at hw ⊢
  have hinX7 : ∀ w ∈ u_ws RX7 TX7 12, w ∈ wsX7_readSaint := fun _ h => List.mem_cons_of_mem _ (List.mem_append_left _ (List.mem_append_right _ (h)))
  refine lv_aload_n hx hb dX7_readSaint_0 rfl (lv_at hl 1 rfl) ?_
  refine lv_iconst (v := 0) hx hb dX7_readSaint_1 (by decide) ?_
  refine lv_aload_n hx hb dX7_readSaint_2 rfl (lv_at hl 0 rfl) ?_
  refine tk_geti hC hK hw hT hinX7 kC_at29 (by decide) rfl 8 (by decide) (List.mem_of_getElem? (i := 1) rfl) rfl rfl dX7_readSaint_3 (fun x1 c2 rx1 tx1 => ?_)
  refine lv_iconst (v := 1) hx hb dX7_readSaint_6 (by decide) ?_
  refine lv_isub hx hb dX7_readSaint_7 ?_
  refine lv_topi (fun x3 ex3 => ?_)
  have ex3 : x3.toInt = x1.toInt - (1 : Int) := by rw [ex3]; exact wk_sub (show (-2147483648) ≤ x1.toInt - (1 : Int) by omega) (show x1.toInt - (1 : Int) ≤ 2147483647 by omega)
  refine tk_Vi hC hK hw hT hA hE hSR kC_at1 (by decide) rfl (k_X6_readNumber_3 l adK adV dC dI cy ad B (by omega) (by omega) qr s1   x3 (show (-2) ≤ x3.toInt by omega) (show x3.toInt ≤ 9 by omega) w0 s.heap.size hT cf0_) (cwV 2 hC.2.2.2.2 gX7_readSaint_X6_readNumber rfl rfl rfl (by decide +kernel) ⟨Nat.le_of_ble_eq_true rfl, Nat.le_of_ble_eq_true rfl⟩) rfl hl.1 rfl (Nat.le_of_ble_eq_true rfl) dX7_readSaint_8 (fun r4 w6 H locs hp5 hw => ?_)
  obtain ⟨hT, k7, hg19⟩ := hp5
  have hF := hF.tr k7 (by decide)
  have c20 := k7.gi kC_at29 (by decide) cf1_
  have c21 := k7.gi kC_at29 (by decide) c2
  rcases hg19 with ⟨g8, g9, g10, ⟨x11, c12, rx11, tx11⟩, ⟨x13, c14, rx13, tx13⟩, ⟨x15, c16, rx15, tx15⟩⟩ | ⟨rfl, ⟨x17, c18, rx17, tx17⟩⟩
  · refine lv_istore_n (lv' := [(2, .int r4), (0, .ref (ad 29)), (1, .ref (ad 1))]) hx hb dX7_readSaint_11 rfl hl (by decide) rfl (fun ls hl => ?_)
    refine lv_aload_n hx hb dX7_readSaint_12 rfl (lv_at hl 2 rfl) ?_
    refine lv_iconst (v := 0) hx hb dX7_readSaint_13 (by decide) ?_
    refine lv_sipush (v := 359) hx hb dX7_readSaint_14 (by decide) ?_
    refine tk_Vi hC hK hw hT hA hE hSR kC_at1 (by decide) rfl (k_X6_readNumber_8 l adK adV dC dI cy ad B (by omega) (by omega) qr s1    w6 H.size hT (c16.trans (wk_eq.mpr (show x15.toInt = 0 by omega)))) (cwV 2 hC.2.2.2.2 gX7_readSaint_X6_readNumber rfl rfl rfl (by decide +kernel) ⟨Nat.le_of_ble_eq_true rfl, Nat.le_of_ble_eq_true rfl⟩) rfl hl.1 rfl (Nat.le_of_ble_eq_true rfl) dX7_readSaint_17 (fun r22 w24 H locs hp23 hw => ?_)
    obtain ⟨hT, k25, hg36⟩ := hp23
    have hF := hF.tr k25 (by decide)
    have c37 := k25.gi kC_at29 (by decide) c20
    have c38 := k25.gi kC_at29 (by decide) c21
    have c39 := k25.gi kC_at1 (by decide) c12
    rcases hg36 with ⟨g26, g27, ⟨x28, c29, rx28, tx28⟩, ⟨x30, c31, rx30, tx30⟩, ⟨x32, c33, rx32, tx32⟩⟩ | ⟨rfl, ⟨x34, c35, rx34, tx34⟩⟩
    · have ex28 : x28.toInt = x11.toInt := by rw [← c39.symm.trans c29]
      refine lv_istore_n (lv' := [(3, .int r22), (2, .int r4), (0, .ref (ad 29)), (1, .ref (ad 1))]) hx hb dX7_readSaint_20 rfl hl (by decide) rfl (fun ls hl => ?_)
      refine lv_aload_n hx hb dX7_readSaint_21 rfl (lv_at hl 3 rfl) ?_
      refine tk_Vi hC hK hw hT hA hE hSR kC_at1 (by decide) rfl (k_X6_isFaulty_2 l adK adV dC dI cy ad B (by omega) (by omega) qr s1    w24 H.size hT (c33.trans (wk_eq.mpr (show x32.toInt = 0 by omega)))) (cwV 0 hC.2.2.2.2 gX7_readSaint_X6_isFaulty rfl rfl rfl (by decide +kernel) ⟨Nat.le_of_ble_eq_true rfl, Nat.le_of_ble_eq_true rfl⟩) rfl hl.1 rfl (Nat.le_of_ble_eq_true rfl) dX7_readSaint_22 (fun r40 w42 H locs hp41 hw => ?_)
      obtain ⟨hT, k43, hg46⟩ := hp41
      have hF := hF.tr k43 (by decide)
      have c47 := k43.gi kC_at29 (by decide) c37
      have c48 := k43.gi kC_at29 (by decide) c38
      have c49 := k43.gi kC_at1 (by decide) c39
      have c50 := k43.gi kC_at1 (by decide) c31
      have c51 := k43.gi kC_at1 (by decide) c33
      obtain ⟨rfl, ⟨x44, c45, rx44, tx44⟩⟩ := hg46
      have ex44 : x44.toInt = x32.toInt := by rw [← c51.symm.trans c45]
      refine lv_if_eq (tgt := 29) hx hb dX7_readSaint_25 (by decide) (fun _ => ?_) (fun c => absurd (by decide) c)
      refine lv_aload_n hx hb dX7_readSaint_29 rfl (lv_at hl 2 rfl) ?_
      refine tk_getO hC hK hw hT hinX7 kC_at29 (by decide) rfl 5 (by decide) (List.mem_of_getElem? (i := 2) rfl) rfl rfl dX7_readSaint_30 ?_
      refine lv_aload_n hx hb dX7_readSaint_33 rfl (lv_at hl 2 rfl) ?_
      refine tk_geti hC hK hw hT hinX7 kC_at29 (by decide) rfl 10 (by decide) (List.mem_of_getElem? (i := 3) rfl) rfl rfl dX7_readSaint_34 (fun x52 c53 rx52 tx52 => ?_)
      refine wk_top f1_ (c53.symm.trans c47) ?_
      refine lv_iload_n hx hb dX7_readSaint_37 rfl (lv_at hl 1 rfl) ?_
      refine tk_iast hC hK hw hT kC_at35 (by decide) rfl rfl (show 0 ≤ f1_.toInt by omega) (show f1_.toInt < 8 by omega) (wk_i32 r4).1 (wk_i32 r4).2 dX7_readSaint_38 (fun H locs w54 hw hT k56 c55 => ?_)
      have hF := hF.put kC_at35 (inE_of (a := 0) (b := 8) (by decide) (show 0 ≤ f1_.toInt.toNat by omega) (show f1_.toInt.toNat ≤ 8 by omega)) k56
      have c57 := k56.gi (Or.inl (tk_ne kC_at29 kC_at35 (by decide))) c47
      have c58 := k56.gi (Or.inl (tk_ne kC_at29 kC_at35 (by decide))) c48
      have c59 := k56.gi (Or.inl (tk_ne kC_at1 kC_at35 (by decide))) c49
      have c60 := k56.gi (Or.inl (tk_ne kC_at1 kC_at35 (by decide))) c50
      have c61 := k56.gi (Or.inl (tk_ne kC_at1 kC_at35 (by decide))) c51
      refine lv_aload_n hx hb dX7_readSaint_39 rfl (lv_at hl 2 rfl) ?_
      refine tk_getO hC hK hw hT hinX7 kC_at29 (by decide) rfl 6 (by decide) (List.mem_of_getElem? (i := 4) rfl) rfl rfl dX7_readSaint_40 ?_
      refine lv_aload_n hx hb dX7_readSaint_43 rfl (lv_at hl 2 rfl) ?_
      refine tk_geti hC hK hw hT hinX7 kC_at29 (by decide) rfl 10 (by decide) (List.mem_of_getElem? (i := 3) rfl) rfl rfl dX7_readSaint_44 (fun x62 c63 rx62 tx62 => ?_)
      refine wk_top f1_ (c63.symm.trans c57) ?_
      refine lv_iload_n hx hb dX7_readSaint_47 rfl (lv_at hl 0 rfl) ?_
      refine tk_iast hC hK hw hT kC_at36 (by decide) rfl rfl (show 0 ≤ f1_.toInt by omega) (show f1_.toInt < 8 by omega) (wk_i32 r22).1 (wk_i32 r22).2 dX7_readSaint_48 (fun H locs w64 hw hT k66 c65 => ?_)
      have hF := hF.put kC_at36 (inE_of (a := 0) (b := 8) (by decide) (show 0 ≤ f1_.toInt.toNat by omega) (show f1_.toInt.toNat ≤ 8 by omega)) k66
      have c67 := k66.gi (Or.inl (tk_ne kC_at29 kC_at36 (by decide))) c57
      have c68 := k66.gi (Or.inl (tk_ne kC_at29 kC_at36 (by decide))) c58
      have c69 := k66.gi (Or.inl (tk_ne kC_at1 kC_at36 (by decide))) c59
      have c70 := k66.gi (Or.inl (tk_ne kC_at1 kC_at36 (by decide))) c60
      have c71 := k66.gi (Or.inl (tk_ne kC_at1 kC_at36 (by decide))) c61
      refine lv_aload_n hx hb dX7_readSaint_49 rfl (lv_at hl 2 rfl) ?_
      refine lv_dup hx hb dX7_readSaint_50 rfl ?_
      refine tk_geti hC hK hw hT hinX7 kC_at29 (by decide) rfl 10 (by decide) (List.mem_of_getElem? (i := 3) rfl) rfl rfl dX7_readSaint_51 (fun x72 c73 rx72 tx72 => ?_)
      refine wk_top f1_ (c73.symm.trans c67) ?_
      refine lv_iconst (v := 1) hx hb dX7_readSaint_54 (by decide) ?_
      refine lv_iadd hx hb dX7_readSaint_55 ?_
      refine lv_topi (fun x74 ex74 => ?_)
      have ex74 : x74.toInt = f1_.toInt + (1 : Int) := by rw [ex74]; exact wk_add (show (-2147483648) ≤ f1_.toInt + (1 : Int) by omega) (show f1_.toInt + (1 : Int) ≤ 2147483647 by omega)
      refine tk_puti hC hK hw hT hinX7 tyX7_ok nmX7 kC_at29 (by decide) rfl rfl 10 (by decide) (List.mem_of_getElem? (i := 3) rfl) rfl rfl rfl rfl (show 0 ≤ x74.toInt by omega) (show x74.toInt ≤ 8 by omega) dX7_readSaint_56 (fun H locs w75 hw hT k77 c76 => ?_)
      have hF := hF.put kC_at29 (k := 10) (by decide) k77
      have c78 := k77.gi (Or.inr (by decide)) c68
      have c79 := k77.gi (Or.inr (by decide)) c69
      have c80 := k77.gi (Or.inr (by decide)) c70
      have c81 := k77.gi (Or.inr (by decide)) c71
      exact tk_vret hC hr hlocks hK ⟨hT, hF, (Or.inr ⟨⟨x11, c79, (show 1 ≤ x11.toInt by omega), (show x11.toInt ≤ 400 by omega)⟩, ⟨x30, c80, (show 0 ≤ x30.toInt by omega), (show x30.toInt ≤ 399 by omega)⟩, ⟨x32, c81, (show 0 ≤ x32.toInt by omega), (show x32.toInt ≤ 0 by omega)⟩, ⟨x1, c78, (show 1 ≤ x1.toInt by omega), (show x1.toInt ≤ 10 by omega)⟩, ⟨x74, c76, (show 1 ≤ x74.toInt by omega), (show x74.toInt ≤ 8 by omega)⟩⟩)⟩ hw dX7_readSaint_59
    · refine lv_istore_n (lv' := [(3, .int (-1)), (2, .int r4), (0, .ref (ad 29)), (1, .ref (ad 1))]) hx hb dX7_readSaint_20 rfl hl (by decide) rfl (fun ls hl => ?_)
      refine lv_aload_n hx hb dX7_readSaint_21 rfl (lv_at hl 3 rfl) ?_
      refine tk_Vi hC hK hw hT hA hE hSR kC_at1 (by decide) rfl (k_X6_isFaulty_3 l adK adV dC dI cy ad B (by omega) (by omega) qr s1    w24 H.size hT x34 c35 (show 1 ≤ x34.toInt by omega) (show x34.toInt ≤ 3205 by omega)) (cwV 0 hC.2.2.2.2 gX7_readSaint_X6_isFaulty rfl rfl rfl (by decide +kernel) ⟨Nat.le_of_ble_eq_true rfl, Nat.le_of_ble_eq_true rfl⟩) rfl hl.1 rfl (Nat.le_of_ble_eq_true rfl) dX7_readSaint_22 (fun r82 w84 H locs hp83 hw => ?_)
      obtain ⟨hT, k85, hg88⟩ := hp83
      have hF := hF.tr k85 (by decide)
      have c89 := k85.gi kC_at29 (by decide) c37
      have c90 := k85.gi kC_at29 (by decide) c38
      have c91 := k85.gi kC_at1 (by decide) c39
      have c92 := k85.gi kC_at1 (by decide) c35
      obtain ⟨rfl, ⟨x86, c87, rx86, tx86⟩⟩ := hg88
      have ex86 : x86.toInt = x34.toInt := by rw [← c92.symm.trans c87]
      refine lv_if_eq (tgt := 29) hx hb dX7_readSaint_25 (by decide) (fun c => absurd c (by decide)) (fun _ => ?_)
      exact tk_vret hC hr hlocks hK ⟨hT, hF, (Or.inl ⟨⟨x34, c92, (show 1 ≤ x34.toInt by omega), (show x34.toInt ≤ 3205 by omega)⟩, ⟨f1_, c89, (show 0 ≤ f1_.toInt by omega), (show f1_.toInt ≤ 7 by omega)⟩⟩)⟩ hw dX7_readSaint_28
  · refine lv_istore_n (lv' := [(2, .int (-1)), (0, .ref (ad 29)), (1, .ref (ad 1))]) hx hb dX7_readSaint_11 rfl hl (by decide) rfl (fun ls hl => ?_)
    refine lv_aload_n hx hb dX7_readSaint_12 rfl (lv_at hl 2 rfl) ?_
    refine lv_iconst (v := 0) hx hb dX7_readSaint_13 (by decide) ?_
    refine lv_sipush (v := 359) hx hb dX7_readSaint_14 (by decide) ?_
    refine tk_Vi hC hK hw hT hA hE hSR kC_at1 (by decide) rfl (k_X6_readNumber_9 l adK adV dC dI cy ad B (by omega) (by omega) qr s1    w6 H.size hT x17 c18 (show 1 ≤ x17.toInt by omega) (show x17.toInt ≤ 3205 by omega)) (cwV 2 hC.2.2.2.2 gX7_readSaint_X6_readNumber rfl rfl rfl (by decide +kernel) ⟨Nat.le_of_ble_eq_true rfl, Nat.le_of_ble_eq_true rfl⟩) rfl hl.1 rfl (Nat.le_of_ble_eq_true rfl) dX7_readSaint_17 (fun r93 w95 H locs hp94 hw => ?_)
    obtain ⟨hT, k96, hg99⟩ := hp94
    have hF := hF.tr k96 (by decide)
    have c100 := k96.gi kC_at29 (by decide) c20
    have c101 := k96.gi kC_at29 (by decide) c21
    have c102 := k96.gi kC_at1 (by decide) c18
    obtain ⟨rfl, ⟨x97, c98, rx97, tx97⟩⟩ := hg99
    have ex97 : x97.toInt = x17.toInt := by rw [← c102.symm.trans c98]
    refine lv_istore_n (lv' := [(3, .int (-1)), (2, .int (-1)), (0, .ref (ad 29)), (1, .ref (ad 1))]) hx hb dX7_readSaint_20 rfl hl (by decide) rfl (fun ls hl => ?_)
    refine lv_aload_n hx hb dX7_readSaint_21 rfl (lv_at hl 3 rfl) ?_
    refine tk_Vi hC hK hw hT hA hE hSR kC_at1 (by decide) rfl (k_X6_isFaulty_3 l adK adV dC dI cy ad B (by omega) (by omega) qr s1    w95 H.size hT x17 c102 (show 1 ≤ x17.toInt by omega) (show x17.toInt ≤ 3205 by omega)) (cwV 0 hC.2.2.2.2 gX7_readSaint_X6_isFaulty rfl rfl rfl (by decide +kernel) ⟨Nat.le_of_ble_eq_true rfl, Nat.le_of_ble_eq_true rfl⟩) rfl hl.1 rfl (Nat.le_of_ble_eq_true rfl) dX7_readSaint_22 (fun r103 w105 H locs hp104 hw => ?_)
    obtain ⟨hT, k106, hg109⟩ := hp104
    have hF := hF.tr k106 (by decide)
    have c110 := k106.gi kC_at29 (by decide) c100
    have c111 := k106.gi kC_at29 (by decide) c101
    have c112 := k106.gi kC_at1 (by decide) c102
    obtain ⟨rfl, ⟨x107, c108, rx107, tx107⟩⟩ := hg109
    have ex107 : x107.toInt = x17.toInt := by rw [← c112.symm.trans c108]
    refine lv_if_eq (tgt := 29) hx hb dX7_readSaint_25 (by decide) (fun c => absurd c (by decide)) (fun _ => ?_)
    exact tk_vret hC hr hlocks hK ⟨hT, hF, (Or.inl ⟨⟨x17, c112, (show 1 ≤ x17.toInt by omega), (show x17.toInt ≤ 3205 by omega)⟩, ⟨f1_, c110, (show 0 ≤ f1_.toInt by omega), (show f1_.toInt ≤ 7 by omega)⟩⟩)⟩ hw dX7_readSaint_28
abbrev P_X7_readClause_3 (ad : Nat → Nat) (cy : Nat → ClassId) (B : Int) (qr : Nat) (s1 : Int)  (w0 : va_W) : va_W → Prop := fun u => TW ksC ad cy B qr s1 u ∧ FE ksC [(6, 1, 1), (6, 3, 3), (6, 4, 4), (7, 10, 10), (29, 0, 8), (30, 0, 8)] w0 u ∧ (((∃ y : Int32, gi u 1 4 = y ∧ 1 ≤ y.toInt ∧ y.toInt ≤ 3205) ∧ (∃ y : Int32, gi u 29 10 = y ∧ 0 ≤ y.toInt ∧ y.toInt ≤ 7)) ∨ ((∃ y : Int32, gi u 1 4 = y ∧ 0 ≤ y.toInt ∧ y.toInt ≤ 3205) ∧ (∃ y : Int32, gi u 29 10 = y ∧ 0 ≤ y.toInt ∧ y.toInt ≤ 8)))
set_option maxHeartbeats 4000000 in
set_option maxRecDepth 100000 in
theorem k_X7_readClause_3 (l : Launch) (adK adV : Nat → Nat) (dC : Nat → ClassId) (dI : Nat → Nat → Nat) (cy : Nat → ClassId) (ad : Nat → Nat) (B : Int) (hB0 : 2147483648 ≤ B) (hB1 : B ≤ 1152921504606846976) (qr : Nat) (s1 : Int)   (w0 : va_W) (sz : Nat) (hT : TW ksC ad cy B qr s1 w0) (f0_ : Int32) (cf0_ : gi w0 29 10 = f0_) (rf0_ : 0 ≤ f0_.toInt) (tf0_ : f0_.toInt ≤ 7) : Met l yX7_readClause wsX7_readClause ({ frames := 4, cells := 0, slots := 0, locals := 80 }) (va_Pc [.ref (ad 29), .ref (ad 1), .int 2] (wpreS adK adV dC dI cy sz w0)) (va_Qv (P_X7_readClause_3 ad cy B qr s1  w0) (fun u : va_W => wpost dC dI cy (va_A w0 sz) u) (va_A w0 sz)) 0 0 (va_A w0 sz) := by
  refine Met.ofW (cc := cX7_readClause) (maxL := 3) (ret := none) (by decide) rfl ?_
  intro p e s m args below meth c s₁ Bk hml hv
  obtain ⟨rfl, ⟨hsz, hP, hK, hD0⟩, hE, hSR⟩ := hv
  have hx := Bk.exec
  have hb := Bk.bytes
  have hr := Bk.returns
  have hlocks := Bk.notSynchronized
  have hC : CallFix p m c cX7_readClause 3 s _ wsX7_readClause RX7 := ⟨hx, hb, hml, findClass_of_methodNamed Bk.named, atoms_spec (ws := wsX7_readClause) Bk.pre⟩
  subst hsz
  have hD := hD0.self (sz := s.heap.size)
  generalize hAe : va_A w0 s.heap.size = A at hD hE ⊢
  have hA : ∀ q : Nat, s.heap.size ≤ q → A q := fun q h => by rw [← hAe]; exact Or.inr h
  have hw : Wd dC dI A s.heap s.heap [] w0 := ⟨hP, hD, va_S.rf⟩
  have hF : FE ksC [(6, 1, 1), (6, 3, 3), (6, 4, 4), (7, 10, 10), (29, 0, 8), (30, 0, 8)] w0 w0 := FE.rf
  have hl := lv_entry ([.ref (ad 29), .ref (ad 1), .int 2]) (n := 3) (Nat.le_of_ble_eq_true rfl)
  rw [lg_entry_eq]
  generalize (lg_sl ([.ref (ad 29), .ref (ad 1), .int 2]) ++ List.replicate (3 - (lg_sl ([.ref (ad 29), .ref (ad 1), .int 2])).length) Slot.unset).toArray = ls at hl ⊢
  have hl : lv_has ls 3 [(0, .ref (ad 29)), (1, .ref (ad 1)), (2, .int 2)] := hl
  generalize hloc : ([] : List Loc) = locs at hw ⊢
  have J57 : ∀ (f57_1_4 : Int32) (f57_29_10 : Int32) (H : Heap) (locs : List Loc) (ls : Array Slot) (w1 : va_W), 0 ≤ f57_1_4.toInt → f57_1_4.toInt ≤ 3205 → 0 ≤ f57_29_10.toInt → f57_29_10.toInt ≤ 8 → Wd dC dI A s.heap H locs w1 → TW ksC ad cy B qr s1 w1 → FE ksC [(6, 1, 1), (6, 3, 3), (6, 4, 4), (7, 10, 10), (29, 0, 8), (30, 0, 8)] w0 w1 → gi w1 1 4 = f57_1_4 → gi w1 29 10 = f57_29_10 → lv_has ls 3 [(0, .ref (ad 29)), (1, .ref (ad 1)), (2, .int 2)] → W p l e ({ frames := 4, cells := 0, slots := 0, locals := 80 }) s m (List.toArray [.ref (ad 29), .ref (ad 1), .int 2]) below meth c H locs 0 0 (MQ below (va_Qv (P_X7_readClause_3 ad cy B qr s1  w0) (fun u : va_W => wpost dC dI cy A u) A) (List.toArray [.ref (ad 29), .ref (ad 1), .int 2]) s 0 0 A) (F0 m 57 ls []) := by
    intro f57_1_4 f57_29_10 H locs ls w1 r2 t3 r5 t6 hw hT hF c4 c7 hl
    exact tk_vret hC hr hlocks hK ⟨hT, hF, (Or.inr ⟨⟨f57_1_4, c4, (show 0 ≤ f57_1_4.toInt by omega), (show f57_1_4.toInt ≤ 3205 by omega)⟩, ⟨f57_29_10, c7, (show 0 ≤ f57_29_10.toInt by omega), (show f57_29_10.toInt ≤ 8 by omega)⟩⟩)⟩ hw dX7_readClause_57
  refine lv_aload_n hx hb dX7_readClause_0 rfl (lv_at hl 1 rfl) ?_
  refine tk_Vi hC hK hw hT hA hE hSR kC_at1 (by decide) rfl (k_X6_isFaulty_1 l adK adV dC dI cy ad B (by omega) (by omega) qr s1    w0 s.heap.size hT ) (cwV 0 hC.2.2.2.2 gX7_readClause_X6_isFaulty rfl rfl rfl (by decide +kernel) ⟨Nat.le_of_ble_eq_true rfl, Nat.le_of_ble_eq_true rfl⟩) rfl hl.1 rfl (Nat.le_of_ble_eq_true rfl) dX7_readClause_1 (fun r8 w10 H locs hp9 hw => ?_)
  obtain ⟨hT, k11, hg16⟩ := hp9
  have hF := hF.tr k11 (by decide)
  have c17 := k11.gi kC_at29 (by decide) cf0_
  rcases hg16 with ⟨rfl, ⟨x12, c13, rx12, tx12⟩⟩ | ⟨rfl, ⟨x14, c15, rx14, tx14⟩⟩
  · refine lv_if_eq (tgt := 8) hx hb dX7_readClause_4 (by decide) (fun _ => ?_) (fun c => absurd (by decide) c)
    refine lv_iload_n hx hb dX7_readClause_8 rfl (lv_at hl 2 rfl) ?_
    refine lv_if_ne (tgt := 26) hx hb dX7_readClause_9 (by decide) (fun _ => ?_) (fun c => absurd c (by decide))
    refine lv_iload_n hx hb dX7_readClause_26 rfl (lv_at hl 2 rfl) ?_
    refine lv_iconst (v := 1) hx hb dX7_readClause_27 (by decide) ?_
    refine lv_icmp_ne (tgt := 39) hx hb dX7_readClause_28 (by decide) (fun _ => ?_) (fun c => absurd c (by decide))
    refine lv_iload_n hx hb dX7_readClause_39 rfl (lv_at hl 2 rfl) ?_
    refine lv_iconst (v := 2) hx hb dX7_readClause_40 (by decide) ?_
    refine lv_icmp_ne (tgt := 52) hx hb dX7_readClause_41 (by decide) (fun c => absurd (by decide) c) (fun _ => ?_)
    refine lv_aload_n hx hb dX7_readClause_44 rfl (lv_at hl 0 rfl) ?_
    refine lv_aload_n hx hb dX7_readClause_45 rfl (lv_at hl 1 rfl) ?_
    refine tk_Vv hC hK hw hT hA hE hSR kC_at29 (by decide) rfl (k_X7_readSaint_1 l adK adV dC dI cy ad B (by omega) (by omega) qr s1    w10 H.size hT (c13.trans (wk_eq.mpr (show x12.toInt = 0 by omega))) f0_ c17 (show 0 ≤ f0_.toInt by omega) (show f0_.toInt ≤ 7 by omega)) (cwV 1 hC.2.2.2.2 gX7_readClause_X7_readSaint rfl rfl rfl (by decide +kernel) ⟨Nat.le_of_ble_eq_true rfl, Nat.le_of_ble_eq_true rfl⟩) rfl hl.1 rfl (Nat.le_of_ble_eq_true rfl) dX7_readClause_46 (fun w20 H locs hp19 hw => ?_)
    obtain ⟨hT, k21, hg36⟩ := hp19
    have hF := hF.tr k21 (by decide)
    rcases hg36 with ⟨⟨x22, c23, rx22, tx22⟩, ⟨x24, c25, rx24, tx24⟩⟩ | ⟨⟨x26, c27, rx26, tx26⟩, ⟨x28, c29, rx28, tx28⟩, ⟨x30, c31, rx30, tx30⟩, ⟨x32, c33, rx32, tx32⟩, ⟨x34, c35, rx34, tx34⟩⟩
    · refine lv_goto (tgt := 57) hx hb dX7_readClause_49 (by decide) ?_
      exact J57 x22 x24 H locs ls w20 (show 0 ≤ x22.toInt by omega) (show x22.toInt ≤ 3205 by omega) (show 0 ≤ x24.toInt by omega) (show x24.toInt ≤ 8 by omega)  hw hT hF c23 c25 (lv_sub hl [0, 1, 2] rfl)
    · refine lv_goto (tgt := 57) hx hb dX7_readClause_49 (by decide) ?_
      exact J57 x30 x34 H locs ls w20 (show 0 ≤ x30.toInt by omega) (show x30.toInt ≤ 3205 by omega) (show 0 ≤ x34.toInt by omega) (show x34.toInt ≤ 8 by omega)  hw hT hF c31 c35 (lv_sub hl [0, 1, 2] rfl)
  · refine lv_if_eq (tgt := 8) hx hb dX7_readClause_4 (by decide) (fun c => absurd c (by decide)) (fun _ => ?_)
    exact tk_vret hC hr hlocks hK ⟨hT, hF, (Or.inl ⟨⟨x14, c15, (show 1 ≤ x14.toInt by omega), (show x14.toInt ≤ 3205 by omega)⟩, ⟨f0_, c17, (show 0 ≤ f0_.toInt by omega), (show f0_.toInt ≤ 7 by omega)⟩⟩)⟩ hw dX7_readClause_7
abbrev P_X6_readNumber_10 (ad : Nat → Nat) (cy : Nat → ClassId) (B : Int) (qr : Nat) (s1 : Int) (a2 : Int32) (w0 : va_W) : Int32 → va_W → Prop := fun r u => TW ksC ad cy B qr s1 u ∧ FE ksC [(6, 1, 1), (6, 3, 3), (6, 4, 4)] w0 u ∧ ((0 ≤ r.toInt ∧ r.toInt ≤ 11 ∧ 0 ≤ a2.toInt ∧ (∃ y : Int32, gi u 1 2 = y ∧ 1 ≤ y.toInt ∧ y.toInt ≤ 400) ∧ (∃ y : Int32, gi u 1 3 = y ∧ 0 ≤ y.toInt ∧ y.toInt ≤ 399) ∧ (∃ y : Int32, gi u 1 4 = y ∧ 0 ≤ y.toInt ∧ y.toInt ≤ 0)) ∨ (r = (-1) ∧ (∃ y : Int32, gi u 1 4 = y ∧ 1 ≤ y.toInt ∧ y.toInt ≤ 3205)))
set_option maxHeartbeats 4000000 in
set_option maxRecDepth 100000 in
theorem k_X6_readNumber_10 (l : Launch) (adK adV : Nat → Nat) (dC : Nat → ClassId) (dI : Nat → Nat → Nat) (cy : Nat → ClassId) (ad : Nat → Nat) (B : Int) (hB0 : 2147483648 ≤ B) (hB1 : B ≤ 1152921504606846976) (qr : Nat) (s1 : Int)  (a2 : Int32) (ra2 : (-1) ≤ a2.toInt) (ta2 : a2.toInt ≤ 11) (w0 : va_W) (sz : Nat) (hT : TW ksC ad cy B qr s1 w0) (cf0_ : gi w0 1 4 = 0) : Met l yX6_readNumber wsX6_readNumber ({ frames := 2, cells := 0, slots := 0, locals := 34 }) (va_Pc [.ref (ad 1), .int 0, .int a2] (wpreS adK adV dC dI cy sz w0)) (va_Qi (P_X6_readNumber_10 ad cy B qr s1 a2 w0) (fun u : va_W => wpost dC dI cy (va_A w0 sz) u) (va_A w0 sz)) 0 0 (va_A w0 sz) := by
  refine Met.ofW (cc := cX6_readNumber) (maxL := 4) (ret := (some .int)) (by decide) rfl ?_
  intro p e s m args below meth c s₁ Bk hml hv
  obtain ⟨rfl, ⟨hsz, hP, hK, hD0⟩, hE, hSR⟩ := hv
  have hx := Bk.exec
  have hb := Bk.bytes
  have hr := Bk.returns
  have hlocks := Bk.notSynchronized
  have hC : CallFix p m c cX6_readNumber 4 s _ wsX6_readNumber RX6 := ⟨hx, hb, hml, findClass_of_methodNamed Bk.named, atoms_spec (ws := wsX6_readNumber) Bk.pre⟩
  subst hsz
  have hD := hD0.self (sz := s.heap.size)
  generalize hAe : va_A w0 s.heap.size = A at hD hE ⊢
  have hA : ∀ q : Nat, s.heap.size ≤ q → A q := fun q h => by rw [← hAe]; exact Or.inr h
  have hw : Wd dC dI A s.heap s.heap [] w0 := ⟨hP, hD, va_S.rf⟩
  have hF : FE ksC [(6, 1, 1), (6, 3, 3), (6, 4, 4)] w0 w0 := FE.rf
  have hl := lv_entry ([.ref (ad 1), .int 0, .int a2]) (n := 4) (Nat.le_of_ble_eq_true rfl)
  rw [lg_entry_eq]
  generalize (lg_sl ([.ref (ad 1), .int 0, .int a2]) ++ List.replicate (4 - (lg_sl ([.ref (ad 1), .int 0, .int a2])).length) Slot.unset).toArray = ls at hl ⊢
  have hl : lv_has ls 4 [(0, .ref (ad 1)), (1, .int 0), (2, .int a2)] := hl
  generalize hloc : ([] : List Loc) = locs at hw ⊢
  have hinX6 : ∀ w ∈ u_ws RX6 TX6 5, w ∈ wsX6_readNumber := fun _ h => List.mem_cons_of_mem _ (List.mem_append_right _ (h))
  have J125 : ∀ (v125_3 : Int32) (f125_1_1 : Int32) (f125_1_2 : Int32) (f125_1_3 : Int32) (H : Heap) (locs : List Loc) (ls : Array Slot) (w1 : va_W), (-1) ≤ a2.toInt → a2.toInt ≤ 11 → 0 ≤ f125_1_1.toInt → f125_1_1.toInt ≤ 400 → 1 ≤ f125_1_2.toInt → f125_1_2.toInt ≤ 400 → 0 ≤ f125_1_3.toInt → f125_1_3.toInt ≤ 399 → Wd dC dI A s.heap H locs w1 → TW ksC ad cy B qr s1 w1 → FE ksC [(6, 1, 1), (6, 3, 3), (6, 4, 4)] w0 w1 → gi w1 1 1 = f125_1_1 → gi w1 1 2 = f125_1_2 → gi w1 1 3 = f125_1_3 → gi w1 1 4 = 0 → lv_has ls 4 [(0, .ref (ad 1)), (1, .int 0), (2, .int a2), (3, .int v125_3)] → W p l e ({ frames := 2, cells := 0, slots := 0, locals := 34 }) s m (List.toArray [.ref (ad 1), .int 0, .int a2]) below meth c H locs 0 0 (MQ below (va_Qi (P_X6_readNumber_10 ad cy B qr s1 a2 w0) (fun u : va_W => wpost dC dI cy A u) A) (List.toArray [.ref (ad 1), .int 0, .int a2]) s 0 0 A) (F0 m 125 ls []) := by
    intro v125_3 f125_1_1 f125_1_2 f125_1_3 H locs ls w1 r2 t3 r4 t5 r7 t8 r10 t11 hw hT hF c6 c9 c12 c13 hl
    refine lv_aload_n hx hb dX6_readNumber_125 rfl (lv_at hl 0 rfl) ?_
    refine lv_aload_n hx hb dX6_readNumber_126 rfl (lv_at hl 0 rfl) ?_
    refine tk_geti hC hK hw hT hinX6 kC_at1 (by decide) rfl 3 (by decide) (List.mem_of_getElem? (i := 1) rfl) rfl rfl dX6_readNumber_127 (fun x14 c15 rx14 tx14 => ?_)
    refine wk_top f125_1_3 (c15.symm.trans c12) ?_
    refine lv_iconst (v := 1) hx hb dX6_readNumber_130 (by decide) ?_
    refine tk_Vv hC hK hw hT hA hE hSR kC_at1 (by decide) rfl (k_X6_blame_1 l adK adV dC dI cy ad B (by omega) (by omega) qr s1   f125_1_3 (show 0 ≤ f125_1_3.toInt by omega) (show f125_1_3.toInt ≤ 400 by omega) 1 (by decide) (by decide) w1 H.size hT c13) (cwV 2 hC.2.2.2.2 gX6_readNumber_X6_blame rfl rfl rfl (by decide +kernel) ⟨Nat.le_of_ble_eq_true rfl, Nat.le_of_ble_eq_true rfl⟩) rfl hl.1 rfl (Nat.le_of_ble_eq_true rfl) dX6_readNumber_131 (fun w18 H locs hp17 hw => ?_)
    obtain ⟨hT, k19, hg22⟩ := hp17
    have hF := hF.tr k19 (by decide)
    have c23 := k19.gi kC_at1 (by decide) c6
    have c24 := k19.gi kC_at1 (by decide) c9
    have c25 := k19.gi kC_at1 (by decide) c12
    obtain ⟨x20, c21, rx20, tx20⟩ := hg22
    refine lv_iconst (v := (-1)) hx hb dX6_readNumber_134 (by decide) ?_
    exact tk_iret hC hr hlocks hK ⟨hT, hF, (Or.inr ⟨rfl, ⟨x20, c21, (show 1 ≤ x20.toInt by omega), (show x20.toInt ≤ 3205 by omega)⟩⟩)⟩ hw dX6_readNumber_135
  have J102 : ∀ (v102_3 : Int32) (f102_1_1 : Int32) (f102_1_2 : Int32) (f102_1_3 : Int32) (H : Heap) (locs : List Loc) (ls : Array Slot) (w26 : va_W), (-1) ≤ a2.toInt → a2.toInt ≤ 11 → 0 ≤ f102_1_1.toInt → f102_1_1.toInt ≤ 400 → 1 ≤ f102_1_2.toInt → f102_1_2.toInt ≤ 400 → 0 ≤ f102_1_3.toInt → f102_1_3.toInt ≤ 399 → Wd dC dI A s.heap H locs w26 → TW ksC ad cy B qr s1 w26 → FE ksC [(6, 1, 1), (6, 3, 3), (6, 4, 4)] w0 w26 → gi w26 1 1 = f102_1_1 → gi w26 1 2 = f102_1_2 → gi w26 1 3 = f102_1_3 → gi w26 1 4 = 0 → lv_has ls 4 [(0, .ref (ad 1)), (1, .int 0), (2, .int a2), (3, .int v102_3)] → W p l e ({ frames := 2, cells := 0, slots := 0, locals := 34 }) s m (List.toArray [.ref (ad 1), .int 0, .int a2]) below meth c H locs 0 0 (MQ below (va_Qi (P_X6_readNumber_10 ad cy B qr s1 a2 w0) (fun u : va_W => wpost dC dI cy A u) A) (List.toArray [.ref (ad 1), .int 0, .int a2]) s 0 0 A) (F0 m 102 ls []) := by
    intro v102_3 f102_1_1 f102_1_2 f102_1_3 H locs ls w26 r27 t28 r29 t30 r32 t33 r35 t36 hw hT hF c31 c34 c37 c38 hl
    refine lv_aload_n hx hb dX6_readNumber_102 rfl (lv_at hl 0 rfl) ?_
    refine tk_geti hC hK hw hT hinX6 kC_at1 (by decide) rfl 1 (by decide) (List.mem_of_getElem? (i := 2) rfl) rfl rfl dX6_readNumber_103 (fun x39 c40 rx39 tx39 => ?_)
    refine wk_top f102_1_1 (c40.symm.trans c31) ?_
    refine lv_aload_n hx hb dX6_readNumber_106 rfl (lv_at hl 0 rfl) ?_
    refine tk_geti hC hK hw hT hinX6 kC_at1 (by decide) rfl 3 (by decide) (List.mem_of_getElem? (i := 1) rfl) rfl rfl dX6_readNumber_107 (fun x41 c42 rx41 tx41 => ?_)
    refine wk_top f102_1_3 (c42.symm.trans c37) ?_
    refine lv_isub hx hb dX6_readNumber_110 ?_
    refine lv_topi (fun x43 ex43 => ?_)
    have ex43 : x43.toInt = f102_1_1.toInt - f102_1_3.toInt := by rw [ex43]; exact wk_sub (show (-2147483648) ≤ f102_1_1.toInt - f102_1_3.toInt by omega) (show f102_1_1.toInt - f102_1_3.toInt ≤ 2147483647 by omega)
    refine lv_iconst (v := 5) hx hb dX6_readNumber_111 (by decide) ?_
    refine lv_icmp_gt (tgt := 125) hx hb dX6_readNumber_112 (by decide) (fun c44 => ?_) (fun c44 => ?_)
    · have c44 : (5 : Int) < x43.toInt := wk_lt.mp c44
      exact J125 v102_3 f102_1_1 f102_1_2 f102_1_3 H locs ls w26 (show (-1) ≤ a2.toInt by omega) (show a2.toInt ≤ 11 by omega) (show 0 ≤ f102_1_1.toInt by omega) (show f102_1_1.toInt ≤ 400 by omega) (show 1 ≤ f102_1_2.toInt by omega) (show f102_1_2.toInt ≤ 400 by omega) (show 0 ≤ f102_1_3.toInt by omega) (show f102_1_3.toInt ≤ 399 by omega)  hw hT hF c31 c34 c37 c38 (lv_sub hl [0, 1, 2, 3] rfl)
    · have c44 : x43.toInt ≤ (5 : Int) := wk_ltF c44
      refine lv_iload_n hx hb dX6_readNumber_115 rfl (lv_at hl 3 rfl) ?_
      refine lv_iload_n hx hb dX6_readNumber_116 rfl (lv_at hl 1 rfl) ?_
      refine lv_icmp_lt (tgt := 125) hx hb dX6_readNumber_117 (by decide) (fun c45 => ?_) (fun c45 => ?_)
      · have c45 : v102_3.toInt < (0 : Int) := wk_lt.mp c45
        exact J125 v102_3 f102_1_1 f102_1_2 f102_1_3 H locs ls w26 (show (-1) ≤ a2.toInt by omega) (show a2.toInt ≤ 11 by omega) (show 0 ≤ f102_1_1.toInt by omega) (show f102_1_1.toInt ≤ 400 by omega) (show 1 ≤ f102_1_2.toInt by omega) (show f102_1_2.toInt ≤ 400 by omega) (show 0 ≤ f102_1_3.toInt by omega) (show f102_1_3.toInt ≤ 399 by omega)  hw hT hF c31 c34 c37 c38 (lv_sub hl [0, 1, 2, 3] rfl)
      · have c45 : (0 : Int) ≤ v102_3.toInt := wk_ltF c45
        refine lv_iload_n hx hb dX6_readNumber_120 rfl (lv_at hl 3 rfl) ?_
        refine lv_iload_n hx hb dX6_readNumber_121 rfl (lv_at hl 2 rfl) ?_
        refine lv_icmp_le (tgt := 136) hx hb dX6_readNumber_122 (by decide) (fun c46 => ?_) (fun c46 => ?_)
        · have c46 : v102_3.toInt ≤ a2.toInt := wk_le.mp c46
          refine lv_iload_n hx hb dX6_readNumber_136 rfl (lv_at hl 3 rfl) ?_
          exact tk_iret hC hr hlocks hK ⟨hT, hF, (Or.inl ⟨(show 0 ≤ v102_3.toInt by omega), (show v102_3.toInt ≤ 11 by omega), (show 0 ≤ a2.toInt by omega), ⟨f102_1_2, c34, (show 1 ≤ f102_1_2.toInt by omega), (show f102_1_2.toInt ≤ 400 by omega)⟩, ⟨f102_1_3, c37, (show 0 ≤ f102_1_3.toInt by omega), (show f102_1_3.toInt ≤ 399 by omega)⟩, ⟨0, c38, (by decide), (by decide)⟩⟩)⟩ hw dX6_readNumber_137
        · have c46 : a2.toInt < v102_3.toInt := wk_leF c46
          exact J125 v102_3 f102_1_1 f102_1_2 f102_1_3 H locs ls w26 (show (-1) ≤ a2.toInt by omega) (show a2.toInt ≤ 11 by omega) (show 0 ≤ f102_1_1.toInt by omega) (show f102_1_1.toInt ≤ 400 by omega) (show 1 ≤ f102_1_2.toInt by omega) (show f102_1_2.toInt ≤ 400 by omega) (show 0 ≤ f102_1_3.toInt by omega) (show f102_1_3.toInt ≤ 399 by omega)  hw hT hF c31 c34 c37 c38 (lv_sub hl [0, 1, 2, 3] rfl)
  have L32 : ∀ (n32 : Nat) (v32_3 : Int32) (f32_1_1 : Int32) (f32_1_2 : Int32) (f32_1_3 : Int32) (H : Heap) (locs : List Loc) (ls : Array Slot) (w47 : va_W), (-1) ≤ a2.toInt → a2.toInt ≤ 11 → 0 ≤ f32_1_1.toInt → f32_1_1.toInt ≤ 400 → 1 ≤ f32_1_2.toInt → f32_1_2.toInt ≤ 400 → 0 ≤ f32_1_3.toInt → f32_1_3.toInt ≤ 399 → (400 - f32_1_1.toInt).toNat < n32 → Wd dC dI A s.heap H locs w47 → TW ksC ad cy B qr s1 w47 → FE ksC [(6, 1, 1), (6, 3, 3), (6, 4, 4)] w0 w47 → gi w47 1 1 = f32_1_1 → gi w47 1 2 = f32_1_2 → gi w47 1 3 = f32_1_3 → gi w47 1 4 = 0 → lv_has ls 4 [(0, .ref (ad 1)), (1, .int 0), (2, .int a2), (3, .int v32_3)] → W p l e ({ frames := 2, cells := 0, slots := 0, locals := 34 }) s m (List.toArray [.ref (ad 1), .int 0, .int a2]) below meth c H locs 0 0 (MQ below (va_Qi (P_X6_readNumber_10 ad cy B qr s1 a2 w0) (fun u : va_W => wpost dC dI cy A u) A) (List.toArray [.ref (ad 1), .int 0, .int a2]) s 0 0 A) (F0 m 32 ls []) := by
    intro n32
    induction n32 with
    | zero => intro v32_3 f32_1_1 f32_1_2 f32_1_3 H locs ls w47 r48 t49 r50 t51 r53 t54 r56 t57 hm32 hw hT hF c52 c55 c58 c59 hl; omega
    | succ n32 ih32 =>
      intro v32_3 f32_1_1 f32_1_2 f32_1_3 H locs ls w47 r48 t49 r50 t51 r53 t54 r56 t57 hm32 hw hT hF c52 c55 c58 c59 hl
      have J89 : ∀ (v89_3 : Int32) (H : Heap) (locs : List Loc) (ls : Array Slot) (w60 : va_W), (-1) ≤ a2.toInt → a2.toInt ≤ 11 → 0 ≤ f32_1_1.toInt → f32_1_1.toInt ≤ 399 → 1 ≤ f32_1_2.toInt → f32_1_2.toInt ≤ 400 → 0 ≤ f32_1_3.toInt → f32_1_3.toInt ≤ 399 → Wd dC dI A s.heap H locs w60 → TW ksC ad cy B qr s1 w60 → FE ksC [(6, 1, 1), (6, 3, 3), (6, 4, 4)] w0 w60 → gi w60 1 1 = f32_1_1 → gi w60 1 2 = f32_1_2 → gi w60 1 3 = f32_1_3 → gi w60 1 4 = 0 → lv_has ls 4 [(0, .ref (ad 1)), (1, .int 0), (2, .int a2), (3, .int v89_3)] → W p l e ({ frames := 2, cells := 0, slots := 0, locals := 34 }) s m (List.toArray [.ref (ad 1), .int 0, .int a2]) below meth c H locs 0 0 (MQ below (va_Qi (P_X6_readNumber_10 ad cy B qr s1 a2 w0) (fun u : va_W => wpost dC dI cy A u) A) (List.toArray [.ref (ad 1), .int 0, .int a2]) s 0 0 A) (F0 m 89 ls []) := by
        intro v89_3 H locs ls w60 r61 t62 r63 t64 r66 t67 r69 t70 hw hT hF c65 c68 c71 c72 hl
        refine lv_aload_n hx hb dX6_readNumber_89 rfl (lv_at hl 0 rfl) ?_
        refine lv_dup hx hb dX6_readNumber_90 rfl ?_
        refine tk_geti hC hK hw hT hinX6 kC_at1 (by decide) rfl 1 (by decide) (List.mem_of_getElem? (i := 2) rfl) rfl rfl dX6_readNumber_91 (fun x73 c74 rx73 tx73 => ?_)
        refine wk_top f32_1_1 (c74.symm.trans c65) ?_
        refine lv_iconst (v := 1) hx hb dX6_readNumber_94 (by decide) ?_
        refine lv_iadd hx hb dX6_readNumber_95 ?_
        refine lv_topi (fun x75 ex75 => ?_)
        have ex75 : x75.toInt = f32_1_1.toInt + (1 : Int) := by rw [ex75]; exact wk_add (show (-2147483648) ≤ f32_1_1.toInt + (1 : Int) by omega) (show f32_1_1.toInt + (1 : Int) ≤ 2147483647 by omega)
        refine tk_puti hC hK hw hT hinX6 tyX6_ok nmX6 kC_at1 (by decide) rfl rfl 1 (by decide) (List.mem_of_getElem? (i := 2) rfl) rfl rfl rfl rfl (show 0 ≤ x75.toInt by omega) (show x75.toInt ≤ 400 by omega) dX6_readNumber_96 (fun H locs w76 hw hT k78 c77 => ?_)
        have hF := hF.put kC_at1 (k := 1) (by decide) k78
        have c79 := k78.gi (Or.inr (by decide)) c68
        have c80 := k78.gi (Or.inr (by decide)) c71
        have c81 := k78.gi (Or.inr (by decide)) c72
        refine lv_goto (tgt := 32) hx hb dX6_readNumber_99 (by decide) ?_
        exact ih32 v89_3 x75 f32_1_2 f32_1_3 H locs ls w76 (show (-1) ≤ a2.toInt by omega) (show a2.toInt ≤ 11 by omega) (show 0 ≤ x75.toInt by omega) (show x75.toInt ≤ 400 by omega) (show 1 ≤ f32_1_2.toInt by omega) (show f32_1_2.toInt ≤ 400 by omega) (show 0 ≤ f32_1_3.toInt by omega) (show f32_1_3.toInt ≤ 399 by omega) (show (400 - x75.toInt).toNat < n32 by omega) hw hT hF c77 c79 c80 c81 (lv_sub hl [0, 1, 2, 3] rfl)
      refine lv_aload_n hx hb dX6_readNumber_32 rfl (lv_at hl 0 rfl) ?_
      refine tk_geti hC hK hw hT hinX6 kC_at1 (by decide) rfl 1 (by decide) (List.mem_of_getElem? (i := 2) rfl) rfl rfl dX6_readNumber_33 (fun x82 c83 rx82 tx82 => ?_)
      refine wk_top f32_1_1 (c83.symm.trans c52) ?_
      refine lv_aload_n hx hb dX6_readNumber_36 rfl (lv_at hl 0 rfl) ?_
      refine tk_geti hC hK hw hT hinX6 kC_at1 (by decide) rfl 2 (by decide) (List.mem_of_getElem? (i := 3) rfl) rfl rfl dX6_readNumber_37 (fun x84 c85 rx84 tx84 => ?_)
      refine wk_top f32_1_2 (c85.symm.trans c55) ?_
      refine lv_icmp_ge (tgt := 102) hx hb dX6_readNumber_40 (by decide) (fun c86 => ?_) (fun c86 => ?_)
      · have c86 : f32_1_2.toInt ≤ f32_1_1.toInt := wk_le.mp c86
        exact J102 v32_3 f32_1_1 f32_1_2 f32_1_3 H locs ls w47 (show (-1) ≤ a2.toInt by omega) (show a2.toInt ≤ 11 by omega) (show 0 ≤ f32_1_1.toInt by omega) (show f32_1_1.toInt ≤ 400 by omega) (show 1 ≤ f32_1_2.toInt by omega) (show f32_1_2.toInt ≤ 400 by omega) (show 0 ≤ f32_1_3.toInt by omega) (show f32_1_3.toInt ≤ 399 by omega)  hw hT hF c52 c55 c58 c59 (lv_sub hl [0, 1, 2, 3] rfl)
      · have c86 : f32_1_1.toInt < f32_1_2.toInt := wk_leF c86
        refine lv_aload_n hx hb dX6_readNumber_43 rfl (lv_at hl 0 rfl) ?_
        refine tk_getA hC hK hw hT hinX6 kC_at1 (by decide) rfl 0 (by decide) (List.mem_of_getElem? (i := 4) rfl) rfl rfl dX6_readNumber_44 ?_
        refine lv_aload_n hx hb dX6_readNumber_47 rfl (lv_at hl 0 rfl) ?_
        refine tk_geti hC hK hw hT hinX6 kC_at1 (by decide) rfl 1 (by decide) (List.mem_of_getElem? (i := 2) rfl) rfl rfl dX6_readNumber_48 (fun x87 c88 rx87 tx87 => ?_)
        refine wk_top f32_1_1 (c88.symm.trans c52) ?_
        refine tk_iald hC hK hw hT kC_at2 rfl rfl (show 0 ≤ f32_1_1.toInt by omega) (show f32_1_1.toInt < 400 by omega) dX6_readNumber_51 (fun x89 c90 rx89 tx89 => ?_)
        refine tk_Si hC hK hw hT hA hE hSR (k_X6_isDigit_1 l adK adV dC dI cy ad B (by omega) (by omega) qr s1   x89 (show 0 ≤ x89.toInt by omega) (show x89.toInt ≤ 255 by omega) w47 H.size hT ) (va_cwS 1 hC.2.2.2.2 gX6_readNumber_X6_isDigit rfl rfl rfl (by decide +kernel) ⟨Nat.le_of_ble_eq_true rfl, Nat.le_of_ble_eq_true rfl⟩) rfl hl.1 rfl (Nat.le_of_ble_eq_true rfl) dX6_readNumber_52 (fun r91 w93 H locs hp92 hw => ?_)
        obtain ⟨hT, k94, hg97⟩ := hp92
        have hF := hF.tr k94 (by decide)
        have c98 := k94.gi kC_at1 (by decide) c52
        have c99 := k94.gi kC_at1 (by decide) c55
        have c100 := k94.gi kC_at1 (by decide) c58
        have c101 := k94.gi kC_at1 (by decide) c59
        rcases hg97 with rfl | ⟨rfl, g95, g96⟩
        · refine lv_if_eq (tgt := 102) hx hb dX6_readNumber_55 (by decide) (fun _ => ?_) (fun c => absurd (by decide) c)
          exact J102 v32_3 f32_1_1 f32_1_2 f32_1_3 H locs ls w93 (show (-1) ≤ a2.toInt by omega) (show a2.toInt ≤ 11 by omega) (show 0 ≤ f32_1_1.toInt by omega) (show f32_1_1.toInt ≤ 400 by omega) (show 1 ≤ f32_1_2.toInt by omega) (show f32_1_2.toInt ≤ 400 by omega) (show 0 ≤ f32_1_3.toInt by omega) (show f32_1_3.toInt ≤ 399 by omega)  hw hT hF c98 c99 c100 c101 (lv_sub hl [0, 1, 2, 3] rfl)
        · refine lv_if_eq (tgt := 102) hx hb dX6_readNumber_55 (by decide) (fun c => absurd c (by decide)) (fun _ => ?_)
          refine lv_aload_n hx hb dX6_readNumber_58 rfl (lv_at hl 0 rfl) ?_
          refine tk_geti hC hK hw hT hinX6 kC_at1 (by decide) rfl 1 (by decide) (List.mem_of_getElem? (i := 2) rfl) rfl rfl dX6_readNumber_59 (fun x102 c103 rx102 tx102 => ?_)
          refine wk_top f32_1_1 (c103.symm.trans c98) ?_
          refine lv_aload_n hx hb dX6_readNumber_62 rfl (lv_at hl 0 rfl) ?_
          refine tk_geti hC hK hw hT hinX6 kC_at1 (by decide) rfl 3 (by decide) (List.mem_of_getElem? (i := 1) rfl) rfl rfl dX6_readNumber_63 (fun x104 c105 rx104 tx104 => ?_)
          refine wk_top f32_1_3 (c105.symm.trans c100) ?_
          refine lv_isub hx hb dX6_readNumber_66 ?_
          refine lv_topi (fun x106 ex106 => ?_)
          have ex106 : x106.toInt = f32_1_1.toInt - f32_1_3.toInt := by rw [ex106]; exact wk_sub (show (-2147483648) ≤ f32_1_1.toInt - f32_1_3.toInt by omega) (show f32_1_1.toInt - f32_1_3.toInt ≤ 2147483647 by omega)
          refine lv_iconst (v := 5) hx hb dX6_readNumber_67 (by decide) ?_
          refine lv_icmp_ge (tgt := 89) hx hb dX6_readNumber_68 (by decide) (fun c107 => ?_) (fun c107 => ?_)
          · have c107 : (5 : Int) ≤ x106.toInt := wk_le.mp c107
            exact J89 v32_3 H locs ls w93 (show (-1) ≤ a2.toInt by omega) (show a2.toInt ≤ 11 by omega) (show 0 ≤ f32_1_1.toInt by omega) (show f32_1_1.toInt ≤ 399 by omega) (show 1 ≤ f32_1_2.toInt by omega) (show f32_1_2.toInt ≤ 400 by omega) (show 0 ≤ f32_1_3.toInt by omega) (show f32_1_3.toInt ≤ 399 by omega)  hw hT hF c98 c99 c100 c101 (lv_sub hl [0, 1, 2, 3] rfl)
          · have c107 : x106.toInt < (5 : Int) := wk_leF c107
            refine lv_iload_n hx hb dX6_readNumber_71 rfl (lv_at hl 3 rfl) ?_
            refine lv_bipush (v := 10) hx hb dX6_readNumber_72 (by decide) ?_
            refine lv_imul hx hb dX6_readNumber_74 ?_
            have nx108 := wk_i32 v32_3
            refine lv_topi (fun x109 ex109 => ?_)
            refine lv_aload_n hx hb dX6_readNumber_75 rfl (lv_at hl 0 rfl) ?_
            refine tk_getA hC hK hw hT hinX6 kC_at1 (by decide) rfl 0 (by decide) (List.mem_of_getElem? (i := 4) rfl) rfl rfl dX6_readNumber_76 ?_
            refine lv_aload_n hx hb dX6_readNumber_79 rfl (lv_at hl 0 rfl) ?_
            refine tk_geti hC hK hw hT hinX6 kC_at1 (by decide) rfl 1 (by decide) (List.mem_of_getElem? (i := 2) rfl) rfl rfl dX6_readNumber_80 (fun x110 c111 rx110 tx110 => ?_)
            refine wk_top f32_1_1 (c111.symm.trans c98) ?_
            refine tk_iald hC hK hw hT kC_at2 rfl rfl (show 0 ≤ f32_1_1.toInt by omega) (show f32_1_1.toInt < 400 by omega) dX6_readNumber_83 (fun x112 c113 rx112 tx112 => ?_)
            refine lv_iadd hx hb dX6_readNumber_84 ?_
            have nx114 := wk_i32 x109
            refine lv_topi (fun x115 ex115 => ?_)
            refine lv_bipush (v := 48) hx hb dX6_readNumber_85 (by decide) ?_
            refine lv_isub hx hb dX6_readNumber_87 ?_
            have nx116 := wk_i32 x115
            refine lv_topi (fun x117 ex117 => ?_)
            refine lv_istore_n (lv' := [(3, .int x117), (0, .ref (ad 1)), (1, .int 0), (2, .int a2)]) hx hb dX6_readNumber_88 rfl hl (by decide) rfl (fun ls hl => ?_)
            exact J89 x117 H locs ls w93 (show (-1) ≤ a2.toInt by omega) (show a2.toInt ≤ 11 by omega) (show 0 ≤ f32_1_1.toInt by omega) (show f32_1_1.toInt ≤ 399 by omega) (show 1 ≤ f32_1_2.toInt by omega) (show f32_1_2.toInt ≤ 400 by omega) (show 0 ≤ f32_1_3.toInt by omega) (show f32_1_3.toInt ≤ 399 by omega)  hw hT hF c98 c99 c100 c101 (lv_sub hl [1, 2, 3, 0] rfl)
  refine lv_aload_n hx hb dX6_readNumber_0 rfl (lv_at hl 0 rfl) ?_
  refine tk_Vi hC hK hw hT hA hE hSR kC_at1 (by decide) rfl (k_X6_isFaulty_2 l adK adV dC dI cy ad B (by omega) (by omega) qr s1    w0 s.heap.size hT cf0_) (cwV 0 hC.2.2.2.2 gX6_readNumber_X6_isFaulty rfl rfl rfl (by decide +kernel) ⟨Nat.le_of_ble_eq_true rfl, Nat.le_of_ble_eq_true rfl⟩) rfl hl.1 rfl (Nat.le_of_ble_eq_true rfl) dX6_readNumber_1 (fun r118 w120 H locs hp119 hw => ?_)
  obtain ⟨hT, k121, hg124⟩ := hp119
  have hF := hF.tr k121 (by decide)
  have c125 := k121.gi kC_at1 (by decide) cf0_
  obtain ⟨rfl, ⟨x122, c123, rx122, tx122⟩⟩ := hg124
  have ex122 : x122.toInt = (0 : Int) := by rw [show x122 = 0 from c123.symm.trans c125]; decide
  refine lv_if_eq (tgt := 9) hx hb dX6_readNumber_4 (by decide) (fun _ => ?_) (fun c => absurd (by decide) c)
  refine lv_aload_n hx hb dX6_readNumber_9 rfl (lv_at hl 0 rfl) ?_
  refine tk_Vi hC hK hw hT hA hE hSR kC_at1 (by decide) rfl (k_X6_lookBehindBlanks_1 l adK adV dC dI cy ad B (by omega) (by omega) qr s1    w120 H.size hT ) (cwV 0 hC.2.2.2.2 gX6_readNumber_X6_lookBehindBlanks rfl rfl rfl (by decide +kernel) ⟨Nat.le_of_ble_eq_true rfl, Nat.le_of_ble_eq_true rfl⟩) rfl hl.1 rfl (Nat.le_of_ble_eq_true rfl) dX6_readNumber_10 (fun r126 w128 H locs hp127 hw => ?_)
  obtain ⟨hT, k129, hg138⟩ := hp127
  have hF := hF.tr k129 (by decide)
  have c139 := k129.gi kC_at1 (by decide) c125
  rcases hg138 with ⟨g130, g131, ⟨x132, c133, rx132, tx132⟩, ⟨x134, c135, rx134, tx134⟩, ⟨x136, c137, rx136, tx136⟩⟩ | rfl
  · refine tk_Si hC hK hw hT hA hE hSR (k_X6_isDigit_1 l adK adV dC dI cy ad B (by omega) (by omega) qr s1   r126 (show 0 ≤ r126.toInt by omega) (show r126.toInt ≤ 255 by omega) w128 H.size hT ) (va_cwS 1 hC.2.2.2.2 gX6_readNumber_X6_isDigit rfl rfl rfl (by decide +kernel) ⟨Nat.le_of_ble_eq_true rfl, Nat.le_of_ble_eq_true rfl⟩) rfl hl.1 rfl (Nat.le_of_ble_eq_true rfl) dX6_readNumber_13 (fun r140 w142 H locs hp141 hw => ?_)
    obtain ⟨hT, k143, hg146⟩ := hp141
    have hF := hF.tr k143 (by decide)
    have c147 := k143.gi kC_at1 (by decide) c139
    have c148 := k143.gi kC_at1 (by decide) c133
    have c149 := k143.gi kC_at1 (by decide) c135
    have c150 := k143.gi kC_at1 (by decide) c137
    rcases hg146 with rfl | ⟨rfl, g144, g145⟩
    · refine lv_if_ne (tgt := 30) hx hb dX6_readNumber_16 (by decide) (fun c => absurd (by decide) c) (fun _ => ?_)
      refine lv_aload_n hx hb dX6_readNumber_19 rfl (lv_at hl 0 rfl) ?_
      refine lv_aload_n hx hb dX6_readNumber_20 rfl (lv_at hl 0 rfl) ?_
      refine tk_geti hC hK hw hT hinX6 kC_at1 (by decide) rfl 3 (by decide) (List.mem_of_getElem? (i := 1) rfl) rfl rfl dX6_readNumber_21 (fun x151 c152 rx151 tx151 => ?_)
      refine wk_top x136 (c152.symm.trans c150) ?_
      refine lv_iconst (v := 0) hx hb dX6_readNumber_24 (by decide) ?_
      refine tk_Vv hC hK hw hT hA hE hSR kC_at1 (by decide) rfl (k_X6_blame_1 l adK adV dC dI cy ad B (by omega) (by omega) qr s1   x136 (show 0 ≤ x136.toInt by omega) (show x136.toInt ≤ 400 by omega) 0 (by decide) (by decide) w142 H.size hT c147) (cwV 2 hC.2.2.2.2 gX6_readNumber_X6_blame rfl rfl rfl (by decide +kernel) ⟨Nat.le_of_ble_eq_true rfl, Nat.le_of_ble_eq_true rfl⟩) rfl hl.1 rfl (Nat.le_of_ble_eq_true rfl) dX6_readNumber_25 (fun w155 H locs hp154 hw => ?_)
      obtain ⟨hT, k156, hg159⟩ := hp154
      have hF := hF.tr k156 (by decide)
      have c160 := k156.gi kC_at1 (by decide) c148
      have c161 := k156.gi kC_at1 (by decide) c149
      have c162 := k156.gi kC_at1 (by decide) c150
      obtain ⟨x157, c158, rx157, tx157⟩ := hg159
      refine lv_iconst (v := (-1)) hx hb dX6_readNumber_28 (by decide) ?_
      exact tk_iret hC hr hlocks hK ⟨hT, hF, (Or.inr ⟨rfl, ⟨x157, c158, (show 1 ≤ x157.toInt by omega), (show x157.toInt ≤ 3205 by omega)⟩⟩)⟩ hw dX6_readNumber_29
    · refine lv_if_ne (tgt := 30) hx hb dX6_readNumber_16 (by decide) (fun _ => ?_) (fun c => absurd c (by decide))
      refine lv_iconst (v := 0) hx hb dX6_readNumber_30 (by decide) ?_
      refine lv_istore_n (lv' := [(3, .int 0), (0, .ref (ad 1)), (1, .int 0), (2, .int a2)]) hx hb dX6_readNumber_31 rfl hl (by decide) rfl (fun ls hl => ?_)
      exact L32 ((400 - x132.toInt).toNat + 1) 0 x132 x134 x136 H locs ls w142 (show (-1) ≤ a2.toInt by omega) (show a2.toInt ≤ 11 by omega) (show 0 ≤ x132.toInt by omega) (show x132.toInt ≤ 400 by omega) (show 1 ≤ x134.toInt by omega) (show x134.toInt ≤ 400 by omega) (show 0 ≤ x136.toInt by omega) (show x136.toInt ≤ 399 by omega) (Nat.lt_succ_self _) hw hT hF c148 c149 c150 c147 (lv_sub hl [1, 2, 3, 0] rfl)
  · refine tk_Si hC hK hw hT hA hE hSR (k_X6_isDigit_2 l adK adV dC dI cy ad B (by omega) (by omega) qr s1    w128 H.size hT ) (va_cwS 1 hC.2.2.2.2 gX6_readNumber_X6_isDigit rfl rfl rfl (by decide +kernel) ⟨Nat.le_of_ble_eq_true rfl, Nat.le_of_ble_eq_true rfl⟩) rfl hl.1 rfl (Nat.le_of_ble_eq_true rfl) dX6_readNumber_13 (fun r163 w165 H locs hp164 hw => ?_)
    obtain ⟨hT, k166, hg167⟩ := hp164
    have hF := hF.tr k166 (by decide)
    have c168 := k166.gi kC_at1 (by decide) c139
    obtain rfl := hg167
    refine lv_if_ne (tgt := 30) hx hb dX6_readNumber_16 (by decide) (fun c => absurd (by decide) c) (fun _ => ?_)
    refine lv_aload_n hx hb dX6_readNumber_19 rfl (lv_at hl 0 rfl) ?_
    refine lv_aload_n hx hb dX6_readNumber_20 rfl (lv_at hl 0 rfl) ?_
    refine tk_geti hC hK hw hT hinX6 kC_at1 (by decide) rfl 3 (by decide) (List.mem_of_getElem? (i := 1) rfl) rfl rfl dX6_readNumber_21 (fun x169 c170 rx169 tx169 => ?_)
    refine lv_iconst (v := 0) hx hb dX6_readNumber_24 (by decide) ?_
    refine tk_Vv hC hK hw hT hA hE hSR kC_at1 (by decide) rfl (k_X6_blame_1 l adK adV dC dI cy ad B (by omega) (by omega) qr s1   x169 (show 0 ≤ x169.toInt by omega) (show x169.toInt ≤ 400 by omega) 0 (by decide) (by decide) w165 H.size hT c168) (cwV 2 hC.2.2.2.2 gX6_readNumber_X6_blame rfl rfl rfl (by decide +kernel) ⟨Nat.le_of_ble_eq_true rfl, Nat.le_of_ble_eq_true rfl⟩) rfl hl.1 rfl (Nat.le_of_ble_eq_true rfl) dX6_readNumber_25 (fun w173 H locs hp172 hw => ?_)
    obtain ⟨hT, k174, hg177⟩ := hp172
    have hF := hF.tr k174 (by decide)
    have c178 := k174.gi kC_at1 (by decide) c170
    obtain ⟨x175, c176, rx175, tx175⟩ := hg177
    refine lv_iconst (v := (-1)) hx hb dX6_readNumber_28 (by decide) ?_
    exact tk_iret hC hr hlocks hK ⟨hT, hF, (Or.inr ⟨rfl, ⟨x175, c176, (show 1 ≤ x175.toInt by omega), (show x175.toInt ≤ 3205 by omega)⟩⟩)⟩ hw dX6_readNumber_29
abbrev P_X6_readNumber_11 (ad : Nat → Nat) (cy : Nat → ClassId) (B : Int) (qr : Nat) (s1 : Int)  (w0 : va_W) : Int32 → va_W → Prop := fun r u => TW ksC ad cy B qr s1 u ∧ FE ksC [(6, 1, 1), (6, 3, 3), (6, 4, 4)] w0 u ∧ ((0 ≤ r.toInt ∧ r.toInt ≤ 23 ∧ (∃ y : Int32, gi u 1 2 = y ∧ 1 ≤ y.toInt ∧ y.toInt ≤ 400) ∧ (∃ y : Int32, gi u 1 3 = y ∧ 0 ≤ y.toInt ∧ y.toInt ≤ 399) ∧ (∃ y : Int32, gi u 1 4 = y ∧ 0 ≤ y.toInt ∧ y.toInt ≤ 0)) ∨ (r = (-1) ∧ (∃ y : Int32, gi u 1 4 = y ∧ 1 ≤ y.toInt ∧ y.toInt ≤ 3205)))
set_option maxHeartbeats 4000000 in
set_option maxRecDepth 100000 in
theorem k_X6_readNumber_11 (l : Launch) (adK adV : Nat → Nat) (dC : Nat → ClassId) (dI : Nat → Nat → Nat) (cy : Nat → ClassId) (ad : Nat → Nat) (B : Int) (hB0 : 2147483648 ≤ B) (hB1 : B ≤ 1152921504606846976) (qr : Nat) (s1 : Int)   (w0 : va_W) (sz : Nat) (hT : TW ksC ad cy B qr s1 w0) (cf0_ : gi w0 1 4 = 0) : Met l yX6_readNumber wsX6_readNumber ({ frames := 2, cells := 0, slots := 0, locals := 34 }) (va_Pc [.ref (ad 1), .int 0, .int 23] (wpreS adK adV dC dI cy sz w0)) (va_Qi (P_X6_readNumber_11 ad cy B qr s1  w0) (fun u : va_W => wpost dC dI cy (va_A w0 sz) u) (va_A w0 sz)) 0 0 (va_A w0 sz) := by
  refine Met.ofW (cc := cX6_readNumber) (maxL := 4) (ret := (some .int)) (by decide) rfl ?_
  intro p e s m args below meth c s₁ Bk hml hv
  obtain ⟨rfl, ⟨hsz, hP, hK, hD0⟩, hE, hSR⟩ := hv
  have hx := Bk.exec
  have hb := Bk.bytes
  have hr := Bk.returns
  have hlocks := Bk.notSynchronized
  have hC : CallFix p m c cX6_readNumber 4 s _ wsX6_readNumber RX6 := ⟨hx, hb, hml, findClass_of_methodNamed Bk.named, atoms_spec (ws := wsX6_readNumber) Bk.pre⟩
  subst hsz
  have hD := hD0.self (sz := s.heap.size)
  generalize hAe : va_A w0 s.heap.size = A at hD hE ⊢
  have hA : ∀ q : Nat, s.heap.size ≤ q → A q := fun q h => by rw [← hAe]; exact Or.inr h
  have hw : Wd dC dI A s.heap s.heap [] w0 := ⟨hP, hD, va_S.rf⟩
  have hF : FE ksC [(6, 1, 1), (6, 3, 3), (6, 4, 4)] w0 w0 := FE.rf
  have hl := lv_entry ([.ref (ad 1), .int 0, .int 23]) (n := 4) (Nat.le_of_ble_eq_true rfl)
  rw [lg_entry_eq]
  generalize (lg_sl ([.ref (ad 1), .int 0, .int 23]) ++ List.replicate (4 - (lg_sl ([.ref (ad 1), .int 0, .int 23])).length) Slot.unset).toArray = ls at hl ⊢
  have hl : lv_has ls 4 [(0, .ref (ad 1)), (1, .int 0), (2, .int 23)] := hl
  generalize hloc : ([] : List Loc) = locs at hw ⊢
  have hinX6 : ∀ w ∈ u_ws RX6 TX6 5, w ∈ wsX6_readNumber := fun _ h => List.mem_cons_of_mem _ (List.mem_append_right _ (h))
  have J125 : ∀ (v125_3 : Int32) (f125_1_1 : Int32) (f125_1_2 : Int32) (f125_1_3 : Int32) (H : Heap) (locs : List Loc) (ls : Array Slot) (w1 : va_W), 0 ≤ f125_1_1.toInt → f125_1_1.toInt ≤ 400 → 1 ≤ f125_1_2.toInt → f125_1_2.toInt ≤ 400 → 0 ≤ f125_1_3.toInt → f125_1_3.toInt ≤ 399 → Wd dC dI A s.heap H locs w1 → TW ksC ad cy B qr s1 w1 → FE ksC [(6, 1, 1), (6, 3, 3), (6, 4, 4)] w0 w1 → gi w1 1 1 = f125_1_1 → gi w1 1 2 = f125_1_2 → gi w1 1 3 = f125_1_3 → gi w1 1 4 = 0 → lv_has ls 4 [(0, .ref (ad 1)), (1, .int 0), (2, .int 23), (3, .int v125_3)] → W p l e ({ frames := 2, cells := 0, slots := 0, locals := 34 }) s m (List.toArray [.ref (ad 1), .int 0, .int 23]) below meth c H locs 0 0 (MQ below (va_Qi (P_X6_readNumber_11 ad cy B qr s1  w0) (fun u : va_W => wpost dC dI cy A u) A) (List.toArray [.ref (ad 1), .int 0, .int 23]) s 0 0 A) (F0 m 125 ls []) := by
    intro v125_3 f125_1_1 f125_1_2 f125_1_3 H locs ls w1 r2 t3 r5 t6 r8 t9 hw hT hF c4 c7 c10 c11 hl
    refine lv_aload_n hx hb dX6_readNumber_125 rfl (lv_at hl 0 rfl) ?_
    refine lv_aload_n hx hb dX6_readNumber_126 rfl (lv_at hl 0 rfl) ?_
    refine tk_geti hC hK hw hT hinX6 kC_at1 (by decide) rfl 3 (by decide) (List.mem_of_getElem? (i := 1) rfl) rfl rfl dX6_readNumber_127 (fun x12 c13 rx12 tx12 => ?_)
    refine wk_top f125_1_3 (c13.symm.trans c10) ?_
    refine lv_iconst (v := 1) hx hb dX6_readNumber_130 (by decide) ?_
    refine tk_Vv hC hK hw hT hA hE hSR kC_at1 (by decide) rfl (k_X6_blame_1 l adK adV dC dI cy ad B (by omega) (by omega) qr s1   f125_1_3 (show 0 ≤ f125_1_3.toInt by omega) (show f125_1_3.toInt ≤ 400 by omega) 1 (by decide) (by decide) w1 H.size hT c11) (cwV 2 hC.2.2.2.2 gX6_readNumber_X6_blame rfl rfl rfl (by decide +kernel) ⟨Nat.le_of_ble_eq_true rfl, Nat.le_of_ble_eq_true rfl⟩) rfl hl.1 rfl (Nat.le_of_ble_eq_true rfl) dX6_readNumber_131 (fun w16 H locs hp15 hw => ?_)
    obtain ⟨hT, k17, hg20⟩ := hp15
    have hF := hF.tr k17 (by decide)
    have c21 := k17.gi kC_at1 (by decide) c4
    have c22 := k17.gi kC_at1 (by decide) c7
    have c23 := k17.gi kC_at1 (by decide) c10
    obtain ⟨x18, c19, rx18, tx18⟩ := hg20
    refine lv_iconst (v := (-1)) hx hb dX6_readNumber_134 (by decide) ?_
    exact tk_iret hC hr hlocks hK ⟨hT, hF, (Or.inr ⟨rfl, ⟨x18, c19, (show 1 ≤ x18.toInt by omega), (show x18.toInt ≤ 3205 by omega)⟩⟩)⟩ hw dX6_readNumber_135
  have J102 : ∀ (v102_3 : Int32) (f102_1_1 : Int32) (f102_1_2 : Int32) (f102_1_3 : Int32) (H : Heap) (locs : List Loc) (ls : Array Slot) (w24 : va_W), 0 ≤ f102_1_1.toInt → f102_1_1.toInt ≤ 400 → 1 ≤ f102_1_2.toInt → f102_1_2.toInt ≤ 400 → 0 ≤ f102_1_3.toInt → f102_1_3.toInt ≤ 399 → Wd dC dI A s.heap H locs w24 → TW ksC ad cy B qr s1 w24 → FE ksC [(6, 1, 1), (6, 3, 3), (6, 4, 4)] w0 w24 → gi w24 1 1 = f102_1_1 → gi w24 1 2 = f102_1_2 → gi w24 1 3 = f102_1_3 → gi w24 1 4 = 0 → lv_has ls 4 [(0, .ref (ad 1)), (1, .int 0), (2, .int 23), (3, .int v102_3)] → W p l e ({ frames := 2, cells := 0, slots := 0, locals := 34 }) s m (List.toArray [.ref (ad 1), .int 0, .int 23]) below meth c H locs 0 0 (MQ below (va_Qi (P_X6_readNumber_11 ad cy B qr s1  w0) (fun u : va_W => wpost dC dI cy A u) A) (List.toArray [.ref (ad 1), .int 0, .int 23]) s 0 0 A) (F0 m 102 ls []) := by
    intro v102_3 f102_1_1 f102_1_2 f102_1_3 H locs ls w24 r25 t26 r28 t29 r31 t32 hw hT hF c27 c30 c33 c34 hl
    refine lv_aload_n hx hb dX6_readNumber_102 rfl (lv_at hl 0 rfl) ?_
    refine tk_geti hC hK hw hT hinX6 kC_at1 (by decide) rfl 1 (by decide) (List.mem_of_getElem? (i := 2) rfl) rfl rfl dX6_readNumber_103 (fun x35 c36 rx35 tx35 => ?_)
    refine wk_top f102_1_1 (c36.symm.trans c27) ?_
    refine lv_aload_n hx hb dX6_readNumber_106 rfl (lv_at hl 0 rfl) ?_
    refine tk_geti hC hK hw hT hinX6 kC_at1 (by decide) rfl 3 (by decide) (List.mem_of_getElem? (i := 1) rfl) rfl rfl dX6_readNumber_107 (fun x37 c38 rx37 tx37 => ?_)
    refine wk_top f102_1_3 (c38.symm.trans c33) ?_
    refine lv_isub hx hb dX6_readNumber_110 ?_
    refine lv_topi (fun x39 ex39 => ?_)
    have ex39 : x39.toInt = f102_1_1.toInt - f102_1_3.toInt := by rw [ex39]; exact wk_sub (show (-2147483648) ≤ f102_1_1.toInt - f102_1_3.toInt by omega) (show f102_1_1.toInt - f102_1_3.toInt ≤ 2147483647 by omega)
    refine lv_iconst (v := 5) hx hb dX6_readNumber_111 (by decide) ?_
    refine lv_icmp_gt (tgt := 125) hx hb dX6_readNumber_112 (by decide) (fun c40 => ?_) (fun c40 => ?_)
    · have c40 : (5 : Int) < x39.toInt := wk_lt.mp c40
      exact J125 v102_3 f102_1_1 f102_1_2 f102_1_3 H locs ls w24 (show 0 ≤ f102_1_1.toInt by omega) (show f102_1_1.toInt ≤ 400 by omega) (show 1 ≤ f102_1_2.toInt by omega) (show f102_1_2.toInt ≤ 400 by omega) (show 0 ≤ f102_1_3.toInt by omega) (show f102_1_3.toInt ≤ 399 by omega)  hw hT hF c27 c30 c33 c34 (lv_sub hl [0, 1, 2, 3] rfl)
    · have c40 : x39.toInt ≤ (5 : Int) := wk_ltF c40
      refine lv_iload_n hx hb dX6_readNumber_115 rfl (lv_at hl 3 rfl) ?_
      refine lv_iload_n hx hb dX6_readNumber_116 rfl (lv_at hl 1 rfl) ?_
      refine lv_icmp_lt (tgt := 125) hx hb dX6_readNumber_117 (by decide) (fun c41 => ?_) (fun c41 => ?_)
      · have c41 : v102_3.toInt < (0 : Int) := wk_lt.mp c41
        exact J125 v102_3 f102_1_1 f102_1_2 f102_1_3 H locs ls w24 (show 0 ≤ f102_1_1.toInt by omega) (show f102_1_1.toInt ≤ 400 by omega) (show 1 ≤ f102_1_2.toInt by omega) (show f102_1_2.toInt ≤ 400 by omega) (show 0 ≤ f102_1_3.toInt by omega) (show f102_1_3.toInt ≤ 399 by omega)  hw hT hF c27 c30 c33 c34 (lv_sub hl [0, 1, 2, 3] rfl)
      · have c41 : (0 : Int) ≤ v102_3.toInt := wk_ltF c41
        refine lv_iload_n hx hb dX6_readNumber_120 rfl (lv_at hl 3 rfl) ?_
        refine lv_iload_n hx hb dX6_readNumber_121 rfl (lv_at hl 2 rfl) ?_
        refine lv_icmp_le (tgt := 136) hx hb dX6_readNumber_122 (by decide) (fun c42 => ?_) (fun c42 => ?_)
        · have c42 : v102_3.toInt ≤ (23 : Int) := wk_le.mp c42
          refine lv_iload_n hx hb dX6_readNumber_136 rfl (lv_at hl 3 rfl) ?_
          exact tk_iret hC hr hlocks hK ⟨hT, hF, (Or.inl ⟨(show 0 ≤ v102_3.toInt by omega), (show v102_3.toInt ≤ 23 by omega), ⟨f102_1_2, c30, (show 1 ≤ f102_1_2.toInt by omega), (show f102_1_2.toInt ≤ 400 by omega)⟩, ⟨f102_1_3, c33, (show 0 ≤ f102_1_3.toInt by omega), (show f102_1_3.toInt ≤ 399 by omega)⟩, ⟨0, c34, (by decide), (by decide)⟩⟩)⟩ hw dX6_readNumber_137
        · have c42 : (23 : Int) < v102_3.toInt := wk_leF c42
          exact J125 v102_3 f102_1_1 f102_1_2 f102_1_3 H locs ls w24 (show 0 ≤ f102_1_1.toInt by omega) (show f102_1_1.toInt ≤ 400 by omega) (show 1 ≤ f102_1_2.toInt by omega) (show f102_1_2.toInt ≤ 400 by omega) (show 0 ≤ f102_1_3.toInt by omega) (show f102_1_3.toInt ≤ 399 by omega)  hw hT hF c27 c30 c33 c34 (lv_sub hl [0, 1, 2, 3] rfl)
  have L32 : ∀ (n32 : Nat) (v32_3 : Int32) (f32_1_1 : Int32) (f32_1_2 : Int32) (f32_1_3 : Int32) (H : Heap) (locs : List Loc) (ls : Array Slot) (w43 : va_W), 0 ≤ f32_1_1.toInt → f32_1_1.toInt ≤ 400 → 1 ≤ f32_1_2.toInt → f32_1_2.toInt ≤ 400 → 0 ≤ f32_1_3.toInt → f32_1_3.toInt ≤ 399 → (400 - f32_1_1.toInt).toNat < n32 → Wd dC dI A s.heap H locs w43 → TW ksC ad cy B qr s1 w43 → FE ksC [(6, 1, 1), (6, 3, 3), (6, 4, 4)] w0 w43 → gi w43 1 1 = f32_1_1 → gi w43 1 2 = f32_1_2 → gi w43 1 3 = f32_1_3 → gi w43 1 4 = 0 → lv_has ls 4 [(0, .ref (ad 1)), (1, .int 0), (2, .int 23), (3, .int v32_3)] → W p l e ({ frames := 2, cells := 0, slots := 0, locals := 34 }) s m (List.toArray [.ref (ad 1), .int 0, .int 23]) below meth c H locs 0 0 (MQ below (va_Qi (P_X6_readNumber_11 ad cy B qr s1  w0) (fun u : va_W => wpost dC dI cy A u) A) (List.toArray [.ref (ad 1), .int 0, .int 23]) s 0 0 A) (F0 m 32 ls []) := by
    intro n32
    induction n32 with
    | zero => intro v32_3 f32_1_1 f32_1_2 f32_1_3 H locs ls w43 r44 t45 r47 t48 r50 t51 hm32 hw hT hF c46 c49 c52 c53 hl; omega
    | succ n32 ih32 =>
      intro v32_3 f32_1_1 f32_1_2 f32_1_3 H locs ls w43 r44 t45 r47 t48 r50 t51 hm32 hw hT hF c46 c49 c52 c53 hl
      have J89 : ∀ (v89_3 : Int32) (H : Heap) (locs : List Loc) (ls : Array Slot) (w54 : va_W), 0 ≤ f32_1_1.toInt → f32_1_1.toInt ≤ 399 → 1 ≤ f32_1_2.toInt → f32_1_2.toInt ≤ 400 → 0 ≤ f32_1_3.toInt → f32_1_3.toInt ≤ 399 → Wd dC dI A s.heap H locs w54 → TW ksC ad cy B qr s1 w54 → FE ksC [(6, 1, 1), (6, 3, 3), (6, 4, 4)] w0 w54 → gi w54 1 1 = f32_1_1 → gi w54 1 2 = f32_1_2 → gi w54 1 3 = f32_1_3 → gi w54 1 4 = 0 → lv_has ls 4 [(0, .ref (ad 1)), (1, .int 0), (2, .int 23), (3, .int v89_3)] → W p l e ({ frames := 2, cells := 0, slots := 0, locals := 34 }) s m (List.toArray [.ref (ad 1), .int 0, .int 23]) below meth c H locs 0 0 (MQ below (va_Qi (P_X6_readNumber_11 ad cy B qr s1  w0) (fun u : va_W => wpost dC dI cy A u) A) (List.toArray [.ref (ad 1), .int 0, .int 23]) s 0 0 A) (F0 m 89 ls []) := by
        intro v89_3 H locs ls w54 r55 t56 r58 t59 r61 t62 hw hT hF c57 c60 c63 c64 hl
        refine lv_aload_n hx hb dX6_readNumber_89 rfl (lv_at hl 0 rfl) ?_
        refine lv_dup hx hb dX6_readNumber_90 rfl ?_
        refine tk_geti hC hK hw hT hinX6 kC_at1 (by decide) rfl 1 (by decide) (List.mem_of_getElem? (i := 2) rfl) rfl rfl dX6_readNumber_91 (fun x65 c66 rx65 tx65 => ?_)
        refine wk_top f32_1_1 (c66.symm.trans c57) ?_
        refine lv_iconst (v := 1) hx hb dX6_readNumber_94 (by decide) ?_
        refine lv_iadd hx hb dX6_readNumber_95 ?_
        refine lv_topi (fun x67 ex67 => ?_)
        have ex67 : x67.toInt = f32_1_1.toInt + (1 : Int) := by rw [ex67]; exact wk_add (show (-2147483648) ≤ f32_1_1.toInt + (1 : Int) by omega) (show f32_1_1.toInt + (1 : Int) ≤ 2147483647 by omega)
        refine tk_puti hC hK hw hT hinX6 tyX6_ok nmX6 kC_at1 (by decide) rfl rfl 1 (by decide) (List.mem_of_getElem? (i := 2) rfl) rfl rfl rfl rfl (show 0 ≤ x67.toInt by omega) (show x67.toInt ≤ 400 by omega) dX6_readNumber_96 (fun H locs w68 hw hT k70 c69 => ?_)
        have hF := hF.put kC_at1 (k := 1) (by decide) k70
        have c71 := k70.gi (Or.inr (by decide)) c60
        have c72 := k70.gi (Or.inr (by decide)) c63
        have c73 := k70.gi (Or.inr (by decide)) c64
        refine lv_goto (tgt := 32) hx hb dX6_readNumber_99 (by decide) ?_
        exact ih32 v89_3 x67 f32_1_2 f32_1_3 H locs ls w68 (show 0 ≤ x67.toInt by omega) (show x67.toInt ≤ 400 by omega) (show 1 ≤ f32_1_2.toInt by omega) (show f32_1_2.toInt ≤ 400 by omega) (show 0 ≤ f32_1_3.toInt by omega) (show f32_1_3.toInt ≤ 399 by omega) (show (400 - x67.toInt).toNat < n32 by omega) hw hT hF c69 c71 c72 c73 (lv_sub hl [0, 1, 2, 3] rfl)
      refine lv_aload_n hx hb dX6_readNumber_32 rfl (lv_at hl 0 rfl) ?_
      refine tk_geti hC hK hw hT hinX6 kC_at1 (by decide) rfl 1 (by decide) (List.mem_of_getElem? (i := 2) rfl) rfl rfl dX6_readNumber_33 (fun x74 c75 rx74 tx74 => ?_)
      refine wk_top f32_1_1 (c75.symm.trans c46) ?_
      refine lv_aload_n hx hb dX6_readNumber_36 rfl (lv_at hl 0 rfl) ?_
      refine tk_geti hC hK hw hT hinX6 kC_at1 (by decide) rfl 2 (by decide) (List.mem_of_getElem? (i := 3) rfl) rfl rfl dX6_readNumber_37 (fun x76 c77 rx76 tx76 => ?_)
      refine wk_top f32_1_2 (c77.symm.trans c49) ?_
      refine lv_icmp_ge (tgt := 102) hx hb dX6_readNumber_40 (by decide) (fun c78 => ?_) (fun c78 => ?_)
      · have c78 : f32_1_2.toInt ≤ f32_1_1.toInt := wk_le.mp c78
        exact J102 v32_3 f32_1_1 f32_1_2 f32_1_3 H locs ls w43 (show 0 ≤ f32_1_1.toInt by omega) (show f32_1_1.toInt ≤ 400 by omega) (show 1 ≤ f32_1_2.toInt by omega) (show f32_1_2.toInt ≤ 400 by omega) (show 0 ≤ f32_1_3.toInt by omega) (show f32_1_3.toInt ≤ 399 by omega)  hw hT hF c46 c49 c52 c53 (lv_sub hl [0, 1, 2, 3] rfl)
      · have c78 : f32_1_1.toInt < f32_1_2.toInt := wk_leF c78
        refine lv_aload_n hx hb dX6_readNumber_43 rfl (lv_at hl 0 rfl) ?_
        refine tk_getA hC hK hw hT hinX6 kC_at1 (by decide) rfl 0 (by decide) (List.mem_of_getElem? (i := 4) rfl) rfl rfl dX6_readNumber_44 ?_
        refine lv_aload_n hx hb dX6_readNumber_47 rfl (lv_at hl 0 rfl) ?_
        refine tk_geti hC hK hw hT hinX6 kC_at1 (by decide) rfl 1 (by decide) (List.mem_of_getElem? (i := 2) rfl) rfl rfl dX6_readNumber_48 (fun x79 c80 rx79 tx79 => ?_)
        refine wk_top f32_1_1 (c80.symm.trans c46) ?_
        refine tk_iald hC hK hw hT kC_at2 rfl rfl (show 0 ≤ f32_1_1.toInt by omega) (show f32_1_1.toInt < 400 by omega) dX6_readNumber_51 (fun x81 c82 rx81 tx81 => ?_)
        refine tk_Si hC hK hw hT hA hE hSR (k_X6_isDigit_1 l adK adV dC dI cy ad B (by omega) (by omega) qr s1   x81 (show 0 ≤ x81.toInt by omega) (show x81.toInt ≤ 255 by omega) w43 H.size hT ) (va_cwS 1 hC.2.2.2.2 gX6_readNumber_X6_isDigit rfl rfl rfl (by decide +kernel) ⟨Nat.le_of_ble_eq_true rfl, Nat.le_of_ble_eq_true rfl⟩) rfl hl.1 rfl (Nat.le_of_ble_eq_true rfl) dX6_readNumber_52 (fun r83 w85 H locs hp84 hw => ?_)
        obtain ⟨hT, k86, hg89⟩ := hp84
        have hF := hF.tr k86 (by decide)
        have c90 := k86.gi kC_at1 (by decide) c46
        have c91 := k86.gi kC_at1 (by decide) c49
        have c92 := k86.gi kC_at1 (by decide) c52
        have c93 := k86.gi kC_at1 (by decide) c53
        rcases hg89 with rfl | ⟨rfl, g87, g88⟩
        · refine lv_if_eq (tgt := 102) hx hb dX6_readNumber_55 (by decide) (fun _ => ?_) (fun c => absurd (by decide) c)
          exact J102 v32_3 f32_1_1 f32_1_2 f32_1_3 H locs ls w85 (show 0 ≤ f32_1_1.toInt by omega) (show f32_1_1.toInt ≤ 400 by omega) (show 1 ≤ f32_1_2.toInt by omega) (show f32_1_2.toInt ≤ 400 by omega) (show 0 ≤ f32_1_3.toInt by omega) (show f32_1_3.toInt ≤ 399 by omega)  hw hT hF c90 c91 c92 c93 (lv_sub hl [0, 1, 2, 3] rfl)
        · refine lv_if_eq (tgt := 102) hx hb dX6_readNumber_55 (by decide) (fun c => absurd c (by decide)) (fun _ => ?_)
          refine lv_aload_n hx hb dX6_readNumber_58 rfl (lv_at hl 0 rfl) ?_
          refine tk_geti hC hK hw hT hinX6 kC_at1 (by decide) rfl 1 (by decide) (List.mem_of_getElem? (i := 2) rfl) rfl rfl dX6_readNumber_59 (fun x94 c95 rx94 tx94 => ?_)
          refine wk_top f32_1_1 (c95.symm.trans c90) ?_
          refine lv_aload_n hx hb dX6_readNumber_62 rfl (lv_at hl 0 rfl) ?_
          refine tk_geti hC hK hw hT hinX6 kC_at1 (by decide) rfl 3 (by decide) (List.mem_of_getElem? (i := 1) rfl) rfl rfl dX6_readNumber_63 (fun x96 c97 rx96 tx96 => ?_)
          refine wk_top f32_1_3 (c97.symm.trans c92) ?_
          refine lv_isub hx hb dX6_readNumber_66 ?_
          refine lv_topi (fun x98 ex98 => ?_)
          have ex98 : x98.toInt = f32_1_1.toInt - f32_1_3.toInt := by rw [ex98]; exact wk_sub (show (-2147483648) ≤ f32_1_1.toInt - f32_1_3.toInt by omega) (show f32_1_1.toInt - f32_1_3.toInt ≤ 2147483647 by omega)
          refine lv_iconst (v := 5) hx hb dX6_readNumber_67 (by decide) ?_
          refine lv_icmp_ge (tgt := 89) hx hb dX6_readNumber_68 (by decide) (fun c99 => ?_) (fun c99 => ?_)
          · have c99 : (5 : Int) ≤ x98.toInt := wk_le.mp c99
            exact J89 v32_3 H locs ls w85 (show 0 ≤ f32_1_1.toInt by omega) (show f32_1_1.toInt ≤ 399 by omega) (show 1 ≤ f32_1_2.toInt by omega) (show f32_1_2.toInt ≤ 400 by omega) (show 0 ≤ f32_1_3.toInt by omega) (show f32_1_3.toInt ≤ 399 by omega)  hw hT hF c90 c91 c92 c93 (lv_sub hl [0, 1, 2, 3] rfl)
          · have c99 : x98.toInt < (5 : Int) := wk_leF c99
            refine lv_iload_n hx hb dX6_readNumber_71 rfl (lv_at hl 3 rfl) ?_
            refine lv_bipush (v := 10) hx hb dX6_readNumber_72 (by decide) ?_
            refine lv_imul hx hb dX6_readNumber_74 ?_
            have nx100 := wk_i32 v32_3
            refine lv_topi (fun x101 ex101 => ?_)
            refine lv_aload_n hx hb dX6_readNumber_75 rfl (lv_at hl 0 rfl) ?_
            refine tk_getA hC hK hw hT hinX6 kC_at1 (by decide) rfl 0 (by decide) (List.mem_of_getElem? (i := 4) rfl) rfl rfl dX6_readNumber_76 ?_
            refine lv_aload_n hx hb dX6_readNumber_79 rfl (lv_at hl 0 rfl) ?_
            refine tk_geti hC hK hw hT hinX6 kC_at1 (by decide) rfl 1 (by decide) (List.mem_of_getElem? (i := 2) rfl) rfl rfl dX6_readNumber_80 (fun x102 c103 rx102 tx102 => ?_)
            refine wk_top f32_1_1 (c103.symm.trans c90) ?_
            refine tk_iald hC hK hw hT kC_at2 rfl rfl (show 0 ≤ f32_1_1.toInt by omega) (show f32_1_1.toInt < 400 by omega) dX6_readNumber_83 (fun x104 c105 rx104 tx104 => ?_)
            refine lv_iadd hx hb dX6_readNumber_84 ?_
            have nx106 := wk_i32 x101
            refine lv_topi (fun x107 ex107 => ?_)
            refine lv_bipush (v := 48) hx hb dX6_readNumber_85 (by decide) ?_
            refine lv_isub hx hb dX6_readNumber_87 ?_
            have nx108 := wk_i32 x107
            refine lv_topi (fun x109 ex109 => ?_)
            refine lv_istore_n (lv' := [(3, .int x109), (0, .ref (ad 1)), (1, .int 0), (2, .int 23)]) hx hb dX6_readNumber_88 rfl hl (by decide) rfl (fun ls hl => ?_)
            exact J89 x109 H locs ls w85 (show 0 ≤ f32_1_1.toInt by omega) (show f32_1_1.toInt ≤ 399 by omega) (show 1 ≤ f32_1_2.toInt by omega) (show f32_1_2.toInt ≤ 400 by omega) (show 0 ≤ f32_1_3.toInt by omega) (show f32_1_3.toInt ≤ 399 by omega)  hw hT hF c90 c91 c92 c93 (lv_sub hl [1, 2, 3, 0] rfl)
  refine lv_aload_n hx hb dX6_readNumber_0 rfl (lv_at hl 0 rfl) ?_
  refine tk_Vi hC hK hw hT hA hE hSR kC_at1 (by decide) rfl (k_X6_isFaulty_2 l adK adV dC dI cy ad B (by omega) (by omega) qr s1    w0 s.heap.size hT cf0_) (cwV 0 hC.2.2.2.2 gX6_readNumber_X6_isFaulty rfl rfl rfl (by decide +kernel) ⟨Nat.le_of_ble_eq_true rfl, Nat.le_of_ble_eq_true rfl⟩) rfl hl.1 rfl (Nat.le_of_ble_eq_true rfl) dX6_readNumber_1 (fun r110 w112 H locs hp111 hw => ?_)
  obtain ⟨hT, k113, hg116⟩ := hp111
  have hF := hF.tr k113 (by decide)
  have c117 := k113.gi kC_at1 (by decide) cf0_
  obtain ⟨rfl, ⟨x114, c115, rx114, tx114⟩⟩ := hg116
  have ex114 : x114.toInt = (0 : Int) := by rw [show x114 = 0 from c115.symm.trans c117]; decide
  refine lv_if_eq (tgt := 9) hx hb dX6_readNumber_4 (by decide) (fun _ => ?_) (fun c => absurd (by decide) c)
  refine lv_aload_n hx hb dX6_readNumber_9 rfl (lv_at hl 0 rfl) ?_
  refine tk_Vi hC hK hw hT hA hE hSR kC_at1 (by decide) rfl (k_X6_lookBehindBlanks_1 l adK adV dC dI cy ad B (by omega) (by omega) qr s1    w112 H.size hT ) (cwV 0 hC.2.2.2.2 gX6_readNumber_X6_lookBehindBlanks rfl rfl rfl (by decide +kernel) ⟨Nat.le_of_ble_eq_true rfl, Nat.le_of_ble_eq_true rfl⟩) rfl hl.1 rfl (Nat.le_of_ble_eq_true rfl) dX6_readNumber_10 (fun r118 w120 H locs hp119 hw => ?_)
  obtain ⟨hT, k121, hg130⟩ := hp119
  have hF := hF.tr k121 (by decide)
  have c131 := k121.gi kC_at1 (by decide) c117
  rcases hg130 with ⟨g122, g123, ⟨x124, c125, rx124, tx124⟩, ⟨x126, c127, rx126, tx126⟩, ⟨x128, c129, rx128, tx128⟩⟩ | rfl
  · refine tk_Si hC hK hw hT hA hE hSR (k_X6_isDigit_1 l adK adV dC dI cy ad B (by omega) (by omega) qr s1   r118 (show 0 ≤ r118.toInt by omega) (show r118.toInt ≤ 255 by omega) w120 H.size hT ) (va_cwS 1 hC.2.2.2.2 gX6_readNumber_X6_isDigit rfl rfl rfl (by decide +kernel) ⟨Nat.le_of_ble_eq_true rfl, Nat.le_of_ble_eq_true rfl⟩) rfl hl.1 rfl (Nat.le_of_ble_eq_true rfl) dX6_readNumber_13 (fun r132 w134 H locs hp133 hw => ?_)
    obtain ⟨hT, k135, hg138⟩ := hp133
    have hF := hF.tr k135 (by decide)
    have c139 := k135.gi kC_at1 (by decide) c131
    have c140 := k135.gi kC_at1 (by decide) c125
    have c141 := k135.gi kC_at1 (by decide) c127
    have c142 := k135.gi kC_at1 (by decide) c129
    rcases hg138 with rfl | ⟨rfl, g136, g137⟩
    · refine lv_if_ne (tgt := 30) hx hb dX6_readNumber_16 (by decide) (fun c => absurd (by decide) c) (fun _ => ?_)
      refine lv_aload_n hx hb dX6_readNumber_19 rfl (lv_at hl 0 rfl) ?_
      refine lv_aload_n hx hb dX6_readNumber_20 rfl (lv_at hl 0 rfl) ?_
      refine tk_geti hC hK hw hT hinX6 kC_at1 (by decide) rfl 3 (by decide) (List.mem_of_getElem? (i := 1) rfl) rfl rfl dX6_readNumber_21 (fun x143 c144 rx143 tx143 => ?_)
      refine wk_top x128 (c144.symm.trans c142) ?_
      refine lv_iconst (v := 0) hx hb dX6_readNumber_24 (by decide) ?_
      refine tk_Vv hC hK hw hT hA hE hSR kC_at1 (by decide) rfl (k_X6_blame_1 l adK adV dC dI cy ad B (by omega) (by omega) qr s1   x128 (show 0 ≤ x128.toInt by omega) (show x128.toInt ≤ 400 by omega) 0 (by decide) (by decide) w134 H.size hT c139) (cwV 2 hC.2.2.2.2 gX6_readNumber_X6_blame rfl rfl rfl (by decide +kernel) ⟨Nat.le_of_ble_eq_true rfl, Nat.le_of_ble_eq_true rfl⟩) rfl hl.1 rfl (Nat.le_of_ble_eq_true rfl) dX6_readNumber_25 (fun w147 H locs hp146 hw => ?_)
      obtain ⟨hT, k148, hg151⟩ := hp146
      have hF := hF.tr k148 (by decide)
      have c152 := k148.gi kC_at1 (by decide) c140
      have c153 := k148.gi kC_at1 (by decide) c141
      have c154 := k148.gi kC_at1 (by decide) c142
      obtain ⟨x149, c150, rx149, tx149⟩ := hg151
      refine lv_iconst (v := (-1)) hx hb dX6_readNumber_28 (by decide) ?_
      exact tk_iret hC hr hlocks hK ⟨hT, hF, (Or.inr ⟨rfl, ⟨x149, c150, (show 1 ≤ x149.toInt by omega), (show x149.toInt ≤ 3205 by omega)⟩⟩)⟩ hw dX6_readNumber_29
    · refine lv_if_ne (tgt := 30) hx hb dX6_readNumber_16 (by decide) (fun _ => ?_) (fun c => absurd c (by decide))
      refine lv_iconst (v := 0) hx hb dX6_readNumber_30 (by decide) ?_
      refine lv_istore_n (lv' := [(3, .int 0), (0, .ref (ad 1)), (1, .int 0), (2, .int 23)]) hx hb dX6_readNumber_31 rfl hl (by decide) rfl (fun ls hl => ?_)
      exact L32 ((400 - x124.toInt).toNat + 1) 0 x124 x126 x128 H locs ls w134 (show 0 ≤ x124.toInt by omega) (show x124.toInt ≤ 400 by omega) (show 1 ≤ x126.toInt by omega) (show x126.toInt ≤ 400 by omega) (show 0 ≤ x128.toInt by omega) (show x128.toInt ≤ 399 by omega) (Nat.lt_succ_self _) hw hT hF c140 c141 c142 c139 (lv_sub hl [1, 2, 3, 0] rfl)
  · refine tk_Si hC hK hw hT hA hE hSR (k_X6_isDigit_2 l adK adV dC dI cy ad B (by omega) (by omega) qr s1    w120 H.size hT ) (va_cwS 1 hC.2.2.2.2 gX6_readNumber_X6_isDigit rfl rfl rfl (by decide +kernel) ⟨Nat.le_of_ble_eq_true rfl, Nat.le_of_ble_eq_true rfl⟩) rfl hl.1 rfl (Nat.le_of_ble_eq_true rfl) dX6_readNumber_13 (fun r155 w157 H locs hp156 hw => ?_)
    obtain ⟨hT, k158, hg159⟩ := hp156
    have hF := hF.tr k158 (by decide)
    have c160 := k158.gi kC_at1 (by decide) c131
    obtain rfl := hg159
    refine lv_if_ne (tgt := 30) hx hb dX6_readNumber_16 (by decide) (fun c => absurd (by decide) c) (fun _ => ?_)
    refine lv_aload_n hx hb dX6_readNumber_19 rfl (lv_at hl 0 rfl) ?_
    refine lv_aload_n hx hb dX6_readNumber_20 rfl (lv_at hl 0 rfl) ?_
    refine tk_geti hC hK hw hT hinX6 kC_at1 (by decide) rfl 3 (by decide) (List.mem_of_getElem? (i := 1) rfl) rfl rfl dX6_readNumber_21 (fun x161 c162 rx161 tx161 => ?_)
    refine lv_iconst (v := 0) hx hb dX6_readNumber_24 (by decide) ?_
    refine tk_Vv hC hK hw hT hA hE hSR kC_at1 (by decide) rfl (k_X6_blame_1 l adK adV dC dI cy ad B (by omega) (by omega) qr s1   x161 (show 0 ≤ x161.toInt by omega) (show x161.toInt ≤ 400 by omega) 0 (by decide) (by decide) w157 H.size hT c160) (cwV 2 hC.2.2.2.2 gX6_readNumber_X6_blame rfl rfl rfl (by decide +kernel) ⟨Nat.le_of_ble_eq_true rfl, Nat.le_of_ble_eq_true rfl⟩) rfl hl.1 rfl (Nat.le_of_ble_eq_true rfl) dX6_readNumber_25 (fun w165 H locs hp164 hw => ?_)
    obtain ⟨hT, k166, hg169⟩ := hp164
    have hF := hF.tr k166 (by decide)
    have c170 := k166.gi kC_at1 (by decide) c162
    obtain ⟨x167, c168, rx167, tx167⟩ := hg169
    refine lv_iconst (v := (-1)) hx hb dX6_readNumber_28 (by decide) ?_
    exact tk_iret hC hr hlocks hK ⟨hT, hF, (Or.inr ⟨rfl, ⟨x167, c168, (show 1 ≤ x167.toInt by omega), (show x167.toInt ≤ 3205 by omega)⟩⟩)⟩ hw dX6_readNumber_29
abbrev P_X6_readNumber_12 (ad : Nat → Nat) (cy : Nat → ClassId) (B : Int) (qr : Nat) (s1 : Int) (a1 : Int32) (w0 : va_W) : Int32 → va_W → Prop := fun r u => TW ksC ad cy B qr s1 u ∧ FE ksC [(6, 1, 1), (6, 3, 3), (6, 4, 4)] w0 u ∧ ((1 ≤ r.toInt ∧ r.toInt ≤ 24 ∧ (∃ y : Int32, gi u 1 2 = y ∧ 1 ≤ y.toInt ∧ y.toInt ≤ 400) ∧ (∃ y : Int32, gi u 1 3 = y ∧ 0 ≤ y.toInt ∧ y.toInt ≤ 399) ∧ (∃ y : Int32, gi u 1 4 = y ∧ 0 ≤ y.toInt ∧ y.toInt ≤ 0)) ∨ (r = (-1) ∧ (∃ y : Int32, gi u 1 4 = y ∧ 1 ≤ y.toInt ∧ y.toInt ≤ 3205)))
set_option maxHeartbeats 4000000 in
set_option maxRecDepth 100000 in
theorem k_X6_readNumber_12 (l : Launch) (adK adV : Nat → Nat) (dC : Nat → ClassId) (dI : Nat → Nat → Nat) (cy : Nat → ClassId) (ad : Nat → Nat) (B : Int) (hB0 : 2147483648 ≤ B) (hB1 : B ≤ 1152921504606846976) (qr : Nat) (s1 : Int)  (a1 : Int32) (ra1 : 1 ≤ a1.toInt) (ta1 : a1.toInt ≤ 24) (w0 : va_W) (sz : Nat) (hT : TW ksC ad cy B qr s1 w0) (cf0_ : gi w0 1 4 = 0) : Met l yX6_readNumber wsX6_readNumber ({ frames := 2, cells := 0, slots := 0, locals := 34 }) (va_Pc [.ref (ad 1), .int a1, .int 24] (wpreS adK adV dC dI cy sz w0)) (va_Qi (P_X6_readNumber_12 ad cy B qr s1 a1 w0) (fun u : va_W => wpost dC dI cy (va_A w0 sz) u) (va_A w0 sz)) 0 0 (va_A w0 sz) := by
  refine Met.ofW (cc := cX6_readNumber) (maxL := 4) (ret := (some .int)) (by decide) rfl ?_
  intro p e s m args below meth c s₁ Bk hml hv
  obtain ⟨rfl, ⟨hsz, hP, hK, hD0⟩, hE, hSR⟩ := hv
  have hx := Bk.exec
  have hb := Bk.bytes
  have hr := Bk.returns
  have hlocks := Bk.notSynchronized
  have hC : CallFix p m c cX6_readNumber 4 s _ wsX6_readNumber RX6 := ⟨hx, hb, hml, findClass_of_methodNamed Bk.named, atoms_spec (ws := wsX6_readNumber) Bk.pre⟩
  subst hsz
  have hD := hD0.self (sz := s.heap.size)
  generalize hAe : va_A w0 s.heap.size = A at hD hE ⊢
  have hA : ∀ q : Nat, s.heap.size ≤ q → A q := fun q h => by rw [← hAe]; exact Or.inr h
  have hw : Wd dC dI A s.heap s.heap [] w0 := ⟨hP, hD, va_S.rf⟩
  have hF : FE ksC [(6, 1, 1), (6, 3, 3), (6, 4, 4)] w0 w0 := FE.rf
  have hl := lv_entry ([.ref (ad 1), .int a1, .int 24]) (n := 4) (Nat.le_of_ble_eq_true rfl)
  rw [lg_entry_eq]
  generalize (lg_sl ([.ref (ad 1), .int a1, .int 24]) ++ List.replicate (4 - (lg_sl ([.ref (ad 1), .int a1, .int 24])).length) Slot.unset).toArray = ls at hl ⊢
  have hl : lv_has ls 4 [(0, .ref (ad 1)), (1, .int a1), (2, .int 24)] := hl
  generalize hloc : ([] : List Loc) = locs at hw ⊢
  have hinX6 : ∀ w ∈ u_ws RX6 TX6 5, w ∈ wsX6_readNumber := fun _ h => List.mem_cons_of_mem _ (List.mem_append_right _ (h))
  have J125 : ∀ (v125_3 : Int32) (f125_1_1 : Int32) (f125_1_2 : Int32) (f125_1_3 : Int32) (H : Heap) (locs : List Loc) (ls : Array Slot) (w1 : va_W), 1 ≤ a1.toInt → a1.toInt ≤ 24 → 0 ≤ f125_1_1.toInt → f125_1_1.toInt ≤ 400 → 1 ≤ f125_1_2.toInt → f125_1_2.toInt ≤ 400 → 0 ≤ f125_1_3.toInt → f125_1_3.toInt ≤ 399 → Wd dC dI A s.heap H locs w1 → TW ksC ad cy B qr s1 w1 → FE ksC [(6, 1, 1), (6, 3, 3), (6, 4, 4)] w0 w1 → gi w1 1 1 = f125_1_1 → gi w1 1 2 = f125_1_2 → gi w1 1 3 = f125_1_3 → gi w1 1 4 = 0 → lv_has ls 4 [(0, .ref (ad 1)), (1, .int a1), (2, .int 24), (3, .int v125_3)] → W p l e ({ frames := 2, cells := 0, slots := 0, locals := 34 }) s m (List.toArray [.ref (ad 1), .int a1, .int 24]) below meth c H locs 0 0 (MQ below (va_Qi (P_X6_readNumber_12 ad cy B qr s1 a1 w0) (fun u : va_W => wpost dC dI cy A u) A) (List.toArray [.ref (ad 1), .int a1, .int 24]) s 0 0 A) (F0 m 125 ls []) := by
    intro v125_3 f125_1_1 f125_1_2 f125_1_3 H locs ls w1 r2 t3 r4 t5 r7 t8 r10 t11 hw hT hF c6 c9 c12 c13 hl
    refine lv_aload_n hx hb dX6_readNumber_125 rfl (lv_at hl 0 rfl) ?_
    refine lv_aload_n hx hb dX6_readNumber_126 rfl (lv_at hl 0 rfl) ?_
    refine tk_geti hC hK hw hT hinX6 kC_at1 (by decide) rfl 3 (by decide) (List.mem_of_getElem? (i := 1) rfl) rfl rfl dX6_readNumber_127 (fun x14 c15 rx14 tx14 => ?_)
    refine wk_top f125_1_3 (c15.symm.trans c12) ?_
    refine lv_iconst (v := 1) hx hb dX6_readNumber_130 (by decide) ?_
    refine tk_Vv hC hK hw hT hA hE hSR kC_at1 (by decide) rfl (k_X6_blame_1 l adK adV dC dI cy ad B (by omega) (by omega) qr s1   f125_1_3 (show 0 ≤ f125_1_3.toInt by omega) (show f125_1_3.toInt ≤ 400 by omega) 1 (by decide) (by decide) w1 H.size hT c13) (cwV 2 hC.2.2.2.2 gX6_readNumber_X6_blame rfl rfl rfl (by decide +kernel) ⟨Nat.le_of_ble_eq_true rfl, Nat.le_of_ble_eq_true rfl⟩) rfl hl.1 rfl (Nat.le_of_ble_eq_true rfl) dX6_readNumber_131 (fun w18 H locs hp17 hw => ?_)
    obtain ⟨hT, k19, hg22⟩ := hp17
    have hF := hF.tr k19 (by decide)
    have c23 := k19.gi kC_at1 (by decide) c6
    have c24 := k19.gi kC_at1 (by decide) c9
    have c25 := k19.gi kC_at1 (by decide) c12
    obtain ⟨x20, c21, rx20, tx20⟩ := hg22
    refine lv_iconst (v := (-1)) hx hb dX6_readNumber_134 (by decide) ?_
    exact tk_iret hC hr hlocks hK ⟨hT, hF, (Or.inr ⟨rfl, ⟨x20, c21, (show 1 ≤ x20.toInt by omega), (show x20.toInt ≤ 3205 by omega)⟩⟩)⟩ hw dX6_readNumber_135
  have J102 : ∀ (v102_3 : Int32) (f102_1_1 : Int32) (f102_1_2 : Int32) (f102_1_3 : Int32) (H : Heap) (locs : List Loc) (ls : Array Slot) (w26 : va_W), 1 ≤ a1.toInt → a1.toInt ≤ 24 → 0 ≤ f102_1_1.toInt → f102_1_1.toInt ≤ 400 → 1 ≤ f102_1_2.toInt → f102_1_2.toInt ≤ 400 → 0 ≤ f102_1_3.toInt → f102_1_3.toInt ≤ 399 → Wd dC dI A s.heap H locs w26 → TW ksC ad cy B qr s1 w26 → FE ksC [(6, 1, 1), (6, 3, 3), (6, 4, 4)] w0 w26 → gi w26 1 1 = f102_1_1 → gi w26 1 2 = f102_1_2 → gi w26 1 3 = f102_1_3 → gi w26 1 4 = 0 → lv_has ls 4 [(0, .ref (ad 1)), (1, .int a1), (2, .int 24), (3, .int v102_3)] → W p l e ({ frames := 2, cells := 0, slots := 0, locals := 34 }) s m (List.toArray [.ref (ad 1), .int a1, .int 24]) below meth c H locs 0 0 (MQ below (va_Qi (P_X6_readNumber_12 ad cy B qr s1 a1 w0) (fun u : va_W => wpost dC dI cy A u) A) (List.toArray [.ref (ad 1), .int a1, .int 24]) s 0 0 A) (F0 m 102 ls []) := by
    intro v102_3 f102_1_1 f102_1_2 f102_1_3 H locs ls w26 r27 t28 r29 t30 r32 t33 r35 t36 hw hT hF c31 c34 c37 c38 hl
    refine lv_aload_n hx hb dX6_readNumber_102 rfl (lv_at hl 0 rfl) ?_
    refine tk_geti hC hK hw hT hinX6 kC_at1 (by decide) rfl 1 (by decide) (List.mem_of_getElem? (i := 2) rfl) rfl rfl dX6_readNumber_103 (fun x39 c40 rx39 tx39 => ?_)
    refine wk_top f102_1_1 (c40.symm.trans c31) ?_
    refine lv_aload_n hx hb dX6_readNumber_106 rfl (lv_at hl 0 rfl) ?_
    refine tk_geti hC hK hw hT hinX6 kC_at1 (by decide) rfl 3 (by decide) (List.mem_of_getElem? (i := 1) rfl) rfl rfl dX6_readNumber_107 (fun x41 c42 rx41 tx41 => ?_)
    refine wk_top f102_1_3 (c42.symm.trans c37) ?_
    refine lv_isub hx hb dX6_readNumber_110 ?_
    refine lv_topi (fun x43 ex43 => ?_)
    have ex43 : x43.toInt = f102_1_1.toInt - f102_1_3.toInt := by rw [ex43]; exact wk_sub (show (-2147483648) ≤ f102_1_1.toInt - f102_1_3.toInt by omega) (show f102_1_1.toInt - f102_1_3.toInt ≤ 2147483647 by omega)
    refine lv_iconst (v := 5) hx hb dX6_readNumber_111 (by decide) ?_
    refine lv_icmp_gt (tgt := 125) hx hb dX6_readNumber_112 (by decide) (fun c44 => ?_) (fun c44 => ?_)
    · have c44 : (5 : Int) < x43.toInt := wk_lt.mp c44
      exact J125 v102_3 f102_1_1 f102_1_2 f102_1_3 H locs ls w26 (show 1 ≤ a1.toInt by omega) (show a1.toInt ≤ 24 by omega) (show 0 ≤ f102_1_1.toInt by omega) (show f102_1_1.toInt ≤ 400 by omega) (show 1 ≤ f102_1_2.toInt by omega) (show f102_1_2.toInt ≤ 400 by omega) (show 0 ≤ f102_1_3.toInt by omega) (show f102_1_3.toInt ≤ 399 by omega)  hw hT hF c31 c34 c37 c38 (lv_sub hl [0, 1, 2, 3] rfl)
    · have c44 : x43.toInt ≤ (5 : Int) := wk_ltF c44
      refine lv_iload_n hx hb dX6_readNumber_115 rfl (lv_at hl 3 rfl) ?_
      refine lv_iload_n hx hb dX6_readNumber_116 rfl (lv_at hl 1 rfl) ?_
      refine lv_icmp_lt (tgt := 125) hx hb dX6_readNumber_117 (by decide) (fun c45 => ?_) (fun c45 => ?_)
      · have c45 : v102_3.toInt < a1.toInt := wk_lt.mp c45
        exact J125 v102_3 f102_1_1 f102_1_2 f102_1_3 H locs ls w26 (show 1 ≤ a1.toInt by omega) (show a1.toInt ≤ 24 by omega) (show 0 ≤ f102_1_1.toInt by omega) (show f102_1_1.toInt ≤ 400 by omega) (show 1 ≤ f102_1_2.toInt by omega) (show f102_1_2.toInt ≤ 400 by omega) (show 0 ≤ f102_1_3.toInt by omega) (show f102_1_3.toInt ≤ 399 by omega)  hw hT hF c31 c34 c37 c38 (lv_sub hl [0, 1, 2, 3] rfl)
      · have c45 : a1.toInt ≤ v102_3.toInt := wk_ltF c45
        refine lv_iload_n hx hb dX6_readNumber_120 rfl (lv_at hl 3 rfl) ?_
        refine lv_iload_n hx hb dX6_readNumber_121 rfl (lv_at hl 2 rfl) ?_
        refine lv_icmp_le (tgt := 136) hx hb dX6_readNumber_122 (by decide) (fun c46 => ?_) (fun c46 => ?_)
        · have c46 : v102_3.toInt ≤ (24 : Int) := wk_le.mp c46
          refine lv_iload_n hx hb dX6_readNumber_136 rfl (lv_at hl 3 rfl) ?_
          exact tk_iret hC hr hlocks hK ⟨hT, hF, (Or.inl ⟨(show 1 ≤ v102_3.toInt by omega), (show v102_3.toInt ≤ 24 by omega), ⟨f102_1_2, c34, (show 1 ≤ f102_1_2.toInt by omega), (show f102_1_2.toInt ≤ 400 by omega)⟩, ⟨f102_1_3, c37, (show 0 ≤ f102_1_3.toInt by omega), (show f102_1_3.toInt ≤ 399 by omega)⟩, ⟨0, c38, (by decide), (by decide)⟩⟩)⟩ hw dX6_readNumber_137
        · have c46 : (24 : Int) < v102_3.toInt := wk_leF c46
          exact J125 v102_3 f102_1_1 f102_1_2 f102_1_3 H locs ls w26 (show 1 ≤ a1.toInt by omega) (show a1.toInt ≤ 24 by omega) (show 0 ≤ f102_1_1.toInt by omega) (show f102_1_1.toInt ≤ 400 by omega) (show 1 ≤ f102_1_2.toInt by omega) (show f102_1_2.toInt ≤ 400 by omega) (show 0 ≤ f102_1_3.toInt by omega) (show f102_1_3.toInt ≤ 399 by omega)  hw hT hF c31 c34 c37 c38 (lv_sub hl [0, 1, 2, 3] rfl)
  have L32 : ∀ (n32 : Nat) (v32_3 : Int32) (f32_1_1 : Int32) (f32_1_2 : Int32) (f32_1_3 : Int32) (H : Heap) (locs : List Loc) (ls : Array Slot) (w47 : va_W), 1 ≤ a1.toInt → a1.toInt ≤ 24 → 0 ≤ f32_1_1.toInt → f32_1_1.toInt ≤ 400 → 1 ≤ f32_1_2.toInt → f32_1_2.toInt ≤ 400 → 0 ≤ f32_1_3.toInt → f32_1_3.toInt ≤ 399 → (400 - f32_1_1.toInt).toNat < n32 → Wd dC dI A s.heap H locs w47 → TW ksC ad cy B qr s1 w47 → FE ksC [(6, 1, 1), (6, 3, 3), (6, 4, 4)] w0 w47 → gi w47 1 1 = f32_1_1 → gi w47 1 2 = f32_1_2 → gi w47 1 3 = f32_1_3 → gi w47 1 4 = 0 → lv_has ls 4 [(0, .ref (ad 1)), (1, .int a1), (2, .int 24), (3, .int v32_3)] → W p l e ({ frames := 2, cells := 0, slots := 0, locals := 34 }) s m (List.toArray [.ref (ad 1), .int a1, .int 24]) below meth c H locs 0 0 (MQ below (va_Qi (P_X6_readNumber_12 ad cy B qr s1 a1 w0) (fun u : va_W => wpost dC dI cy A u) A) (List.toArray [.ref (ad 1), .int a1, .int 24]) s 0 0 A) (F0 m 32 ls []) := by
    intro n32
    induction n32 with
    | zero => intro v32_3 f32_1_1 f32_1_2 f32_1_3 H locs ls w47 r48 t49 r50 t51 r53 t54 r56 t57 hm32 hw hT hF c52 c55 c58 c59 hl; omega
    | succ n32 ih32 =>
      intro v32_3 f32_1_1 f32_1_2 f32_1_3 H locs ls w47 r48 t49 r50 t51 r53 t54 r56 t57 hm32 hw hT hF c52 c55 c58 c59 hl
      have J89 : ∀ (v89_3 : Int32) (H : Heap) (locs : List Loc) (ls : Array Slot) (w60 : va_W), 1 ≤ a1.toInt → a1.toInt ≤ 24 → 0 ≤ f32_1_1.toInt → f32_1_1.toInt ≤ 399 → 1 ≤ f32_1_2.toInt → f32_1_2.toInt ≤ 400 → 0 ≤ f32_1_3.toInt → f32_1_3.toInt ≤ 399 → Wd dC dI A s.heap H locs w60 → TW ksC ad cy B qr s1 w60 → FE ksC [(6, 1, 1), (6, 3, 3), (6, 4, 4)] w0 w60 → gi w60 1 1 = f32_1_1 → gi w60 1 2 = f32_1_2 → gi w60 1 3 = f32_1_3 → gi w60 1 4 = 0 → lv_has ls 4 [(0, .ref (ad 1)), (1, .int a1), (2, .int 24), (3, .int v89_3)] → W p l e ({ frames := 2, cells := 0, slots := 0, locals := 34 }) s m (List.toArray [.ref (ad 1), .int a1, .int 24]) below meth c H locs 0 0 (MQ below (va_Qi (P_X6_readNumber_12 ad cy B qr s1 a1 w0) (fun u : va_W => wpost dC dI cy A u) A) (List.toArray [.ref (ad 1), .int a1, .int 24]) s 0 0 A) (F0 m 89 ls []) := by
        intro v89_3 H locs ls w60 r61 t62 r63 t64 r66 t67 r69 t70 hw hT hF c65 c68 c71 c72 hl
        refine lv_aload_n hx hb dX6_readNumber_89 rfl (lv_at hl 0 rfl) ?_
        refine lv_dup hx hb dX6_readNumber_90 rfl ?_
        refine tk_geti hC hK hw hT hinX6 kC_at1 (by decide) rfl 1 (by decide) (List.mem_of_getElem? (i := 2) rfl) rfl rfl dX6_readNumber_91 (fun x73 c74 rx73 tx73 => ?_)
        refine wk_top f32_1_1 (c74.symm.trans c65) ?_
        refine lv_iconst (v := 1) hx hb dX6_readNumber_94 (by decide) ?_
        refine lv_iadd hx hb dX6_readNumber_95 ?_
        refine lv_topi (fun x75 ex75 => ?_)
        have ex75 : x75.toInt = f32_1_1.toInt + (1 : Int) := by rw [ex75]; exact wk_add (show (-2147483648) ≤ f32_1_1.toInt + (1 : Int) by omega) (show f32_1_1.toInt + (1 : Int) ≤ 2147483647 by omega)
        refine tk_puti hC hK hw hT hinX6 tyX6_ok nmX6 kC_at1 (by decide) rfl rfl 1 (by decide) (List.mem_of_getElem? (i := 2) rfl) rfl rfl rfl rfl (show 0 ≤ x75.toInt by omega) (show x75.toInt ≤ 400 by omega) dX6_readNumber_96 (fun H locs w76 hw hT k78 c77 => ?_)
        have hF := hF.put kC_at1 (k := 1) (by decide) k78
        have c79 := k78.gi (Or.inr (by decide)) c68
        have c80 := k78.gi (Or.inr (by decide)) c71
        have c81 := k78.gi (Or.inr (by decide)) c72
        refine lv_goto (tgt := 32) hx hb dX6_readNumber_99 (by decide) ?_
        exact ih32 v89_3 x75 f32_1_2 f32_1_3 H locs ls w76 (show 1 ≤ a1.toInt by omega) (show a1.toInt ≤ 24 by omega) (show 0 ≤ x75.toInt by omega) (show x75.toInt ≤ 400 by omega) (show 1 ≤ f32_1_2.toInt by omega) (show f32_1_2.toInt ≤ 400 by omega) (show 0 ≤ f32_1_3.toInt by omega) (show f32_1_3.toInt ≤ 399 by omega) (show (400 - x75.toInt).toNat < n32 by omega) hw hT hF c77 c79 c80 c81 (lv_sub hl [0, 1, 2, 3] rfl)
      refine lv_aload_n hx hb dX6_readNumber_32 rfl (lv_at hl 0 rfl) ?_
      refine tk_geti hC hK hw hT hinX6 kC_at1 (by decide) rfl 1 (by decide) (List.mem_of_getElem? (i := 2) rfl) rfl rfl dX6_readNumber_33 (fun x82 c83 rx82 tx82 => ?_)
      refine wk_top f32_1_1 (c83.symm.trans c52) ?_
      refine lv_aload_n hx hb dX6_readNumber_36 rfl (lv_at hl 0 rfl) ?_
      refine tk_geti hC hK hw hT hinX6 kC_at1 (by decide) rfl 2 (by decide) (List.mem_of_getElem? (i := 3) rfl) rfl rfl dX6_readNumber_37 (fun x84 c85 rx84 tx84 => ?_)
      refine wk_top f32_1_2 (c85.symm.trans c55) ?_
      refine lv_icmp_ge (tgt := 102) hx hb dX6_readNumber_40 (by decide) (fun c86 => ?_) (fun c86 => ?_)
      · have c86 : f32_1_2.toInt ≤ f32_1_1.toInt := wk_le.mp c86
        exact J102 v32_3 f32_1_1 f32_1_2 f32_1_3 H locs ls w47 (show 1 ≤ a1.toInt by omega) (show a1.toInt ≤ 24 by omega) (show 0 ≤ f32_1_1.toInt by omega) (show f32_1_1.toInt ≤ 400 by omega) (show 1 ≤ f32_1_2.toInt by omega) (show f32_1_2.toInt ≤ 400 by omega) (show 0 ≤ f32_1_3.toInt by omega) (show f32_1_3.toInt ≤ 399 by omega)  hw hT hF c52 c55 c58 c59 (lv_sub hl [0, 1, 2, 3] rfl)
      · have c86 : f32_1_1.toInt < f32_1_2.toInt := wk_leF c86
        refine lv_aload_n hx hb dX6_readNumber_43 rfl (lv_at hl 0 rfl) ?_
        refine tk_getA hC hK hw hT hinX6 kC_at1 (by decide) rfl 0 (by decide) (List.mem_of_getElem? (i := 4) rfl) rfl rfl dX6_readNumber_44 ?_
        refine lv_aload_n hx hb dX6_readNumber_47 rfl (lv_at hl 0 rfl) ?_
        refine tk_geti hC hK hw hT hinX6 kC_at1 (by decide) rfl 1 (by decide) (List.mem_of_getElem? (i := 2) rfl) rfl rfl dX6_readNumber_48 (fun x87 c88 rx87 tx87 => ?_)
        refine wk_top f32_1_1 (c88.symm.trans c52) ?_
        refine tk_iald hC hK hw hT kC_at2 rfl rfl (show 0 ≤ f32_1_1.toInt by omega) (show f32_1_1.toInt < 400 by omega) dX6_readNumber_51 (fun x89 c90 rx89 tx89 => ?_)
        refine tk_Si hC hK hw hT hA hE hSR (k_X6_isDigit_1 l adK adV dC dI cy ad B (by omega) (by omega) qr s1   x89 (show 0 ≤ x89.toInt by omega) (show x89.toInt ≤ 255 by omega) w47 H.size hT ) (va_cwS 1 hC.2.2.2.2 gX6_readNumber_X6_isDigit rfl rfl rfl (by decide +kernel) ⟨Nat.le_of_ble_eq_true rfl, Nat.le_of_ble_eq_true rfl⟩) rfl hl.1 rfl (Nat.le_of_ble_eq_true rfl) dX6_readNumber_52 (fun r91 w93 H locs hp92 hw => ?_)
        obtain ⟨hT, k94, hg97⟩ := hp92
        have hF := hF.tr k94 (by decide)
        have c98 := k94.gi kC_at1 (by decide) c52
        have c99 := k94.gi kC_at1 (by decide) c55
        have c100 := k94.gi kC_at1 (by decide) c58
        have c101 := k94.gi kC_at1 (by decide) c59
        rcases hg97 with rfl | ⟨rfl, g95, g96⟩
        · refine lv_if_eq (tgt := 102) hx hb dX6_readNumber_55 (by decide) (fun _ => ?_) (fun c => absurd (by decide) c)
          exact J102 v32_3 f32_1_1 f32_1_2 f32_1_3 H locs ls w93 (show 1 ≤ a1.toInt by omega) (show a1.toInt ≤ 24 by omega) (show 0 ≤ f32_1_1.toInt by omega) (show f32_1_1.toInt ≤ 400 by omega) (show 1 ≤ f32_1_2.toInt by omega) (show f32_1_2.toInt ≤ 400 by omega) (show 0 ≤ f32_1_3.toInt by omega) (show f32_1_3.toInt ≤ 399 by omega)  hw hT hF c98 c99 c100 c101 (lv_sub hl [0, 1, 2, 3] rfl)
        · refine lv_if_eq (tgt := 102) hx hb dX6_readNumber_55 (by decide) (fun c => absurd c (by decide)) (fun _ => ?_)
          refine lv_aload_n hx hb dX6_readNumber_58 rfl (lv_at hl 0 rfl) ?_
          refine tk_geti hC hK hw hT hinX6 kC_at1 (by decide) rfl 1 (by decide) (List.mem_of_getElem? (i := 2) rfl) rfl rfl dX6_readNumber_59 (fun x102 c103 rx102 tx102 => ?_)
          refine wk_top f32_1_1 (c103.symm.trans c98) ?_
          refine lv_aload_n hx hb dX6_readNumber_62 rfl (lv_at hl 0 rfl) ?_
          refine tk_geti hC hK hw hT hinX6 kC_at1 (by decide) rfl 3 (by decide) (List.mem_of_getElem? (i := 1) rfl) rfl rfl dX6_readNumber_63 (fun x104 c105 rx104 tx104 => ?_)
          refine wk_top f32_1_3 (c105.symm.trans c100) ?_
          refine lv_isub hx hb dX6_readNumber_66 ?_
          refine lv_topi (fun x106 ex106 => ?_)
          have ex106 : x106.toInt = f32_1_1.toInt - f32_1_3.toInt := by rw [ex106]; exact wk_sub (show (-2147483648) ≤ f32_1_1.toInt - f32_1_3.toInt by omega) (show f32_1_1.toInt - f32_1_3.toInt ≤ 2147483647 by omega)
          refine lv_iconst (v := 5) hx hb dX6_readNumber_67 (by decide) ?_
          refine lv_icmp_ge (tgt := 89) hx hb dX6_readNumber_68 (by decide) (fun c107 => ?_) (fun c107 => ?_)
          · have c107 : (5 : Int) ≤ x106.toInt := wk_le.mp c107
            exact J89 v32_3 H locs ls w93 (show 1 ≤ a1.toInt by omega) (show a1.toInt ≤ 24 by omega) (show 0 ≤ f32_1_1.toInt by omega) (show f32_1_1.toInt ≤ 399 by omega) (show 1 ≤ f32_1_2.toInt by omega) (show f32_1_2.toInt ≤ 400 by omega) (show 0 ≤ f32_1_3.toInt by omega) (show f32_1_3.toInt ≤ 399 by omega)  hw hT hF c98 c99 c100 c101 (lv_sub hl [0, 1, 2, 3] rfl)
          · have c107 : x106.toInt < (5 : Int) := wk_leF c107
            refine lv_iload_n hx hb dX6_readNumber_71 rfl (lv_at hl 3 rfl) ?_
            refine lv_bipush (v := 10) hx hb dX6_readNumber_72 (by decide) ?_
            refine lv_imul hx hb dX6_readNumber_74 ?_
            have nx108 := wk_i32 v32_3
            refine lv_topi (fun x109 ex109 => ?_)
            refine lv_aload_n hx hb dX6_readNumber_75 rfl (lv_at hl 0 rfl) ?_
            refine tk_getA hC hK hw hT hinX6 kC_at1 (by decide) rfl 0 (by decide) (List.mem_of_getElem? (i := 4) rfl) rfl rfl dX6_readNumber_76 ?_
            refine lv_aload_n hx hb dX6_readNumber_79 rfl (lv_at hl 0 rfl) ?_
            refine tk_geti hC hK hw hT hinX6 kC_at1 (by decide) rfl 1 (by decide) (List.mem_of_getElem? (i := 2) rfl) rfl rfl dX6_readNumber_80 (fun x110 c111 rx110 tx110 => ?_)
            refine wk_top f32_1_1 (c111.symm.trans c98) ?_
            refine tk_iald hC hK hw hT kC_at2 rfl rfl (show 0 ≤ f32_1_1.toInt by omega) (show f32_1_1.toInt < 400 by omega) dX6_readNumber_83 (fun x112 c113 rx112 tx112 => ?_)
            refine lv_iadd hx hb dX6_readNumber_84 ?_
            have nx114 := wk_i32 x109
            refine lv_topi (fun x115 ex115 => ?_)
            refine lv_bipush (v := 48) hx hb dX6_readNumber_85 (by decide) ?_
            refine lv_isub hx hb dX6_readNumber_87 ?_
            have nx116 := wk_i32 x115
            refine lv_topi (fun x117 ex117 => ?_)
            refine lv_istore_n (lv' := [(3, .int x117), (0, .ref (ad 1)), (1, .int a1), (2, .int 24)]) hx hb dX6_readNumber_88 rfl hl (by decide) rfl (fun ls hl => ?_)
            exact J89 x117 H locs ls w93 (show 1 ≤ a1.toInt by omega) (show a1.toInt ≤ 24 by omega) (show 0 ≤ f32_1_1.toInt by omega) (show f32_1_1.toInt ≤ 399 by omega) (show 1 ≤ f32_1_2.toInt by omega) (show f32_1_2.toInt ≤ 400 by omega) (show 0 ≤ f32_1_3.toInt by omega) (show f32_1_3.toInt ≤ 399 by omega)  hw hT hF c98 c99 c100 c101 (lv_sub hl [1, 2, 3, 0] rfl)
  refine lv_aload_n hx hb dX6_readNumber_0 rfl (lv_at hl 0 rfl) ?_
  refine tk_Vi hC hK hw hT hA hE hSR kC_at1 (by decide) rfl (k_X6_isFaulty_2 l adK adV dC dI cy ad B (by omega) (by omega) qr s1    w0 s.heap.size hT cf0_) (cwV 0 hC.2.2.2.2 gX6_readNumber_X6_isFaulty rfl rfl rfl (by decide +kernel) ⟨Nat.le_of_ble_eq_true rfl, Nat.le_of_ble_eq_true rfl⟩) rfl hl.1 rfl (Nat.le_of_ble_eq_true rfl) dX6_readNumber_1 (fun r118 w120 H locs hp119 hw => ?_)
  obtain ⟨hT, k121, hg124⟩ := hp119
  have hF := hF.tr k121 (by decide)
  have c125 := k121.gi kC_at1 (by decide) cf0_
  obtain ⟨rfl, ⟨x122, c123, rx122, tx122⟩⟩ := hg124
  have ex122 : x122.toInt = (0 : Int) := by rw [show x122 = 0 from c123.symm.trans c125]; decide
  refine lv_if_eq (tgt := 9) hx hb dX6_readNumber_4 (by decide) (fun _ => ?_) (fun c => absurd (by decide) c)
  refine lv_aload_n hx hb dX6_readNumber_9 rfl (lv_at hl 0 rfl) ?_
  refine tk_Vi hC hK hw hT hA hE hSR kC_at1 (by decide) rfl (k_X6_lookBehindBlanks_1 l adK adV dC dI cy ad B (by omega) (by omega) qr s1    w120 H.size hT ) (cwV 0 hC.2.2.2.2 gX6_readNumber_X6_lookBehindBlanks rfl rfl rfl (by decide +kernel) ⟨Nat.le_of_ble_eq_true rfl, Nat.le_of_ble_eq_true rfl⟩) rfl hl.1 rfl (Nat.le_of_ble_eq_true rfl) dX6_readNumber_10 (fun r126 w128 H locs hp127 hw => ?_)
  obtain ⟨hT, k129, hg138⟩ := hp127
  have hF := hF.tr k129 (by decide)
  have c139 := k129.gi kC_at1 (by decide) c125
  rcases hg138 with ⟨g130, g131, ⟨x132, c133, rx132, tx132⟩, ⟨x134, c135, rx134, tx134⟩, ⟨x136, c137, rx136, tx136⟩⟩ | rfl
  · refine tk_Si hC hK hw hT hA hE hSR (k_X6_isDigit_1 l adK adV dC dI cy ad B (by omega) (by omega) qr s1   r126 (show 0 ≤ r126.toInt by omega) (show r126.toInt ≤ 255 by omega) w128 H.size hT ) (va_cwS 1 hC.2.2.2.2 gX6_readNumber_X6_isDigit rfl rfl rfl (by decide +kernel) ⟨Nat.le_of_ble_eq_true rfl, Nat.le_of_ble_eq_true rfl⟩) rfl hl.1 rfl (Nat.le_of_ble_eq_true rfl) dX6_readNumber_13 (fun r140 w142 H locs hp141 hw => ?_)
    obtain ⟨hT, k143, hg146⟩ := hp141
    have hF := hF.tr k143 (by decide)
    have c147 := k143.gi kC_at1 (by decide) c139
    have c148 := k143.gi kC_at1 (by decide) c133
    have c149 := k143.gi kC_at1 (by decide) c135
    have c150 := k143.gi kC_at1 (by decide) c137
    rcases hg146 with rfl | ⟨rfl, g144, g145⟩
    · refine lv_if_ne (tgt := 30) hx hb dX6_readNumber_16 (by decide) (fun c => absurd (by decide) c) (fun _ => ?_)
      refine lv_aload_n hx hb dX6_readNumber_19 rfl (lv_at hl 0 rfl) ?_
      refine lv_aload_n hx hb dX6_readNumber_20 rfl (lv_at hl 0 rfl) ?_
      refine tk_geti hC hK hw hT hinX6 kC_at1 (by decide) rfl 3 (by decide) (List.mem_of_getElem? (i := 1) rfl) rfl rfl dX6_readNumber_21 (fun x151 c152 rx151 tx151 => ?_)
      refine wk_top x136 (c152.symm.trans c150) ?_
      refine lv_iconst (v := 0) hx hb dX6_readNumber_24 (by decide) ?_
      refine tk_Vv hC hK hw hT hA hE hSR kC_at1 (by decide) rfl (k_X6_blame_1 l adK adV dC dI cy ad B (by omega) (by omega) qr s1   x136 (show 0 ≤ x136.toInt by omega) (show x136.toInt ≤ 400 by omega) 0 (by decide) (by decide) w142 H.size hT c147) (cwV 2 hC.2.2.2.2 gX6_readNumber_X6_blame rfl rfl rfl (by decide +kernel) ⟨Nat.le_of_ble_eq_true rfl, Nat.le_of_ble_eq_true rfl⟩) rfl hl.1 rfl (Nat.le_of_ble_eq_true rfl) dX6_readNumber_25 (fun w155 H locs hp154 hw => ?_)
      obtain ⟨hT, k156, hg159⟩ := hp154
      have hF := hF.tr k156 (by decide)
      have c160 := k156.gi kC_at1 (by decide) c148
      have c161 := k156.gi kC_at1 (by decide) c149
      have c162 := k156.gi kC_at1 (by decide) c150
      obtain ⟨x157, c158, rx157, tx157⟩ := hg159
      refine lv_iconst (v := (-1)) hx hb dX6_readNumber_28 (by decide) ?_
      exact tk_iret hC hr hlocks hK ⟨hT, hF, (Or.inr ⟨rfl, ⟨x157, c158, (show 1 ≤ x157.toInt by omega), (show x157.toInt ≤ 3205 by omega)⟩⟩)⟩ hw dX6_readNumber_29
    · refine lv_if_ne (tgt := 30) hx hb dX6_readNumber_16 (by decide) (fun _ => ?_) (fun c => absurd c (by decide))
      refine lv_iconst (v := 0) hx hb dX6_readNumber_30 (by decide) ?_
      refine lv_istore_n (lv' := [(3, .int 0), (0, .ref (ad 1)), (1, .int a1), (2, .int 24)]) hx hb dX6_readNumber_31 rfl hl (by decide) rfl (fun ls hl => ?_)
      exact L32 ((400 - x132.toInt).toNat + 1) 0 x132 x134 x136 H locs ls w142 (show 1 ≤ a1.toInt by omega) (show a1.toInt ≤ 24 by omega) (show 0 ≤ x132.toInt by omega) (show x132.toInt ≤ 400 by omega) (show 1 ≤ x134.toInt by omega) (show x134.toInt ≤ 400 by omega) (show 0 ≤ x136.toInt by omega) (show x136.toInt ≤ 399 by omega) (Nat.lt_succ_self _) hw hT hF c148 c149 c150 c147 (lv_sub hl [1, 2, 3, 0] rfl)
  · refine tk_Si hC hK hw hT hA hE hSR (k_X6_isDigit_2 l adK adV dC dI cy ad B (by omega) (by omega) qr s1    w128 H.size hT ) (va_cwS 1 hC.2.2.2.2 gX6_readNumber_X6_isDigit rfl rfl rfl (by decide +kernel) ⟨Nat.le_of_ble_eq_true rfl, Nat.le_of_ble_eq_true rfl⟩) rfl hl.1 rfl (Nat.le_of_ble_eq_true rfl) dX6_readNumber_13 (fun r163 w165 H locs hp164 hw => ?_)
    obtain ⟨hT, k166, hg167⟩ := hp164
    have hF := hF.tr k166 (by decide)
    have c168 := k166.gi kC_at1 (by decide) c139
    obtain rfl := hg167
    refine lv_if_ne (tgt := 30) hx hb dX6_readNumber_16 (by decide) (fun c => absurd (by decide) c) (fun _ => ?_)
    refine lv_aload_n hx hb dX6_readNumber_19 rfl (lv_at hl 0 rfl) ?_
    refine lv_aload_n hx hb dX6_readNumber_20 rfl (lv_at hl 0 rfl) ?_
    refine tk_geti hC hK hw hT hinX6 kC_at1 (by decide) rfl 3 (by decide) (List.mem_of_getElem? (i := 1) rfl) rfl rfl dX6_readNumber_21 (fun x169 c170 rx169 tx169 => ?_)
    refine lv_iconst (v := 0) hx hb dX6_readNumber_24 (by decide) ?_
    refine tk_Vv hC hK hw hT hA hE hSR kC_at1 (by decide) rfl (k_X6_blame_1 l adK adV dC dI cy ad B (by omega) (by omega) qr s1   x169 (show 0 ≤ x169.toInt by omega) (show x169.toInt ≤ 400 by omega) 0 (by decide) (by decide) w165 H.size hT c168) (cwV 2 hC.2.2.2.2 gX6_readNumber_X6_blame rfl rfl rfl (by decide +kernel) ⟨Nat.le_of_ble_eq_true rfl, Nat.le_of_ble_eq_true rfl⟩) rfl hl.1 rfl (Nat.le_of_ble_eq_true rfl) dX6_readNumber_25 (fun w173 H locs hp172 hw => ?_)
    obtain ⟨hT, k174, hg177⟩ := hp172
    have hF := hF.tr k174 (by decide)
    have c178 := k174.gi kC_at1 (by decide) c170
    obtain ⟨x175, c176, rx175, tx175⟩ := hg177
    refine lv_iconst (v := (-1)) hx hb dX6_readNumber_28 (by decide) ?_
    exact tk_iret hC hr hlocks hK ⟨hT, hF, (Or.inr ⟨rfl, ⟨x175, c176, (show 1 ≤ x175.toInt by omega), (show x175.toInt ≤ 3205 by omega)⟩⟩)⟩ hw dX6_readNumber_29
abbrev P_X6_readNumber_13 (ad : Nat → Nat) (cy : Nat → ClassId) (B : Int) (qr : Nat) (s1 : Int)  (w0 : va_W) : Int32 → va_W → Prop := fun r u => TW ksC ad cy B qr s1 u ∧ FE ksC ([] : List (Nat × Nat × Nat)) w0 u ∧ ((r = (-1) ∧ (∃ y : Int32, gi u 1 4 = y ∧ 1 ≤ y.toInt ∧ y.toInt ≤ 3205)))
set_option maxHeartbeats 4000000 in
set_option maxRecDepth 100000 in
theorem k_X6_readNumber_13 (l : Launch) (adK adV : Nat → Nat) (dC : Nat → ClassId) (dI : Nat → Nat → Nat) (cy : Nat → ClassId) (ad : Nat → Nat) (B : Int) (hB0 : 2147483648 ≤ B) (hB1 : B ≤ 1152921504606846976) (qr : Nat) (s1 : Int)   (w0 : va_W) (sz : Nat) (hT : TW ksC ad cy B qr s1 w0) (f0_ : Int32) (cf0_ : gi w0 1 4 = f0_) (rf0_ : 1 ≤ f0_.toInt) (tf0_ : f0_.toInt ≤ 3205) : Met l yX6_readNumber wsX6_readNumber ({ frames := 2, cells := 0, slots := 0, locals := 32 }) (va_Pc [.ref (ad 1), .int 0, .int 24] (wpreS adK adV dC dI cy sz w0)) (va_Qi (P_X6_readNumber_13 ad cy B qr s1  w0) (fun u : va_W => wpost dC dI cy (va_A w0 sz) u) (va_A w0 sz)) 0 0 (va_A w0 sz) := by
  refine Met.ofW (cc := cX6_readNumber) (maxL := 4) (ret := (some .int)) (by decide) rfl ?_
  intro p e s m args below meth c s₁ Bk hml hv
  obtain ⟨rfl, ⟨hsz, hP, hK, hD0⟩, hE, hSR⟩ := hv
  have hx := Bk.exec
  have hb := Bk.bytes
  have hr := Bk.returns
  have hlocks := Bk.notSynchronized
  have hC : CallFix p m c cX6_readNumber 4 s _ wsX6_readNumber RX6 := ⟨hx, hb, hml, findClass_of_methodNamed Bk.named, atoms_spec (ws := wsX6_readNumber) Bk.pre⟩
  subst hsz
  have hD := hD0.self (sz := s.heap.size)
  generalize hAe : va_A w0 s.heap.size = A at hD hE ⊢
  have hA : ∀ q : Nat, s.heap.size ≤ q → A q := fun q h => by rw [← hAe]; exact Or.inr h
  have hw : Wd dC dI A s.heap s.heap [] w0 := ⟨hP, hD, va_S.rf⟩
  have hF : FE ksC ([] : List (Nat × Nat × Nat)) w0 w0 := FE.rf
  have hl := lv_entry ([.ref (ad 1), .int 0, .int 24]) (n := 4) (Nat.le_of_ble_eq_true rfl)
  rw [lg_entry_eq]
  generalize (lg_sl ([.ref (ad 1), .int 0, .int 24]) ++ List.replicate (4 - (lg_sl ([.ref (ad 1), .int 0, .int 24])).length) Slot.unset).toArray = ls at hl ⊢
  have hl : lv_has ls 4 [(0, .ref (ad 1)), (1, .int 0), (2, .int 24)] := hl
  generalize hloc : ([] : List Loc) = locs at hw ⊢
  refine lv_aload_n hx hb dX6_readNumber_0 rfl (lv_at hl 0 rfl) ?_
  refine tk_Vi hC hK hw hT hA hE hSR kC_at1 (by decide) rfl (k_X6_isFaulty_3 l adK adV dC dI cy ad B (by omega) (by omega) qr s1    w0 s.heap.size hT f0_ cf0_ (show 1 ≤ f0_.toInt by omega) (show f0_.toInt ≤ 3205 by omega)) (cwV 0 hC.2.2.2.2 gX6_readNumber_X6_isFaulty rfl rfl rfl (by decide +kernel) ⟨Nat.le_of_ble_eq_true rfl, Nat.le_of_ble_eq_true rfl⟩) rfl hl.1 rfl (Nat.le_of_ble_eq_true rfl) dX6_readNumber_1 (fun r1 w3 H locs hp2 hw => ?_)
  obtain ⟨hT, k4, hg7⟩ := hp2
  have hF := hF.tr k4 (by decide)
  have c8 := k4.gi kC_at1 (by decide) cf0_
  obtain ⟨rfl, ⟨x5, c6, rx5, tx5⟩⟩ := hg7
  have ex5 : x5.toInt = f0_.toInt := by rw [← c8.symm.trans c6]
  refine lv_if_eq (tgt := 9) hx hb dX6_readNumber_4 (by decide) (fun c => absurd c (by decide)) (fun _ => ?_)
  refine lv_iconst (v := (-1)) hx hb dX6_readNumber_7 (by decide) ?_
  exact tk_iret hC hr hlocks hK ⟨hT, hF, ⟨rfl, ⟨f0_, c8, (show 1 ≤ f0_.toInt by omega), (show f0_.toInt ≤ 3205 by omega)⟩⟩⟩ hw dX6_readNumber_8
abbrev P_X6_readNumber_14 (ad : Nat → Nat) (cy : Nat → ClassId) (B : Int) (qr : Nat) (s1 : Int)  (w0 : va_W) : Int32 → va_W → Prop := fun r u => TW ksC ad cy B qr s1 u ∧ FE ksC ([] : List (Nat × Nat × Nat)) w0 u ∧ ((r = (-1) ∧ (∃ y : Int32, gi u 1 4 = y ∧ 1 ≤ y.toInt ∧ y.toInt ≤ 3205)))
set_option maxHeartbeats 4000000 in
set_option maxRecDepth 100000 in
theorem k_X6_readNumber_14 (l : Launch) (adK adV : Nat → Nat) (dC : Nat → ClassId) (dI : Nat → Nat → Nat) (cy : Nat → ClassId) (ad : Nat → Nat) (B : Int) (hB0 : 2147483648 ≤ B) (hB1 : B ≤ 1152921504606846976) (qr : Nat) (s1 : Int)   (w0 : va_W) (sz : Nat) (hT : TW ksC ad cy B qr s1 w0) (f0_ : Int32) (cf0_ : gi w0 1 4 = f0_) (rf0_ : 1 ≤ f0_.toInt) (tf0_ : f0_.toInt ≤ 3205) : Met l yX6_readNumber wsX6_readNumber ({ frames := 2, cells := 0, slots := 0, locals := 32 }) (va_Pc [.ref (ad 1), .int 0, .int 23] (wpreS adK adV dC dI cy sz w0)) (va_Qi (P_X6_readNumber_14 ad cy B qr s1  w0) (fun u : va_W => wpost dC dI cy (va_A w0 sz) u) (va_A w0 sz)) 0 0 (va_A w0 sz) := by
  refine Met.ofW (cc := cX6_readNumber) (maxL := 4) (ret := (some .int)) (by decide) rfl ?_
  intro p e s m args below meth c s₁ Bk hml hv
  obtain ⟨rfl, ⟨hsz, hP, hK, hD0⟩, hE, hSR⟩ := hv
  have hx := Bk.exec
  have hb := Bk.bytes
  have hr := Bk.returns
  have hlocks := Bk.notSynchronized
  have hC : CallFix p m c cX6_readNumber 4 s _ wsX6_readNumber RX6 := ⟨hx, hb, hml, findClass_of_methodNamed Bk.named, atoms_spec (ws := wsX6_readNumber) Bk.pre⟩
  subst hsz
  have hD := hD0.self (sz := s.heap.size)
  generalize hAe : va_A w0 s.heap.size = A at hD hE ⊢
  have hA : ∀ q : Nat, s.heap.size ≤ q → A q := fun q h => by rw [← hAe]; exact Or.inr h
  have hw : Wd dC dI A s.heap s.heap [] w0 := ⟨hP, hD, va_S.rf⟩
  have hF : FE ksC ([] : List (Nat × Nat × Nat)) w0 w0 := FE.rf
  have hl := lv_entry ([.ref (ad 1), .int 0, .int 23]) (n := 4) (Nat.le_of_ble_eq_true rfl)
  rw [lg_entry_eq]
  generalize (lg_sl ([.ref (ad 1), .int 0, .int 23]) ++ List.replicate (4 - (lg_sl ([.ref (ad 1), .int 0, .int 23])).length) Slot.unset).toArray = ls at hl ⊢
  have hl : lv_has ls 4 [(0, .ref (ad 1)), (1, .int 0), (2, .int 23)] := hl
  generalize hloc : ([] : List Loc) = locs at hw ⊢
  refine lv_aload_n hx hb dX6_readNumber_0 rfl (lv_at hl 0 rfl) ?_
  refine tk_Vi hC hK hw hT hA hE hSR kC_at1 (by decide) rfl (k_X6_isFaulty_3 l adK adV dC dI cy ad B (by omega) (by omega) qr s1    w0 s.heap.size hT f0_ cf0_ (show 1 ≤ f0_.toInt by omega) (show f0_.toInt ≤ 3205 by omega)) (cwV 0 hC.2.2.2.2 gX6_readNumber_X6_isFaulty rfl rfl rfl (by decide +kernel) ⟨Nat.le_of_ble_eq_true rfl, Nat.le_of_ble_eq_true rfl⟩) rfl hl.1 rfl (Nat.le_of_ble_eq_true rfl) dX6_readNumber_1 (fun r1 w3 H locs hp2 hw => ?_)
  obtain ⟨hT, k4, hg7⟩ := hp2
  have hF := hF.tr k4 (by decide)
  have c8 := k4.gi kC_at1 (by decide) cf0_
  obtain ⟨rfl, ⟨x5, c6, rx5, tx5⟩⟩ := hg7
  have ex5 : x5.toInt = f0_.toInt := by rw [← c8.symm.trans c6]
  refine lv_if_eq (tgt := 9) hx hb dX6_readNumber_4 (by decide) (fun c => absurd c (by decide)) (fun _ => ?_)
  refine lv_iconst (v := (-1)) hx hb dX6_readNumber_7 (by decide) ?_
  exact tk_iret hC hr hlocks hK ⟨hT, hF, ⟨rfl, ⟨f0_, c8, (show 1 ≤ f0_.toInt by omega), (show f0_.toInt ≤ 3205 by omega)⟩⟩⟩ hw dX6_readNumber_8
abbrev P_X7_readLift_1 (ad : Nat → Nat) (cy : Nat → ClassId) (B : Int) (qr : Nat) (s1 : Int)  (w0 : va_W) : va_W → Prop := fun u => TW ksC ad cy B qr s1 u ∧ FE ksC [(6, 1, 1), (6, 3, 3), (6, 4, 4), (7, 11, 11), (27, 0, 13)] w0 u ∧ (((∃ y : Int32, gi u 1 4 = y ∧ 1 ≤ y.toInt ∧ y.toInt ≤ 3205) ∧ (∃ y : Int32, gi u 29 9 = y ∧ 0 ≤ y.toInt ∧ y.toInt ≤ 12) ∧ (∃ y : Int32, gi u 29 11 = y ∧ 0 ≤ y.toInt ∧ y.toInt ≤ 3)) ∨ ((∃ y : Int32, gi u 1 2 = y ∧ 1 ≤ y.toInt ∧ y.toInt ≤ 400) ∧ (∃ y : Int32, gi u 1 3 = y ∧ 0 ≤ y.toInt ∧ y.toInt ≤ 399) ∧ (∃ y : Int32, gi u 1 4 = y ∧ 0 ≤ y.toInt ∧ y.toInt ≤ 0) ∧ (∃ y : Int32, gi u 29 9 = y ∧ 1 ≤ y.toInt ∧ y.toInt ≤ 12) ∧ (∃ y : Int32, gi u 29 11 = y ∧ 1 ≤ y.toInt ∧ y.toInt ≤ 4)))
set_option maxHeartbeats 4000000 in
set_option maxRecDepth 100000 in
theorem k_X7_readLift_1 (l : Launch) (adK adV : Nat → Nat) (dC : Nat → ClassId) (dI : Nat → Nat → Nat) (cy : Nat → ClassId) (ad : Nat → Nat) (B : Int) (hB0 : 2147483648 ≤ B) (hB1 : B ≤ 1152921504606846976) (qr : Nat) (s1 : Int)   (w0 : va_W) (sz : Nat) (hT : TW ksC ad cy B qr s1 w0) (cf0_ : gi w0 1 4 = 0) (f1_ : Int32) (cf1_ : gi w0 29 11 = f1_) (rf1_ : 0 ≤ f1_.toInt) (tf1_ : f1_.toInt ≤ 3) : Met l yX7_readLift wsX7_readLift ({ frames := 3, cells := 0, slots := 0, locals := 57 }) (va_Pc [.ref (ad 29), .ref (ad 1)] (wpreS adK adV dC dI cy sz w0)) (va_Qv (P_X7_readLift_1 ad cy B qr s1  w0) (fun u : va_W => wpost dC dI cy (va_A w0 sz) u) (va_A w0 sz)) 0 0 (va_A w0 sz) := by
  refine Met.ofW (cc := cX7_readLift) (maxL := 5) (ret := none) (by decide) rfl ?_
  intro p e s m args below meth c s₁ Bk hml hv
  obtain ⟨rfl, ⟨hsz, hP, hK, hD0⟩, hE, hSR⟩ := hv
  have hx := Bk.exec
  have hb := Bk.bytes
  have hr := Bk.returns
  have hlocks := Bk.notSynchronized
  have hC : CallFix p m c cX7_readLift 5 s _ wsX7_readLift RX7 := ⟨hx, hb, hml, findClass_of_methodNamed Bk.named, atoms_spec (ws := wsX7_readLift) Bk.pre⟩
  subst hsz
  have hD := hD0.self (sz := s.heap.size)
  generalize hAe : va_A w0 s.heap.size = A at hD hE ⊢
  have hA : ∀ q : Nat, s.heap.size ≤ q → A q := fun q h => by rw [← hAe]; exact Or.inr h
  have hw : Wd dC dI A s.heap s.heap [] w0 := ⟨hP, hD, va_S.rf⟩
  have hF : FE ksC [(6, 1, 1), (6, 3, 3), (6, 4, 4), (7, 11, 11), (27, 0, 13)] w0 w0 := FE.rf
  have hl := lv_entry ([.ref (ad 29), .ref (ad 1)]) (n := 5) (Nat.le_of_ble_eq_true rfl)
  rw [lg_entry_eq]
  generalize (lg_sl ([.ref (ad 29), .ref (ad 1)]) ++ List.replicate (5 - (lg_sl ([.ref (ad 29), .ref (ad 1)])).length) Slot.unset).toArray = ls at hl ⊢
  have hl : lv_has ls 5 [(0, .ref (ad 29)), (1, .ref (ad 1))] := hl
  generalize hloc : ([] : List Loc) = locs at hw ⊢
  have hinX7 : ∀ w ∈ u_ws RX7 TX7 12, w ∈ wsX7_readLift := fun _ h => List.mem_cons_of_mem _ (List.mem_append_left _ (List.mem_append_right _ (h)))
  refine lv_aload_n hx hb dX7_readLift_0 rfl (lv_at hl 1 rfl) ?_
  refine lv_iconst (v := 0) hx hb dX7_readLift_1 (by decide) ?_
  refine lv_aload_n hx hb dX7_readLift_2 rfl (lv_at hl 0 rfl) ?_
  refine tk_geti hC hK hw hT hinX7 kC_at29 (by decide) rfl 9 (by decide) (List.mem_of_getElem? (i := 1) rfl) rfl rfl dX7_readLift_3 (fun x1 c2 rx1 tx1 => ?_)
  refine lv_iconst (v := 1) hx hb dX7_readLift_6 (by decide) ?_
  refine lv_isub hx hb dX7_readLift_7 ?_
  refine lv_topi (fun x3 ex3 => ?_)
  have ex3 : x3.toInt = x1.toInt - (1 : Int) := by rw [ex3]; exact wk_sub (show (-2147483648) ≤ x1.toInt - (1 : Int) by omega) (show x1.toInt - (1 : Int) ≤ 2147483647 by omega)
  refine tk_Vi hC hK hw hT hA hE hSR kC_at1 (by decide) rfl (k_X6_readNumber_10 l adK adV dC dI cy ad B (by omega) (by omega) qr s1   x3 (show (-1) ≤ x3.toInt by omega) (show x3.toInt ≤ 11 by omega) w0 s.heap.size hT cf0_) (cwV 2 hC.2.2.2.2 gX7_readLift_X6_readNumber rfl rfl rfl (by decide +kernel) ⟨Nat.le_of_ble_eq_true rfl, Nat.le_of_ble_eq_true rfl⟩) rfl hl.1 rfl (Nat.le_of_ble_eq_true rfl) dX7_readLift_8 (fun r4 w6 H locs hp5 hw => ?_)
  obtain ⟨hT, k7, hg19⟩ := hp5
  have hF := hF.tr k7 (by decide)
  have c20 := k7.gi kC_at29 (by decide) cf1_
  have c21 := k7.gi kC_at29 (by decide) c2
  rcases hg19 with ⟨g8, g9, g10, ⟨x11, c12, rx11, tx11⟩, ⟨x13, c14, rx13, tx13⟩, ⟨x15, c16, rx15, tx15⟩⟩ | ⟨rfl, ⟨x17, c18, rx17, tx17⟩⟩
  · refine lv_istore_n (lv' := [(2, .int r4), (0, .ref (ad 29)), (1, .ref (ad 1))]) hx hb dX7_readLift_11 rfl hl (by decide) rfl (fun ls hl => ?_)
    refine lv_aload_n hx hb dX7_readLift_12 rfl (lv_at hl 2 rfl) ?_
    refine lv_iconst (v := 0) hx hb dX7_readLift_13 (by decide) ?_
    refine lv_bipush (v := 23) hx hb dX7_readLift_14 (by decide) ?_
    refine tk_Vi hC hK hw hT hA hE hSR kC_at1 (by decide) rfl (k_X6_readNumber_11 l adK adV dC dI cy ad B (by omega) (by omega) qr s1    w6 H.size hT (c16.trans (wk_eq.mpr (show x15.toInt = 0 by omega)))) (cwV 2 hC.2.2.2.2 gX7_readLift_X6_readNumber rfl rfl rfl (by decide +kernel) ⟨Nat.le_of_ble_eq_true rfl, Nat.le_of_ble_eq_true rfl⟩) rfl hl.1 rfl (Nat.le_of_ble_eq_true rfl) dX7_readLift_16 (fun r22 w24 H locs hp23 hw => ?_)
    obtain ⟨hT, k25, hg36⟩ := hp23
    have hF := hF.tr k25 (by decide)
    have c37 := k25.gi kC_at29 (by decide) c20
    have c38 := k25.gi kC_at29 (by decide) c21
    have c39 := k25.gi kC_at1 (by decide) c12
    rcases hg36 with ⟨g26, g27, ⟨x28, c29, rx28, tx28⟩, ⟨x30, c31, rx30, tx30⟩, ⟨x32, c33, rx32, tx32⟩⟩ | ⟨rfl, ⟨x34, c35, rx34, tx34⟩⟩
    · have ex28 : x28.toInt = x11.toInt := by rw [← c39.symm.trans c29]
      refine lv_istore_n (lv' := [(3, .int r22), (2, .int r4), (0, .ref (ad 29)), (1, .ref (ad 1))]) hx hb dX7_readLift_19 rfl hl (by decide) rfl (fun ls hl => ?_)
      refine lv_aload_n hx hb dX7_readLift_20 rfl (lv_at hl 3 rfl) ?_
      refine lv_iload_n hx hb dX7_readLift_21 rfl (lv_at hl 0 rfl) ?_
      refine lv_iconst (v := 1) hx hb dX7_readLift_22 (by decide) ?_
      refine lv_iadd hx hb dX7_readLift_23 ?_
      refine lv_topi (fun x40 ex40 => ?_)
      have ex40 : x40.toInt = r22.toInt + (1 : Int) := by rw [ex40]; exact wk_add (show (-2147483648) ≤ r22.toInt + (1 : Int) by omega) (show r22.toInt + (1 : Int) ≤ 2147483647 by omega)
      refine lv_bipush (v := 24) hx hb dX7_readLift_24 (by decide) ?_
      refine tk_Vi hC hK hw hT hA hE hSR kC_at1 (by decide) rfl (k_X6_readNumber_12 l adK adV dC dI cy ad B (by omega) (by omega) qr s1   x40 (show 1 ≤ x40.toInt by omega) (show x40.toInt ≤ 24 by omega) w24 H.size hT (c33.trans (wk_eq.mpr (show x32.toInt = 0 by omega)))) (cwV 2 hC.2.2.2.2 gX7_readLift_X6_readNumber rfl rfl rfl (by decide +kernel) ⟨Nat.le_of_ble_eq_true rfl, Nat.le_of_ble_eq_true rfl⟩) rfl hl.1 rfl (Nat.le_of_ble_eq_true rfl) dX7_readLift_26 (fun r41 w43 H locs hp42 hw => ?_)
      obtain ⟨hT, k44, hg55⟩ := hp42
      have hF := hF.tr k44 (by decide)
      have c56 := k44.gi kC_at29 (by decide) c37
      have c57 := k44.gi kC_at29 (by decide) c38
      have c58 := k44.gi kC_at1 (by decide) c39
      rcases hg55 with ⟨g45, g46, ⟨x47, c48, rx47, tx47⟩, ⟨x49, c50, rx49, tx49⟩, ⟨x51, c52, rx51, tx51⟩⟩ | ⟨rfl, ⟨x53, c54, rx53, tx53⟩⟩
      · have ex47 : x47.toInt = x11.toInt := by rw [← c58.symm.trans c48]
        refine lv_istore (lv' := [(4, .int r41), (3, .int r22), (2, .int r4), (0, .ref (ad 29)), (1, .ref (ad 1))]) hx hb dX7_readLift_29 hl (by decide) rfl (fun ls hl => ?_)
        refine lv_aload_n hx hb dX7_readLift_31 rfl (lv_at hl 4 rfl) ?_
        refine tk_Vi hC hK hw hT hA hE hSR kC_at1 (by decide) rfl (k_X6_isFaulty_2 l adK adV dC dI cy ad B (by omega) (by omega) qr s1    w43 H.size hT (c52.trans (wk_eq.mpr (show x51.toInt = 0 by omega)))) (cwV 0 hC.2.2.2.2 gX7_readLift_X6_isFaulty rfl rfl rfl (by decide +kernel) ⟨Nat.le_of_ble_eq_true rfl, Nat.le_of_ble_eq_true rfl⟩) rfl hl.1 rfl (Nat.le_of_ble_eq_true rfl) dX7_readLift_32 (fun r59 w61 H locs hp60 hw => ?_)
        obtain ⟨hT, k62, hg65⟩ := hp60
        have hF := hF.tr k62 (by decide)
        have c66 := k62.gi kC_at29 (by decide) c56
        have c67 := k62.gi kC_at29 (by decide) c57
        have c68 := k62.gi kC_at1 (by decide) c58
        have c69 := k62.gi kC_at1 (by decide) c50
        have c70 := k62.gi kC_at1 (by decide) c52
        obtain ⟨rfl, ⟨x63, c64, rx63, tx63⟩⟩ := hg65
        have ex63 : x63.toInt = x51.toInt := by rw [← c70.symm.trans c64]
        refine lv_if_eq (tgt := 39) hx hb dX7_readLift_35 (by decide) (fun _ => ?_) (fun c => absurd (by decide) c)
        refine lv_aload_n hx hb dX7_readLift_39 rfl (lv_at hl 3 rfl) ?_
        refine tk_getO hC hK hw hT hinX7 kC_at29 (by decide) rfl 3 (by decide) (List.mem_of_getElem? (i := 2) rfl) rfl rfl dX7_readLift_40 ?_
        refine lv_iload_n hx hb dX7_readLift_43 rfl (lv_at hl 2 rfl) ?_
        refine lv_dup2_11 hx hb dX7_readLift_44 rfl rfl ?_
        refine tk_iald hC hK hw hT kC_at33 rfl rfl (show 0 ≤ r4.toInt by omega) (show r4.toInt < 13 by omega) dX7_readLift_45 (fun x71 c72 rx71 tx71 => ?_)
        refine lv_iconst (v := 1) hx hb dX7_readLift_46 (by decide) ?_
        refine lv_iload hx hb dX7_readLift_47 (lv_at hl 0 rfl) ?_
        refine lv_ishl hx hb dX7_readLift_49 ?_
        refine lv_topi (fun x73 ex73 => ?_)
        have bx73 : 1 ≤ x73.toInt ∧ x73.toInt ≤ 16777216 := by rw [ex73]; exact wk_shl1 24 (by decide) (by omega) (by omega)
        refine lv_iconst (v := 1) hx hb dX7_readLift_50 (by decide) ?_
        refine lv_iload_n hx hb dX7_readLift_51 rfl (lv_at hl 1 rfl) ?_
        refine lv_ishl hx hb dX7_readLift_52 ?_
        refine lv_topi (fun x74 ex74 => ?_)
        have bx74 : 1 ≤ x74.toInt ∧ x74.toInt ≤ 8388608 := by rw [ex74]; exact wk_shl1 23 (by decide) (by omega) (by omega)
        refine lv_isub hx hb dX7_readLift_53 ?_
        refine lv_topi (fun x75 ex75 => ?_)
        have ex75 : x75.toInt = x73.toInt - x74.toInt := by rw [ex75]; exact wk_sub (show (-2147483648) ≤ x73.toInt - x74.toInt by omega) (show x73.toInt - x74.toInt ≤ 2147483647 by omega)
        refine lv_ior hx hb dX7_readLift_54 ?_
        refine lv_topi (fun x76 ex76 => ?_)
        refine tk_iast hC hK hw hT kC_at33 (by decide) rfl rfl (show 0 ≤ r4.toInt by omega) (show r4.toInt < 13 by omega) (wk_i32 x76).1 (wk_i32 x76).2 dX7_readLift_55 (fun H locs w77 hw hT k79 c78 => ?_)
        have hF := hF.put kC_at33 (inE_of (a := 0) (b := 13) (by decide) (show 0 ≤ r4.toInt.toNat by omega) (show r4.toInt.toNat ≤ 13 by omega)) k79
        have c80 := k79.gi (Or.inl (tk_ne kC_at29 kC_at33 (by decide))) c66
        have c81 := k79.gi (Or.inl (tk_ne kC_at29 kC_at33 (by decide))) c67
        have c82 := k79.gi (Or.inl (tk_ne kC_at1 kC_at33 (by decide))) c68
        have c83 := k79.gi (Or.inl (tk_ne kC_at1 kC_at33 (by decide))) c69
        have c84 := k79.gi (Or.inl (tk_ne kC_at1 kC_at33 (by decide))) c70
        refine lv_aload_n hx hb dX7_readLift_56 rfl (lv_at hl 3 rfl) ?_
        refine lv_dup hx hb dX7_readLift_57 rfl ?_
        refine tk_geti hC hK hw hT hinX7 kC_at29 (by decide) rfl 11 (by decide) (List.mem_of_getElem? (i := 3) rfl) rfl rfl dX7_readLift_58 (fun x85 c86 rx85 tx85 => ?_)
        refine wk_top f1_ (c86.symm.trans c80) ?_
        refine lv_iconst (v := 1) hx hb dX7_readLift_61 (by decide) ?_
        refine lv_iadd hx hb dX7_readLift_62 ?_
        refine lv_topi (fun x87 ex87 => ?_)
        have ex87 : x87.toInt = f1_.toInt + (1 : Int) := by rw [ex87]; exact wk_add (show (-2147483648) ≤ f1_.toInt + (1 : Int) by omega) (show f1_.toInt + (1 : Int) ≤ 2147483647 by omega)
        refine tk_puti hC hK hw hT hinX7 tyX7_ok nmX7 kC_at29 (by decide) rfl rfl 11 (by decide) (List.mem_of_getElem? (i := 3) rfl) rfl rfl rfl rfl (show 0 ≤ x87.toInt by omega) (show x87.toInt ≤ 4 by omega) dX7_readLift_63 (fun H locs w88 hw hT k90 c89 => ?_)
        have hF := hF.put kC_at29 (k := 11) (by decide) k90
        have c91 := k90.gi (Or.inr (by decide)) c81
        have c92 := k90.gi (Or.inr (by decide)) c82
        have c93 := k90.gi (Or.inr (by decide)) c83
        have c94 := k90.gi (Or.inr (by decide)) c84
        exact tk_vret hC hr hlocks hK ⟨hT, hF, (Or.inr ⟨⟨x11, c92, (show 1 ≤ x11.toInt by omega), (show x11.toInt ≤ 400 by omega)⟩, ⟨x49, c93, (show 0 ≤ x49.toInt by omega), (show x49.toInt ≤ 399 by omega)⟩, ⟨x51, c94, (show 0 ≤ x51.toInt by omega), (show x51.toInt ≤ 0 by omega)⟩, ⟨x1, c91, (show 1 ≤ x1.toInt by omega), (show x1.toInt ≤ 12 by omega)⟩, ⟨x87, c89, (show 1 ≤ x87.toInt by omega), (show x87.toInt ≤ 4 by omega)⟩⟩)⟩ hw dX7_readLift_66
      · refine lv_istore (lv' := [(4, .int (-1)), (3, .int r22), (2, .int r4), (0, .ref (ad 29)), (1, .ref (ad 1))]) hx hb dX7_readLift_29 hl (by decide) rfl (fun ls hl => ?_)
        refine lv_aload_n hx hb dX7_readLift_31 rfl (lv_at hl 4 rfl) ?_
        refine tk_Vi hC hK hw hT hA hE hSR kC_at1 (by decide) rfl (k_X6_isFaulty_3 l adK adV dC dI cy ad B (by omega) (by omega) qr s1    w43 H.size hT x53 c54 (show 1 ≤ x53.toInt by omega) (show x53.toInt ≤ 3205 by omega)) (cwV 0 hC.2.2.2.2 gX7_readLift_X6_isFaulty rfl rfl rfl (by decide +kernel) ⟨Nat.le_of_ble_eq_true rfl, Nat.le_of_ble_eq_true rfl⟩) rfl hl.1 rfl (Nat.le_of_ble_eq_true rfl) dX7_readLift_32 (fun r95 w97 H locs hp96 hw => ?_)
        obtain ⟨hT, k98, hg101⟩ := hp96
        have hF := hF.tr k98 (by decide)
        have c102 := k98.gi kC_at29 (by decide) c56
        have c103 := k98.gi kC_at29 (by decide) c57
        have c104 := k98.gi kC_at1 (by decide) c58
        have c105 := k98.gi kC_at1 (by decide) c54
        obtain ⟨rfl, ⟨x99, c100, rx99, tx99⟩⟩ := hg101
        have ex99 : x99.toInt = x53.toInt := by rw [← c105.symm.trans c100]
        refine lv_if_eq (tgt := 39) hx hb dX7_readLift_35 (by decide) (fun c => absurd c (by decide)) (fun _ => ?_)
        exact tk_vret hC hr hlocks hK ⟨hT, hF, (Or.inl ⟨⟨x53, c105, (show 1 ≤ x53.toInt by omega), (show x53.toInt ≤ 3205 by omega)⟩, ⟨x1, c103, (show 0 ≤ x1.toInt by omega), (show x1.toInt ≤ 12 by omega)⟩, ⟨f1_, c102, (show 0 ≤ f1_.toInt by omega), (show f1_.toInt ≤ 3 by omega)⟩⟩)⟩ hw dX7_readLift_38
    · refine lv_istore_n (lv' := [(3, .int (-1)), (2, .int r4), (0, .ref (ad 29)), (1, .ref (ad 1))]) hx hb dX7_readLift_19 rfl hl (by decide) rfl (fun ls hl => ?_)
      refine lv_aload_n hx hb dX7_readLift_20 rfl (lv_at hl 3 rfl) ?_
      refine lv_iload_n hx hb dX7_readLift_21 rfl (lv_at hl 0 rfl) ?_
      refine lv_iconst (v := 1) hx hb dX7_readLift_22 (by decide) ?_
      refine lv_iadd hx hb dX7_readLift_23 ?_
      refine wk_top 0 (by decide) ?_
      refine lv_bipush (v := 24) hx hb dX7_readLift_24 (by decide) ?_
      refine tk_Vi hC hK hw hT hA hE hSR kC_at1 (by decide) rfl (k_X6_readNumber_13 l adK adV dC dI cy ad B (by omega) (by omega) qr s1    w24 H.size hT x34 c35 (show 1 ≤ x34.toInt by omega) (show x34.toInt ≤ 3205 by omega)) (cwV 2 hC.2.2.2.2 gX7_readLift_X6_readNumber rfl rfl rfl (by decide +kernel) ⟨Nat.le_of_ble_eq_true rfl, Nat.le_of_ble_eq_true rfl⟩) rfl hl.1 rfl (Nat.le_of_ble_eq_true rfl) dX7_readLift_26 (fun r106 w108 H locs hp107 hw => ?_)
      obtain ⟨hT, k109, hg112⟩ := hp107
      have hF := hF.tr k109 (by decide)
      have c113 := k109.gi kC_at29 (by decide) c37
      have c114 := k109.gi kC_at29 (by decide) c38
      have c115 := k109.gi kC_at1 (by decide) c39
      have c116 := k109.gi kC_at1 (by decide) c35
      obtain ⟨rfl, ⟨x110, c111, rx110, tx110⟩⟩ := hg112
      have ex110 : x110.toInt = x34.toInt := by rw [← c116.symm.trans c111]
      refine lv_istore (lv' := [(4, .int (-1)), (3, .int (-1)), (2, .int r4), (0, .ref (ad 29)), (1, .ref (ad 1))]) hx hb dX7_readLift_29 hl (by decide) rfl (fun ls hl => ?_)
      refine lv_aload_n hx hb dX7_readLift_31 rfl (lv_at hl 4 rfl) ?_
      refine tk_Vi hC hK hw hT hA hE hSR kC_at1 (by decide) rfl (k_X6_isFaulty_3 l adK adV dC dI cy ad B (by omega) (by omega) qr s1    w108 H.size hT x34 c116 (show 1 ≤ x34.toInt by omega) (show x34.toInt ≤ 3205 by omega)) (cwV 0 hC.2.2.2.2 gX7_readLift_X6_isFaulty rfl rfl rfl (by decide +kernel) ⟨Nat.le_of_ble_eq_true rfl, Nat.le_of_ble_eq_true rfl⟩) rfl hl.1 rfl (Nat.le_of_ble_eq_true rfl) dX7_readLift_32 (fun r117 w119 H locs hp118 hw => ?_)
      obtain ⟨hT, k120, hg123⟩ := hp118
      have hF := hF.tr k120 (by decide)
      have c124 := k120.gi kC_at29 (by decide) c113
      have c125 := k120.gi kC_at29 (by decide) c114
      have c126 := k120.gi kC_at1 (by decide) c115
      have c127 := k120.gi kC_at1 (by decide) c116
      obtain ⟨rfl, ⟨x121, c122, rx121, tx121⟩⟩ := hg123
      have ex121 : x121.toInt = x34.toInt := by rw [← c127.symm.trans c122]
      refine lv_if_eq (tgt := 39) hx hb dX7_readLift_35 (by decide) (fun c => absurd c (by decide)) (fun _ => ?_)
      exact tk_vret hC hr hlocks hK ⟨hT, hF, (Or.inl ⟨⟨x34, c127, (show 1 ≤ x34.toInt by omega), (show x34.toInt ≤ 3205 by omega)⟩, ⟨x1, c125, (show 0 ≤ x1.toInt by omega), (show x1.toInt ≤ 12 by omega)⟩, ⟨f1_, c124, (show 0 ≤ f1_.toInt by omega), (show f1_.toInt ≤ 3 by omega)⟩⟩)⟩ hw dX7_readLift_38
  · refine lv_istore_n (lv' := [(2, .int (-1)), (0, .ref (ad 29)), (1, .ref (ad 1))]) hx hb dX7_readLift_11 rfl hl (by decide) rfl (fun ls hl => ?_)
    refine lv_aload_n hx hb dX7_readLift_12 rfl (lv_at hl 2 rfl) ?_
    refine lv_iconst (v := 0) hx hb dX7_readLift_13 (by decide) ?_
    refine lv_bipush (v := 23) hx hb dX7_readLift_14 (by decide) ?_
    refine tk_Vi hC hK hw hT hA hE hSR kC_at1 (by decide) rfl (k_X6_readNumber_14 l adK adV dC dI cy ad B (by omega) (by omega) qr s1    w6 H.size hT x17 c18 (show 1 ≤ x17.toInt by omega) (show x17.toInt ≤ 3205 by omega)) (cwV 2 hC.2.2.2.2 gX7_readLift_X6_readNumber rfl rfl rfl (by decide +kernel) ⟨Nat.le_of_ble_eq_true rfl, Nat.le_of_ble_eq_true rfl⟩) rfl hl.1 rfl (Nat.le_of_ble_eq_true rfl) dX7_readLift_16 (fun r128 w130 H locs hp129 hw => ?_)
    obtain ⟨hT, k131, hg134⟩ := hp129
    have hF := hF.tr k131 (by decide)
    have c135 := k131.gi kC_at29 (by decide) c20
    have c136 := k131.gi kC_at29 (by decide) c21
    have c137 := k131.gi kC_at1 (by decide) c18
    obtain ⟨rfl, ⟨x132, c133, rx132, tx132⟩⟩ := hg134
    have ex132 : x132.toInt = x17.toInt := by rw [← c137.symm.trans c133]
    refine lv_istore_n (lv' := [(3, .int (-1)), (2, .int (-1)), (0, .ref (ad 29)), (1, .ref (ad 1))]) hx hb dX7_readLift_19 rfl hl (by decide) rfl (fun ls hl => ?_)
    refine lv_aload_n hx hb dX7_readLift_20 rfl (lv_at hl 3 rfl) ?_
    refine lv_iload_n hx hb dX7_readLift_21 rfl (lv_at hl 0 rfl) ?_
    refine lv_iconst (v := 1) hx hb dX7_readLift_22 (by decide) ?_
    refine lv_iadd hx hb dX7_readLift_23 ?_
    refine wk_top 0 (by decide) ?_
    refine lv_bipush (v := 24) hx hb dX7_readLift_24 (by decide) ?_
    refine tk_Vi hC hK hw hT hA hE hSR kC_at1 (by decide) rfl (k_X6_readNumber_13 l adK adV dC dI cy ad B (by omega) (by omega) qr s1    w130 H.size hT x17 c137 (show 1 ≤ x17.toInt by omega) (show x17.toInt ≤ 3205 by omega)) (cwV 2 hC.2.2.2.2 gX7_readLift_X6_readNumber rfl rfl rfl (by decide +kernel) ⟨Nat.le_of_ble_eq_true rfl, Nat.le_of_ble_eq_true rfl⟩) rfl hl.1 rfl (Nat.le_of_ble_eq_true rfl) dX7_readLift_26 (fun r138 w140 H locs hp139 hw => ?_)
    obtain ⟨hT, k141, hg144⟩ := hp139
    have hF := hF.tr k141 (by decide)
    have c145 := k141.gi kC_at29 (by decide) c135
    have c146 := k141.gi kC_at29 (by decide) c136
    have c147 := k141.gi kC_at1 (by decide) c137
    obtain ⟨rfl, ⟨x142, c143, rx142, tx142⟩⟩ := hg144
    have ex142 : x142.toInt = x17.toInt := by rw [← c147.symm.trans c143]
    refine lv_istore (lv' := [(4, .int (-1)), (3, .int (-1)), (2, .int (-1)), (0, .ref (ad 29)), (1, .ref (ad 1))]) hx hb dX7_readLift_29 hl (by decide) rfl (fun ls hl => ?_)
    refine lv_aload_n hx hb dX7_readLift_31 rfl (lv_at hl 4 rfl) ?_
    refine tk_Vi hC hK hw hT hA hE hSR kC_at1 (by decide) rfl (k_X6_isFaulty_3 l adK adV dC dI cy ad B (by omega) (by omega) qr s1    w140 H.size hT x17 c147 (show 1 ≤ x17.toInt by omega) (show x17.toInt ≤ 3205 by omega)) (cwV 0 hC.2.2.2.2 gX7_readLift_X6_isFaulty rfl rfl rfl (by decide +kernel) ⟨Nat.le_of_ble_eq_true rfl, Nat.le_of_ble_eq_true rfl⟩) rfl hl.1 rfl (Nat.le_of_ble_eq_true rfl) dX7_readLift_32 (fun r148 w150 H locs hp149 hw => ?_)
    obtain ⟨hT, k151, hg154⟩ := hp149
    have hF := hF.tr k151 (by decide)
    have c155 := k151.gi kC_at29 (by decide) c145
    have c156 := k151.gi kC_at29 (by decide) c146
    have c157 := k151.gi kC_at1 (by decide) c147
    obtain ⟨rfl, ⟨x152, c153, rx152, tx152⟩⟩ := hg154
    have ex152 : x152.toInt = x17.toInt := by rw [← c157.symm.trans c153]
    refine lv_if_eq (tgt := 39) hx hb dX7_readLift_35 (by decide) (fun c => absurd c (by decide)) (fun _ => ?_)
    exact tk_vret hC hr hlocks hK ⟨hT, hF, (Or.inl ⟨⟨x17, c157, (show 1 ≤ x17.toInt by omega), (show x17.toInt ≤ 3205 by omega)⟩, ⟨x1, c156, (show 0 ≤ x1.toInt by omega), (show x1.toInt ≤ 12 by omega)⟩, ⟨f1_, c155, (show 0 ≤ f1_.toInt by omega), (show f1_.toInt ≤ 3 by omega)⟩⟩)⟩ hw dX7_readLift_38
