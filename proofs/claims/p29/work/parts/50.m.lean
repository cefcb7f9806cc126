abbrev P_X12_takesStreet_2 (ad : Nat → Nat) (cy : Nat → ClassId) (B : Int) (qr : Nat) (s1 : Int) (a2 : Int32) (w0 : va_W) : va_W → Prop := fun u => TW ksM ad cy (B + 9) qr 12 u ∧ FE ksM [(71, 216, 216), (71, 220, 220), (71, 223, 223)] w0 u ∧ (((∃ y : Int32, gi u 12 223 = y ∧ 0 ≤ y.toInt ∧ y.toInt ≤ 9)))
set_option maxHeartbeats 4000000 in
set_option maxRecDepth 100000 in
theorem k_X12_takesStreet_2 (l : Launch) (adK adV : Nat → Nat) (dC : Nat → ClassId) (dI : Nat → Nat → Nat) (cy : Nat → ClassId) (ad : Nat → Nat) (B : Int) (hB0 : 100000 ≤ B) (hB1 : B ≤ 1073741824) (qr : Nat) (s1 : Int)  (a2 : Int32) (ra2 : 0 ≤ a2.toInt) (ta2 : a2.toInt ≤ 11) (w0 : va_W) (sz : Nat) (hT : TW ksM ad cy B qr 12 w0)  : Met l yX12_takesStreet wsX12_takesStreet ({ frames := 3, cells := 0, slots := 0, locals := 56 }) (va_Pc [.ref (ad 0), .int 0, .int a2] (wpreS adK adV dC dI cy sz w0)) (va_Qv (P_X12_takesStreet_2 ad cy B qr s1 a2 w0) (fun u : va_W => wpost dC dI cy (va_A w0 sz) u) (va_A w0 sz)) 0 0 (va_A w0 sz) := by
  refine Met.ofW (cc := cX12_takesStreet) (maxL := 5) (ret := none) (by decide) rfl ?_
  intro p e s m args below meth c s₁ Bk hml hv
  obtain ⟨rfl, ⟨hsz, hP, hK, hD0⟩, hE, hSR⟩ := hv
  have hx := Bk.exec
  have hb := Bk.bytes
  have hr := Bk.returns
  have hlocks := Bk.notSynchronized
  have hC : CallFix p m c cX12_takesStreet 5 s _ wsX12_takesStreet RX12 := ⟨hx, hb, hml, findClass_of_methodNamed Bk.named, atoms_spec (ws := wsX12_takesStreet) Bk.pre⟩
  subst hsz
  have hD := hD0.self (sz := s.heap.size)
  generalize hAe : va_A w0 s.heap.size = A at hD hE ⊢
  have hA : ∀ q : Nat, s.heap.size ≤ q → A q := fun q h => by rw [← hAe]; exact Or.inr h
  have hw : Wd dC dI A s.heap s.heap [] w0 := ⟨hP, hD, va_S.rf⟩
  have hF : FE ksM [(71, 216, 216), (71, 220, 220), (71, 223, 223)] w0 w0 := FE.rf
  have hl := lv_entry ([.ref (ad 0), .int 0, .int a2]) (n := 5) (Nat.le_of_ble_eq_true rfl)
  rw [lg_entry_eq]
  generalize (lg_sl ([.ref (ad 0), .int 0, .int a2]) ++ List.replicate (5 - (lg_sl ([.ref (ad 0), .int 0, .int a2])).length) Slot.unset).toArray = ls at hl ⊢
  have hl : lv_has ls 5 [(0, .ref (ad 0)), (1, .int 0), (2, .int a2)] := hl
  generalize hloc : ([] : List Loc) = locs at hw ⊢
  have hinX12 : ∀ w ∈ u_ws RX12 TX12 42, w ∈ wsX12_takesStreet := fun _ h => List.mem_cons_of_mem _ (List.mem_append_right _ (h))
  refine lv_sipush (v := 216) hx hb dX12_takesStreet_0 (by decide) ?_
  refine lv_bipush (v := 9) hx hb dX12_takesStreet_3 (by decide) ?_
  refine lv_iload_n hx hb dX12_takesStreet_5 rfl (lv_at hl 1 rfl) ?_
  refine lv_imul hx hb dX12_takesStreet_6 ?_
  refine wk_top 0 (by decide) ?_
  refine lv_iadd hx hb dX12_takesStreet_7 ?_
  refine wk_top 216 (by decide) ?_
  refine lv_istore_n (lv' := [(3, .int 216), (0, .ref (ad 0)), (1, .int 0), (2, .int a2)]) hx hb dX12_takesStreet_8 rfl hl (by decide) rfl (fun ls hl => ?_)
  refine lv_aload_n hx hb dX12_takesStreet_9 rfl (lv_at hl 1 rfl) ?_
  refine tk_getA hC hK hw hT hinX12 kM_at0 (by decide) rfl 26 (by decide) (List.mem_of_getElem? (i := 1) rfl) rfl rfl dX12_takesStreet_10 ?_
  refine lv_iload_n hx hb dX12_takesStreet_13 rfl (lv_at hl 0 rfl) ?_
  refine tk_ialdR hC hK hw hT kM_at12 rfl (by decide) (by decide) dX12_takesStreet_14 (fun x1 c2 Ex1 => ?_)
  have bx1 := tk_rgI rfl 216 1 1 0 9 (by decide +kernel) ⟨0, by decide, by decide⟩ Ex1
  have c2 : gi w0 12 216 = x1 := c2
  refine lv_istore (lv' := [(4, .int x1), (3, .int 216), (0, .ref (ad 0)), (1, .int 0), (2, .int a2)]) hx hb dX12_takesStreet_15 hl (by decide) rfl (fun ls hl => ?_)
  refine lv_aload_n hx hb dX12_takesStreet_17 rfl (lv_at hl 2 rfl) ?_
  refine tk_getA hC hK hw hT hinX12 kM_at0 (by decide) rfl 26 (by decide) (List.mem_of_getElem? (i := 1) rfl) rfl rfl dX12_takesStreet_18 ?_
  refine lv_iload_n hx hb dX12_takesStreet_21 rfl (lv_at hl 1 rfl) ?_
  refine lv_aload_n hx hb dX12_takesStreet_22 rfl (lv_at hl 2 rfl) ?_
  refine lv_iload_n hx hb dX12_takesStreet_23 rfl (lv_at hl 4 rfl) ?_
  refine lv_iload hx hb dX12_takesStreet_24 (lv_at hl 0 rfl) ?_
  refine tk_Vi hC hK hw hT hA hE hSR kM_at0 (by decide) rfl (k_X12_otherOf_1 l adK adV dC dI cy ad B (by omega) (by omega) qr s1   a2 (show 0 ≤ a2.toInt by omega) (show a2.toInt ≤ 11 by omega) x1 (show 0 ≤ x1.toInt by omega) (show x1.toInt ≤ 9 by omega) w0 s.heap.size hT ) (cwV 2 hC.2.2.2.2 gX12_takesStreet_X12_otherOf rfl rfl rfl (by decide +kernel) ⟨Nat.le_of_ble_eq_true rfl, Nat.le_of_ble_eq_true rfl⟩) rfl hl.1 rfl (Nat.le_of_ble_eq_true rfl) dX12_takesStreet_26 (fun r3 w5 H locs hp4 hw => ?_)
  obtain ⟨rfl, hg12⟩ := hp4
  rcases hg12 with ⟨g7, g8⟩ | ⟨g9, g10, c11⟩
  · refine tk_iastR hC hK hw hT kM_at12 (by decide) rfl (by decide) (by decide) (tk_rgS rfl 216 1 1 0 9 (by decide +kernel) ⟨0, by decide, by decide⟩ (show 0 ≤ r3.toInt by omega) (show r3.toInt ≤ 9 by omega)) dX12_takesStreet_29 (fun H locs w13 hw hT k15 c14 => ?_)
    have hF := hF.put kM_at12 (inE_of (a := 216) (b := 216) (by decide) (by decide) (by decide)) k15
    have c14 : gi w13 12 216 = r3 := c14
    refine lv_aload_n hx hb dX12_takesStreet_30 rfl (lv_at hl 2 rfl) ?_
    refine tk_getA hC hK hw hT hinX12 kM_at0 (by decide) rfl 26 (by decide) (List.mem_of_getElem? (i := 1) rfl) rfl rfl dX12_takesStreet_31 ?_
    refine lv_iload_n hx hb dX12_takesStreet_34 rfl (lv_at hl 1 rfl) ?_
    refine lv_bipush (v := 7) hx hb dX12_takesStreet_35 (by decide) ?_
    refine lv_iadd hx hb dX12_takesStreet_37 ?_
    refine wk_top 223 (by decide) ?_
    refine lv_iload hx hb dX12_takesStreet_38 (lv_at hl 0 rfl) ?_
    refine tk_iastR hC hK hw hT kM_at12 (by decide) rfl (by decide) (by decide) (tk_rgS rfl 223 1 1 0 9 (by decide +kernel) ⟨0, by decide, by decide⟩ (show 0 ≤ x1.toInt by omega) (show x1.toInt ≤ 9 by omega)) dX12_takesStreet_40 (fun H locs w16 hw hT k18 c17 => ?_)
    have hF := hF.put kM_at12 (inE_of (a := 223) (b := 223) (by decide) (by decide) (by decide)) k18
    have c19 := k18.gi (Or.inr (by decide)) c14
    have c17 : gi w16 12 223 = x1 := c17
    refine lv_aload_n hx hb dX12_takesStreet_41 rfl (lv_at hl 2 rfl) ?_
    refine tk_getA hC hK hw hT hinX12 kM_at0 (by decide) rfl 26 (by decide) (List.mem_of_getElem? (i := 1) rfl) rfl rfl dX12_takesStreet_42 ?_
    refine lv_iload_n hx hb dX12_takesStreet_45 rfl (lv_at hl 1 rfl) ?_
    refine lv_iconst (v := 4) hx hb dX12_takesStreet_46 (by decide) ?_
    refine lv_iadd hx hb dX12_takesStreet_47 ?_
    refine wk_top 220 (by decide) ?_
    refine lv_dup2_11 hx hb dX12_takesStreet_48 rfl rfl ?_
    refine tk_ialdR hC hK hw hT kM_at12 rfl (by decide) (by decide) dX12_takesStreet_49 (fun x20 c21 Ex20 => ?_)
    have bx20 := (tk_rgB rfl 220 1 1 (by decide +kernel) ⟨0, by decide, by decide⟩).mp Ex20
    have c21 : gi w16 12 220 = x20 := c21
    refine lv_aload_n hx hb dX12_takesStreet_50 rfl (lv_at hl 2 rfl) ?_
    refine lv_iload_n hx hb dX12_takesStreet_51 rfl (lv_at hl 4 rfl) ?_
    refine lv_iconst (v := 2) hx hb dX12_takesStreet_52 (by decide) ?_
    refine tk_Vi hC hK hw hT hA hE hSR kM_at0 (by decide) rfl (k_X12_streetOf_6 l adK adV dC dI cy ad B (by omega) (by omega) qr s1   a2 (show 0 ≤ a2.toInt by omega) (show a2.toInt ≤ 11 by omega) w16 H.size hT ) (cwV 2 hC.2.2.2.2 gX12_takesStreet_X12_streetOf rfl rfl rfl (by decide +kernel) ⟨Nat.le_of_ble_eq_true rfl, Nat.le_of_ble_eq_true rfl⟩) rfl hl.1 rfl (Nat.le_of_ble_eq_true rfl) dX12_takesStreet_53 (fun r22 w24 H locs hp23 hw => ?_)
    obtain ⟨rfl, hg29⟩ := hp23
    obtain ⟨g26, g27, c28⟩ := hg29
    refine lv_iadd hx hb dX12_takesStreet_56 ?_
    refine lv_topi (fun x30 ex30 => ?_)
    have ex30 : x30.toInt = x20.toInt + r22.toInt := by rw [ex30]; exact wk_add (show (-2147483648) ≤ x20.toInt + r22.toInt by omega) (show x20.toInt + r22.toInt ≤ 2147483647 by omega)
    have hT := hT.up (show B ≤ (B + 9) by omega)
    refine tk_iastR hC hK hw hT kM_at12 (by decide) rfl (by decide) (by decide) ((tk_rgB rfl 220 1 1 (by decide +kernel) ⟨0, by decide, by decide⟩).mpr ⟨(show 0 ≤ x30.toInt by omega), (show x30.toInt ≤ (B + 9) by omega)⟩) dX12_takesStreet_57 (fun H locs w31 hw hT k33 c32 => ?_)
    have hF := hF.put kM_at12 (inE_of (a := 220) (b := 220) (by decide) (by decide) (by decide)) k33
    have c34 := k33.gi (Or.inr (by decide)) c19
    have c35 := k33.gi (Or.inr (by decide)) c17
    have c32 : gi w31 12 220 = x30 := c32
    exact tk_vret hC hr hlocks hK ⟨hT, hF, ⟨x1, c35, (show 0 ≤ x1.toInt by omega), (show x1.toInt ≤ 9 by omega)⟩⟩ hw dX12_takesStreet_58
  · refine tk_iastR hC hK hw hT kM_at12 (by decide) rfl (by decide) (by decide) (tk_rgS rfl 216 1 1 0 9 (by decide +kernel) ⟨0, by decide, by decide⟩ (show 0 ≤ r3.toInt by omega) (show r3.toInt ≤ 9 by omega)) dX12_takesStreet_29 (fun H locs w36 hw hT k38 c37 => ?_)
    have hF := hF.put kM_at12 (inE_of (a := 216) (b := 216) (by decide) (by decide) (by decide)) k38
    have c37 : gi w36 12 216 = r3 := c37
    refine lv_aload_n hx hb dX12_takesStreet_30 rfl (lv_at hl 2 rfl) ?_
    refine tk_getA hC hK hw hT hinX12 kM_at0 (by decide) rfl 26 (by decide) (List.mem_of_getElem? (i := 1) rfl) rfl rfl dX12_takesStreet_31 ?_
    refine lv_iload_n hx hb dX12_takesStreet_34 rfl (lv_at hl 1 rfl) ?_
    refine lv_bipush (v := 7) hx hb dX12_takesStreet_35 (by decide) ?_
    refine lv_iadd hx hb dX12_takesStreet_37 ?_
    refine wk_top 223 (by decide) ?_
    refine lv_iload hx hb dX12_takesStreet_38 (lv_at hl 0 rfl) ?_
    refine tk_iastR hC hK hw hT kM_at12 (by decide) rfl (by decide) (by decide) (tk_rgS rfl 223 1 1 0 9 (by decide +kernel) ⟨0, by decide, by decide⟩ (show 0 ≤ x1.toInt by omega) (show x1.toInt ≤ 9 by omega)) dX12_takesStreet_40 (fun H locs w39 hw hT k41 c40 => ?_)
    have hF := hF.put kM_at12 (inE_of (a := 223) (b := 223) (by decide) (by decide) (by decide)) k41
    have c42 := k41.gi (Or.inr (by decide)) c37
    have c40 : gi w39 12 223 = x1 := c40
    refine lv_aload_n hx hb dX12_takesStreet_41 rfl (lv_at hl 2 rfl) ?_
    refine tk_getA hC hK hw hT hinX12 kM_at0 (by decide) rfl 26 (by decide) (List.mem_of_getElem? (i := 1) rfl) rfl rfl dX12_takesStreet_42 ?_
    refine lv_iload_n hx hb dX12_takesStreet_45 rfl (lv_at hl 1 rfl) ?_
    refine lv_iconst (v := 4) hx hb dX12_takesStreet_46 (by decide) ?_
    refine lv_iadd hx hb dX12_takesStreet_47 ?_
    refine wk_top 220 (by decide) ?_
    refine lv_dup2_11 hx hb dX12_takesStreet_48 rfl rfl ?_
    refine tk_ialdR hC hK hw hT kM_at12 rfl (by decide) (by decide) dX12_takesStreet_49 (fun x43 c44 Ex43 => ?_)
    have bx43 := (tk_rgB rfl 220 1 1 (by decide +kernel) ⟨0, by decide, by decide⟩).mp Ex43
    have c44 : gi w39 12 220 = x43 := c44
    refine lv_aload_n hx hb dX12_takesStreet_50 rfl (lv_at hl 2 rfl) ?_
    refine lv_iload_n hx hb dX12_takesStreet_51 rfl (lv_at hl 4 rfl) ?_
    refine lv_iconst (v := 2) hx hb dX12_takesStreet_52 (by decide) ?_
    refine tk_Vi hC hK hw hT hA hE hSR kM_at0 (by decide) rfl (k_X12_streetOf_6 l adK adV dC dI cy ad B (by omega) (by omega) qr s1   a2 (show 0 ≤ a2.toInt by omega) (show a2.toInt ≤ 11 by omega) w39 H.size hT ) (cwV 2 hC.2.2.2.2 gX12_takesStreet_X12_streetOf rfl rfl rfl (by decide +kernel) ⟨Nat.le_of_ble_eq_true rfl, Nat.le_of_ble_eq_true rfl⟩) rfl hl.1 rfl (Nat.le_of_ble_eq_true rfl) dX12_takesStreet_53 (fun r45 w47 H locs hp46 hw => ?_)
    obtain ⟨rfl, hg52⟩ := hp46
    obtain ⟨g49, g50, c51⟩ := hg52
    refine lv_iadd hx hb dX12_takesStreet_56 ?_
    refine lv_topi (fun x53 ex53 => ?_)
    have ex53 : x53.toInt = x43.toInt + r45.toInt := by rw [ex53]; exact wk_add (show (-2147483648) ≤ x43.toInt + r45.toInt by omega) (show x43.toInt + r45.toInt ≤ 2147483647 by omega)
    have hT := hT.up (show B ≤ (B + 9) by omega)
    refine tk_iastR hC hK hw hT kM_at12 (by decide) rfl (by decide) (by decide) ((tk_rgB rfl 220 1 1 (by decide +kernel) ⟨0, by decide, by decide⟩).mpr ⟨(show 0 ≤ x53.toInt by omega), (show x53.toInt ≤ (B + 9) by omega)⟩) dX12_takesStreet_57 (fun H locs w54 hw hT k56 c55 => ?_)
    have hF := hF.put kM_at12 (inE_of (a := 220) (b := 220) (by decide) (by decide) (by decide)) k56
    have c57 := k56.gi (Or.inr (by decide)) c42
    have c58 := k56.gi (Or.inr (by decide)) c40
    have c55 : gi w54 12 220 = x53 := c55
    exact tk_vret hC hr hlocks hK ⟨hT, hF, ⟨x1, c58, (show 0 ≤ x1.toInt by omega), (show x1.toInt ≤ 9 by omega)⟩⟩ hw dX12_takesStreet_58
abbrev P_X12_count_1 (ad : Nat → Nat) (cy : Nat → ClassId) (B : Int) (qr : Nat) (s1 : Int) (a1 : Int32) (w0 : va_W) : Int32 → va_W → Prop := fun r u => w0 = u ∧ ((0 ≤ r.toInt ∧ 0 ≤ a1.toInt ∧ a1.toInt ≤ 10) ∨ (0 ≤ r.toInt ∧ r.toInt ≤ 400 ∧ 11 ≤ a1.toInt ∧ a1.toInt ≤ 11 ∧ (∃ y : Int32, gi u 0 1 = y ∧ 0 ≤ y.toInt ∧ y.toInt ≤ 400)) ∨ (r = (-1)))
set_option maxHeartbeats 4000000 in
set_option maxRecDepth 100000 in
theorem k_X12_count_1 (l : Launch) (adK adV : Nat → Nat) (dC : Nat → ClassId) (dI : Nat → Nat → Nat) (cy : Nat → ClassId) (ad : Nat → Nat) (B : Int) (hB0 : 100000 ≤ B) (hB1 : B ≤ 1073741824) (qr : Nat) (s1 : Int)  (a1 : Int32) (w0 : va_W) (sz : Nat) (hT : TW ksM ad cy B qr 12 w0)  : Met l yX12_count wsX12_count ({ frames := 1, cells := 0, slots := 0, locals := 12 }) (va_Pc [.ref (ad 0), .int a1] (wpreS adK adV dC dI cy sz w0)) (va_Qi (P_X12_count_1 ad cy B qr s1 a1 w0) (fun u : va_W => wpost dC dI cy (va_A w0 sz) u) (va_A w0 sz)) 0 0 (va_A w0 sz) := by
  refine Met.ofW (cc := cX12_count) (maxL := 2) (ret := (some .int)) (by decide) rfl ?_
  intro p e s m args below meth c s₁ Bk hml hv
  obtain ⟨rfl, ⟨hsz, hP, hK, hD0⟩, hE, hSR⟩ := hv
  have hx := Bk.exec
  have hb := Bk.bytes
  have hr := Bk.returns
  have hlocks := Bk.notSynchronized
  have hC : CallFix p m c cX12_count 2 s _ wsX12_count RX12 := ⟨hx, hb, hml, findClass_of_methodNamed Bk.named, atoms_spec (ws := wsX12_count) Bk.pre⟩
  subst hsz
  have hD := hD0.self (sz := s.heap.size)
  generalize hAe : va_A w0 s.heap.size = A at hD hE ⊢
  have hA : ∀ q : Nat, s.heap.size ≤ q → A q := fun q h => by rw [← hAe]; exact Or.inr h
  have hw : Wd dC dI A s.heap s.heap [] w0 := ⟨hP, hD, va_S.rf⟩
  have hF : FE ksM ([] : List (Nat × Nat × Nat)) w0 w0 := FE.rf
  have hl := lv_entry ([.ref (ad 0), .int a1]) (n := 2) (Nat.le_of_ble_eq_true rfl)
  rw [lg_entry_eq]
  generalize (lg_sl ([.ref (ad 0), .int a1]) ++ List.replicate (2 - (lg_sl ([.ref (ad 0), .int a1])).length) Slot.unset).toArray = ls at hl ⊢
  have hl : lv_has ls 2 [(0, .ref (ad 0)), (1, .int a1)] := hl
  generalize hloc : ([] : List Loc) = locs at hw ⊢
  have hinX12 : ∀ w ∈ u_ws RX12 TX12 42, w ∈ wsX12_count := fun _ h => List.mem_cons_of_mem _ (List.mem_append_right _ (h))
  refine lv_iload_n hx hb dX12_count_0 rfl (lv_at hl 1 rfl) ?_
  rcases (show a1.toInt = 0 ∨ a1.toInt = 1 ∨ a1.toInt = 2 ∨ a1.toInt = 3 ∨ a1.toInt = 4 ∨ a1.toInt = 5 ∨ a1.toInt = 6 ∨ a1.toInt = 7 ∨ a1.toInt = 8 ∨ a1.toInt = 9 ∨ a1.toInt = 10 ∨ a1.toInt = 11 ∨ a1.toInt < 0 ∨ 11 < a1.toInt by omega) with c1 | c1 | c1 | c1 | c1 | c1 | c1 | c1 | c1 | c1 | c1 | c1 | c1 | c1
  · refine lv_tableIn (off := 63) (tgt := 64) hx hb dX12_count_1 (by omega) (by omega) (by rw [c1]; rfl) (by decide) ?_
    refine lv_aload_n hx hb dX12_count_64 rfl (lv_at hl 0 rfl) ?_
    refine tk_getA hC hK hw hT hinX12 kM_at0 (by decide) rfl 26 (by decide) (List.mem_of_getElem? (i := 1) rfl) rfl rfl dX12_count_65 ?_
    refine lv_iload_n hx hb dX12_count_68 rfl (lv_at hl 1 rfl) ?_
    refine tk_ialdR hC hK hw hT kM_at12 rfl (show 0 ≤ a1.toInt by omega) (show a1.toInt < 296 by omega) dX12_count_69 (fun x2 c3 Ex2 => ?_)
    have c3 : gi w0 12 (a1.toInt).toNat = x2 := (congrArg (gi w0 12) (congrArg Int.toNat (show a1.toInt = a1.toInt by omega))).trans c3
    have bx2 := tk_rgI rfl 0 1 1 0 10 (by decide +kernel) ⟨(a1.toInt - 0).toNat, by omega, show a1.toInt.toNat = 0 + 1 * (a1.toInt - 0).toNat by omega⟩ Ex2
    exact tk_iret hC hr hlocks hK ⟨rfl, (Or.inl ⟨(show 0 ≤ x2.toInt by omega), (show 0 ≤ a1.toInt by omega), (show a1.toInt ≤ 10 by omega)⟩)⟩ hw dX12_count_70
  · refine lv_tableIn (off := 63) (tgt := 64) hx hb dX12_count_1 (by omega) (by omega) (by rw [c1]; rfl) (by decide) ?_
    refine lv_aload_n hx hb dX12_count_64 rfl (lv_at hl 0 rfl) ?_
    refine tk_getA hC hK hw hT hinX12 kM_at0 (by decide) rfl 26 (by decide) (List.mem_of_getElem? (i := 1) rfl) rfl rfl dX12_count_65 ?_
    refine lv_iload_n hx hb dX12_count_68 rfl (lv_at hl 1 rfl) ?_
    refine tk_ialdR hC hK hw hT kM_at12 rfl (show 0 ≤ a1.toInt by omega) (show a1.toInt < 296 by omega) dX12_count_69 (fun x4 c5 Ex4 => ?_)
    have c5 : gi w0 12 (a1.toInt).toNat = x4 := (congrArg (gi w0 12) (congrArg Int.toNat (show a1.toInt = a1.toInt by omega))).trans c5
    have bx4 : 0 ≤ x4.toInt ∧ x4.toInt ≤ 12 := (tk_rg1 rfl).mp Ex4
    exact tk_iret hC hr hlocks hK ⟨rfl, (Or.inl ⟨(show 0 ≤ x4.toInt by omega), (show 0 ≤ a1.toInt by omega), (show a1.toInt ≤ 10 by omega)⟩)⟩ hw dX12_count_70
  · refine lv_tableIn (off := 63) (tgt := 64) hx hb dX12_count_1 (by omega) (by omega) (by rw [c1]; rfl) (by decide) ?_
    refine lv_aload_n hx hb dX12_count_64 rfl (lv_at hl 0 rfl) ?_
    refine tk_getA hC hK hw hT hinX12 kM_at0 (by decide) rfl 26 (by decide) (List.mem_of_getElem? (i := 1) rfl) rfl rfl dX12_count_65 ?_
    refine lv_iload_n hx hb dX12_count_68 rfl (lv_at hl 1 rfl) ?_
    refine tk_ialdR hC hK hw hT kM_at12 rfl (show 0 ≤ a1.toInt by omega) (show a1.toInt < 296 by omega) dX12_count_69 (fun x6 c7 Ex6 => ?_)
    have c7 : gi w0 12 (a1.toInt).toNat = x6 := (congrArg (gi w0 12) (congrArg Int.toNat (show a1.toInt = a1.toInt by omega))).trans c7
    have bx6 := tk_rgI rfl 2 1 1 0 8 (by decide +kernel) ⟨(a1.toInt - 2).toNat, by omega, show a1.toInt.toNat = 2 + 1 * (a1.toInt - 2).toNat by omega⟩ Ex6
    exact tk_iret hC hr hlocks hK ⟨rfl, (Or.inl ⟨(show 0 ≤ x6.toInt by omega), (show 0 ≤ a1.toInt by omega), (show a1.toInt ≤ 10 by omega)⟩)⟩ hw dX12_count_70
  · refine lv_tableIn (off := 63) (tgt := 64) hx hb dX12_count_1 (by omega) (by omega) (by rw [c1]; rfl) (by decide) ?_
    refine lv_aload_n hx hb dX12_count_64 rfl (lv_at hl 0 rfl) ?_
    refine tk_getA hC hK hw hT hinX12 kM_at0 (by decide) rfl 26 (by decide) (List.mem_of_getElem? (i := 1) rfl) rfl rfl dX12_count_65 ?_
    refine lv_iload_n hx hb dX12_count_68 rfl (lv_at hl 1 rfl) ?_
    refine tk_ialdR hC hK hw hT kM_at12 rfl (show 0 ≤ a1.toInt by omega) (show a1.toInt < 296 by omega) dX12_count_69 (fun x8 c9 Ex8 => ?_)
    have c9 : gi w0 12 (a1.toInt).toNat = x8 := (congrArg (gi w0 12) (congrArg Int.toNat (show a1.toInt = a1.toInt by omega))).trans c9
    have bx8 := tk_rgI rfl 3 1 1 0 4 (by decide +kernel) ⟨(a1.toInt - 3).toNat, by omega, show a1.toInt.toNat = 3 + 1 * (a1.toInt - 3).toNat by omega⟩ Ex8
    exact tk_iret hC hr hlocks hK ⟨rfl, (Or.inl ⟨(show 0 ≤ x8.toInt by omega), (show 0 ≤ a1.toInt by omega), (show a1.toInt ≤ 10 by omega)⟩)⟩ hw dX12_count_70
  · refine lv_tableIn (off := 70) (tgt := 71) hx hb dX12_count_1 (by omega) (by omega) (by rw [c1]; rfl) (by decide) ?_
    refine lv_aload_n hx hb dX12_count_71 rfl (lv_at hl 0 rfl) ?_
    refine tk_geti hC hK hw hT hinX12 kM_at0 (by decide) rfl 2 (by decide) (List.mem_of_getElem? (i := 2) rfl) rfl rfl dX12_count_72 (fun x10 c11 rx10 tx10 => ?_)
    exact tk_iret hC hr hlocks hK ⟨rfl, (Or.inl ⟨(show 0 ≤ x10.toInt by omega), (show 0 ≤ a1.toInt by omega), (show a1.toInt ≤ 10 by omega)⟩)⟩ hw dX12_count_75
  · refine lv_tableIn (off := 75) (tgt := 76) hx hb dX12_count_1 (by omega) (by omega) (by rw [c1]; rfl) (by decide) ?_
    refine lv_aload_n hx hb dX12_count_76 rfl (lv_at hl 0 rfl) ?_
    refine tk_getA hC hK hw hT hinX12 kM_at0 (by decide) rfl 26 (by decide) (List.mem_of_getElem? (i := 1) rfl) rfl rfl dX12_count_77 ?_
    refine lv_iload_n hx hb dX12_count_80 rfl (lv_at hl 1 rfl) ?_
    refine lv_iconst (v := 1) hx hb dX12_count_81 (by decide) ?_
    refine lv_isub hx hb dX12_count_82 ?_
    refine lv_topi (fun x12 ex12 => ?_)
    have ex12 : x12.toInt = a1.toInt - (1 : Int) := by rw [ex12]; exact wk_sub (show (-2147483648) ≤ a1.toInt - (1 : Int) by omega) (show a1.toInt - (1 : Int) ≤ 2147483647 by omega)
    refine tk_ialdR hC hK hw hT kM_at12 rfl (show 0 ≤ x12.toInt by omega) (show x12.toInt < 296 by omega) dX12_count_83 (fun x13 c14 Ex13 => ?_)
    have bx13 := tk_rgI rfl 4 1 1 0 4 (by decide +kernel) ⟨(a1.toInt - 5).toNat, by omega, show x12.toInt.toNat = 4 + 1 * (a1.toInt - 5).toNat by omega⟩ Ex13
    exact tk_iret hC hr hlocks hK ⟨rfl, (Or.inl ⟨(show 0 ≤ x13.toInt by omega), (show 0 ≤ a1.toInt by omega), (show a1.toInt ≤ 10 by omega)⟩)⟩ hw dX12_count_84
  · refine lv_tableIn (off := 75) (tgt := 76) hx hb dX12_count_1 (by omega) (by omega) (by rw [c1]; rfl) (by decide) ?_
    refine lv_aload_n hx hb dX12_count_76 rfl (lv_at hl 0 rfl) ?_
    refine tk_getA hC hK hw hT hinX12 kM_at0 (by decide) rfl 26 (by decide) (List.mem_of_getElem? (i := 1) rfl) rfl rfl dX12_count_77 ?_
    refine lv_iload_n hx hb dX12_count_80 rfl (lv_at hl 1 rfl) ?_
    refine lv_iconst (v := 1) hx hb dX12_count_81 (by decide) ?_
    refine lv_isub hx hb dX12_count_82 ?_
    refine lv_topi (fun x15 ex15 => ?_)
    have ex15 : x15.toInt = a1.toInt - (1 : Int) := by rw [ex15]; exact wk_sub (show (-2147483648) ≤ a1.toInt - (1 : Int) by omega) (show a1.toInt - (1 : Int) ≤ 2147483647 by omega)
    refine tk_ialdR hC hK hw hT kM_at12 rfl (show 0 ≤ x15.toInt by omega) (show x15.toInt < 296 by omega) dX12_count_83 (fun x16 c17 Ex16 => ?_)
    have bx16 := tk_rgI rfl 5 1 1 0 4 (by decide +kernel) ⟨(a1.toInt - 6).toNat, by omega, show x15.toInt.toNat = 5 + 1 * (a1.toInt - 6).toNat by omega⟩ Ex16
    exact tk_iret hC hr hlocks hK ⟨rfl, (Or.inl ⟨(show 0 ≤ x16.toInt by omega), (show 0 ≤ a1.toInt by omega), (show a1.toInt ≤ 10 by omega)⟩)⟩ hw dX12_count_84
  · refine lv_tableIn (off := 75) (tgt := 76) hx hb dX12_count_1 (by omega) (by omega) (by rw [c1]; rfl) (by decide) ?_
    refine lv_aload_n hx hb dX12_count_76 rfl (lv_at hl 0 rfl) ?_
    refine tk_getA hC hK hw hT hinX12 kM_at0 (by decide) rfl 26 (by decide) (List.mem_of_getElem? (i := 1) rfl) rfl rfl dX12_count_77 ?_
    refine lv_iload_n hx hb dX12_count_80 rfl (lv_at hl 1 rfl) ?_
    refine lv_iconst (v := 1) hx hb dX12_count_81 (by decide) ?_
    refine lv_isub hx hb dX12_count_82 ?_
    refine lv_topi (fun x18 ex18 => ?_)
    have ex18 : x18.toInt = a1.toInt - (1 : Int) := by rw [ex18]; exact wk_sub (show (-2147483648) ≤ a1.toInt - (1 : Int) by omega) (show a1.toInt - (1 : Int) ≤ 2147483647 by omega)
    refine tk_ialdR hC hK hw hT kM_at12 rfl (show 0 ≤ x18.toInt by omega) (show x18.toInt < 296 by omega) dX12_count_83 (fun x19 c20 Ex19 => ?_)
    have bx19 := tk_rgI rfl 6 1 1 0 6 (by decide +kernel) ⟨(a1.toInt - 7).toNat, by omega, show x18.toInt.toNat = 6 + 1 * (a1.toInt - 7).toNat by omega⟩ Ex19
    exact tk_iret hC hr hlocks hK ⟨rfl, (Or.inl ⟨(show 0 ≤ x19.toInt by omega), (show 0 ≤ a1.toInt by omega), (show a1.toInt ≤ 10 by omega)⟩)⟩ hw dX12_count_84
  · refine lv_tableIn (off := 75) (tgt := 76) hx hb dX12_count_1 (by omega) (by omega) (by rw [c1]; rfl) (by decide) ?_
    refine lv_aload_n hx hb dX12_count_76 rfl (lv_at hl 0 rfl) ?_
    refine tk_getA hC hK hw hT hinX12 kM_at0 (by decide) rfl 26 (by decide) (List.mem_of_getElem? (i := 1) rfl) rfl rfl dX12_count_77 ?_
    refine lv_iload_n hx hb dX12_count_80 rfl (lv_at hl 1 rfl) ?_
    refine lv_iconst (v := 1) hx hb dX12_count_81 (by decide) ?_
    refine lv_isub hx hb dX12_count_82 ?_
    refine lv_topi (fun x21 ex21 => ?_)
    have ex21 : x21.toInt = a1.toInt - (1 : Int) := by rw [ex21]; exact wk_sub (show (-2147483648) ≤ a1.toInt - (1 : Int) by omega) (show a1.toInt - (1 : Int) ≤ 2147483647 by omega)
    refine tk_ialdR hC hK hw hT kM_at12 rfl (show 0 ≤ x21.toInt by omega) (show x21.toInt < 296 by omega) dX12_count_83 (fun x22 c23 Ex22 => ?_)
    have bx22 := tk_rgI rfl 7 1 1 0 12 (by decide +kernel) ⟨(a1.toInt - 8).toNat, by omega, show x21.toInt.toNat = 7 + 1 * (a1.toInt - 8).toNat by omega⟩ Ex22
    exact tk_iret hC hr hlocks hK ⟨rfl, (Or.inl ⟨(show 0 ≤ x22.toInt by omega), (show 0 ≤ a1.toInt by omega), (show a1.toInt ≤ 10 by omega)⟩)⟩ hw dX12_count_84
  · refine lv_tableIn (off := 75) (tgt := 76) hx hb dX12_count_1 (by omega) (by omega) (by rw [c1]; rfl) (by decide) ?_
    refine lv_aload_n hx hb dX12_count_76 rfl (lv_at hl 0 rfl) ?_
    refine tk_getA hC hK hw hT hinX12 kM_at0 (by decide) rfl 26 (by decide) (List.mem_of_getElem? (i := 1) rfl) rfl rfl dX12_count_77 ?_
    refine lv_iload_n hx hb dX12_count_80 rfl (lv_at hl 1 rfl) ?_
    refine lv_iconst (v := 1) hx hb dX12_count_81 (by decide) ?_
    refine lv_isub hx hb dX12_count_82 ?_
    refine lv_topi (fun x24 ex24 => ?_)
    have ex24 : x24.toInt = a1.toInt - (1 : Int) := by rw [ex24]; exact wk_sub (show (-2147483648) ≤ a1.toInt - (1 : Int) by omega) (show a1.toInt - (1 : Int) ≤ 2147483647 by omega)
    refine tk_ialdR hC hK hw hT kM_at12 rfl (show 0 ≤ x24.toInt by omega) (show x24.toInt < 296 by omega) dX12_count_83 (fun x25 c26 Ex25 => ?_)
    have bx25 := tk_rgI rfl 8 1 1 0 8 (by decide +kernel) ⟨(a1.toInt - 9).toNat, by omega, show x24.toInt.toNat = 8 + 1 * (a1.toInt - 9).toNat by omega⟩ Ex25
    exact tk_iret hC hr hlocks hK ⟨rfl, (Or.inl ⟨(show 0 ≤ x25.toInt by omega), (show 0 ≤ a1.toInt by omega), (show a1.toInt ≤ 10 by omega)⟩)⟩ hw dX12_count_84
  · refine lv_tableIn (off := 75) (tgt := 76) hx hb dX12_count_1 (by omega) (by omega) (by rw [c1]; rfl) (by decide) ?_
    refine lv_aload_n hx hb dX12_count_76 rfl (lv_at hl 0 rfl) ?_
    refine tk_getA hC hK hw hT hinX12 kM_at0 (by decide) rfl 26 (by decide) (List.mem_of_getElem? (i := 1) rfl) rfl rfl dX12_count_77 ?_
    refine lv_iload_n hx hb dX12_count_80 rfl (lv_at hl 1 rfl) ?_
    refine lv_iconst (v := 1) hx hb dX12_count_81 (by decide) ?_
    refine lv_isub hx hb dX12_count_82 ?_
    refine lv_topi (fun x27 ex27 => ?_)
    have ex27 : x27.toInt = a1.toInt - (1 : Int) := by rw [ex27]; exact wk_sub (show (-2147483648) ≤ a1.toInt - (1 : Int) by omega) (show a1.toInt - (1 : Int) ≤ 2147483647 by omega)
    refine tk_ialdR hC hK hw hT kM_at12 rfl (show 0 ≤ x27.toInt by omega) (show x27.toInt < 296 by omega) dX12_count_83 (fun x28 c29 Ex28 => ?_)
    have bx28 := tk_rgI rfl 9 1 1 0 2147483647 (by decide +kernel) ⟨(a1.toInt - 10).toNat, by omega, show x27.toInt.toNat = 9 + 1 * (a1.toInt - 10).toNat by omega⟩ Ex28
    exact tk_iret hC hr hlocks hK ⟨rfl, (Or.inl ⟨(show 0 ≤ x28.toInt by omega), (show 0 ≤ a1.toInt by omega), (show a1.toInt ≤ 10 by omega)⟩)⟩ hw dX12_count_84
  · refine lv_tableIn (off := 84) (tgt := 85) hx hb dX12_count_1 (by omega) (by omega) (by rw [c1]; rfl) (by decide) ?_
    refine lv_aload_n hx hb dX12_count_85 rfl (lv_at hl 0 rfl) ?_
    refine tk_geti hC hK hw hT hinX12 kM_at0 (by decide) rfl 1 (by decide) (List.mem_of_getElem? (i := 3) rfl) rfl rfl dX12_count_86 (fun x30 c31 rx30 tx30 => ?_)
    exact tk_iret hC hr hlocks hK ⟨rfl, (Or.inr (Or.inl ⟨(show 0 ≤ x30.toInt by omega), (show x30.toInt ≤ 400 by omega), (show 11 ≤ a1.toInt by omega), (show a1.toInt ≤ 11 by omega), ⟨x30, c31, (show 0 ≤ x30.toInt by omega), (show x30.toInt ≤ 400 by omega)⟩⟩))⟩ hw dX12_count_89
  · refine lv_tableOut (tgt := 90) hx hb dX12_count_1 (Or.inl c1) (by decide) ?_
    refine lv_iconst (v := (-1)) hx hb dX12_count_90 (by decide) ?_
    exact tk_iret hC hr hlocks hK ⟨rfl, (Or.inr (Or.inr rfl))⟩ hw dX12_count_91
  · refine lv_tableOut (tgt := 90) hx hb dX12_count_1 (Or.inr c1) (by decide) ?_
    refine lv_iconst (v := (-1)) hx hb dX12_count_90 (by decide) ?_
    exact tk_iret hC hr hlocks hK ⟨rfl, (Or.inr (Or.inr rfl))⟩ hw dX12_count_91
abbrev P_X12_image_1 (ad : Nat → Nat) (cy : Nat → ClassId) (B : Int) (qr : Nat) (s1 : Int) (a1 : Int32) (w0 : va_W) : Int32 → va_W → Prop := fun r u => TW ksM ad cy B qr 12 u ∧ FE ksM [(80, 0, 1184), (81, 0, 4)] w0 u ∧ ((0 ≤ r.toInt ∧ r.toInt ≤ 4 ∧ 0 ≤ a1.toInt ∧ a1.toInt ≤ 3) ∨ (r = (-1)))
set_option maxHeartbeats 4000000 in
set_option maxRecDepth 100000 in
theorem k_X12_image_1 (l : Launch) (adK adV : Nat → Nat) (dC : Nat → ClassId) (dI : Nat → Nat → Nat) (cy : Nat → ClassId) (ad : Nat → Nat) (B : Int) (hB0 : 100000 ≤ B) (hB1 : B ≤ 1073741824) (qr : Nat) (s1 : Int)  (a1 : Int32) (w0 : va_W) (sz : Nat) (hT : TW ksM ad cy B qr 12 w0)  : Met l yX12_image wsX12_image ({ frames := 2, cells := 0, slots := 0, locals := 37 }) (va_Pc [.ref (ad 0), .int a1] (wpreS adK adV dC dI cy sz w0)) (va_Qi (P_X12_image_1 ad cy B qr s1 a1 w0) (fun u : va_W => wpost dC dI cy (va_A w0 sz) u) (va_A w0 sz)) 0 0 (va_A w0 sz) := by
  refine Met.ofW (cc := cX12_image) (maxL := 3) (ret := (some .int)) (by decide) rfl ?_
  intro p e s m args below meth c s₁ Bk hml hv
  obtain ⟨rfl, ⟨hsz, hP, hK, hD0⟩, hE, hSR⟩ := hv
  have hx := Bk.exec
  have hb := Bk.bytes
  have hr := Bk.returns
  have hlocks := Bk.notSynchronized
  have hC : CallFix p m c cX12_image 3 s _ wsX12_image RX12 := ⟨hx, hb, hml, findClass_of_methodNamed Bk.named, atoms_spec (ws := wsX12_image) Bk.pre⟩
  subst hsz
  have hD := hD0.self (sz := s.heap.size)
  generalize hAe : va_A w0 s.heap.size = A at hD hE ⊢
  have hA : ∀ q : Nat, s.heap.size ≤ q → A q := fun q h => by rw [← hAe]; exact Or.inr h
  have hw : Wd dC dI A s.heap s.heap [] w0 := ⟨hP, hD, va_S.rf⟩
  have hF : FE ksM [(80, 0, 1184), (81, 0, 4)] w0 w0 := FE.rf
  have hl := lv_entry ([.ref (ad 0), .int a1]) (n := 3) (Nat.le_of_ble_eq_true rfl)
  rw [lg_entry_eq]
  generalize (lg_sl ([.ref (ad 0), .int a1]) ++ List.replicate (3 - (lg_sl ([.ref (ad 0), .int a1])).length) Slot.unset).toArray = ls at hl ⊢
  have hl : lv_has ls 3 [(0, .ref (ad 0)), (1, .int a1)] := hl
  generalize hloc : ([] : List Loc) = locs at hw ⊢
  have hinX12 : ∀ w ∈ u_ws RX12 TX12 42, w ∈ wsX12_image := fun _ h => List.mem_cons_of_mem _ (List.mem_append_right _ (h))
  have L23 : ∀ (n23 : Nat) (v23_2 : Int32) (H : Heap) (locs : List Loc) (ls : Array Slot) (w1 : va_W), 0 ≤ a1.toInt → a1.toInt ≤ 3 → 0 ≤ v23_2.toInt → v23_2.toInt ≤ 296 → (296 - v23_2.toInt).toNat < n23 → Wd dC dI A s.heap H locs w1 → TW ksM ad cy B qr 12 w1 → FE ksM [(80, 0, 1184), (81, 0, 4)] w0 w1 → lv_has ls 3 [(0, .ref (ad 0)), (1, .int a1), (2, .int v23_2)] → W p l e ({ frames := 2, cells := 0, slots := 0, locals := 37 }) s m (List.toArray [.ref (ad 0), .int a1]) below meth c H locs 0 0 (MQ below (va_Qi (P_X12_image_1 ad cy B qr s1 a1 w0) (fun u : va_W => wpost dC dI cy A u) A) (List.toArray [.ref (ad 0), .int a1]) s 0 0 A) (F0 m 23 ls []) := by
    intro n23
    induction n23 with
    | zero => intro v23_2 H locs ls w1 r2 t3 r4 t5 hm23 hw hT hF hl; omega
    | succ n23 ih23 =>
      intro v23_2 H locs ls w1 r2 t3 r4 t5 hm23 hw hT hF hl
      refine lv_iload_n hx hb dX12_image_23 rfl (lv_at hl 2 rfl) ?_
      refine lv_sipush (v := 296) hx hb dX12_image_24 (by decide) ?_
      refine lv_icmp_ge (tgt := 54) hx hb dX12_image_27 (by decide) (fun c6 => ?_) (fun c6 => ?_)
      · have c6 : (296 : Int) ≤ v23_2.toInt := wk_le.mp c6
        refine lv_aload_n hx hb dX12_image_54 rfl (lv_at hl 0 rfl) ?_
        refine tk_getA hC hK hw hT hinX12 kM_at0 (by decide) rfl 26 (by decide) (List.mem_of_getElem? (i := 4) rfl) rfl rfl dX12_image_55 ?_
        refine lv_iconst (v := 5) hx hb dX12_image_58 (by decide) ?_
        refine tk_ialdR hC hK hw hT kM_at12 rfl (by decide) (by decide) dX12_image_59 (fun x7 c8 Ex7 => ?_)
        have bx7 := tk_rgI rfl 5 1 1 0 4 (by decide +kernel) ⟨0, by decide, by decide⟩ Ex7
        have c8 : gi w1 12 5 = x7 := c8
        exact tk_iret hC hr hlocks hK ⟨hT, hF, (Or.inl ⟨(show 0 ≤ x7.toInt by omega), (show x7.toInt ≤ 4 by omega), (show 0 ≤ a1.toInt by omega), (show a1.toInt ≤ 3 by omega)⟩)⟩ hw dX12_image_60
      · have c6 : v23_2.toInt < (296 : Int) := wk_leF c6
        refine lv_aload_n hx hb dX12_image_30 rfl (lv_at hl 0 rfl) ?_
        refine tk_getA hC hK hw hT hinX12 kM_at0 (by decide) rfl 40 (by decide) (List.mem_of_getElem? (i := 3) rfl) rfl rfl dX12_image_31 ?_
        refine lv_sipush (v := 296) hx hb dX12_image_34 (by decide) ?_
        refine lv_iload_n hx hb dX12_image_37 rfl (lv_at hl 1 rfl) ?_
        refine lv_imul hx hb dX12_image_38 ?_
        refine lv_topi (fun x9 ex9 => ?_)
        have ex9 : x9.toInt = (296 : Int) * a1.toInt := by rw [ex9]; exact wk_mul (show (-2147483648) ≤ (296 : Int) * a1.toInt by omega) (show (296 : Int) * a1.toInt ≤ 2147483647 by omega)
        refine lv_iload_n hx hb dX12_image_39 rfl (lv_at hl 2 rfl) ?_
        refine lv_iadd hx hb dX12_image_40 ?_
        refine lv_topi (fun x10 ex10 => ?_)
        have ex10 : x10.toInt = x9.toInt + v23_2.toInt := by rw [ex10]; exact wk_add (show (-2147483648) ≤ x9.toInt + v23_2.toInt by omega) (show x9.toInt + v23_2.toInt ≤ 2147483647 by omega)
        refine lv_aload_n hx hb dX12_image_41 rfl (lv_at hl 0 rfl) ?_
        refine tk_getA hC hK hw hT hinX12 kM_at0 (by decide) rfl 26 (by decide) (List.mem_of_getElem? (i := 4) rfl) rfl rfl dX12_image_42 ?_
        refine lv_iload_n hx hb dX12_image_45 rfl (lv_at hl 2 rfl) ?_
        refine tk_ialdR hC hK hw hT kM_at12 rfl (show 0 ≤ v23_2.toInt by omega) (show v23_2.toInt < 296 by omega) dX12_image_46 (fun x11 c12 Ex11 => ?_)
        have c12 : gi w1 12 (v23_2.toInt).toNat = x11 := (congrArg (gi w1 12) (congrArg Int.toNat (show v23_2.toInt = v23_2.toInt by omega))).trans c12
        refine tk_iastR hC hK hw hT kM_at21 (by decide) rfl (show 0 ≤ x10.toInt by omega) (show x10.toInt < 1184 by omega) (tk_rgC rfl rfl (show v23_2.toInt.toNat % 296 = x10.toInt.toNat % 296 by omega) Ex11) dX12_image_47 (fun H locs w13 hw hT k15 c14 => ?_)
        have hF := hF.put kM_at21 (inE_of (a := 0) (b := 1184) (by decide) (show 0 ≤ x10.toInt.toNat by omega) (show x10.toInt.toNat ≤ 1184 by omega)) k15
        have c16 := k15.gi (Or.inl (tk_ne kM_at12 kM_at21 (by decide))) c12
        obtain ⟨x17, ex17⟩ : ∃ y : Int32, y = v23_2 + Int32.ofInt 1 := ⟨_, rfl⟩
        refine lv_iinc (v := x17) (lv' := [(2, .int x17), (0, .ref (ad 0)), (1, .int a1)]) hx hb dX12_image_48 hl (k := 2) rfl ex17.symm (by decide) rfl (fun ls hl => ?_)
        have ex17 : x17.toInt = v23_2.toInt + 1 := by rw [ex17]; exact wk_add (y := 1) (show -2147483648 ≤ v23_2.toInt + 1 by omega) (show v23_2.toInt + 1 ≤ 2147483647 by omega)
        refine lv_goto (tgt := 23) hx hb dX12_image_51 (by decide) ?_
        exact ih23 x17 H locs ls w13 (show 0 ≤ a1.toInt by omega) (show a1.toInt ≤ 3 by omega) (show 0 ≤ x17.toInt by omega) (show x17.toInt ≤ 296 by omega) (show (296 - x17.toInt).toNat < n23 by omega) hw hT hF  (lv_sub hl [1, 2, 0] rfl)
  refine lv_iload_n hx hb dX12_image_0 rfl (lv_at hl 1 rfl) ?_
  refine lv_i2l hx hb dX12_image_1 rfl ?_
  refine lv_topl (fun x18 ex18 => ?_)
  have ex18 : x18.toInt = a1.toInt := by rw [ex18]; exact wk_i2l _
  have bx18 := wk_i32 a1
  refine lv_lconst (v := 0) hx hb dX12_image_2 (by decide) ?_
  refine lv_ldc2 (v := 3) hx hb hC.2.2.2.1 (hC.2.2.2.2 _ (List.mem_of_getElem? (i := 1) rfl)) dX12_image_3 ?_
  refine tk_Si hC hK hw hT hA hE hSR (k_X12_in_12 l adK adV dC dI cy ad B (by omega) (by omega) qr s1   x18 (show (-2147483648) ≤ x18.toInt by omega) (show x18.toInt ≤ 2147483647 by omega) w0 s.heap.size hT ) (va_cwS 3 hC.2.2.2.2 gX12_image_X12_in rfl rfl rfl (by decide +kernel) ⟨Nat.le_of_ble_eq_true rfl, Nat.le_of_ble_eq_true rfl⟩) rfl hl.1 rfl (Nat.le_of_ble_eq_true rfl) dX12_image_6 (fun r19 w21 H locs hp20 hw => ?_)
  obtain ⟨rfl, hg25⟩ := hp20
  rcases hg25 with rfl | ⟨rfl, g23, g24⟩
  · refine lv_if_ne (tgt := 14) hx hb dX12_image_9 (by decide) (fun c => absurd (by decide) c) (fun _ => ?_)
    refine lv_iconst (v := (-1)) hx hb dX12_image_12 (by decide) ?_
    exact tk_iret hC hr hlocks hK ⟨hT, hF, (Or.inr rfl)⟩ hw dX12_image_13
  · refine lv_if_ne (tgt := 14) hx hb dX12_image_9 (by decide) (fun _ => ?_) (fun c => absurd c (by decide))
    refine lv_aload_n hx hb dX12_image_14 rfl (lv_at hl 0 rfl) ?_
    refine tk_getA hC hK hw hT hinX12 kM_at0 (by decide) rfl 41 (by decide) (List.mem_of_getElem? (i := 2) rfl) rfl rfl dX12_image_15 ?_
    refine lv_iload_n hx hb dX12_image_18 rfl (lv_at hl 1 rfl) ?_
    refine lv_iconst (v := 1) hx hb dX12_image_19 (by decide) ?_
    refine tk_zast hC hK hw hT kM_at22 (by decide) rfl rfl (show 0 ≤ a1.toInt by omega) (show a1.toInt < 4 by omega) (by decide) (by decide) dX12_image_20 (fun H locs w26 hw hT k28 c27 => ?_)
    have hF := hF.put kM_at22 (inE_of (a := 0) (b := 4) (by decide) (show 0 ≤ a1.toInt.toNat by omega) (show a1.toInt.toNat ≤ 4 by omega)) k28
    refine lv_iconst (v := 0) hx hb dX12_image_21 (by decide) ?_
    refine lv_istore_n (lv' := [(2, .int 0), (0, .ref (ad 0)), (1, .int a1)]) hx hb dX12_image_22 rfl hl (by decide) rfl (fun ls hl => ?_)
    exact L23 ((296 - (0 : Int)).toNat + 1) 0 H locs ls w26 (show 0 ≤ a1.toInt by omega) (show a1.toInt ≤ 3 by omega) (by decide) (by decide) (Nat.lt_succ_self _) hw hT hF  (lv_sub hl [1, 2, 0] rfl)
abbrev P_X12_back_1 (ad : Nat → Nat) (cy : Nat → ClassId) (B : Int) (qr : Nat) (s1 : Int) (a1 : Int32) (w0 : va_W) : Int32 → va_W → Prop := fun r u => TW ksM ad cy B qr 12 u ∧ FE ksM [(71, 0, 295)] w0 u ∧ ((0 ≤ r.toInt ∧ r.toInt ≤ 4 ∧ 0 ≤ a1.toInt ∧ a1.toInt ≤ 3) ∨ (r = (-1)))
set_option maxHeartbeats 4000000 in
set_option maxRecDepth 100000 in
theorem k_X12_back_1 (l : Launch) (adK adV : Nat → Nat) (dC : Nat → ClassId) (dI : Nat → Nat → Nat) (cy : Nat → ClassId) (ad : Nat → Nat) (B : Int) (hB0 : 100000 ≤ B) (hB1 : B ≤ 1073741824) (qr : Nat) (s1 : Int)  (a1 : Int32) (w0 : va_W) (sz : Nat) (hT : TW ksM ad cy B qr 12 w0)  : Met l yX12_back wsX12_back ({ frames := 2, cells := 0, slots := 0, locals := 37 }) (va_Pc [.ref (ad 0), .int a1] (wpreS adK adV dC dI cy sz w0)) (va_Qi (P_X12_back_1 ad cy B qr s1 a1 w0) (fun u : va_W => wpost dC dI cy (va_A w0 sz) u) (va_A w0 sz)) 0 0 (va_A w0 sz) := by
  refine Met.ofW (cc := cX12_back) (maxL := 3) (ret := (some .int)) (by decide) rfl ?_
  intro p e s m args below meth c s₁ Bk hml hv
  obtain ⟨rfl, ⟨hsz, hP, hK, hD0⟩, hE, hSR⟩ := hv
  have hx := Bk.exec
  have hb := Bk.bytes
  have hr := Bk.returns
  have hlocks := Bk.notSynchronized
  have hC : CallFix p m c cX12_back 3 s _ wsX12_back RX12 := ⟨hx, hb, hml, findClass_of_methodNamed Bk.named, atoms_spec (ws := wsX12_back) Bk.pre⟩
  subst hsz
  have hD := hD0.self (sz := s.heap.size)
  generalize hAe : va_A w0 s.heap.size = A at hD hE ⊢
  have hA : ∀ q : Nat, s.heap.size ≤ q → A q := fun q h => by rw [← hAe]; exact Or.inr h
  have hw : Wd dC dI A s.heap s.heap [] w0 := ⟨hP, hD, va_S.rf⟩
  have hF : FE ksM [(71, 0, 295)] w0 w0 := FE.rf
  have hl := lv_entry ([.ref (ad 0), .int a1]) (n := 3) (Nat.le_of_ble_eq_true rfl)
  rw [lg_entry_eq]
  generalize (lg_sl ([.ref (ad 0), .int a1]) ++ List.replicate (3 - (lg_sl ([.ref (ad 0), .int a1])).length) Slot.unset).toArray = ls at hl ⊢
  have hl : lv_has ls 3 [(0, .ref (ad 0)), (1, .int a1)] := hl
  generalize hloc : ([] : List Loc) = locs at hw ⊢
  have hinX12 : ∀ w ∈ u_ws RX12 TX12 42, w ∈ wsX12_back := fun _ h => List.mem_cons_of_mem _ (List.mem_append_right _ (h))
  have J21 : ∀ (H : Heap) (locs : List Loc) (ls : Array Slot) (w1 : va_W), Wd dC dI A s.heap H locs w1 → TW ksM ad cy B qr 12 w1 → FE ksM [(71, 0, 295)] w0 w1 → lv_has ls 3 [(0, .ref (ad 0)), (1, .int a1)] → W p l e ({ frames := 2, cells := 0, slots := 0, locals := 37 }) s m (List.toArray [.ref (ad 0), .int a1]) below meth c H locs 0 0 (MQ below (va_Qi (P_X12_back_1 ad cy B qr s1 a1 w0) (fun u : va_W => wpost dC dI cy A u) A) (List.toArray [.ref (ad 0), .int a1]) s 0 0 A) (F0 m 21 ls []) := by
    intro H locs ls w1 hw hT hF hl
    refine lv_iconst (v := (-1)) hx hb dX12_back_21 (by decide) ?_
    exact tk_iret hC hr hlocks hK ⟨hT, hF, (Or.inr rfl)⟩ hw dX12_back_22
  have L25 : ∀ (n25 : Nat) (v25_2 : Int32) (H : Heap) (locs : List Loc) (ls : Array Slot) (w2 : va_W), 0 ≤ a1.toInt → a1.toInt ≤ 3 → 0 ≤ v25_2.toInt → v25_2.toInt ≤ 296 → (296 - v25_2.toInt).toNat < n25 → Wd dC dI A s.heap H locs w2 → TW ksM ad cy B qr 12 w2 → FE ksM [(71, 0, 295)] w0 w2 → lv_has ls 3 [(0, .ref (ad 0)), (1, .int a1), (2, .int v25_2)] → W p l e ({ frames := 2, cells := 0, slots := 0, locals := 37 }) s m (List.toArray [.ref (ad 0), .int a1]) below meth c H locs 0 0 (MQ below (va_Qi (P_X12_back_1 ad cy B qr s1 a1 w0) (fun u : va_W => wpost dC dI cy A u) A) (List.toArray [.ref (ad 0), .int a1]) s 0 0 A) (F0 m 25 ls []) := by
    intro n25
    induction n25 with
    | zero => intro v25_2 H locs ls w2 r3 t4 r5 t6 hm25 hw hT hF hl; omega
    | succ n25 ih25 =>
      intro v25_2 H locs ls w2 r3 t4 r5 t6 hm25 hw hT hF hl
      refine lv_iload_n hx hb dX12_back_25 rfl (lv_at hl 2 rfl) ?_
      refine lv_sipush (v := 296) hx hb dX12_back_26 (by decide) ?_
      refine lv_icmp_ge (tgt := 56) hx hb dX12_back_29 (by decide) (fun c7 => ?_) (fun c7 => ?_)
      · have c7 : (296 : Int) ≤ v25_2.toInt := wk_le.mp c7
        refine lv_aload_n hx hb dX12_back_56 rfl (lv_at hl 0 rfl) ?_
        refine tk_getA hC hK hw hT hinX12 kM_at0 (by decide) rfl 26 (by decide) (List.mem_of_getElem? (i := 3) rfl) rfl rfl dX12_back_57 ?_
        refine lv_iconst (v := 5) hx hb dX12_back_60 (by decide) ?_
        refine tk_ialdR hC hK hw hT kM_at12 rfl (by decide) (by decide) dX12_back_61 (fun x8 c9 Ex8 => ?_)
        have bx8 := tk_rgI rfl 5 1 1 0 4 (by decide +kernel) ⟨0, by decide, by decide⟩ Ex8
        have c9 : gi w2 12 5 = x8 := c9
        exact tk_iret hC hr hlocks hK ⟨hT, hF, (Or.inl ⟨(show 0 ≤ x8.toInt by omega), (show x8.toInt ≤ 4 by omega), (show 0 ≤ a1.toInt by omega), (show a1.toInt ≤ 3 by omega)⟩)⟩ hw dX12_back_62
      · have c7 : v25_2.toInt < (296 : Int) := wk_leF c7
        refine lv_aload_n hx hb dX12_back_32 rfl (lv_at hl 0 rfl) ?_
        refine tk_getA hC hK hw hT hinX12 kM_at0 (by decide) rfl 26 (by decide) (List.mem_of_getElem? (i := 3) rfl) rfl rfl dX12_back_33 ?_
        refine lv_iload_n hx hb dX12_back_36 rfl (lv_at hl 2 rfl) ?_
        refine lv_aload_n hx hb dX12_back_37 rfl (lv_at hl 0 rfl) ?_
        refine tk_getA hC hK hw hT hinX12 kM_at0 (by decide) rfl 40 (by decide) (List.mem_of_getElem? (i := 4) rfl) rfl rfl dX12_back_38 ?_
        refine lv_sipush (v := 296) hx hb dX12_back_41 (by decide) ?_
        refine lv_iload_n hx hb dX12_back_44 rfl (lv_at hl 1 rfl) ?_
        refine lv_imul hx hb dX12_back_45 ?_
        refine lv_topi (fun x10 ex10 => ?_)
        have ex10 : x10.toInt = (296 : Int) * a1.toInt := by rw [ex10]; exact wk_mul (show (-2147483648) ≤ (296 : Int) * a1.toInt by omega) (show (296 : Int) * a1.toInt ≤ 2147483647 by omega)
        refine lv_iload_n hx hb dX12_back_46 rfl (lv_at hl 2 rfl) ?_
        refine lv_iadd hx hb dX12_back_47 ?_
        refine lv_topi (fun x11 ex11 => ?_)
        have ex11 : x11.toInt = x10.toInt + v25_2.toInt := by rw [ex11]; exact wk_add (show (-2147483648) ≤ x10.toInt + v25_2.toInt by omega) (show x10.toInt + v25_2.toInt ≤ 2147483647 by omega)
        refine tk_ialdR hC hK hw hT kM_at21 rfl (show 0 ≤ x11.toInt by omega) (show x11.toInt < 1184 by omega) dX12_back_48 (fun x12 c13 Ex12 => ?_)
        refine tk_iastR hC hK hw hT kM_at12 (by decide) rfl (show 0 ≤ v25_2.toInt by omega) (show v25_2.toInt < 296 by omega) (tk_rgC rfl rfl (show x11.toInt.toNat % 296 = v25_2.toInt.toNat % 296 by omega) Ex12) dX12_back_49 (fun H locs w14 hw hT k16 c15 => ?_)
        have hF := hF.put kM_at12 (inE_of (a := 0) (b := 295) (by decide) (show 0 ≤ v25_2.toInt.toNat by omega) (show v25_2.toInt.toNat ≤ 295 by omega)) k16
        obtain ⟨x17, ex17⟩ : ∃ y : Int32, y = v25_2 + Int32.ofInt 1 := ⟨_, rfl⟩
        refine lv_iinc (v := x17) (lv' := [(2, .int x17), (0, .ref (ad 0)), (1, .int a1)]) hx hb dX12_back_50 hl (k := 2) rfl ex17.symm (by decide) rfl (fun ls hl => ?_)
        have ex17 : x17.toInt = v25_2.toInt + 1 := by rw [ex17]; exact wk_add (y := 1) (show -2147483648 ≤ v25_2.toInt + 1 by omega) (show v25_2.toInt + 1 ≤ 2147483647 by omega)
        refine lv_goto (tgt := 25) hx hb dX12_back_53 (by decide) ?_
        exact ih25 x17 H locs ls w14 (show 0 ≤ a1.toInt by omega) (show a1.toInt ≤ 3 by omega) (show 0 ≤ x17.toInt by omega) (show x17.toInt ≤ 296 by omega) (show (296 - x17.toInt).toNat < n25 by omega) hw hT hF  (lv_sub hl [1, 2, 0] rfl)
  refine lv_iload_n hx hb dX12_back_0 rfl (lv_at hl 1 rfl) ?_
  refine lv_i2l hx hb dX12_back_1 rfl ?_
  refine lv_topl (fun x18 ex18 => ?_)
  have ex18 : x18.toInt = a1.toInt := by rw [ex18]; exact wk_i2l _
  have bx18 := wk_i32 a1
  refine lv_lconst (v := 0) hx hb dX12_back_2 (by decide) ?_
  refine lv_ldc2 (v := 3) hx hb hC.2.2.2.1 (hC.2.2.2.2 _ (List.mem_of_getElem? (i := 1) rfl)) dX12_back_3 ?_
  refine tk_Si hC hK hw hT hA hE hSR (k_X12_in_12 l adK adV dC dI cy ad B (by omega) (by omega) qr s1   x18 (show (-2147483648) ≤ x18.toInt by omega) (show x18.toInt ≤ 2147483647 by omega) w0 s.heap.size hT ) (va_cwS 3 hC.2.2.2.2 gX12_back_X12_in rfl rfl rfl (by decide +kernel) ⟨Nat.le_of_ble_eq_true rfl, Nat.le_of_ble_eq_true rfl⟩) rfl hl.1 rfl (Nat.le_of_ble_eq_true rfl) dX12_back_6 (fun r19 w21 H locs hp20 hw => ?_)
  obtain ⟨rfl, hg25⟩ := hp20
  rcases hg25 with rfl | ⟨rfl, g23, g24⟩
  · refine lv_if_eq (tgt := 21) hx hb dX12_back_9 (by decide) (fun _ => ?_) (fun c => absurd (by decide) c)
    exact J21  H locs ls w0   hw hT hF  (lv_sub hl [0, 1] rfl)
  · refine lv_if_eq (tgt := 21) hx hb dX12_back_9 (by decide) (fun c => absurd c (by decide)) (fun _ => ?_)
    refine lv_aload_n hx hb dX12_back_12 rfl (lv_at hl 0 rfl) ?_
    refine tk_getA hC hK hw hT hinX12 kM_at0 (by decide) rfl 41 (by decide) (List.mem_of_getElem? (i := 2) rfl) rfl rfl dX12_back_13 ?_
    refine lv_iload_n hx hb dX12_back_16 rfl (lv_at hl 1 rfl) ?_
    refine tk_zald hC hK hw hT kM_at22 rfl rfl (show 0 ≤ a1.toInt by omega) (show a1.toInt < 4 by omega) dX12_back_17 (fun x26 c27 rx26 tx26 => ?_)
    refine lv_if_ne (tgt := 23) hx hb dX12_back_18 (by decide) (fun c28 => ?_) (fun c28 => ?_)
    · have c28 : ¬ x26.toInt = (0 : Int) := wk_eqF c28
      refine lv_iconst (v := 0) hx hb dX12_back_23 (by decide) ?_
      refine lv_istore_n (lv' := [(2, .int 0), (0, .ref (ad 0)), (1, .int a1)]) hx hb dX12_back_24 rfl hl (by decide) rfl (fun ls hl => ?_)
      exact L25 ((296 - (0 : Int)).toNat + 1) 0 H locs ls w0 (show 0 ≤ a1.toInt by omega) (show a1.toInt ≤ 3 by omega) (by decide) (by decide) (Nat.lt_succ_self _) hw hT hF  (lv_sub hl [1, 2, 0] rfl)
    · have c28 : x26.toInt = (0 : Int) := wk_eq.mp c28
      exact J21  H locs ls w0   hw hT hF  (lv_sub hl [0, 1] rfl)
