abbrev P_X11_way_1 (ad : Nat → Nat) (cy : Nat → ClassId) (B : Int) (qr : Nat) (s1 : Int) (a1 : Int32) (a2 : Int32) (a3 : Int32) (a4 : Int32) (w0 : va_W) : Int32 → va_W → Prop := fun r u => TW ksC ad cy B qr s1 u ∧ FE ksC [(48, 0, 10), (49, 0, 10)] w0 u ∧ ((r = (-2) ∧ 0 ≤ a1.toInt ∧ a1.toInt ≤ 9 ∧ 0 ≤ a2.toInt ∧ a2.toInt ≤ 9 ∧ 0 ≤ a3.toInt ∧ a3.toInt ≤ 99999 ∧ 0 ≤ a4.toInt ∧ (∃ y : Int32, gi u 39 8 = y ∧ 1 ≤ y.toInt ∧ y.toInt ≤ 10)) ∨ (0 ≤ r.toInt ∧ r.toInt ≤ 11 ∧ 0 ≤ a1.toInt ∧ a1.toInt ≤ 9 ∧ 0 ≤ a2.toInt ∧ a2.toInt ≤ 9 ∧ 0 ≤ a3.toInt ∧ a3.toInt ≤ 99999 ∧ 0 ≤ a4.toInt ∧ a4.toInt ≤ 2000 ∧ (∃ y : Int32, gi u 39 8 = y ∧ 1 ≤ y.toInt ∧ y.toInt ≤ 10) ∧ (∃ y : Int32, gi u 39 9 = y ∧ 1 ≤ y.toInt ∧ y.toInt ≤ 12)) ∨ (r = (-1)))
set_option maxHeartbeats 4000000 in
set_option maxRecDepth 100000 in
theorem k_X11_way_1 (l : Launch) (adK adV : Nat → Nat) (dC : Nat → ClassId) (dI : Nat → Nat → Nat) (cy : Nat → ClassId) (ad : Nat → Nat) (B : Int) (hB0 : 2147483648 ≤ B) (hB1 : B ≤ 1152921504606846976) (qr : Nat) (s1 : Int)  (a1 : Int32) (a2 : Int32) (a3 : Int32) (a4 : Int32) (w0 : va_W) (sz : Nat) (hT : TW ksC ad cy B qr s1 w0)  : Met l yX11_way wsX11_way ({ frames := 6, cells := 0, slots := 0, locals := 152 }) (va_Pc [.ref (ad 0), .int a1, .int a2, .int a3, .int a4] (wpreS adK adV dC dI cy sz w0)) (va_Qi (P_X11_way_1 ad cy B qr s1 a1 a2 a3 a4 w0) (fun u : va_W => wpost dC dI cy (va_A w0 sz) u) (va_A w0 sz)) 0 0 (va_A w0 sz) := by
  refine Met.ofW (cc := cX11_way) (maxL := 6) (ret := (some .int)) (by decide) rfl ?_
  intro p e s m args below meth c s₁ Bk hml hv
  obtain ⟨rfl, ⟨hsz, hP, hK, hD0⟩, hE, hSR⟩ := hv
  have hx := Bk.exec
  have hb := Bk.bytes
  have hr := Bk.returns
  have hlocks := Bk.notSynchronized
  have hC : CallFix p m c cX11_way 6 s _ wsX11_way RX11 := ⟨hx, hb, hml, findClass_of_methodNamed Bk.named, atoms_spec (ws := wsX11_way) Bk.pre⟩
  subst hsz
  have hD := hD0.self (sz := s.heap.size)
  generalize hAe : va_A w0 s.heap.size = A at hD hE ⊢
  have hA : ∀ q : Nat, s.heap.size ≤ q → A q := fun q h => by rw [← hAe]; exact Or.inr h
  have hw : Wd dC dI A s.heap s.heap [] w0 := ⟨hP, hD, va_S.rf⟩
  have hF : FE ksC [(48, 0, 10), (49, 0, 10)] w0 w0 := FE.rf
  have hl := lv_entry ([.ref (ad 0), .int a1, .int a2, .int a3, .int a4]) (n := 6) (Nat.le_of_ble_eq_true rfl)
  rw [lg_entry_eq]
  generalize (lg_sl ([.ref (ad 0), .int a1, .int a2, .int a3, .int a4]) ++ List.replicate (6 - (lg_sl ([.ref (ad 0), .int a1, .int a2, .int a3, .int a4])).length) Slot.unset).toArray = ls at hl ⊢
  have hl : lv_has ls 6 [(0, .ref (ad 0)), (1, .int a1), (2, .int a2), (3, .int a3), (4, .int a4)] := hl
  generalize hloc : ([] : List Loc) = locs at hw ⊢
  have hinX11 : ∀ w ∈ u_ws RX11 TX11 13, w ∈ wsX11_way := fun _ h => List.mem_cons_of_mem _ (List.mem_append_left _ (List.mem_append_left _ (List.mem_append_left _ (List.mem_append_right _ (h)))))
  have J28 : ∀ (H : Heap) (locs : List Loc) (ls : Array Slot) (w1 : va_W), Wd dC dI A s.heap H locs w1 → TW ksC ad cy B qr s1 w1 → FE ksC [(48, 0, 10), (49, 0, 10)] w0 w1 → lv_has ls 6 [(0, .ref (ad 0)), (1, .int a1), (2, .int a2), (3, .int a3), (4, .int a4)] → W p l e ({ frames := 6, cells := 0, slots := 0, locals := 152 }) s m (List.toArray [.ref (ad 0), .int a1, .int a2, .int a3, .int a4]) below meth c H locs 0 0 (MQ below (va_Qi (P_X11_way_1 ad cy B qr s1 a1 a2 a3 a4 w0) (fun u : va_W => wpost dC dI cy A u) A) (List.toArray [.ref (ad 0), .int a1, .int a2, .int a3, .int a4]) s 0 0 A) (F0 m 28 ls []) := by
    intro H locs ls w1 hw hT hF hl
    refine lv_iconst (v := (-1)) hx hb dX11_way_28 (by decide) ?_
    exact tk_iret hC hr hlocks hK ⟨hT, hF, (Or.inr (Or.inr rfl))⟩ hw dX11_way_29
  refine lv_aload_n hx hb dX11_way_0 rfl (lv_at hl 0 rfl) ?_
  refine lv_iload_n hx hb dX11_way_1 rfl (lv_at hl 1 rfl) ?_
  refine tk_Vi hC hK hw hT hA hE hSR kC_at0 (by decide) rfl (k_X11_hasCorner_1 l adK adV dC dI cy ad B (by omega) (by omega) qr s1   a1 w0 s.heap.size hT ) (cwV 1 hC.2.2.2.2 gX11_way_X11_hasCorner rfl rfl rfl (by decide +kernel) ⟨Nat.le_of_ble_eq_true rfl, Nat.le_of_ble_eq_true rfl⟩) rfl hl.1 rfl (Nat.le_of_ble_eq_true rfl) dX11_way_2 (fun r2 w4 H locs hp3 hw => ?_)
  obtain ⟨hT, k5, hg10⟩ := hp3
  have hF := hF.tr k5 (by decide)
  rcases hg10 with rfl | ⟨rfl, g6, g7, ⟨x8, c9, rx8, tx8⟩⟩
  · refine lv_if_eq (tgt := 28) hx hb dX11_way_5 (by decide) (fun _ => ?_) (fun c => absurd (by decide) c)
    exact J28  H locs ls w4   hw hT hF  (lv_sub hl [0, 1, 2, 3, 4] rfl)
  · refine lv_if_eq (tgt := 28) hx hb dX11_way_5 (by decide) (fun c => absurd c (by decide)) (fun _ => ?_)
    refine lv_aload_n hx hb dX11_way_8 rfl (lv_at hl 0 rfl) ?_
    refine lv_iload_n hx hb dX11_way_9 rfl (lv_at hl 2 rfl) ?_
    refine tk_Vi hC hK hw hT hA hE hSR kC_at0 (by decide) rfl (k_X11_hasCorner_1 l adK adV dC dI cy ad B (by omega) (by omega) qr s1   a2 w4 H.size hT ) (cwV 1 hC.2.2.2.2 gX11_way_X11_hasCorner rfl rfl rfl (by decide +kernel) ⟨Nat.le_of_ble_eq_true rfl, Nat.le_of_ble_eq_true rfl⟩) rfl hl.1 rfl (Nat.le_of_ble_eq_true rfl) dX11_way_10 (fun r11 w13 H locs hp12 hw => ?_)
    obtain ⟨hT, k14, hg19⟩ := hp12
    have hF := hF.tr k14 (by decide)
    have c20 := k14.gi kC_at39 (by decide) c9
    rcases hg19 with rfl | ⟨rfl, g15, g16, ⟨x17, c18, rx17, tx17⟩⟩
    · refine lv_if_eq (tgt := 28) hx hb dX11_way_13 (by decide) (fun _ => ?_) (fun c => absurd (by decide) c)
      exact J28  H locs ls w13   hw hT hF  (lv_sub hl [0, 1, 2, 3, 4] rfl)
    · have ex17 : x17.toInt = x8.toInt := by rw [← c20.symm.trans c18]
      refine lv_if_eq (tgt := 28) hx hb dX11_way_13 (by decide) (fun c => absurd c (by decide)) (fun _ => ?_)
      refine lv_iload_n hx hb dX11_way_16 rfl (lv_at hl 3 rfl) ?_
      refine tk_Si hC hK hw hT hA hE hSR (k_X11_isAskedHour_1 l adK adV dC dI cy ad B (by omega) (by omega) qr s1   a3 w13 H.size hT ) (va_cwS 1 hC.2.2.2.2 gX11_way_X11_isAskedHour rfl rfl rfl (by decide +kernel) ⟨Nat.le_of_ble_eq_true rfl, Nat.le_of_ble_eq_true rfl⟩) rfl hl.1 rfl (Nat.le_of_ble_eq_true rfl) dX11_way_17 (fun r21 w23 H locs hp22 hw => ?_)
      obtain ⟨hT, k24, hg27⟩ := hp22
      have hF := hF.tr k24 (by decide)
      have c28 := k24.gi kC_at39 (by decide) c20
      rcases hg27 with rfl | ⟨rfl, g25, g26⟩
      · refine lv_if_eq (tgt := 28) hx hb dX11_way_20 (by decide) (fun _ => ?_) (fun c => absurd (by decide) c)
        exact J28  H locs ls w23   hw hT hF  (lv_sub hl [0, 1, 2, 3, 4] rfl)
      · refine lv_if_eq (tgt := 28) hx hb dX11_way_20 (by decide) (fun c => absurd c (by decide)) (fun _ => ?_)
        refine lv_iload hx hb dX11_way_23 (lv_at hl 4 rfl) ?_
        refine lv_if_ge (tgt := 30) hx hb dX11_way_25 (by decide) (fun c29 => ?_) (fun c29 => ?_)
        · have c29 : (0 : Int) ≤ a4.toInt := wk_le.mp c29
          refine lv_aload_n hx hb dX11_way_30 rfl (lv_at hl 0 rfl) ?_
          refine tk_getA hC hK hw hT hinX11 kC_at0 (by decide) rfl 10 (by decide) (List.mem_of_getElem? (i := 1) rfl) rfl rfl dX11_way_31 ?_
          refine lv_iload_n hx hb dX11_way_34 rfl (lv_at hl 1 rfl) ?_
          refine lv_iload_n hx hb dX11_way_35 rfl (lv_at hl 2 rfl) ?_
          refine lv_iload_n hx hb dX11_way_36 rfl (lv_at hl 3 rfl) ?_
          refine lv_iload hx hb dX11_way_37 (lv_at hl 4 rfl) ?_
          refine tk_Vi hC hK hw hT hA hE hSR kC_at155 (by decide) rfl (k_X4_streetOnWay_1 l adK adV dC dI cy ad B (by omega) (by omega) qr s1   a1 (show 0 ≤ a1.toInt by omega) (show a1.toInt ≤ 9 by omega) a2 (show 0 ≤ a2.toInt by omega) (show a2.toInt ≤ 9 by omega) a3 (show 0 ≤ a3.toInt by omega) (show a3.toInt ≤ 99999 by omega) a4 (show 0 ≤ a4.toInt by omega) w23 H.size hT ) (cwV 4 hC.2.2.2.2 gX11_way_X4_streetOnWay rfl rfl rfl (by decide +kernel) ⟨Nat.le_of_ble_eq_true rfl, Nat.le_of_ble_eq_true rfl⟩) rfl hl.1 rfl (Nat.le_of_ble_eq_true rfl) dX11_way_39 (fun r30 w32 H locs hp31 hw => ?_)
          obtain ⟨hT, k33, hg41⟩ := hp31
          have hF := hF.tr k33 (by decide)
          have c42 := k33.gi kC_at39 (by decide) c28
          rcases hg41 with ⟨g34, g35, g36, ⟨x37, c38, rx37, tx37⟩, ⟨x39, c40, rx39, tx39⟩⟩ | rfl
          · have ex37 : x37.toInt = x8.toInt := by rw [← c42.symm.trans c38]
            refine lv_istore (lv' := [(5, .int r30), (0, .ref (ad 0)), (1, .int a1), (2, .int a2), (3, .int a3), (4, .int a4)]) hx hb dX11_way_42 hl (by decide) rfl (fun ls hl => ?_)
            refine lv_iload hx hb dX11_way_44 (lv_at hl 0 rfl) ?_
            refine lv_iconst (v := (-1)) hx hb dX11_way_46 (by decide) ?_
            refine lv_icmp_ne (tgt := 55) hx hb dX11_way_47 (by decide) (fun _ => ?_) (fun c => absurd (show r30.toInt = (-1 : Int) from wk_eq.mp c) (by omega))
            refine lv_iload hx hb dX11_way_55 (lv_at hl 0 rfl) ?_
            exact tk_iret hC hr hlocks hK ⟨hT, hF, (Or.inr (Or.inl ⟨(show 0 ≤ r30.toInt by omega), (show r30.toInt ≤ 11 by omega), (show 0 ≤ a1.toInt by omega), (show a1.toInt ≤ 9 by omega), (show 0 ≤ a2.toInt by omega), (show a2.toInt ≤ 9 by omega), (show 0 ≤ a3.toInt by omega), (show a3.toInt ≤ 99999 by omega), (show 0 ≤ a4.toInt by omega), (show a4.toInt ≤ 2000 by omega), ⟨x8, c42, (show 1 ≤ x8.toInt by omega), (show x8.toInt ≤ 10 by omega)⟩, ⟨x39, c40, (show 1 ≤ x39.toInt by omega), (show x39.toInt ≤ 12 by omega)⟩⟩))⟩ hw dX11_way_57
          · refine lv_istore (lv' := [(5, .int (-1)), (0, .ref (ad 0)), (1, .int a1), (2, .int a2), (3, .int a3), (4, .int a4)]) hx hb dX11_way_42 hl (by decide) rfl (fun ls hl => ?_)
            refine lv_iload hx hb dX11_way_44 (lv_at hl 0 rfl) ?_
            refine lv_iconst (v := (-1)) hx hb dX11_way_46 (by decide) ?_
            refine lv_icmp_ne (tgt := 55) hx hb dX11_way_47 (by decide) (fun c => absurd (by decide) c) (fun _ => ?_)
            refine lv_bipush (v := (-2)) hx hb dX11_way_50 (by decide) ?_
            refine lv_goto (tgt := 57) hx hb dX11_way_52 (by decide) ?_
            exact tk_iret hC hr hlocks hK ⟨hT, hF, (Or.inl ⟨rfl, (show 0 ≤ a1.toInt by omega), (show a1.toInt ≤ 9 by omega), (show 0 ≤ a2.toInt by omega), (show a2.toInt ≤ 9 by omega), (show 0 ≤ a3.toInt by omega), (show a3.toInt ≤ 99999 by omega), (show 0 ≤ a4.toInt by omega), ⟨x8, c42, (show 1 ≤ x8.toInt by omega), (show x8.toInt ≤ 10 by omega)⟩⟩)⟩ hw dX11_way_57
        · have c29 : a4.toInt < (0 : Int) := wk_leF c29
          exact J28  H locs ls w23   hw hT hF  (lv_sub hl [0, 1, 2, 3, 4] rfl)
