abbrev P_X12_canLook_1 (ad : Nat → Nat) (cy : Nat → ClassId) (B : Int) (qr : Nat) (s1 : Int) (a1 : Int32) (a2 : Int32) (a3 : Int32) (w0 : va_W) : Int32 → va_W → Prop := fun r u => w0 = u ∧ ((r = 0) ∨ (r = 1 ∧ 0 ≤ a1.toInt ∧ a1.toInt ≤ 9 ∧ 0 ≤ a2.toInt ∧ a2.toInt ≤ 9 ∧ 0 ≤ a3.toInt ∧ a3.toInt ≤ 99999 ∧ (∃ y : Int32, gi u 12 0 = y ∧ 1 ≤ y.toInt ∧ y.toInt ≤ 10)))
set_option maxHeartbeats 4000000 in
set_option maxRecDepth 100000 in
theorem k_X12_canLook_1 (l : Launch) (adK adV : Nat → Nat) (dC : Nat → ClassId) (dI : Nat → Nat → Nat) (cy : Nat → ClassId) (ad : Nat → Nat) (B : Int) (hB0 : 100000 ≤ B) (hB1 : B ≤ 1073741824) (qr : Nat) (s1 : Int)  (a1 : Int32) (a2 : Int32) (a3 : Int32) (w0 : va_W) (sz : Nat) (hT : TW ksM ad cy B qr 12 w0)  : Met l yX12_canLook (wu yX12_canLook cX12_canLook 4 (some .boolean)) ({ frames := 2, cells := 0, slots := 0, locals := 33 }) (va_Pc [.ref (ad 0), .int a1, .int a2, .int a3] (wpreS adK adV dC dI cy sz w0)) (va_Qi (P_X12_canLook_1 ad cy B qr s1 a1 a2 a3 w0) (fun u : va_W => wpost dC dI cy (va_A w0 sz) u) (va_A w0 sz)) 0 0 (va_A w0 sz) := by
  refine Met.ofW (cc := cX12_canLook) (maxL := 4) (ret := (some .boolean)) (by decide) rfl ?_
  intro p e s m args below meth c s₁ Bk hml hv
  obtain ⟨rfl, ⟨hsz, hP, hK, hD0⟩, hE, hSR⟩ := hv
  have hx := Bk.exec
  have hb := Bk.bytes
  have hr := Bk.returns
  have hlocks := Bk.notSynchronized
  have hC : CallFix p m c cX12_canLook 4 s _ (wu yX12_canLook cX12_canLook 4 (some .boolean)) RX12 := ⟨hx, hb, hml, findClass_of_methodNamed Bk.named, atoms_spec (ws := (wu yX12_canLook cX12_canLook 4 (some .boolean))) Bk.pre⟩
  subst hsz
  have hD := hD0.self (sz := s.heap.size)
  generalize hAe : va_A w0 s.heap.size = A at hD hE ⊢
  have hA : ∀ q : Nat, s.heap.size ≤ q → A q := fun q h => by rw [← hAe]; exact Or.inr h
  have hw : Wd dC dI A s.heap s.heap [] w0 := ⟨hP, hD, va_S.rf⟩
  have hF : FE ksM ([] : List (Nat × Nat × Nat)) w0 w0 := FE.rf
  have hl := lv_entry ([.ref (ad 0), .int a1, .int a2, .int a3]) (n := 4) (Nat.le_of_ble_eq_true rfl)
  rw [lg_entry_eq]
  generalize (lg_sl ([.ref (ad 0), .int a1, .int a2, .int a3]) ++ List.replicate (4 - (lg_sl ([.ref (ad 0), .int a1, .int a2, .int a3])).length) Slot.unset).toArray = ls at hl ⊢
  have hl : lv_has ls 4 [(0, .ref (ad 0)), (1, .int a1), (2, .int a2), (3, .int a3)] := hl
  generalize hloc : ([] : List Loc) = locs at hw ⊢
  have J27 : ∀ (H : Heap) (locs : List Loc) (ls : Array Slot), Wd dC dI A s.heap H locs w0 → lv_has ls 4 [(0, .ref (ad 0)), (1, .int a1), (2, .int a2), (3, .int a3)] → W p l e ({ frames := 2, cells := 0, slots := 0, locals := 33 }) s m (List.toArray [.ref (ad 0), .int a1, .int a2, .int a3]) below meth c H locs 0 0 (MQ below (va_Qi (P_X12_canLook_1 ad cy B qr s1 a1 a2 a3 w0) (fun u : va_W => wpost dC dI cy A u) A) (List.toArray [.ref (ad 0), .int a1, .int a2, .int a3]) s 0 0 A) (F0 m 27 ls []) := by
    intro H locs ls hw hl
    refine lv_iconst (v := 0) hx hb dX12_canLook_27 (by decide) ?_
    exact tk_zret hC hr rfl hlocks hK ⟨rfl, (Or.inl rfl)⟩ hw dX12_canLook_28
  refine lv_aload_n hx hb dX12_canLook_0 rfl (lv_at hl 0 rfl) ?_
  refine lv_iload_n hx hb dX12_canLook_1 rfl (lv_at hl 1 rfl) ?_
  refine tk_Vi hC hK hw hT hA hE hSR kM_at0 (by decide) rfl (k_X12_isCorner_1 l adK adV dC dI cy ad B hB0 (Int.le_trans hB1 (by decide)) qr s1   a1 w0 s.heap.size hT ) (cwV 1 hC.2.2.2.2 uV_RX12_328 rfl rfl rfl (by decide +kernel) ⟨Nat.le_of_ble_eq_true rfl, Nat.le_of_ble_eq_true rfl⟩) rfl hl.1 rfl (Nat.le_of_ble_eq_true rfl) dX12_canLook_2 (fun r1 w3 H locs hp2 hw => ?_)
  obtain ⟨rfl, hg9⟩ := hp2
  rcases hg9 with rfl | ⟨rfl, g5, g6, ⟨x7, c8, rx7, tx7⟩⟩
  · refine lv_if_eq (tgt := 27) hx hb dX12_canLook_5 (by decide) (fun _ => ?_) (fun c => absurd (by decide) c)
    exact J27  H locs ls    hw   (lv_sub hl [0, 1, 2, 3] rfl)
  · refine lv_if_eq (tgt := 27) hx hb dX12_canLook_5 (by decide) (fun c => absurd c (by decide)) (fun _ => ?_)
    refine lv_aload_n hx hb dX12_canLook_8 rfl (lv_at hl 0 rfl) ?_
    refine lv_iload_n hx hb dX12_canLook_9 rfl (lv_at hl 2 rfl) ?_
    refine tk_Vi hC hK hw hT hA hE hSR kM_at0 (by decide) rfl (k_X12_isCorner_1 l adK adV dC dI cy ad B hB0 (Int.le_trans hB1 (by decide)) qr s1   a2 w0 H.size hT ) (cwV 1 hC.2.2.2.2 uV_RX12_328 rfl rfl rfl (by decide +kernel) ⟨Nat.le_of_ble_eq_true rfl, Nat.le_of_ble_eq_true rfl⟩) rfl hl.1 rfl (Nat.le_of_ble_eq_true rfl) dX12_canLook_10 (fun r10 w12 H locs hp11 hw => ?_)
    obtain ⟨rfl, hg18⟩ := hp11
    rcases hg18 with rfl | ⟨rfl, g14, g15, ⟨x16, c17, rx16, tx16⟩⟩
    · refine lv_if_eq (tgt := 27) hx hb dX12_canLook_13 (by decide) (fun _ => ?_) (fun c => absurd (by decide) c)
      exact J27  H locs ls    hw   (lv_sub hl [0, 1, 2, 3] rfl)
    · have ex16 : x16.toInt = x7.toInt := by rw [← c8.symm.trans c17]
      refine lv_if_eq (tgt := 27) hx hb dX12_canLook_13 (by decide) (fun c => absurd c (by decide)) (fun _ => ?_)
      refine lv_iload_n hx hb dX12_canLook_16 rfl (lv_at hl 3 rfl) ?_
      refine tk_Si hC hK hw hT hA hE hSR (k_X12_isHour_1 l adK adV dC dI cy ad B hB0 (Int.le_trans hB1 (by decide)) qr s1   a3 w0 H.size hT ) (va_cwS 1 hC.2.2.2.2 uS_RX12_331 rfl rfl rfl (by decide +kernel) ⟨Nat.le_of_ble_eq_true rfl, Nat.le_of_ble_eq_true rfl⟩) rfl hl.1 rfl (Nat.le_of_ble_eq_true rfl) dX12_canLook_17 (fun r19 w21 H locs hp20 hw => ?_)
      obtain ⟨rfl, hg25⟩ := hp20
      rcases hg25 with rfl | ⟨rfl, g23, g24⟩
      · refine lv_if_eq (tgt := 27) hx hb dX12_canLook_20 (by decide) (fun _ => ?_) (fun c => absurd (by decide) c)
        exact J27  H locs ls    hw   (lv_sub hl [0, 1, 2, 3] rfl)
      · refine lv_if_eq (tgt := 27) hx hb dX12_canLook_20 (by decide) (fun c => absurd c (by decide)) (fun _ => ?_)
        refine lv_iconst (v := 1) hx hb dX12_canLook_23 (by decide) ?_
        refine lv_goto (tgt := 28) hx hb dX12_canLook_24 (by decide) ?_
        exact tk_zret hC hr rfl hlocks hK ⟨rfl, (Or.inr ⟨rfl, (show 0 ≤ a1.toInt by first | with_reducible assumption | omega), (show a1.toInt ≤ 9 by first | with_reducible assumption | omega), (show 0 ≤ a2.toInt by first | with_reducible assumption | omega), (show a2.toInt ≤ 9 by first | with_reducible assumption | omega), (show 0 ≤ a3.toInt by first | with_reducible assumption | omega), (show a3.toInt ≤ 99999 by first | with_reducible assumption | omega), ⟨x7, c8, (show 1 ≤ x7.toInt by first | with_reducible assumption | omega), (show x7.toInt ≤ 10 by first | with_reducible assumption | omega)⟩⟩)⟩ hw dX12_canLook_28
abbrev P_X12_isDayFor_3 (ad : Nat → Nat) (cy : Nat → ClassId) (B : Int) (qr : Nat) (s1 : Int) (a1 : Int32) (a2 : Int32) (a3 : Int32) (w0 : va_W) : Int32 → va_W → Prop := fun r u => w0 = u ∧ ((r = 0 ∧ (¬ mDay w0 a1.toInt a2.toInt a3.toInt)) ∨ (r = 0 ∧ gi u 12 (10 * a1.toInt + 10).toNat = a2 ∧ (¬ mDay w0 a1.toInt a2.toInt a3.toInt)) ∨ (r = 1 ∧ (mDay w0 a1.toInt a2.toInt a3.toInt)) ∨ (r = 1 ∧ gi u 12 (10 * a1.toInt + 10).toNat = a2 ∧ (mDay w0 a1.toInt a2.toInt a3.toInt)))
set_option maxHeartbeats 4000000 in
set_option maxRecDepth 100000 in
theorem k_X12_isDayFor_3 (l : Launch) (adK adV : Nat → Nat) (dC : Nat → ClassId) (dI : Nat → Nat → Nat) (cy : Nat → ClassId) (ad : Nat → Nat) (B : Int) (hB0 : 100000 ≤ B) (hB1 : B ≤ 1073741824) (qr : Nat) (s1 : Int)  (a1 : Int32) (ra1 : 0 ≤ a1.toInt) (ta1 : a1.toInt ≤ 11) (a2 : Int32) (ra2 : 0 ≤ a2.toInt) (ta2 : a2.toInt ≤ 9) (a3 : Int32) (ra3 : 0 ≤ a3.toInt) (ta3 : a3.toInt ≤ 4249) (w0 : va_W) (sz : Nat) (hT : TW ksM ad cy B qr 12 w0)  : Met l yX12_isDayFor (wu yX12_isDayFor cX12_isDayFor 4 (some .boolean)) ({ frames := 3, cells := 0, slots := 0, locals := 57 }) (va_Pc [.ref (ad 0), .int a1, .int a2, .int a3] (wpreS adK adV dC dI cy sz w0)) (va_Qi (P_X12_isDayFor_3 ad cy B qr s1 a1 a2 a3 w0) (fun u : va_W => wpost dC dI cy (va_A w0 sz) u) (va_A w0 sz)) 0 0 (va_A w0 sz) := by
  refine Met.ofW (cc := cX12_isDayFor) (maxL := 4) (ret := (some .boolean)) (by decide) rfl ?_
  intro p e s m args below meth c s₁ Bk hml hv
  obtain ⟨rfl, ⟨hsz, hP, hK, hD0⟩, hE, hSR⟩ := hv
  have hx := Bk.exec
  have hb := Bk.bytes
  have hr := Bk.returns
  have hlocks := Bk.notSynchronized
  have hC : CallFix p m c cX12_isDayFor 4 s _ (wu yX12_isDayFor cX12_isDayFor 4 (some .boolean)) RX12 := ⟨hx, hb, hml, findClass_of_methodNamed Bk.named, atoms_spec (ws := (wu yX12_isDayFor cX12_isDayFor 4 (some .boolean))) Bk.pre⟩
  subst hsz
  have hD := hD0.self (sz := s.heap.size)
  generalize hAe : va_A w0 s.heap.size = A at hD hE ⊢
  have hA : ∀ q : Nat, s.heap.size ≤ q → A q := fun q h => by rw [← hAe]; exact Or.inr h
  have hw : Wd dC dI A s.heap s.heap [] w0 := ⟨hP, hD, va_S.rf⟩
  have hF : FE ksM ([] : List (Nat × Nat × Nat)) w0 w0 := FE.rf
  have hl := lv_entry ([.ref (ad 0), .int a1, .int a2, .int a3]) (n := 4) (Nat.le_of_ble_eq_true rfl)
  rw [lg_entry_eq]
  generalize (lg_sl ([.ref (ad 0), .int a1, .int a2, .int a3]) ++ List.replicate (4 - (lg_sl ([.ref (ad 0), .int a1, .int a2, .int a3])).length) Slot.unset).toArray = ls at hl ⊢
  have hl : lv_has ls 4 [(0, .ref (ad 0)), (1, .int a1), (2, .int a2), (3, .int a3)] := hl
  generalize hloc : ([] : List Loc) = locs at hw ⊢
  refine lv_aload_n hx hb dX12_isDayFor_0 rfl (lv_at hl 0 rfl) ?_
  refine lv_aload_n hx hb dX12_isDayFor_1 rfl (lv_at hl 0 rfl) ?_
  refine lv_iload_n hx hb dX12_isDayFor_2 rfl (lv_at hl 1 rfl) ?_
  refine lv_iconst (v := 3) hx hb dX12_isDayFor_3 (by decide) ?_
  refine lv_iload_n hx hb dX12_isDayFor_4 rfl (lv_at hl 3 rfl) ?_
  refine lv_bipush (v := 7) hx hb dX12_isDayFor_5 (by decide) ?_
  refine lv_irem hx hb dX12_isDayFor_7 (by decide) ?_
  refine lv_topi (fun x1 ex1 => ?_)
  have ex1 : x1.toInt = a3.toInt % (7 : Int) := by rw [ex1]; exact wk_rem (show 0 ≤ a3.toInt from ra3) (show 0 < (7 : Int) by decide)
  refine lv_iadd hx hb dX12_isDayFor_8 ?_
  refine lv_topi (fun x2 ex2 => ?_)
  have ex2 : x2.toInt = (3 : Int) + x1.toInt := by rw [ex2]; exact wk_add (show (-2147483648) ≤ (3 : Int) + x1.toInt by omega) (show (3 : Int) + x1.toInt ≤ 2147483647 by omega)
  refine tk_Vi hC hK hw hT hA hE hSR kM_at0 (by decide) rfl (k_X12_streetOf_4 l adK adV dC dI cy ad B hB0 (Int.le_trans hB1 (by decide)) qr s1   a1 (show 0 ≤ a1.toInt from ra1) (show a1.toInt ≤ 11 from ta1) x2 (show 3 ≤ x2.toInt by first | with_reducible assumption | omega) (show x2.toInt ≤ 9 by first | with_reducible assumption | omega) w0 s.heap.size hT ) (cwV 2 hC.2.2.2.2 uV_RX12_300 rfl rfl rfl (by decide +kernel) ⟨Nat.le_of_ble_eq_true rfl, Nat.le_of_ble_eq_true rfl⟩) rfl hl.1 rfl (Nat.le_of_ble_eq_true rfl) dX12_isDayFor_9 (fun r3 w5 H locs hp4 hw => ?_)
  obtain ⟨rfl, hg10⟩ := hp4
  obtain ⟨g7, g8, c9⟩ := hg10
  refine lv_iload_n hx hb dX12_isDayFor_12 rfl (lv_at hl 1 rfl) ?_
  refine lv_iload_n hx hb dX12_isDayFor_13 rfl (lv_at hl 2 rfl) ?_
  refine tk_Vi hC hK hw hT hA hE hSR kM_at0 (by decide) rfl (k_X12_hasSign_1 l adK adV dC dI cy ad B hB0 (Int.le_trans hB1 (by decide)) qr s1   r3 (show 0 ≤ r3.toInt by first | with_reducible assumption | omega) (show r3.toInt ≤ 9 by first | with_reducible assumption | omega) a1 (show 0 ≤ a1.toInt from ra1) (show a1.toInt ≤ 11 from ta1) a2 (show 0 ≤ a2.toInt from ra2) (show a2.toInt ≤ 9 from ta2) w0 H.size hT ) (cwV 3 hC.2.2.2.2 uV_RX12_307 rfl rfl rfl (by decide +kernel) ⟨Nat.le_of_ble_eq_true rfl, Nat.le_of_ble_eq_true rfl⟩) rfl hl.1 rfl (Nat.le_of_ble_eq_true rfl) dX12_isDayFor_14 (fun r11 w13 H locs hp12 hw => ?_)
  obtain ⟨rfl, hg21⟩ := hp12
  rcases hg21 with ⟨rfl, hq15⟩ | ⟨rfl, c16, hq17⟩ | ⟨rfl, hq18⟩ | ⟨rfl, c19, hq20⟩
  · refine lv_if_ne (tgt := 22) hx hb dX12_isDayFor_17 (by decide) (fun c => absurd (by decide) c) (fun _ => ?_)
    refine lv_iconst (v := 0) hx hb dX12_isDayFor_20 (by decide) ?_
    exact tk_zret hC hr rfl hlocks hK ⟨rfl, (Or.inl ⟨rfl, (by unfold mDay; rw [show (10 * a1.toInt + (3 + a3.toInt % 7) + 10) = 10 * a1.toInt + 1 * x2.toInt + 10 by omega]; simp only [c9]; first | exact ⟨by assumption, by assumption, by assumption⟩ | (rintro ⟨q1, q2, q3⟩; first | exact absurd q1 (by assumption) | exact q2 (by assumption) | exact q3 (by assumption)))⟩)⟩ hw dX12_isDayFor_21
  · refine lv_if_ne (tgt := 22) hx hb dX12_isDayFor_17 (by decide) (fun c => absurd (by decide) c) (fun _ => ?_)
    refine lv_iconst (v := 0) hx hb dX12_isDayFor_20 (by decide) ?_
    exact tk_zret hC hr rfl hlocks hK ⟨rfl, (Or.inr (Or.inl ⟨rfl, c16, (by unfold mDay; rw [show (10 * a1.toInt + (3 + a3.toInt % 7) + 10) = 10 * a1.toInt + 1 * x2.toInt + 10 by omega]; simp only [c9, c16]; first | exact ⟨by assumption, by assumption, by assumption⟩ | (rintro ⟨q1, q2, q3⟩; first | exact absurd q1 (by assumption) | exact q2 (by assumption) | exact q3 (by assumption)))⟩))⟩ hw dX12_isDayFor_21
  · refine lv_if_ne (tgt := 22) hx hb dX12_isDayFor_17 (by decide) (fun _ => ?_) (fun c => absurd c (by decide))
    refine lv_aload_n hx hb dX12_isDayFor_22 rfl (lv_at hl 0 rfl) ?_
    refine lv_aload_n hx hb dX12_isDayFor_23 rfl (lv_at hl 0 rfl) ?_
    refine lv_iload_n hx hb dX12_isDayFor_24 rfl (lv_at hl 1 rfl) ?_
    refine lv_iconst (v := 0) hx hb dX12_isDayFor_25 (by decide) ?_
    refine tk_Vi hC hK hw hT hA hE hSR kM_at0 (by decide) rfl (k_X12_streetOf_2 l adK adV dC dI cy ad B hB0 (Int.le_trans hB1 (by decide)) qr s1   a1 (show 0 ≤ a1.toInt from ra1) (show a1.toInt ≤ 11 from ta1) w0 H.size hT ) (cwV 2 hC.2.2.2.2 uV_RX12_300 rfl rfl rfl (by decide +kernel) ⟨Nat.le_of_ble_eq_true rfl, Nat.le_of_ble_eq_true rfl⟩) rfl hl.1 rfl (Nat.le_of_ble_eq_true rfl) dX12_isDayFor_26 (fun r22 w24 H locs hp23 hw => ?_)
    obtain ⟨rfl, hg29⟩ := hp23
    obtain ⟨g26, g27, c28⟩ := hg29
    refine lv_iload_n hx hb dX12_isDayFor_29 rfl (lv_at hl 3 rfl) ?_
    refine lv_sipush (v := 360) hx hb dX12_isDayFor_30 (by decide) ?_
    refine lv_irem hx hb dX12_isDayFor_33 (by decide) ?_
    refine lv_topi (fun x30 ex30 => ?_)
    have ex30 : x30.toInt = a3.toInt % (360 : Int) := by rw [ex30]; exact wk_rem (show 0 ≤ a3.toInt from ra3) (show 0 < (360 : Int) by decide)
    refine tk_Vi hC hK hw hT hA hE hSR kM_at0 (by decide) rfl (k_X12_isClosed_1 l adK adV dC dI cy ad B hB0 (Int.le_trans hB1 (by decide)) qr s1   r22 (show 0 ≤ r22.toInt by first | with_reducible assumption | omega) (show r22.toInt ≤ 9 by first | with_reducible assumption | omega) x30 (show 0 ≤ x30.toInt by first | with_reducible assumption | omega) (show x30.toInt ≤ 359 by first | with_reducible assumption | omega) w0 H.size hT ) (cwV 2 hC.2.2.2.2 uV_RX12_311 rfl rfl rfl (by decide +kernel) ⟨Nat.le_of_ble_eq_true rfl, Nat.le_of_ble_eq_true rfl⟩) rfl hl.1 rfl (Nat.le_of_ble_eq_true rfl) dX12_isDayFor_34 (fun r31 w33 H locs hp32 hw => ?_)
    obtain ⟨rfl, hg41⟩ := hp32
    rcases hg41 with ⟨rfl, hq35⟩ | ⟨rfl, ⟨x36, c37, rx36, tx36⟩, ⟨x38, c39, rx38, tx38⟩, hq40⟩
    · refine lv_if_ne (tgt := 62) hx hb dX12_isDayFor_37 (by decide) (fun c => absurd (by decide) c) (fun _ => ?_)
      refine lv_aload_n hx hb dX12_isDayFor_40 rfl (lv_at hl 0 rfl) ?_
      refine lv_aload_n hx hb dX12_isDayFor_41 rfl (lv_at hl 0 rfl) ?_
      refine lv_iload_n hx hb dX12_isDayFor_42 rfl (lv_at hl 1 rfl) ?_
      refine lv_iconst (v := 1) hx hb dX12_isDayFor_43 (by decide) ?_
      refine tk_Vi hC hK hw hT hA hE hSR kM_at0 (by decide) rfl (k_X12_streetOf_3 l adK adV dC dI cy ad B hB0 (Int.le_trans hB1 (by decide)) qr s1   a1 (show 0 ≤ a1.toInt from ra1) (show a1.toInt ≤ 11 from ta1) w0 H.size hT ) (cwV 2 hC.2.2.2.2 uV_RX12_300 rfl rfl rfl (by decide +kernel) ⟨Nat.le_of_ble_eq_true rfl, Nat.le_of_ble_eq_true rfl⟩) rfl hl.1 rfl (Nat.le_of_ble_eq_true rfl) dX12_isDayFor_44 (fun r42 w44 H locs hp43 hw => ?_)
      obtain ⟨rfl, hg49⟩ := hp43
      obtain ⟨g46, g47, c48⟩ := hg49
      refine lv_iload_n hx hb dX12_isDayFor_47 rfl (lv_at hl 3 rfl) ?_
      refine lv_sipush (v := 360) hx hb dX12_isDayFor_48 (by decide) ?_
      refine lv_irem hx hb dX12_isDayFor_51 (by decide) ?_
      refine lv_topi (fun x50 ex50 => ?_)
      have ex50 : x50.toInt = a3.toInt % (360 : Int) := by rw [ex50]; exact wk_rem (show 0 ≤ a3.toInt from ra3) (show 0 < (360 : Int) by decide)
      refine tk_Vi hC hK hw hT hA hE hSR kM_at0 (by decide) rfl (k_X12_isClosed_1 l adK adV dC dI cy ad B hB0 (Int.le_trans hB1 (by decide)) qr s1   r42 (show 0 ≤ r42.toInt by first | with_reducible assumption | omega) (show r42.toInt ≤ 9 by first | with_reducible assumption | omega) x50 (show 0 ≤ x50.toInt by first | with_reducible assumption | omega) (show x50.toInt ≤ 359 by first | with_reducible assumption | omega) w0 H.size hT ) (cwV 2 hC.2.2.2.2 uV_RX12_311 rfl rfl rfl (by decide +kernel) ⟨Nat.le_of_ble_eq_true rfl, Nat.le_of_ble_eq_true rfl⟩) rfl hl.1 rfl (Nat.le_of_ble_eq_true rfl) dX12_isDayFor_52 (fun r51 w53 H locs hp52 hw => ?_)
      obtain ⟨rfl, hg61⟩ := hp52
      rcases hg61 with ⟨rfl, hq55⟩ | ⟨rfl, ⟨x56, c57, rx56, tx56⟩, ⟨x58, c59, rx58, tx58⟩, hq60⟩
      · refine lv_if_ne (tgt := 62) hx hb dX12_isDayFor_55 (by decide) (fun c => absurd (by decide) c) (fun _ => ?_)
        refine lv_iconst (v := 1) hx hb dX12_isDayFor_58 (by decide) ?_
        refine lv_goto (tgt := 63) hx hb dX12_isDayFor_59 (by decide) ?_
        exact tk_zret hC hr rfl hlocks hK ⟨rfl, (Or.inr (Or.inr (Or.inl ⟨rfl, (by have hq35 := hq35; rw [show x30.toInt = a3.toInt % 360 by omega] at hq35; have hq55 := hq55; rw [show x50.toInt = a3.toInt % 360 by omega] at hq55; unfold mDay; rw [show (10 * a1.toInt + (3 + a3.toInt % 7) + 10) = 10 * a1.toInt + 1 * x2.toInt + 10 by omega]; simp only [c9, c28, c48]; first | exact ⟨by assumption, by assumption, by assumption⟩ | (rintro ⟨q1, q2, q3⟩; first | exact absurd q1 (by assumption) | exact q2 (by assumption) | exact q3 (by assumption)))⟩)))⟩ hw dX12_isDayFor_63
      · refine lv_if_ne (tgt := 62) hx hb dX12_isDayFor_55 (by decide) (fun _ => ?_) (fun c => absurd c (by decide))
        refine lv_iconst (v := 0) hx hb dX12_isDayFor_62 (by decide) ?_
        exact tk_zret hC hr rfl hlocks hK ⟨rfl, (Or.inl ⟨rfl, (by have hq35 := hq35; rw [show x30.toInt = a3.toInt % 360 by omega] at hq35; have hq60 := hq60; rw [show x50.toInt = a3.toInt % 360 by omega] at hq60; unfold mDay; rw [show (10 * a1.toInt + (3 + a3.toInt % 7) + 10) = 10 * a1.toInt + 1 * x2.toInt + 10 by omega]; simp only [c9, c28, c48, c57, c59]; first | exact ⟨by assumption, by assumption, by assumption⟩ | (rintro ⟨q1, q2, q3⟩; first | exact absurd q1 (by assumption) | exact q2 (by assumption) | exact q3 (by assumption)))⟩)⟩ hw dX12_isDayFor_63
    · refine lv_if_ne (tgt := 62) hx hb dX12_isDayFor_37 (by decide) (fun _ => ?_) (fun c => absurd c (by decide))
      refine lv_iconst (v := 0) hx hb dX12_isDayFor_62 (by decide) ?_
      exact tk_zret hC hr rfl hlocks hK ⟨rfl, (Or.inl ⟨rfl, (by have hq40 := hq40; rw [show x30.toInt = a3.toInt % 360 by omega] at hq40; unfold mDay; rw [show (10 * a1.toInt + (3 + a3.toInt % 7) + 10) = 10 * a1.toInt + 1 * x2.toInt + 10 by omega]; simp only [c9, c28, c37, c39]; first | exact ⟨by assumption, by assumption, by assumption⟩ | (rintro ⟨q1, q2, q3⟩; first | exact absurd q1 (by assumption) | exact q2 (by assumption) | exact q3 (by assumption)))⟩)⟩ hw dX12_isDayFor_63
  · refine lv_if_ne (tgt := 22) hx hb dX12_isDayFor_17 (by decide) (fun _ => ?_) (fun c => absurd c (by decide))
    refine lv_aload_n hx hb dX12_isDayFor_22 rfl (lv_at hl 0 rfl) ?_
    refine lv_aload_n hx hb dX12_isDayFor_23 rfl (lv_at hl 0 rfl) ?_
    refine lv_iload_n hx hb dX12_isDayFor_24 rfl (lv_at hl 1 rfl) ?_
    refine lv_iconst (v := 0) hx hb dX12_isDayFor_25 (by decide) ?_
    refine tk_Vi hC hK hw hT hA hE hSR kM_at0 (by decide) rfl (k_X12_streetOf_2 l adK adV dC dI cy ad B hB0 (Int.le_trans hB1 (by decide)) qr s1   a1 (show 0 ≤ a1.toInt from ra1) (show a1.toInt ≤ 11 from ta1) w0 H.size hT ) (cwV 2 hC.2.2.2.2 uV_RX12_300 rfl rfl rfl (by decide +kernel) ⟨Nat.le_of_ble_eq_true rfl, Nat.le_of_ble_eq_true rfl⟩) rfl hl.1 rfl (Nat.le_of_ble_eq_true rfl) dX12_isDayFor_26 (fun r62 w64 H locs hp63 hw => ?_)
    obtain ⟨rfl, hg69⟩ := hp63
    obtain ⟨g66, g67, c68⟩ := hg69
    obtain rfl : a2 = r62 := c19.symm.trans c68
    refine lv_iload_n hx hb dX12_isDayFor_29 rfl (lv_at hl 3 rfl) ?_
    refine lv_sipush (v := 360) hx hb dX12_isDayFor_30 (by decide) ?_
    refine lv_irem hx hb dX12_isDayFor_33 (by decide) ?_
    refine lv_topi (fun x70 ex70 => ?_)
    have ex70 : x70.toInt = a3.toInt % (360 : Int) := by rw [ex70]; exact wk_rem (show 0 ≤ a3.toInt from ra3) (show 0 < (360 : Int) by decide)
    refine tk_Vi hC hK hw hT hA hE hSR kM_at0 (by decide) rfl (k_X12_isClosed_1 l adK adV dC dI cy ad B hB0 (Int.le_trans hB1 (by decide)) qr s1   a2 (show 0 ≤ a2.toInt from ra2) (show a2.toInt ≤ 9 from ta2) x70 (show 0 ≤ x70.toInt by first | with_reducible assumption | omega) (show x70.toInt ≤ 359 by first | with_reducible assumption | omega) w0 H.size hT ) (cwV 2 hC.2.2.2.2 uV_RX12_311 rfl rfl rfl (by decide +kernel) ⟨Nat.le_of_ble_eq_true rfl, Nat.le_of_ble_eq_true rfl⟩) rfl hl.1 rfl (Nat.le_of_ble_eq_true rfl) dX12_isDayFor_34 (fun r71 w73 H locs hp72 hw => ?_)
    obtain ⟨rfl, hg81⟩ := hp72
    rcases hg81 with ⟨rfl, hq75⟩ | ⟨rfl, ⟨x76, c77, rx76, tx76⟩, ⟨x78, c79, rx78, tx78⟩, hq80⟩
    · refine lv_if_ne (tgt := 62) hx hb dX12_isDayFor_37 (by decide) (fun c => absurd (by decide) c) (fun _ => ?_)
      refine lv_aload_n hx hb dX12_isDayFor_40 rfl (lv_at hl 0 rfl) ?_
      refine lv_aload_n hx hb dX12_isDayFor_41 rfl (lv_at hl 0 rfl) ?_
      refine lv_iload_n hx hb dX12_isDayFor_42 rfl (lv_at hl 1 rfl) ?_
      refine lv_iconst (v := 1) hx hb dX12_isDayFor_43 (by decide) ?_
      refine tk_Vi hC hK hw hT hA hE hSR kM_at0 (by decide) rfl (k_X12_streetOf_3 l adK adV dC dI cy ad B hB0 (Int.le_trans hB1 (by decide)) qr s1   a1 (show 0 ≤ a1.toInt from ra1) (show a1.toInt ≤ 11 from ta1) w0 H.size hT ) (cwV 2 hC.2.2.2.2 uV_RX12_300 rfl rfl rfl (by decide +kernel) ⟨Nat.le_of_ble_eq_true rfl, Nat.le_of_ble_eq_true rfl⟩) rfl hl.1 rfl (Nat.le_of_ble_eq_true rfl) dX12_isDayFor_44 (fun r82 w84 H locs hp83 hw => ?_)
      obtain ⟨rfl, hg89⟩ := hp83
      obtain ⟨g86, g87, c88⟩ := hg89
      refine lv_iload_n hx hb dX12_isDayFor_47 rfl (lv_at hl 3 rfl) ?_
      refine lv_sipush (v := 360) hx hb dX12_isDayFor_48 (by decide) ?_
      refine lv_irem hx hb dX12_isDayFor_51 (by decide) ?_
      refine lv_topi (fun x90 ex90 => ?_)
      have ex90 : x90.toInt = a3.toInt % (360 : Int) := by rw [ex90]; exact wk_rem (show 0 ≤ a3.toInt from ra3) (show 0 < (360 : Int) by decide)
      refine tk_Vi hC hK hw hT hA hE hSR kM_at0 (by decide) rfl (k_X12_isClosed_1 l adK adV dC dI cy ad B hB0 (Int.le_trans hB1 (by decide)) qr s1   r82 (show 0 ≤ r82.toInt by first | with_reducible assumption | omega) (show r82.toInt ≤ 9 by first | with_reducible assumption | omega) x90 (show 0 ≤ x90.toInt by first | with_reducible assumption | omega) (show x90.toInt ≤ 359 by first | with_reducible assumption | omega) w0 H.size hT ) (cwV 2 hC.2.2.2.2 uV_RX12_311 rfl rfl rfl (by decide +kernel) ⟨Nat.le_of_ble_eq_true rfl, Nat.le_of_ble_eq_true rfl⟩) rfl hl.1 rfl (Nat.le_of_ble_eq_true rfl) dX12_isDayFor_52 (fun r91 w93 H locs hp92 hw => ?_)
      obtain ⟨rfl, hg101⟩ := hp92
      rcases hg101 with ⟨rfl, hq95⟩ | ⟨rfl, ⟨x96, c97, rx96, tx96⟩, ⟨x98, c99, rx98, tx98⟩, hq100⟩
      · refine lv_if_ne (tgt := 62) hx hb dX12_isDayFor_55 (by decide) (fun c => absurd (by decide) c) (fun _ => ?_)
        refine lv_iconst (v := 1) hx hb dX12_isDayFor_58 (by decide) ?_
        refine lv_goto (tgt := 63) hx hb dX12_isDayFor_59 (by decide) ?_
        exact tk_zret hC hr rfl hlocks hK ⟨rfl, (Or.inr (Or.inr (Or.inr ⟨rfl, c19, (by have hq75 := hq75; rw [show x70.toInt = a3.toInt % 360 by omega] at hq75; have hq95 := hq95; rw [show x90.toInt = a3.toInt % 360 by omega] at hq95; unfold mDay; rw [show (10 * a1.toInt + (3 + a3.toInt % 7) + 10) = 10 * a1.toInt + 1 * x2.toInt + 10 by omega]; simp only [c9, c19, c88]; first | exact ⟨by assumption, by assumption, by assumption⟩ | (rintro ⟨q1, q2, q3⟩; first | exact absurd q1 (by assumption) | exact q2 (by assumption) | exact q3 (by assumption)))⟩)))⟩ hw dX12_isDayFor_63
      · refine lv_if_ne (tgt := 62) hx hb dX12_isDayFor_55 (by decide) (fun _ => ?_) (fun c => absurd c (by decide))
        refine lv_iconst (v := 0) hx hb dX12_isDayFor_62 (by decide) ?_
        exact tk_zret hC hr rfl hlocks hK ⟨rfl, (Or.inr (Or.inl ⟨rfl, c19, (by have hq75 := hq75; rw [show x70.toInt = a3.toInt % 360 by omega] at hq75; have hq100 := hq100; rw [show x90.toInt = a3.toInt % 360 by omega] at hq100; unfold mDay; rw [show (10 * a1.toInt + (3 + a3.toInt % 7) + 10) = 10 * a1.toInt + 1 * x2.toInt + 10 by omega]; simp only [c9, c19, c88, c97, c99]; first | exact ⟨by assumption, by assumption, by assumption⟩ | (rintro ⟨q1, q2, q3⟩; first | exact absurd q1 (by assumption) | exact q2 (by assumption) | exact q3 (by assumption)))⟩))⟩ hw dX12_isDayFor_63
    · refine lv_if_ne (tgt := 62) hx hb dX12_isDayFor_37 (by decide) (fun _ => ?_) (fun c => absurd c (by decide))
      refine lv_iconst (v := 0) hx hb dX12_isDayFor_62 (by decide) ?_
      exact tk_zret hC hr rfl hlocks hK ⟨rfl, (Or.inr (Or.inl ⟨rfl, c19, (by have hq80 := hq80; rw [show x70.toInt = a3.toInt % 360 by omega] at hq80; unfold mDay; rw [show (10 * a1.toInt + (3 + a3.toInt % 7) + 10) = 10 * a1.toInt + 1 * x2.toInt + 10 by omega]; simp only [c9, c19, c77, c79]; first | exact ⟨by assumption, by assumption, by assumption⟩ | (rintro ⟨q1, q2, q3⟩; first | exact absurd q1 (by assumption) | exact q2 (by assumption) | exact q3 (by assumption)))⟩))⟩ hw dX12_isDayFor_63
abbrev P_X12_isLifted_3 (ad : Nat → Nat) (cy : Nat → ClassId) (B : Int) (qr : Nat) (s1 : Int) (a1 : Int32) (a2 : Int32) (w0 : va_W) : Int32 → va_W → Prop := fun r u => w0 = u ∧ ((r = 0 ∧ (¬ mLf w0 a1.toInt a2.toInt)) ∨ (r = 1 ∧ (∃ y : Int32, gi u 12 3 = y ∧ 1 ≤ y.toInt ∧ y.toInt ≤ 4) ∧ (mLf w0 a1.toInt a2.toInt)))
set_option maxHeartbeats 4000000 in
set_option maxRecDepth 100000 in
theorem k_X12_isLifted_3 (l : Launch) (adK adV : Nat → Nat) (dC : Nat → ClassId) (dI : Nat → Nat → Nat) (cy : Nat → ClassId) (ad : Nat → Nat) (B : Int) (hB0 : 100000 ≤ B) (hB1 : B ≤ 1073741824) (qr : Nat) (s1 : Int)  (a1 : Int32) (ra1 : 0 ≤ a1.toInt) (ta1 : a1.toInt ≤ 11) (a2 : Int32) (ra2 : 0 ≤ a2.toInt) (ta2 : a2.toInt ≤ 101999) (w0 : va_W) (sz : Nat) (hT : TW ksM ad cy B qr 12 w0)  : Met l yX12_isLifted (wu yX12_isLifted cX12_isLifted 5 (some .boolean)) ({ frames := 1, cells := 0, slots := 0, locals := 12 }) (va_Pc [.ref (ad 0), .int a1, .int a2] (wpreS adK adV dC dI cy sz w0)) (va_Qi (P_X12_isLifted_3 ad cy B qr s1 a1 a2 w0) (fun u : va_W => wpost dC dI cy (va_A w0 sz) u) (va_A w0 sz)) 0 0 (va_A w0 sz) := by
  refine Met.ofW (cc := cX12_isLifted) (maxL := 5) (ret := (some .boolean)) (by decide) rfl ?_
  intro p e s m args below meth c s₁ Bk hml hv
  obtain ⟨rfl, ⟨hsz, hP, hK, hD0⟩, hE, hSR⟩ := hv
  have hx := Bk.exec
  have hb := Bk.bytes
  have hr := Bk.returns
  have hlocks := Bk.notSynchronized
  have hC : CallFix p m c cX12_isLifted 5 s _ (wu yX12_isLifted cX12_isLifted 5 (some .boolean)) RX12 := ⟨hx, hb, hml, findClass_of_methodNamed Bk.named, atoms_spec (ws := (wu yX12_isLifted cX12_isLifted 5 (some .boolean))) Bk.pre⟩
  subst hsz
  have hD := hD0.self (sz := s.heap.size)
  generalize hAe : va_A w0 s.heap.size = A at hD hE ⊢
  have hA : ∀ q : Nat, s.heap.size ≤ q → A q := fun q h => by rw [← hAe]; exact Or.inr h
  have hw : Wd dC dI A s.heap s.heap [] w0 := ⟨hP, hD, va_S.rf⟩
  have hF : FE ksM ([] : List (Nat × Nat × Nat)) w0 w0 := FE.rf
  have hl := lv_entry ([.ref (ad 0), .int a1, .int a2]) (n := 5) (Nat.le_of_ble_eq_true rfl)
  rw [lg_entry_eq]
  generalize (lg_sl ([.ref (ad 0), .int a1, .int a2]) ++ List.replicate (5 - (lg_sl ([.ref (ad 0), .int a1, .int a2])).length) Slot.unset).toArray = ls at hl ⊢
  have hl : lv_has ls 5 [(0, .ref (ad 0)), (1, .int a1), (2, .int a2)] := hl
  generalize hloc : ([] : List Loc) = locs at hw ⊢
  have hinX12 : ∀ w ∈ u_ws RX12 TX12 42, w ∈ (wu yX12_isLifted cX12_isLifted 5 (some .boolean)) := fun _ h => List.mem_cons_of_mem _ (up_71 h)
  have L2 : ∀ (n2 : Nat) (v2_3 : Int32) (H : Heap) (locs : List Loc) (ls : Array Slot), 0 ≤ a1.toInt → a1.toInt ≤ 11 → 0 ≤ a2.toInt → a2.toInt ≤ 101999 → 0 ≤ v2_3.toInt → v2_3.toInt ≤ 4 → (∀ k : Int, 0 ≤ k → k < v2_3.toInt → ¬ mLf1 w0 k a1.toInt a2.toInt) → (4 - v2_3.toInt).toNat < n2 → Wd dC dI A s.heap H locs w0 → lv_has ls 5 [(0, .ref (ad 0)), (1, .int a1), (2, .int a2), (3, .int v2_3)] → W p l e ({ frames := 1, cells := 0, slots := 0, locals := 12 }) s m (List.toArray [.ref (ad 0), .int a1, .int a2]) below meth c H locs 0 0 (MQ below (va_Qi (P_X12_isLifted_3 ad cy B qr s1 a1 a2 w0) (fun u : va_W => wpost dC dI cy A u) A) (List.toArray [.ref (ad 0), .int a1, .int a2]) s 0 0 A) (F0 m 2 ls []) := by
    intro n2
    induction n2 with
    | zero => intro v2_3 H locs ls r1 t2 r3 t4 r5 t6 hcr2_0 hm2 hw hl; omega
    | succ n2 ih2 =>
      intro v2_3 H locs ls r1 t2 r3 t4 r5 t6 hcr2_0 hm2 hw hl
      refine lv_iload_n hx hb dX12_isLifted_2 rfl (lv_at hl 3 rfl) ?_
      refine lv_aload_n hx hb dX12_isLifted_3 rfl (lv_at hl 0 rfl) ?_
      refine tk_getA hC hK hw hT hinX12 kM_at0 (by decide) rfl 26 (by decide) (List.mem_cons_of_mem _ uw_7_1) rfl rfl dX12_isLifted_4 ?_
      refine lv_iconst (v := 3) hx hb dX12_isLifted_7 (by decide) ?_
      refine tk_ialdR hC hK hw hT kM_at12 rfl (by decide) (by decide) dX12_isLifted_8 (fun x7 c8 Ex7 => ?_)
      have bx7 := tk_rgI rfl 3 1 1 0 4 (by decide +kernel) ⟨0, by decide, by decide⟩ Ex7
      have c8 : gi w0 12 3 = x7 := c8
      refine lv_icmp_ge (tgt := 72) hx hb dX12_isLifted_9 (by decide) (fun c9 => ?_) (fun c9 => ?_)
      · have c9 : x7.toInt ≤ v2_3.toInt := wk_le.mp c9
        refine lv_iconst (v := 0) hx hb dX12_isLifted_72 (by decide) ?_
        exact tk_zret hC hr rfl hlocks hK ⟨rfl, (Or.inl ⟨rfl, (by exact mLf_no hcr2_0 (by simp only [c8]; omega))⟩)⟩ hw dX12_isLifted_73
      · have c9 : v2_3.toInt < x7.toInt := wk_leF c9
        refine lv_sipush (v := 156) hx hb dX12_isLifted_12 (by decide) ?_
        refine lv_iconst (v := 3) hx hb dX12_isLifted_15 (by decide) ?_
        refine lv_iload_n hx hb dX12_isLifted_16 rfl (lv_at hl 3 rfl) ?_
        refine lv_imul hx hb dX12_isLifted_17 ?_
        refine lv_topi (fun x10 ex10 => ?_)
        have ex10 : x10.toInt = (3 : Int) * v2_3.toInt := by rw [ex10]; exact wk_mul (show (-2147483648) ≤ (3 : Int) * v2_3.toInt by omega) (show (3 : Int) * v2_3.toInt ≤ 2147483647 by omega)
        refine lv_iadd hx hb dX12_isLifted_18 ?_
        refine lv_topi (fun x11 ex11 => ?_)
        have ex11 : x11.toInt = (156 : Int) + x10.toInt := by rw [ex11]; exact wk_add (show (-2147483648) ≤ (156 : Int) + x10.toInt by omega) (show (156 : Int) + x10.toInt ≤ 2147483647 by omega)
        refine lv_istore (lv' := [(4, .int x11), (0, .ref (ad 0)), (1, .int a1), (2, .int a2), (3, .int v2_3)]) hx hb dX12_isLifted_19 hl (by decide) rfl (fun ls hl => ?_)
        refine lv_aload_n hx hb dX12_isLifted_21 rfl (lv_at hl 1 rfl) ?_
        refine tk_getA hC hK hw hT hinX12 kM_at0 (by decide) rfl 26 (by decide) (List.mem_cons_of_mem _ uw_7_1) rfl rfl dX12_isLifted_22 ?_
        refine lv_iload hx hb dX12_isLifted_25 (lv_at hl 0 rfl) ?_
        refine tk_ialdR hC hK hw hT kM_at12 rfl (show 0 ≤ x11.toInt by first | with_reducible assumption | omega) (show x11.toInt < 296 by first | with_reducible assumption | omega) dX12_isLifted_27 (fun x12 c13 Ex12 => ?_)
        have c13 : gi w0 12 (3 * v2_3.toInt + 156).toNat = x12 := (congrArg (gi w0 12) (congrArg Int.toNat (show 3 * v2_3.toInt + 156 = x11.toInt by first | exact Int.le_antisymm (by omega) (by omega) | omega))).trans c13
        refine lv_iload_n hx hb dX12_isLifted_28 rfl (lv_at hl 2 rfl) ?_
        refine lv_icmp_ne (tgt := 66) hx hb dX12_isLifted_29 (by decide) (fun c14 => ?_) (fun c14 => ?_)
        · have c14 : ¬ x12.toInt = a1.toInt := wk_eqF c14
          obtain ⟨x15, ex15⟩ : ∃ y : Int32, y = v2_3 + Int32.ofInt 1 := ⟨_, rfl⟩
          refine lv_iinc (v := x15) (lv' := [(3, .int x15), (4, .int x11), (0, .ref (ad 0)), (1, .int a1), (2, .int a2)]) hx hb dX12_isLifted_66 hl (k := 4) rfl ex15.symm (by decide) rfl (fun ls hl => ?_)
          have ex15 : x15.toInt = v2_3.toInt + 1 := by rw [ex15]; exact wk_add (y := 1) (show -2147483648 ≤ v2_3.toInt + 1 by omega) (show v2_3.toInt + 1 ≤ 2147483647 by omega)
          refine lv_goto (tgt := 2) hx hb dX12_isLifted_69 (by decide) ?_
          exact ih2 x15 H locs ls  (show 0 ≤ a1.toInt from r1) (show a1.toInt ≤ 11 from t2) (show 0 ≤ a2.toInt from r3) (show a2.toInt ≤ 101999 from t4) (show 0 ≤ x15.toInt by first | with_reducible assumption | omega) (show x15.toInt ≤ 4 by first | with_reducible assumption | omega) (show ∀ k : Int, 0 ≤ k → k < x15.toInt → ¬ mLf1 w0 k a1.toInt a2.toInt from all_step hcr2_0 (show ¬ mLf1 w0 v2_3.toInt a1.toInt a2.toInt by unfold mLf1; simp only [c8, c13]; omega) (by omega)) (show (4 - x15.toInt).toNat < n2 by first | exact tn_lt hm2 (by omega) (by omega) | omega) hw   (lv_sub hl [2, 3, 4, 0] rfl)
        · have c14 : x12.toInt = a1.toInt := wk_eq.mp c14
          refine lv_iload_n hx hb dX12_isLifted_32 rfl (lv_at hl 3 rfl) ?_
          refine lv_bipush (v := 24) hx hb dX12_isLifted_33 (by decide) ?_
          refine lv_irem hx hb dX12_isLifted_35 (by decide) ?_
          refine lv_topi (fun x16 ex16 => ?_)
          have ex16 : x16.toInt = a2.toInt % (24 : Int) := by rw [ex16]; exact wk_rem (show 0 ≤ a2.toInt from r3) (show 0 < (24 : Int) by decide)
          refine lv_aload_n hx hb dX12_isLifted_36 rfl (lv_at hl 1 rfl) ?_
          refine tk_getA hC hK hw hT hinX12 kM_at0 (by decide) rfl 26 (by decide) (List.mem_cons_of_mem _ uw_7_1) rfl rfl dX12_isLifted_37 ?_
          refine lv_iload hx hb dX12_isLifted_40 (lv_at hl 0 rfl) ?_
          refine lv_iconst (v := 1) hx hb dX12_isLifted_42 (by decide) ?_
          refine lv_iadd hx hb dX12_isLifted_43 ?_
          refine lv_topi (fun x17 ex17 => ?_)
          have ex17 : x17.toInt = x11.toInt + (1 : Int) := by rw [ex17]; exact wk_add (show (-2147483648) ≤ x11.toInt + (1 : Int) by omega) (show x11.toInt + (1 : Int) ≤ 2147483647 by omega)
          refine tk_ialdR hC hK hw hT kM_at12 rfl (show 0 ≤ x17.toInt by first | with_reducible assumption | omega) (show x17.toInt < 296 by first | with_reducible assumption | omega) dX12_isLifted_44 (fun x18 c19 Ex18 => ?_)
          have c19 : gi w0 12 (3 * v2_3.toInt + 157).toNat = x18 := (congrArg (gi w0 12) (congrArg Int.toNat (show 3 * v2_3.toInt + 157 = x17.toInt by first | exact Int.le_antisymm (by omega) (by omega) | omega))).trans c19
          refine lv_icmp_lt (tgt := 66) hx hb dX12_isLifted_45 (by decide) (fun c20 => ?_) (fun c20 => ?_)
          · have c20 : x16.toInt < x18.toInt := wk_lt.mp c20
            obtain ⟨x21, ex21⟩ : ∃ y : Int32, y = v2_3 + Int32.ofInt 1 := ⟨_, rfl⟩
            refine lv_iinc (v := x21) (lv' := [(3, .int x21), (4, .int x11), (0, .ref (ad 0)), (1, .int a1), (2, .int a2)]) hx hb dX12_isLifted_66 hl (k := 4) rfl ex21.symm (by decide) rfl (fun ls hl => ?_)
            have ex21 : x21.toInt = v2_3.toInt + 1 := by rw [ex21]; exact wk_add (y := 1) (show -2147483648 ≤ v2_3.toInt + 1 by omega) (show v2_3.toInt + 1 ≤ 2147483647 by omega)
            refine lv_goto (tgt := 2) hx hb dX12_isLifted_69 (by decide) ?_
            exact ih2 x21 H locs ls  (show 0 ≤ a1.toInt from r1) (show a1.toInt ≤ 11 from t2) (show 0 ≤ a2.toInt from r3) (show a2.toInt ≤ 101999 from t4) (show 0 ≤ x21.toInt by first | with_reducible assumption | omega) (show x21.toInt ≤ 4 by first | with_reducible assumption | omega) (show ∀ k : Int, 0 ≤ k → k < x21.toInt → ¬ mLf1 w0 k a1.toInt a2.toInt from all_step hcr2_0 (show ¬ mLf1 w0 v2_3.toInt a1.toInt a2.toInt by unfold mLf1; simp only [c8, c13, c19]; omega) (by omega)) (show (4 - x21.toInt).toNat < n2 by first | exact tn_lt hm2 (by omega) (by omega) | omega) hw   (lv_sub hl [2, 3, 4, 0] rfl)
          · have c20 : x18.toInt ≤ x16.toInt := wk_ltF c20
            refine lv_iload_n hx hb dX12_isLifted_48 rfl (lv_at hl 3 rfl) ?_
            refine lv_bipush (v := 24) hx hb dX12_isLifted_49 (by decide) ?_
            refine lv_irem hx hb dX12_isLifted_51 (by decide) ?_
            refine lv_topi (fun x22 ex22 => ?_)
            have ex22 : x22.toInt = a2.toInt % (24 : Int) := by rw [ex22]; exact wk_rem (show 0 ≤ a2.toInt from r3) (show 0 < (24 : Int) by decide)
            refine lv_aload_n hx hb dX12_isLifted_52 rfl (lv_at hl 1 rfl) ?_
            refine tk_getA hC hK hw hT hinX12 kM_at0 (by decide) rfl 26 (by decide) (List.mem_cons_of_mem _ uw_7_1) rfl rfl dX12_isLifted_53 ?_
            refine lv_iload hx hb dX12_isLifted_56 (lv_at hl 0 rfl) ?_
            refine lv_iconst (v := 2) hx hb dX12_isLifted_58 (by decide) ?_
            refine lv_iadd hx hb dX12_isLifted_59 ?_
            refine lv_topi (fun x23 ex23 => ?_)
            have ex23 : x23.toInt = x11.toInt + (2 : Int) := by rw [ex23]; exact wk_add (show (-2147483648) ≤ x11.toInt + (2 : Int) by omega) (show x11.toInt + (2 : Int) ≤ 2147483647 by omega)
            refine tk_ialdR hC hK hw hT kM_at12 rfl (show 0 ≤ x23.toInt by first | with_reducible assumption | omega) (show x23.toInt < 296 by first | with_reducible assumption | omega) dX12_isLifted_60 (fun x24 c25 Ex24 => ?_)
            have c25 : gi w0 12 (3 * v2_3.toInt + 158).toNat = x24 := (congrArg (gi w0 12) (congrArg Int.toNat (show 3 * v2_3.toInt + 158 = x23.toInt by first | exact Int.le_antisymm (by omega) (by omega) | omega))).trans c25
            refine lv_icmp_ge (tgt := 66) hx hb dX12_isLifted_61 (by decide) (fun c26 => ?_) (fun c26 => ?_)
            · have c26 : x24.toInt ≤ x22.toInt := wk_le.mp c26
              obtain ⟨x27, ex27⟩ : ∃ y : Int32, y = v2_3 + Int32.ofInt 1 := ⟨_, rfl⟩
              refine lv_iinc (v := x27) (lv' := [(3, .int x27), (4, .int x11), (0, .ref (ad 0)), (1, .int a1), (2, .int a2)]) hx hb dX12_isLifted_66 hl (k := 4) rfl ex27.symm (by decide) rfl (fun ls hl => ?_)
              have ex27 : x27.toInt = v2_3.toInt + 1 := by rw [ex27]; exact wk_add (y := 1) (show -2147483648 ≤ v2_3.toInt + 1 by omega) (show v2_3.toInt + 1 ≤ 2147483647 by omega)
              refine lv_goto (tgt := 2) hx hb dX12_isLifted_69 (by decide) ?_
              exact ih2 x27 H locs ls  (show 0 ≤ a1.toInt from r1) (show a1.toInt ≤ 11 from t2) (show 0 ≤ a2.toInt from r3) (show a2.toInt ≤ 101999 from t4) (show 0 ≤ x27.toInt by first | with_reducible assumption | omega) (show x27.toInt ≤ 4 by first | with_reducible assumption | omega) (show ∀ k : Int, 0 ≤ k → k < x27.toInt → ¬ mLf1 w0 k a1.toInt a2.toInt from all_step hcr2_0 (show ¬ mLf1 w0 v2_3.toInt a1.toInt a2.toInt by unfold mLf1; simp only [c8, c13, c19, c25]; omega) (by omega)) (show (4 - x27.toInt).toNat < n2 by first | exact tn_lt hm2 (by omega) (by omega) | omega) hw   (lv_sub hl [2, 3, 4, 0] rfl)
            · have c26 : x22.toInt < x24.toInt := wk_leF c26
              refine lv_iconst (v := 1) hx hb dX12_isLifted_64 (by decide) ?_
              exact tk_zret hC hr rfl hlocks hK ⟨rfl, (Or.inr ⟨rfl, ⟨x7, c8, (show 1 ≤ x7.toInt by first | with_reducible assumption | omega), (show x7.toInt ≤ 4 by first | with_reducible assumption | omega)⟩, (by exact ⟨v2_3.toInt, by omega, by simp only [c8, c13, c19, c25]; omega, by unfold mLf1; simp only [c8, c13, c19, c25]; omega⟩)⟩)⟩ hw dX12_isLifted_65
  refine lv_iconst (v := 0) hx hb dX12_isLifted_0 (by decide) ?_
  refine lv_istore_n (lv' := [(3, .int 0), (0, .ref (ad 0)), (1, .int a1), (2, .int a2)]) hx hb dX12_isLifted_1 rfl hl (by decide) rfl (fun ls hl => ?_)
  exact L2 ((4 - (0 : Int)).toNat + 1) 0 s.heap locs ls  (show 0 ≤ a1.toInt from ra1) (show a1.toInt ≤ 11 from ta1) (show 0 ≤ a2.toInt from ra2) (show a2.toInt ≤ 101999 from ta2) (by decide) (by decide) (show ∀ k : Int, 0 ≤ k → k < (0 : Int) → ¬ mLf1 w0 k a1.toInt a2.toInt from all_none) (Nat.lt_succ_self _) hw   (lv_sub hl [1, 2, 3, 0] rfl)
abbrev P_X12_firstOpen_1 (ad : Nat → Nat) (cy : Nat → ClassId) (B : Int) (qr : Nat) (s1 : Int) (a1 : Int32) (a2 : Int32) (a3 : Int32) (a4 : Int32) (w0 : va_W) : Int32 → va_W → Prop := fun r u => w0 = u ∧ ((0 ≤ r.toInt ∧ r.toInt ≤ 100000000) ∨ (0 ≤ r.toInt ∧ r.toInt ≤ 101999 ∧ gi u 12 (10 * a1.toInt + 10).toNat = a2))
set_option maxHeartbeats 4000000 in
set_option maxRecDepth 100000 in
theorem k_X12_firstOpen_1 (l : Launch) (adK adV : Nat → Nat) (dC : Nat → ClassId) (dI : Nat → Nat → Nat) (cy : Nat → ClassId) (ad : Nat → Nat) (B : Int) (hB0 : 100000 ≤ B) (hB1 : B ≤ 1073741824) (qr : Nat) (s1 : Int)  (a1 : Int32) (ra1 : 0 ≤ a1.toInt) (ta1 : a1.toInt ≤ 11) (a2 : Int32) (ra2 : 0 ≤ a2.toInt) (ta2 : a2.toInt ≤ 9) (a3 : Int32) (ra3 : 0 ≤ a3.toInt) (ta3 : a3.toInt ≤ 100000100) (a4 : Int32) (ra4 : 2000 ≤ a4.toInt) (ta4 : a4.toInt ≤ 101999) (w0 : va_W) (sz : Nat) (hT : TW ksM ad cy B qr 12 w0)  : Met l yX12_firstOpen (wu yX12_firstOpen cX12_firstOpen 6 (some .int)) ({ frames := 4, cells := 0, slots := 0, locals := 80 }) (va_Pc [.ref (ad 0), .int a1, .int a2, .int a3, .int a4] (wpreS adK adV dC dI cy sz w0)) (va_Qi (P_X12_firstOpen_1 ad cy B qr s1 a1 a2 a3 a4 w0) (fun u : va_W => wpost dC dI cy (va_A w0 sz) u) (va_A w0 sz)) 0 0 (va_A w0 sz) := by
  refine Met.ofW (cc := cX12_firstOpen) (maxL := 6) (ret := (some .int)) (by decide) rfl ?_
  intro p e s m args below meth c s₁ Bk hml hv
  obtain ⟨rfl, ⟨hsz, hP, hK, hD0⟩, hE, hSR⟩ := hv
  have hx := Bk.exec
  have hb := Bk.bytes
  have hr := Bk.returns
  have hlocks := Bk.notSynchronized
  have hC : CallFix p m c cX12_firstOpen 6 s _ (wu yX12_firstOpen cX12_firstOpen 6 (some .int)) RX12 := ⟨hx, hb, hml, findClass_of_methodNamed Bk.named, atoms_spec (ws := (wu yX12_firstOpen cX12_firstOpen 6 (some .int))) Bk.pre⟩
  subst hsz
  have hD := hD0.self (sz := s.heap.size)
  generalize hAe : va_A w0 s.heap.size = A at hD hE ⊢
  have hA : ∀ q : Nat, s.heap.size ≤ q → A q := fun q h => by rw [← hAe]; exact Or.inr h
  have hw : Wd dC dI A s.heap s.heap [] w0 := ⟨hP, hD, va_S.rf⟩
  have hF : FE ksM ([] : List (Nat × Nat × Nat)) w0 w0 := FE.rf
  have hl := lv_entry ([.ref (ad 0), .int a1, .int a2, .int a3, .int a4]) (n := 6) (Nat.le_of_ble_eq_true rfl)
  rw [lg_entry_eq]
  generalize (lg_sl ([.ref (ad 0), .int a1, .int a2, .int a3, .int a4]) ++ List.replicate (6 - (lg_sl ([.ref (ad 0), .int a1, .int a2, .int a3, .int a4])).length) Slot.unset).toArray = ls at hl ⊢
  have hl : lv_has ls 6 [(0, .ref (ad 0)), (1, .int a1), (2, .int a2), (3, .int a3), (4, .int a4)] := hl
  generalize hloc : ([] : List Loc) = locs at hw ⊢
  have L3 : ∀ (n3 : Nat) (v3_5 : Int32) (H : Heap) (locs : List Loc) (ls : Array Slot), 0 ≤ a1.toInt → a1.toInt ≤ 11 → 0 ≤ a2.toInt → a2.toInt ≤ 9 → 0 ≤ a3.toInt → a3.toInt ≤ 100000100 → 2000 ≤ a4.toInt → a4.toInt ≤ 101999 → 0 ≤ v3_5.toInt → v3_5.toInt ≤ 100000100 → (100000100 - v3_5.toInt).toNat < n3 → Wd dC dI A s.heap H locs w0 → lv_has ls 6 [(0, .ref (ad 0)), (1, .int a1), (2, .int a2), (3, .int a3), (4, .int a4), (5, .int v3_5)] → W p l e ({ frames := 4, cells := 0, slots := 0, locals := 80 }) s m (List.toArray [.ref (ad 0), .int a1, .int a2, .int a3, .int a4]) below meth c H locs 0 0 (MQ below (va_Qi (P_X12_firstOpen_1 ad cy B qr s1 a1 a2 a3 a4 w0) (fun u : va_W => wpost dC dI cy A u) A) (List.toArray [.ref (ad 0), .int a1, .int a2, .int a3, .int a4]) s 0 0 A) (F0 m 3 ls []) := by
    intro n3
    induction n3 with
    | zero => intro v3_5 H locs ls r1 t2 r3 t4 r5 t6 r7 t8 r9 t10 hm3 hw hl; omega
    | succ n3 ih3 =>
      intro v3_5 H locs ls r1 t2 r3 t4 r5 t6 r7 t8 r9 t10 hm3 hw hl
      refine lv_iload hx hb dX12_firstOpen_3 (lv_at hl 5 rfl) ?_
      refine lv_iload hx hb dX12_firstOpen_5 (lv_at hl 4 rfl) ?_
      refine lv_icmp_gt (tgt := 58) hx hb dX12_firstOpen_7 (by decide) (fun c11 => ?_) (fun c11 => ?_)
      · have c11 : a4.toInt < v3_5.toInt := wk_lt.mp c11
        refine lv_ldcw (v := 100000000) hx hb hC.2.2.2.1 (hC.2.2.2.2 _ (List.mem_cons_of_mem _ uw_38_2)) dX12_firstOpen_58 ?_
        exact tk_iret hC hr hlocks hK ⟨rfl, (Or.inl ⟨(by decide), (by decide)⟩)⟩ hw dX12_firstOpen_61
      · have c11 : v3_5.toInt ≤ a4.toInt := wk_ltF c11
        refine lv_aload_n hx hb dX12_firstOpen_10 rfl (lv_at hl 0 rfl) ?_
        refine lv_iload_n hx hb dX12_firstOpen_11 rfl (lv_at hl 1 rfl) ?_
        refine lv_iload_n hx hb dX12_firstOpen_12 rfl (lv_at hl 2 rfl) ?_
        refine lv_iload hx hb dX12_firstOpen_13 (lv_at hl 5 rfl) ?_
        refine lv_bipush (v := 24) hx hb dX12_firstOpen_15 (by decide) ?_
        refine lv_idiv hx hb dX12_firstOpen_17 (by decide) ?_
        refine lv_topi (fun x12 ex12 => ?_)
        have ex12 : x12.toInt = v3_5.toInt / (24 : Int) := by rw [ex12]; exact wk_div (show 0 ≤ v3_5.toInt from r9) (show 0 < (24 : Int) by decide)
        refine tk_Vi hC hK hw hT hA hE hSR kM_at0 (by decide) rfl (k_X12_isDayFor_3 l adK adV dC dI cy ad B hB0 (Int.le_trans hB1 (by decide)) qr s1   a1 (show 0 ≤ a1.toInt from r1) (show a1.toInt ≤ 11 from t2) a2 (show 0 ≤ a2.toInt from r3) (show a2.toInt ≤ 9 from t4) x12 (show 0 ≤ x12.toInt by first | with_reducible assumption | omega) (show x12.toInt ≤ 4249 by first | with_reducible assumption | omega) w0 H.size hT ) (cwV 3 hC.2.2.2.2 uV_RX12_317 rfl rfl rfl (by decide +kernel) ⟨Nat.le_of_ble_eq_true rfl, Nat.le_of_ble_eq_true rfl⟩) rfl hl.1 rfl (Nat.le_of_ble_eq_true rfl) dX12_firstOpen_18 (fun r13 w15 H locs hp14 hw => ?_)
        obtain ⟨rfl, hg23⟩ := hp14
        rcases hg23 with ⟨rfl, hq17⟩ | ⟨rfl, c18, hq19⟩ | ⟨rfl, hq20⟩ | ⟨rfl, c21, hq22⟩
        · refine lv_if_ne (tgt := 39) hx hb dX12_firstOpen_21 (by decide) (fun c => absurd (by decide) c) (fun _ => ?_)
          refine lv_iload hx hb dX12_firstOpen_24 (lv_at hl 5 rfl) ?_
          refine lv_bipush (v := 24) hx hb dX12_firstOpen_26 (by decide) ?_
          refine lv_idiv hx hb dX12_firstOpen_28 (by decide) ?_
          refine lv_topi (fun x24 ex24 => ?_)
          have ex24 : x24.toInt = v3_5.toInt / (24 : Int) := by rw [ex24]; exact wk_div (show 0 ≤ v3_5.toInt from r9) (show 0 < (24 : Int) by decide)
          refine lv_iconst (v := 1) hx hb dX12_firstOpen_29 (by decide) ?_
          refine lv_iadd hx hb dX12_firstOpen_30 ?_
          refine lv_topi (fun x25 ex25 => ?_)
          have ex25 : x25.toInt = x24.toInt + (1 : Int) := by rw [ex25]; exact wk_add (show (-2147483648) ≤ x24.toInt + (1 : Int) by omega) (show x24.toInt + (1 : Int) ≤ 2147483647 by omega)
          refine lv_bipush (v := 24) hx hb dX12_firstOpen_31 (by decide) ?_
          refine lv_imul hx hb dX12_firstOpen_33 ?_
          refine lv_topi (fun x26 ex26 => ?_)
          have ex26 : x26.toInt = x25.toInt * (24 : Int) := by rw [ex26]; exact wk_mul (show (-2147483648) ≤ x25.toInt * (24 : Int) by omega) (show x25.toInt * (24 : Int) ≤ 2147483647 by omega)
          refine lv_istore (lv' := [(5, .int x26), (0, .ref (ad 0)), (1, .int a1), (2, .int a2), (3, .int a3), (4, .int a4)]) hx hb dX12_firstOpen_34 hl (by decide) rfl (fun ls hl => ?_)
          refine lv_goto (tgt := 3) hx hb dX12_firstOpen_36 (by decide) ?_
          exact ih3 x26 H locs ls  (show 0 ≤ a1.toInt from r1) (show a1.toInt ≤ 11 from t2) (show 0 ≤ a2.toInt from r3) (show a2.toInt ≤ 9 from t4) (show 0 ≤ a3.toInt from r5) (show a3.toInt ≤ 100000100 from t6) (show 2000 ≤ a4.toInt from r7) (show a4.toInt ≤ 101999 from t8) (show 0 ≤ x26.toInt by first | with_reducible assumption | omega) (show x26.toInt ≤ 100000100 by first | with_reducible assumption | omega) (show (100000100 - x26.toInt).toNat < n3 by first | exact tn_lt hm3 (by omega) (by omega) | omega) hw   (lv_sub hl [1, 2, 3, 4, 5, 0] rfl)
        · refine lv_if_ne (tgt := 39) hx hb dX12_firstOpen_21 (by decide) (fun c => absurd (by decide) c) (fun _ => ?_)
          refine lv_iload hx hb dX12_firstOpen_24 (lv_at hl 5 rfl) ?_
          refine lv_bipush (v := 24) hx hb dX12_firstOpen_26 (by decide) ?_
          refine lv_idiv hx hb dX12_firstOpen_28 (by decide) ?_
          refine lv_topi (fun x27 ex27 => ?_)
          have ex27 : x27.toInt = v3_5.toInt / (24 : Int) := by rw [ex27]; exact wk_div (show 0 ≤ v3_5.toInt from r9) (show 0 < (24 : Int) by decide)
          refine lv_iconst (v := 1) hx hb dX12_firstOpen_29 (by decide) ?_
          refine lv_iadd hx hb dX12_firstOpen_30 ?_
          refine lv_topi (fun x28 ex28 => ?_)
          have ex28 : x28.toInt = x27.toInt + (1 : Int) := by rw [ex28]; exact wk_add (show (-2147483648) ≤ x27.toInt + (1 : Int) by omega) (show x27.toInt + (1 : Int) ≤ 2147483647 by omega)
          refine lv_bipush (v := 24) hx hb dX12_firstOpen_31 (by decide) ?_
          refine lv_imul hx hb dX12_firstOpen_33 ?_
          refine lv_topi (fun x29 ex29 => ?_)
          have ex29 : x29.toInt = x28.toInt * (24 : Int) := by rw [ex29]; exact wk_mul (show (-2147483648) ≤ x28.toInt * (24 : Int) by omega) (show x28.toInt * (24 : Int) ≤ 2147483647 by omega)
          refine lv_istore (lv' := [(5, .int x29), (0, .ref (ad 0)), (1, .int a1), (2, .int a2), (3, .int a3), (4, .int a4)]) hx hb dX12_firstOpen_34 hl (by decide) rfl (fun ls hl => ?_)
          refine lv_goto (tgt := 3) hx hb dX12_firstOpen_36 (by decide) ?_
          exact ih3 x29 H locs ls  (show 0 ≤ a1.toInt from r1) (show a1.toInt ≤ 11 from t2) (show 0 ≤ a2.toInt from r3) (show a2.toInt ≤ 9 from t4) (show 0 ≤ a3.toInt from r5) (show a3.toInt ≤ 100000100 from t6) (show 2000 ≤ a4.toInt from r7) (show a4.toInt ≤ 101999 from t8) (show 0 ≤ x29.toInt by first | with_reducible assumption | omega) (show x29.toInt ≤ 100000100 by first | with_reducible assumption | omega) (show (100000100 - x29.toInt).toNat < n3 by first | exact tn_lt hm3 (by omega) (by omega) | omega) hw   (lv_sub hl [1, 2, 3, 4, 5, 0] rfl)
        · refine lv_if_ne (tgt := 39) hx hb dX12_firstOpen_21 (by decide) (fun _ => ?_) (fun c => absurd c (by decide))
          refine lv_aload_n hx hb dX12_firstOpen_39 rfl (lv_at hl 0 rfl) ?_
          refine lv_iload_n hx hb dX12_firstOpen_40 rfl (lv_at hl 1 rfl) ?_
          refine lv_iload hx hb dX12_firstOpen_41 (lv_at hl 5 rfl) ?_
          refine tk_Vi hC hK hw hT hA hE hSR kM_at0 (by decide) rfl (k_X12_isLifted_3 l adK adV dC dI cy ad B hB0 (Int.le_trans hB1 (by decide)) qr s1   a1 (show 0 ≤ a1.toInt from r1) (show a1.toInt ≤ 11 from t2) v3_5 (show 0 ≤ v3_5.toInt from r9) (show v3_5.toInt ≤ 101999 by first | with_reducible assumption | omega) w0 H.size hT ) (cwV 2 hC.2.2.2.2 uV_RX12_320 rfl rfl rfl (by decide +kernel) ⟨Nat.le_of_ble_eq_true rfl, Nat.le_of_ble_eq_true rfl⟩) rfl hl.1 rfl (Nat.le_of_ble_eq_true rfl) dX12_firstOpen_43 (fun r30 w32 H locs hp31 hw => ?_)
          obtain ⟨rfl, hg38⟩ := hp31
          rcases hg38 with ⟨rfl, hq34⟩ | ⟨rfl, ⟨x35, c36, rx35, tx35⟩, hq37⟩
          · refine lv_if_eq (tgt := 55) hx hb dX12_firstOpen_46 (by decide) (fun _ => ?_) (fun c => absurd (by decide) c)
            refine lv_iload hx hb dX12_firstOpen_55 (lv_at hl 5 rfl) ?_
            exact tk_iret hC hr hlocks hK ⟨rfl, (Or.inl ⟨(show 0 ≤ v3_5.toInt from r9), (show v3_5.toInt ≤ 100000000 by first | with_reducible assumption | omega)⟩)⟩ hw dX12_firstOpen_57
          · refine lv_if_eq (tgt := 55) hx hb dX12_firstOpen_46 (by decide) (fun c => absurd c (by decide)) (fun _ => ?_)
            obtain ⟨x39, ex39⟩ : ∃ y : Int32, y = v3_5 + Int32.ofInt 1 := ⟨_, rfl⟩
            refine lv_iinc (v := x39) (lv' := [(5, .int x39), (0, .ref (ad 0)), (1, .int a1), (2, .int a2), (3, .int a3), (4, .int a4)]) hx hb dX12_firstOpen_49 hl (k := 5) rfl ex39.symm (by decide) rfl (fun ls hl => ?_)
            have ex39 : x39.toInt = v3_5.toInt + 1 := by rw [ex39]; exact wk_add (y := 1) (show -2147483648 ≤ v3_5.toInt + 1 by omega) (show v3_5.toInt + 1 ≤ 2147483647 by omega)
            refine lv_goto (tgt := 3) hx hb dX12_firstOpen_52 (by decide) ?_
            exact ih3 x39 H locs ls  (show 0 ≤ a1.toInt from r1) (show a1.toInt ≤ 11 from t2) (show 0 ≤ a2.toInt from r3) (show a2.toInt ≤ 9 from t4) (show 0 ≤ a3.toInt from r5) (show a3.toInt ≤ 100000100 from t6) (show 2000 ≤ a4.toInt from r7) (show a4.toInt ≤ 101999 from t8) (show 0 ≤ x39.toInt by first | with_reducible assumption | omega) (show x39.toInt ≤ 100000100 by first | with_reducible assumption | omega) (show (100000100 - x39.toInt).toNat < n3 by first | exact tn_lt hm3 (by omega) (by omega) | omega) hw   (lv_sub hl [1, 2, 3, 4, 5, 0] rfl)
        · refine lv_if_ne (tgt := 39) hx hb dX12_firstOpen_21 (by decide) (fun _ => ?_) (fun c => absurd c (by decide))
          refine lv_aload_n hx hb dX12_firstOpen_39 rfl (lv_at hl 0 rfl) ?_
          refine lv_iload_n hx hb dX12_firstOpen_40 rfl (lv_at hl 1 rfl) ?_
          refine lv_iload hx hb dX12_firstOpen_41 (lv_at hl 5 rfl) ?_
          refine tk_Vi hC hK hw hT hA hE hSR kM_at0 (by decide) rfl (k_X12_isLifted_3 l adK adV dC dI cy ad B hB0 (Int.le_trans hB1 (by decide)) qr s1   a1 (show 0 ≤ a1.toInt from r1) (show a1.toInt ≤ 11 from t2) v3_5 (show 0 ≤ v3_5.toInt from r9) (show v3_5.toInt ≤ 101999 by first | with_reducible assumption | omega) w0 H.size hT ) (cwV 2 hC.2.2.2.2 uV_RX12_320 rfl rfl rfl (by decide +kernel) ⟨Nat.le_of_ble_eq_true rfl, Nat.le_of_ble_eq_true rfl⟩) rfl hl.1 rfl (Nat.le_of_ble_eq_true rfl) dX12_firstOpen_43 (fun r40 w42 H locs hp41 hw => ?_)
          obtain ⟨rfl, hg48⟩ := hp41
          rcases hg48 with ⟨rfl, hq44⟩ | ⟨rfl, ⟨x45, c46, rx45, tx45⟩, hq47⟩
          · refine lv_if_eq (tgt := 55) hx hb dX12_firstOpen_46 (by decide) (fun _ => ?_) (fun c => absurd (by decide) c)
            refine lv_iload hx hb dX12_firstOpen_55 (lv_at hl 5 rfl) ?_
            exact tk_iret hC hr hlocks hK ⟨rfl, (Or.inr ⟨(show 0 ≤ v3_5.toInt from r9), (show v3_5.toInt ≤ 101999 by first | with_reducible assumption | omega), c21⟩)⟩ hw dX12_firstOpen_57
          · refine lv_if_eq (tgt := 55) hx hb dX12_firstOpen_46 (by decide) (fun c => absurd c (by decide)) (fun _ => ?_)
            obtain ⟨x49, ex49⟩ : ∃ y : Int32, y = v3_5 + Int32.ofInt 1 := ⟨_, rfl⟩
            refine lv_iinc (v := x49) (lv' := [(5, .int x49), (0, .ref (ad 0)), (1, .int a1), (2, .int a2), (3, .int a3), (4, .int a4)]) hx hb dX12_firstOpen_49 hl (k := 5) rfl ex49.symm (by decide) rfl (fun ls hl => ?_)
            have ex49 : x49.toInt = v3_5.toInt + 1 := by rw [ex49]; exact wk_add (y := 1) (show -2147483648 ≤ v3_5.toInt + 1 by omega) (show v3_5.toInt + 1 ≤ 2147483647 by omega)
            refine lv_goto (tgt := 3) hx hb dX12_firstOpen_52 (by decide) ?_
            exact ih3 x49 H locs ls  (show 0 ≤ a1.toInt from r1) (show a1.toInt ≤ 11 from t2) (show 0 ≤ a2.toInt from r3) (show a2.toInt ≤ 9 from t4) (show 0 ≤ a3.toInt from r5) (show a3.toInt ≤ 100000100 from t6) (show 2000 ≤ a4.toInt from r7) (show a4.toInt ≤ 101999 from t8) (show 0 ≤ x49.toInt by first | with_reducible assumption | omega) (show x49.toInt ≤ 100000100 by first | with_reducible assumption | omega) (show (100000100 - x49.toInt).toNat < n3 by first | exact tn_lt hm3 (by omega) (by omega) | omega) hw   (lv_sub hl [1, 2, 3, 4, 5, 0] rfl)
  refine lv_iload_n hx hb dX12_firstOpen_0 rfl (lv_at hl 3 rfl) ?_
  refine lv_istore (lv' := [(5, .int a3), (0, .ref (ad 0)), (1, .int a1), (2, .int a2), (3, .int a3), (4, .int a4)]) hx hb dX12_firstOpen_1 hl (by decide) rfl (fun ls hl => ?_)
  exact L3 ((100000100 - a3.toInt).toNat + 1) a3 s.heap locs ls  (show 0 ≤ a1.toInt from ra1) (show a1.toInt ≤ 11 from ta1) (show 0 ≤ a2.toInt from ra2) (show a2.toInt ≤ 9 from ta2) (show 0 ≤ a3.toInt from ra3) (show a3.toInt ≤ 100000100 from ta3) (show 2000 ≤ a4.toInt from ra4) (show a4.toInt ≤ 101999 from ta4) (show 0 ≤ a3.toInt from ra3) (show a3.toInt ≤ 100000100 from ta3) (Nat.lt_succ_self _) hw   (lv_sub hl [1, 2, 3, 4, 5, 0] rfl)
abbrev P_X12_reaches_1 (ad : Nat → Nat) (cy : Nat → ClassId) (B : Int) (qr : Nat) (s1 : Int) (a1 : Int32) (a2 : Int32) (a3 : Int32) (a4 : Int32) (w0 : va_W) : Int32 → va_W → Prop := fun r u => TW ksM ad cy B qr 12 u ∧ FE ksM [(77, 0, 10), (78, 0, 10)] w0 u ∧ ((0 ≤ r.toInt ∧ r.toInt ≤ 100000100))
set_option maxHeartbeats 4000000 in
set_option maxRecDepth 100000 in
theorem k_X12_reaches_1 (l : Launch) (adK adV : Nat → Nat) (dC : Nat → ClassId) (dI : Nat → Nat → Nat) (cy : Nat → ClassId) (ad : Nat → Nat) (B : Int) (hB0 : 100000 ≤ B) (hB1 : B ≤ 1073741824) (qr : Nat) (s1 : Int)  (a1 : Int32) (ra1 : 0 ≤ a1.toInt) (ta1 : a1.toInt ≤ 9) (a2 : Int32) (ra2 : 0 ≤ a2.toInt) (ta2 : a2.toInt ≤ 9) (a3 : Int32) (ra3 : 0 ≤ a3.toInt) (ta3 : a3.toInt ≤ 99999) (a4 : Int32) (ra4 : 2000 ≤ a4.toInt) (ta4 : a4.toInt ≤ 101999) (w0 : va_W) (sz : Nat) (hT : TW ksM ad cy B qr 12 w0)  : Met l yX12_reaches (wu yX12_reaches cX12_reaches 9 (some .int)) ({ frames := 5, cells := 0, slots := 0, locals := 105 }) (va_Pc [.ref (ad 0), .int a1, .int a2, .int a3, .int a4] (wpreS adK adV dC dI cy sz w0)) (va_Qi (P_X12_reaches_1 ad cy B qr s1 a1 a2 a3 a4 w0) (fun u : va_W => wpost dC dI cy (va_A w0 sz) u) (va_A w0 sz)) 0 0 (va_A w0 sz) := by
  refine Met.ofW (cc := cX12_reaches) (maxL := 9) (ret := (some .int)) (by decide) rfl ?_
  intro p e s m args below meth c s₁ Bk hml hv
  obtain ⟨rfl, ⟨hsz, hP, hK, hD0⟩, hE, hSR⟩ := hv
  have hx := Bk.exec
  have hb := Bk.bytes
  have hr := Bk.returns
  have hlocks := Bk.notSynchronized
  have hC : CallFix p m c cX12_reaches 9 s _ (wu yX12_reaches cX12_reaches 9 (some .int)) RX12 := ⟨hx, hb, hml, findClass_of_methodNamed Bk.named, atoms_spec (ws := (wu yX12_reaches cX12_reaches 9 (some .int))) Bk.pre⟩
  subst hsz
  have hD := hD0.self (sz := s.heap.size)
  generalize hAe : va_A w0 s.heap.size = A at hD hE ⊢
  have hA : ∀ q : Nat, s.heap.size ≤ q → A q := fun q h => by rw [← hAe]; exact Or.inr h
  have hw : Wd dC dI A s.heap s.heap [] w0 := ⟨hP, hD, va_S.rf⟩
  have hF : FE ksM [(77, 0, 10), (78, 0, 10)] w0 w0 := FE.rf
  have hl := lv_entry ([.ref (ad 0), .int a1, .int a2, .int a3, .int a4]) (n := 9) (Nat.le_of_ble_eq_true rfl)
  rw [lg_entry_eq]
  generalize (lg_sl ([.ref (ad 0), .int a1, .int a2, .int a3, .int a4]) ++ List.replicate (9 - (lg_sl ([.ref (ad 0), .int a1, .int a2, .int a3, .int a4])).length) Slot.unset).toArray = ls at hl ⊢
  have hl : lv_has ls 9 [(0, .ref (ad 0)), (1, .int a1), (2, .int a2), (3, .int a3), (4, .int a4)] := hl
  generalize hloc : ([] : List Loc) = locs at hw ⊢
  have hinX12 : ∀ w ∈ u_ws RX12 TX12 42, w ∈ (wu yX12_reaches cX12_reaches 9 (some .int)) := fun _ h => List.mem_cons_of_mem _ (up_71 h)
  have L44 : ∀ (n44 : Nat) (v44_5 : Int32) (H : Heap) (locs : List Loc) (ls : Array Slot) (w1 : va_W), 0 ≤ a1.toInt → a1.toInt ≤ 9 → 0 ≤ a2.toInt → a2.toInt ≤ 9 → 0 ≤ a3.toInt → a3.toInt ≤ 99999 → 2000 ≤ a4.toInt → a4.toInt ≤ 101999 → 0 ≤ v44_5.toInt → v44_5.toInt ≤ 10 → (0 ≤ (sumG 19 10 w1)) → (10 - (sumG 19 10 w1)).toNat < n44 → Wd dC dI A s.heap H locs w1 → TW ksM ad cy B qr 12 w1 → FE ksM [(77, 0, 10), (78, 0, 10)] w0 w1 → lv_has ls 9 [(0, .ref (ad 0)), (1, .int a1), (2, .int a2), (3, .int a3), (4, .int a4), (5, .int v44_5)] → W p l e ({ frames := 5, cells := 0, slots := 0, locals := 105 }) s m (List.toArray [.ref (ad 0), .int a1, .int a2, .int a3, .int a4]) below meth c H locs 0 0 (MQ below (va_Qi (P_X12_reaches_1 ad cy B qr s1 a1 a2 a3 a4 w0) (fun u : va_W => wpost dC dI cy A u) A) (List.toArray [.ref (ad 0), .int a1, .int a2, .int a3, .int a4]) s 0 0 A) (F0 m 44 ls []) := by
    intro n44
    induction n44 with
    | zero => intro v44_5 H locs ls w1 r2 t3 r4 t5 r6 t7 r8 t9 r10 t11 hcr44_0 hm44 hw hT hF hl; omega
    | succ n44 ih44 =>
      intro v44_5 H locs ls w1 r2 t3 r4 t5 r6 t7 r8 t9 r10 t11 hcr44_0 hm44 hw hT hF hl
      have L145 : ∀ (n145 : Nat) (v145_5 : Int32) (v145_6 : Int32) (f145_12_0 : Int32) (H : Heap) (locs : List Loc) (ls : Array Slot) (w12 : va_W), 0 ≤ a1.toInt → a1.toInt ≤ 9 → 0 ≤ a2.toInt → a2.toInt ≤ 9 → 0 ≤ a3.toInt → a3.toInt ≤ 99999 → 2000 ≤ a4.toInt → a4.toInt ≤ 101999 → 0 ≤ v145_5.toInt → v145_5.toInt ≤ 9 → 0 ≤ v145_6.toInt → v145_6.toInt ≤ 12 → 0 ≤ f145_12_0.toInt → f145_12_0.toInt ≤ 10 → ((sumG 19 10 w1) + 1 ≤ (sumG 19 10 w12)) → (12 - v145_6.toInt).toNat < n145 → Wd dC dI A s.heap H locs w12 → TW ksM ad cy B qr 12 w12 → FE ksM [(77, 0, 10), (78, 0, 10)] w0 w12 → gi w12 12 0 = f145_12_0 → lv_has ls 9 [(0, .ref (ad 0)), (1, .int a1), (2, .int a2), (3, .int a3), (4, .int a4), (5, .int v145_5), (6, .int v145_6)] → W p l e ({ frames := 5, cells := 0, slots := 0, locals := 105 }) s m (List.toArray [.ref (ad 0), .int a1, .int a2, .int a3, .int a4]) below meth c H locs 0 0 (MQ below (va_Qi (P_X12_reaches_1 ad cy B qr s1 a1 a2 a3 a4 w0) (fun u : va_W => wpost dC dI cy A u) A) (List.toArray [.ref (ad 0), .int a1, .int a2, .int a3, .int a4]) s 0 0 A) (F0 m 145 ls []) := by
        intro n145
        induction n145 with
        | zero => intro v145_5 v145_6 f145_12_0 H locs ls w12 r13 t14 r15 t16 r17 t18 r19 t20 r21 t22 r23 t24 r25 t26 hcr145_0 hm145 hw hT hF c27 hl; omega
        | succ n145 ih145 =>
          intro v145_5 v145_6 f145_12_0 H locs ls w12 r13 t14 r15 t16 r17 t18 r19 t20 r21 t22 r23 t24 r25 t26 hcr145_0 hm145 hw hT hF c27 hl
          have J259 : ∀ (f259_12_1 : Int32) (H : Heap) (locs : List Loc) (ls : Array Slot) (w28 : va_W), 0 ≤ a1.toInt → a1.toInt ≤ 9 → 0 ≤ a2.toInt → a2.toInt ≤ 9 → 0 ≤ a3.toInt → a3.toInt ≤ 99999 → 2000 ≤ a4.toInt → a4.toInt ≤ 101999 → 0 ≤ v145_5.toInt → v145_5.toInt ≤ 9 → 0 ≤ v145_6.toInt → v145_6.toInt ≤ 11 → 0 ≤ f145_12_0.toInt → f145_12_0.toInt ≤ 10 → 1 ≤ f259_12_1.toInt → f259_12_1.toInt ≤ 12 → ((sumG 19 10 w1) + 1 ≤ (sumG 19 10 w28)) → Wd dC dI A s.heap H locs w28 → TW ksM ad cy B qr 12 w28 → FE ksM [(77, 0, 10), (78, 0, 10)] w0 w28 → gi w28 12 0 = f145_12_0 → gi w28 12 1 = f259_12_1 → lv_has ls 9 [(0, .ref (ad 0)), (1, .int a1), (2, .int a2), (3, .int a3), (4, .int a4), (5, .int v145_5), (6, .int v145_6)] → W p l e ({ frames := 5, cells := 0, slots := 0, locals := 105 }) s m (List.toArray [.ref (ad 0), .int a1, .int a2, .int a3, .int a4]) below meth c H locs 0 0 (MQ below (va_Qi (P_X12_reaches_1 ad cy B qr s1 a1 a2 a3 a4 w0) (fun u : va_W => wpost dC dI cy A u) A) (List.toArray [.ref (ad 0), .int a1, .int a2, .int a3, .int a4]) s 0 0 A) (F0 m 259 ls []) := by
            intro f259_12_1 H locs ls w28 r29 t30 r31 t32 r33 t34 r35 t36 r37 t38 r39 t40 r41 t42 r44 t45 hcr259_0 hw hT hF c43 c46 hl
            obtain ⟨x47, ex47⟩ : ∃ y : Int32, y = v145_6 + Int32.ofInt 1 := ⟨_, rfl⟩
            refine lv_iinc (v := x47) (lv' := [(6, .int x47), (0, .ref (ad 0)), (1, .int a1), (2, .int a2), (3, .int a3), (4, .int a4), (5, .int v145_5)]) hx hb dX12_reaches_259 hl (k := 6) rfl ex47.symm (by decide) rfl (fun ls hl => ?_)
            have ex47 : x47.toInt = v145_6.toInt + 1 := by rw [ex47]; exact wk_add (y := 1) (show -2147483648 ≤ v145_6.toInt + 1 by omega) (show v145_6.toInt + 1 ≤ 2147483647 by omega)
            refine lv_goto (tgt := 145) hx hb dX12_reaches_262 (by decide) ?_
            have gb48 : 0 ≤ sumG 19 10 w28 ∧ sumG 19 10 w28 ≤ 10 := hT.sum (lo := 0) (hi := 1) kM_at19 rfl (by decide) rfl
            exact ih145 v145_5 x47 f145_12_0 H locs ls w28 (show 0 ≤ a1.toInt from r29) (show a1.toInt ≤ 9 from t30) (show 0 ≤ a2.toInt from r31) (show a2.toInt ≤ 9 from t32) (show 0 ≤ a3.toInt from r33) (show a3.toInt ≤ 99999 from t34) (show 2000 ≤ a4.toInt from r35) (show a4.toInt ≤ 101999 from t36) (show 0 ≤ v145_5.toInt from r37) (show v145_5.toInt ≤ 9 from t38) (show 0 ≤ x47.toInt by first | with_reducible assumption | omega) (show x47.toInt ≤ 12 by first | with_reducible assumption | omega) (show 0 ≤ f145_12_0.toInt from r41) (show f145_12_0.toInt ≤ 10 from t42) (show (sumG 19 10 w1) + 1 ≤ (sumG 19 10 w28) by omega) (show (12 - x47.toInt).toNat < n145 by first | exact tn_lt hm145 (by omega) (by omega) | omega) hw hT hF c43 (lv_sub hl [1, 2, 3, 4, 5, 6, 0] rfl)
          refine lv_iload hx hb dX12_reaches_145 (lv_at hl 6 rfl) ?_
          refine lv_aload_n hx hb dX12_reaches_147 rfl (lv_at hl 0 rfl) ?_
          refine tk_getA hC hK hw hT hinX12 kM_at0 (by decide) rfl 26 (by decide) (List.mem_cons_of_mem _ uw_7_1) rfl rfl dX12_reaches_148 ?_
          refine lv_iconst (v := 1) hx hb dX12_reaches_151 (by decide) ?_
          refine tk_ialdR hC hK hw hT kM_at12 rfl (by decide) (by decide) dX12_reaches_152 (fun x49 c50 Ex49 => ?_)
          have bx49 : 0 ≤ x49.toInt ∧ x49.toInt ≤ 12 := (tk_rg1 rfl).mp Ex49
          have c50 : gi w12 12 1 = x49 := c50
          refine lv_icmp_ge (tgt := 265) hx hb dX12_reaches_153 (by decide) (fun c51 => ?_) (fun c51 => ?_)
          · have c51 : x49.toInt ≤ v145_6.toInt := wk_le.mp c51
            refine lv_goto (tgt := 44) hx hb dX12_reaches_265 (by decide) ?_
            have gb52 : 0 ≤ sumG 19 10 w12 ∧ sumG 19 10 w12 ≤ 10 := hT.sum (lo := 0) (hi := 1) kM_at19 rfl (by decide) rfl
            exact ih44 v145_5 H locs ls w12 (show 0 ≤ a1.toInt from r13) (show a1.toInt ≤ 9 from t14) (show 0 ≤ a2.toInt from r15) (show a2.toInt ≤ 9 from t16) (show 0 ≤ a3.toInt from r17) (show a3.toInt ≤ 99999 from t18) (show 2000 ≤ a4.toInt from r19) (show a4.toInt ≤ 101999 from t20) (show 0 ≤ v145_5.toInt from r21) (show v145_5.toInt ≤ 10 from Int.le_trans t22 (by decide)) (show 0 ≤ (sumG 19 10 w12) by omega) (show (10 - (sumG 19 10 w12)).toNat < n44 by first | exact tn_lt hm44 (by omega) (by omega) | omega) hw hT hF  (lv_sub hl [0, 1, 2, 3, 4, 5] rfl)
          · have c51 : v145_6.toInt < x49.toInt := wk_leF c51
            refine lv_aload_n hx hb dX12_reaches_156 rfl (lv_at hl 0 rfl) ?_
            refine lv_iload hx hb dX12_reaches_157 (lv_at hl 6 rfl) ?_
            refine lv_iload hx hb dX12_reaches_159 (lv_at hl 5 rfl) ?_
            refine tk_Vi hC hK hw hT hA hE hSR kM_at0 (by decide) rfl (k_X12_isAt_1 l adK adV dC dI cy ad B hB0 (Int.le_trans hB1 (by decide)) qr s1   v145_6 (show 0 ≤ v145_6.toInt from r23) (show v145_6.toInt ≤ 11 by first | with_reducible assumption | omega) v145_5 (show 0 ≤ v145_5.toInt from r21) (show v145_5.toInt ≤ 9 from t22) w12 H.size hT ) (cwV 2 hC.2.2.2.2 uV_RX12_314 rfl rfl rfl (by decide +kernel) ⟨Nat.le_of_ble_eq_true rfl, Nat.le_of_ble_eq_true rfl⟩) rfl hl.1 rfl (Nat.le_of_ble_eq_true rfl) dX12_reaches_161 (fun r53 w55 H locs hp54 hw => ?_)
            obtain ⟨rfl, hg62⟩ := hp54
            rcases hg62 with ⟨rfl, hq57⟩ | ⟨rfl, c58, hq59⟩ | ⟨rfl, c60, hq61⟩
            · refine lv_if_ne (tgt := 170) hx hb dX12_reaches_164 (by decide) (fun c => absurd (by decide) c) (fun _ => ?_)
              refine lv_goto (tgt := 259) hx hb dX12_reaches_167 (by decide) ?_
              have gb63 : 0 ≤ sumG 19 10 w12 ∧ sumG 19 10 w12 ≤ 10 := hT.sum (lo := 0) (hi := 1) kM_at19 rfl (by decide) rfl
              exact J259 x49 H locs ls w12 (show 0 ≤ a1.toInt from r13) (show a1.toInt ≤ 9 from t14) (show 0 ≤ a2.toInt from r15) (show a2.toInt ≤ 9 from t16) (show 0 ≤ a3.toInt from r17) (show a3.toInt ≤ 99999 from t18) (show 2000 ≤ a4.toInt from r19) (show a4.toInt ≤ 101999 from t20) (show 0 ≤ v145_5.toInt from r21) (show v145_5.toInt ≤ 9 from t22) (show 0 ≤ v145_6.toInt from r23) (show v145_6.toInt ≤ 11 by first | with_reducible assumption | omega) (show 0 ≤ f145_12_0.toInt from r25) (show f145_12_0.toInt ≤ 10 from t26) (show 1 ≤ x49.toInt by first | with_reducible assumption | omega) (show x49.toInt ≤ 12 by first | with_reducible assumption | omega) (show (sumG 19 10 w1) + 1 ≤ (sumG 19 10 w12) by omega)  hw hT hF c27 c50 (lv_sub hl [0, 1, 2, 3, 4, 5, 6] rfl)
            · refine lv_if_ne (tgt := 170) hx hb dX12_reaches_164 (by decide) (fun _ => ?_) (fun c => absurd c (by decide))
              refine lv_aload_n hx hb dX12_reaches_170 rfl (lv_at hl 0 rfl) ?_
              refine lv_iload hx hb dX12_reaches_171 (lv_at hl 6 rfl) ?_
              refine lv_iload hx hb dX12_reaches_173 (lv_at hl 5 rfl) ?_
              refine lv_aload_n hx hb dX12_reaches_175 rfl (lv_at hl 0 rfl) ?_
              refine tk_getA hC hK hw hT hinX12 kM_at0 (by decide) rfl 35 (by decide) (List.mem_cons_of_mem _ uw_7_8) rfl rfl dX12_reaches_176 ?_
              refine lv_iload hx hb dX12_reaches_179 (lv_at hl 5 rfl) ?_
              refine tk_iald hC hK hw hT kM_at18 rfl rfl (show 0 ≤ v145_5.toInt from r21) (show v145_5.toInt < 10 from Int.lt_of_le_of_lt t22 (by decide)) dX12_reaches_181 (fun x64 c65 rx64 tx64 => ?_)
              refine lv_iload hx hb dX12_reaches_182 (lv_at hl 4 rfl) ?_
              refine tk_Vi hC hK hw hT hA hE hSR kM_at0 (by decide) rfl (k_X12_firstOpen_1 l adK adV dC dI cy ad B hB0 (Int.le_trans hB1 (by decide)) qr s1   v145_6 (show 0 ≤ v145_6.toInt from r23) (show v145_6.toInt ≤ 11 by first | with_reducible assumption | omega) v145_5 (show 0 ≤ v145_5.toInt from r21) (show v145_5.toInt ≤ 9 from t22) x64 (show 0 ≤ x64.toInt from rx64) (show x64.toInt ≤ 100000100 from tx64) a4 (show 2000 ≤ a4.toInt from r19) (show a4.toInt ≤ 101999 from t20) w12 H.size hT ) (cwV 4 hC.2.2.2.2 uV_RX12_449 rfl rfl rfl (by decide +kernel) ⟨Nat.le_of_ble_eq_true rfl, Nat.le_of_ble_eq_true rfl⟩) rfl hl.1 rfl (Nat.le_of_ble_eq_true rfl) dX12_reaches_184 (fun r66 w68 H locs hp67 hw => ?_)
              obtain ⟨rfl, hg75⟩ := hp67
              rcases hg75 with ⟨g70, g71⟩ | ⟨g72, g73, c74⟩
              · refine lv_istore (lv' := [(7, .int r66), (0, .ref (ad 0)), (1, .int a1), (2, .int a2), (3, .int a3), (4, .int a4), (5, .int v145_5), (6, .int v145_6)]) hx hb dX12_reaches_187 hl (by decide) rfl (fun ls hl => ?_)
                refine lv_aload_n hx hb dX12_reaches_189 rfl (lv_at hl 1 rfl) ?_
                refine lv_iload hx hb dX12_reaches_190 (lv_at hl 7 rfl) ?_
                refine lv_iload hx hb dX12_reaches_192 (lv_at hl 6 rfl) ?_
                refine tk_Vi hC hK hw hT hA hE hSR kM_at0 (by decide) rfl (k_X12_otherOf_1 l adK adV dC dI cy ad B hB0 (Int.le_trans hB1 (by decide)) qr s1   v145_6 (show 0 ≤ v145_6.toInt from r23) (show v145_6.toInt ≤ 11 by first | with_reducible assumption | omega) v145_5 (show 0 ≤ v145_5.toInt from r21) (show v145_5.toInt ≤ 9 from t22) w12 H.size hT ) (cwV 2 hC.2.2.2.2 uV_RX12_348 rfl rfl rfl (by decide +kernel) ⟨Nat.le_of_ble_eq_true rfl, Nat.le_of_ble_eq_true rfl⟩) rfl hl.1 rfl (Nat.le_of_ble_eq_true rfl) dX12_reaches_194 (fun r76 w78 H locs hp77 hw => ?_)
                obtain ⟨rfl, hg85⟩ := hp77
                rcases hg85 with ⟨g80, g81⟩ | ⟨g82, g83, c84⟩
                · refine lv_istore (lv' := [(8, .int r76), (7, .int r66), (0, .ref (ad 0)), (1, .int a1), (2, .int a2), (3, .int a3), (4, .int a4), (5, .int v145_5), (6, .int v145_6)]) hx hb dX12_reaches_197 hl (by decide) rfl (fun ls hl => ?_)
                  refine lv_iload hx hb dX12_reaches_199 (lv_at hl 1 rfl) ?_
                  refine lv_ldcw (v := 100000000) hx hb hC.2.2.2.1 (hC.2.2.2.2 _ (List.mem_cons_of_mem _ uw_38_2)) dX12_reaches_201 ?_
                  refine lv_icmp_ge (tgt := 259) hx hb dX12_reaches_204 (by decide) (fun c86 => ?_) (fun c86 => ?_)
                  · have c86 : (100000000 : Int) ≤ r66.toInt := wk_le.mp c86
                    have gb87 : 0 ≤ sumG 19 10 w12 ∧ sumG 19 10 w12 ≤ 10 := hT.sum (lo := 0) (hi := 1) kM_at19 rfl (by decide) rfl
                    exact J259 x49 H locs ls w12 (show 0 ≤ a1.toInt from r13) (show a1.toInt ≤ 9 from t14) (show 0 ≤ a2.toInt from r15) (show a2.toInt ≤ 9 from t16) (show 0 ≤ a3.toInt from r17) (show a3.toInt ≤ 99999 from t18) (show 2000 ≤ a4.toInt from r19) (show a4.toInt ≤ 101999 from t20) (show 0 ≤ v145_5.toInt from r21) (show v145_5.toInt ≤ 9 from t22) (show 0 ≤ v145_6.toInt from r23) (show v145_6.toInt ≤ 11 by first | with_reducible assumption | omega) (show 0 ≤ f145_12_0.toInt from r25) (show f145_12_0.toInt ≤ 10 from t26) (show 1 ≤ x49.toInt by first | with_reducible assumption | omega) (show x49.toInt ≤ 12 by first | with_reducible assumption | omega) (show (sumG 19 10 w1) + 1 ≤ (sumG 19 10 w12) by omega)  hw hT hF c27 c50 (lv_sub hl [2, 3, 4, 5, 6, 7, 8] rfl)
                  · have c86 : r66.toInt < (100000000 : Int) := wk_leF c86
                    refine lv_iload hx hb dX12_reaches_207 (lv_at hl 1 rfl) ?_
                    refine lv_aload_n hx hb dX12_reaches_209 rfl (lv_at hl 2 rfl) ?_
                    refine lv_iload hx hb dX12_reaches_210 (lv_at hl 8 rfl) ?_
                    refine lv_iconst (v := 2) hx hb dX12_reaches_212 (by decide) ?_
                    refine tk_Vi hC hK hw hT hA hE hSR kM_at0 (by decide) rfl (k_X12_streetOf_6 l adK adV dC dI cy ad B hB0 (Int.le_trans hB1 (by decide)) qr s1   v145_6 (show 0 ≤ v145_6.toInt from r23) (show v145_6.toInt ≤ 11 by first | with_reducible assumption | omega) w12 H.size hT ) (cwV 2 hC.2.2.2.2 uV_RX12_300 rfl rfl rfl (by decide +kernel) ⟨Nat.le_of_ble_eq_true rfl, Nat.le_of_ble_eq_true rfl⟩) rfl hl.1 rfl (Nat.le_of_ble_eq_true rfl) dX12_reaches_213 (fun r88 w90 H locs hp89 hw => ?_)
                    obtain ⟨rfl, hg95⟩ := hp89
                    obtain ⟨g92, g93, c94⟩ := hg95
                    refine lv_iadd hx hb dX12_reaches_216 ?_
                    refine lv_topi (fun x96 ex96 => ?_)
                    have ex96 : x96.toInt = r66.toInt + r88.toInt := by rw [ex96]; exact wk_add (show (-2147483648) ≤ r66.toInt + r88.toInt by omega) (show r66.toInt + r88.toInt ≤ 2147483647 by omega)
                    refine lv_iload hx hb dX12_reaches_217 (lv_at hl 6 rfl) ?_
                    refine lv_icmp_gt (tgt := 259) hx hb dX12_reaches_219 (by decide) (fun c97 => ?_) (fun c97 => ?_)
                    · have c97 : a4.toInt < x96.toInt := wk_lt.mp c97
                      have gb98 : 0 ≤ sumG 19 10 w12 ∧ sumG 19 10 w12 ≤ 10 := hT.sum (lo := 0) (hi := 1) kM_at19 rfl (by decide) rfl
                      exact J259 x49 H locs ls w12 (show 0 ≤ a1.toInt from r13) (show a1.toInt ≤ 9 from t14) (show 0 ≤ a2.toInt from r15) (show a2.toInt ≤ 9 from t16) (show 0 ≤ a3.toInt from r17) (show a3.toInt ≤ 99999 from t18) (show 2000 ≤ a4.toInt from r19) (show a4.toInt ≤ 101999 from t20) (show 0 ≤ v145_5.toInt from r21) (show v145_5.toInt ≤ 9 from t22) (show 0 ≤ v145_6.toInt from r23) (show v145_6.toInt ≤ 11 by first | with_reducible assumption | omega) (show 0 ≤ f145_12_0.toInt from r25) (show f145_12_0.toInt ≤ 10 from t26) (show 1 ≤ x49.toInt by first | with_reducible assumption | omega) (show x49.toInt ≤ 12 by first | with_reducible assumption | omega) (show (sumG 19 10 w1) + 1 ≤ (sumG 19 10 w12) by omega)  hw hT hF c27 c50 (lv_sub hl [2, 3, 4, 5, 6, 7, 8] rfl)
                    · have c97 : x96.toInt ≤ a4.toInt := wk_ltF c97
                      refine lv_iload hx hb dX12_reaches_222 (lv_at hl 1 rfl) ?_
                      refine lv_aload_n hx hb dX12_reaches_224 rfl (lv_at hl 2 rfl) ?_
                      refine lv_iload hx hb dX12_reaches_225 (lv_at hl 8 rfl) ?_
                      refine lv_iconst (v := 2) hx hb dX12_reaches_227 (by decide) ?_
                      refine tk_Vi hC hK hw hT hA hE hSR kM_at0 (by decide) rfl (k_X12_streetOf_6 l adK adV dC dI cy ad B hB0 (Int.le_trans hB1 (by decide)) qr s1   v145_6 (show 0 ≤ v145_6.toInt from r23) (show v145_6.toInt ≤ 11 by first | with_reducible assumption | omega) w12 H.size hT ) (cwV 2 hC.2.2.2.2 uV_RX12_300 rfl rfl rfl (by decide +kernel) ⟨Nat.le_of_ble_eq_true rfl, Nat.le_of_ble_eq_true rfl⟩) rfl hl.1 rfl (Nat.le_of_ble_eq_true rfl) dX12_reaches_228 (fun r99 w101 H locs hp100 hw => ?_)
                      obtain ⟨rfl, hg106⟩ := hp100
                      obtain ⟨g103, g104, c105⟩ := hg106
                      obtain rfl : r88 = r99 := c94.symm.trans c105
                      refine lv_iadd hx hb dX12_reaches_231 ?_
                      refine lv_topi (fun x107 ex107 => ?_)
                      have ex107 : x107.toInt = r66.toInt + r88.toInt := by rw [ex107]; exact wk_add (show (-2147483648) ≤ r66.toInt + r88.toInt by omega) (show r66.toInt + r88.toInt ≤ 2147483647 by omega)
                      refine lv_aload_n hx hb dX12_reaches_232 rfl (lv_at hl 2 rfl) ?_
                      refine tk_getA hC hK hw hT hinX12 kM_at0 (by decide) rfl 35 (by decide) (List.mem_cons_of_mem _ uw_7_8) rfl rfl dX12_reaches_233 ?_
                      refine lv_iload hx hb dX12_reaches_236 (lv_at hl 0 rfl) ?_
                      refine tk_iald hC hK hw hT kM_at18 rfl rfl (show 0 ≤ r76.toInt by first | with_reducible assumption | omega) (show r76.toInt < 10 by first | with_reducible assumption | omega) dX12_reaches_238 (fun x108 c109 rx108 tx108 => ?_)
                      refine lv_icmp_ge (tgt := 259) hx hb dX12_reaches_239 (by decide) (fun c110 => ?_) (fun c110 => ?_)
                      · have c110 : x108.toInt ≤ x107.toInt := wk_le.mp c110
                        have gb111 : 0 ≤ sumG 19 10 w12 ∧ sumG 19 10 w12 ≤ 10 := hT.sum (lo := 0) (hi := 1) kM_at19 rfl (by decide) rfl
                        exact J259 x49 H locs ls w12 (show 0 ≤ a1.toInt from r13) (show a1.toInt ≤ 9 from t14) (show 0 ≤ a2.toInt from r15) (show a2.toInt ≤ 9 from t16) (show 0 ≤ a3.toInt from r17) (show a3.toInt ≤ 99999 from t18) (show 2000 ≤ a4.toInt from r19) (show a4.toInt ≤ 101999 from t20) (show 0 ≤ v145_5.toInt from r21) (show v145_5.toInt ≤ 9 from t22) (show 0 ≤ v145_6.toInt from r23) (show v145_6.toInt ≤ 11 by first | with_reducible assumption | omega) (show 0 ≤ f145_12_0.toInt from r25) (show f145_12_0.toInt ≤ 10 from t26) (show 1 ≤ x49.toInt by first | with_reducible assumption | omega) (show x49.toInt ≤ 12 by first | with_reducible assumption | omega) (show (sumG 19 10 w1) + 1 ≤ (sumG 19 10 w12) by omega)  hw hT hF c27 c50 (lv_sub hl [2, 3, 4, 5, 6, 7, 8] rfl)
                      · have c110 : x107.toInt < x108.toInt := wk_leF c110
                        refine lv_aload_n hx hb dX12_reaches_242 rfl (lv_at hl 2 rfl) ?_
                        refine tk_getA hC hK hw hT hinX12 kM_at0 (by decide) rfl 35 (by decide) (List.mem_cons_of_mem _ uw_7_8) rfl rfl dX12_reaches_243 ?_
                        refine lv_iload hx hb dX12_reaches_246 (lv_at hl 0 rfl) ?_
                        refine lv_iload hx hb dX12_reaches_248 (lv_at hl 1 rfl) ?_
                        refine lv_aload_n hx hb dX12_reaches_250 rfl (lv_at hl 2 rfl) ?_
                        refine lv_iload hx hb dX12_reaches_251 (lv_at hl 8 rfl) ?_
                        refine lv_iconst (v := 2) hx hb dX12_reaches_253 (by decide) ?_
                        refine tk_Vi hC hK hw hT hA hE hSR kM_at0 (by decide) rfl (k_X12_streetOf_6 l adK adV dC dI cy ad B hB0 (Int.le_trans hB1 (by decide)) qr s1   v145_6 (show 0 ≤ v145_6.toInt from r23) (show v145_6.toInt ≤ 11 by first | with_reducible assumption | omega) w12 H.size hT ) (cwV 2 hC.2.2.2.2 uV_RX12_300 rfl rfl rfl (by decide +kernel) ⟨Nat.le_of_ble_eq_true rfl, Nat.le_of_ble_eq_true rfl⟩) rfl hl.1 rfl (Nat.le_of_ble_eq_true rfl) dX12_reaches_254 (fun r112 w114 H locs hp113 hw => ?_)
                        obtain ⟨rfl, hg119⟩ := hp113
                        obtain ⟨g116, g117, c118⟩ := hg119
                        obtain rfl : r88 = r112 := c94.symm.trans c118
                        refine lv_iadd hx hb dX12_reaches_257 ?_
                        refine lv_topi (fun x120 ex120 => ?_)
                        have ex120 : x120.toInt = r66.toInt + r88.toInt := by rw [ex120]; exact wk_add (show (-2147483648) ≤ r66.toInt + r88.toInt by omega) (show r66.toInt + r88.toInt ≤ 2147483647 by omega)
                        refine tk_iast hC hK hw hT kM_at18 (by decide) rfl rfl (show 0 ≤ r76.toInt by first | with_reducible assumption | omega) (show r76.toInt < 10 by first | with_reducible assumption | omega) (show 0 ≤ x120.toInt by first | with_reducible assumption | omega) (show x120.toInt ≤ 100000100 by first | with_reducible assumption | omega) dX12_reaches_258 (fun H locs w121 hw hT k123 c122 => ?_)
                        have gs124 : sumG 19 10 w121 = sumG 19 10 w12 := sumG_ne 10 k123 (tk_ne kM_at19 kM_at18 (by decide))
                        have hF := hF.put kM_at18 (inE_of (a := 0) (b := 10) (by decide) (show 0 ≤ r76.toInt.toNat by omega) (show r76.toInt.toNat ≤ 10 by omega)) k123
                        have c125 := k123.gi (Or.inl (tk_ne kM_at12 kM_at18 (by decide))) c27
                        have c126 := k123.gi (Or.inl (tk_ne kM_at12 kM_at18 (by decide))) c50
                        have c127 := k123.gi (Or.inl (tk_ne kM_at12 kM_at18 (by decide))) c58
                        have c128 := k123.gi (Or.inl (tk_ne kM_at12 kM_at18 (by decide))) c94
                        have gb129 : 0 ≤ sumG 19 10 w121 ∧ sumG 19 10 w121 ≤ 10 := hT.sum (lo := 0) (hi := 1) kM_at19 rfl (by decide) rfl
                        exact J259 x49 H locs ls w121 (show 0 ≤ a1.toInt from r13) (show a1.toInt ≤ 9 from t14) (show 0 ≤ a2.toInt from r15) (show a2.toInt ≤ 9 from t16) (show 0 ≤ a3.toInt from r17) (show a3.toInt ≤ 99999 from t18) (show 2000 ≤ a4.toInt from r19) (show a4.toInt ≤ 101999 from t20) (show 0 ≤ v145_5.toInt from r21) (show v145_5.toInt ≤ 9 from t22) (show 0 ≤ v145_6.toInt from r23) (show v145_6.toInt ≤ 11 by first | with_reducible assumption | omega) (show 0 ≤ f145_12_0.toInt from r25) (show f145_12_0.toInt ≤ 10 from t26) (show 1 ≤ x49.toInt by first | with_reducible assumption | omega) (show x49.toInt ≤ 12 by first | with_reducible assumption | omega) (show (sumG 19 10 w1) + 1 ≤ (sumG 19 10 w121) by omega)  hw hT hF c125 c126 (lv_sub hl [2, 3, 4, 5, 6, 7, 8] rfl)
                · refine lv_istore (lv' := [(8, .int r76), (7, .int r66), (0, .ref (ad 0)), (1, .int a1), (2, .int a2), (3, .int a3), (4, .int a4), (5, .int v145_5), (6, .int v145_6)]) hx hb dX12_reaches_197 hl (by decide) rfl (fun ls hl => ?_)
                  refine lv_iload hx hb dX12_reaches_199 (lv_at hl 1 rfl) ?_
                  refine lv_ldcw (v := 100000000) hx hb hC.2.2.2.1 (hC.2.2.2.2 _ (List.mem_cons_of_mem _ uw_38_2)) dX12_reaches_201 ?_
                  refine lv_icmp_ge (tgt := 259) hx hb dX12_reaches_204 (by decide) (fun c130 => ?_) (fun c130 => ?_)
                  · have c130 : (100000000 : Int) ≤ r66.toInt := wk_le.mp c130
                    have gb131 : 0 ≤ sumG 19 10 w12 ∧ sumG 19 10 w12 ≤ 10 := hT.sum (lo := 0) (hi := 1) kM_at19 rfl (by decide) rfl
                    exact J259 x49 H locs ls w12 (show 0 ≤ a1.toInt from r13) (show a1.toInt ≤ 9 from t14) (show 0 ≤ a2.toInt from r15) (show a2.toInt ≤ 9 from t16) (show 0 ≤ a3.toInt from r17) (show a3.toInt ≤ 99999 from t18) (show 2000 ≤ a4.toInt from r19) (show a4.toInt ≤ 101999 from t20) (show 0 ≤ v145_5.toInt from r21) (show v145_5.toInt ≤ 9 from t22) (show 0 ≤ v145_6.toInt from r23) (show v145_6.toInt ≤ 11 by first | with_reducible assumption | omega) (show 0 ≤ f145_12_0.toInt from r25) (show f145_12_0.toInt ≤ 10 from t26) (show 1 ≤ x49.toInt by first | with_reducible assumption | omega) (show x49.toInt ≤ 12 by first | with_reducible assumption | omega) (show (sumG 19 10 w1) + 1 ≤ (sumG 19 10 w12) by omega)  hw hT hF c27 c50 (lv_sub hl [2, 3, 4, 5, 6, 7, 8] rfl)
                  · have c130 : r66.toInt < (100000000 : Int) := wk_leF c130
                    refine lv_iload hx hb dX12_reaches_207 (lv_at hl 1 rfl) ?_
                    refine lv_aload_n hx hb dX12_reaches_209 rfl (lv_at hl 2 rfl) ?_
                    refine lv_iload hx hb dX12_reaches_210 (lv_at hl 8 rfl) ?_
                    refine lv_iconst (v := 2) hx hb dX12_reaches_212 (by decide) ?_
                    refine tk_Vi hC hK hw hT hA hE hSR kM_at0 (by decide) rfl (k_X12_streetOf_6 l adK adV dC dI cy ad B hB0 (Int.le_trans hB1 (by decide)) qr s1   v145_6 (show 0 ≤ v145_6.toInt from r23) (show v145_6.toInt ≤ 11 by first | with_reducible assumption | omega) w12 H.size hT ) (cwV 2 hC.2.2.2.2 uV_RX12_300 rfl rfl rfl (by decide +kernel) ⟨Nat.le_of_ble_eq_true rfl, Nat.le_of_ble_eq_true rfl⟩) rfl hl.1 rfl (Nat.le_of_ble_eq_true rfl) dX12_reaches_213 (fun r132 w134 H locs hp133 hw => ?_)
                    obtain ⟨rfl, hg139⟩ := hp133
                    obtain ⟨g136, g137, c138⟩ := hg139
                    refine lv_iadd hx hb dX12_reaches_216 ?_
                    refine lv_topi (fun x140 ex140 => ?_)
                    have ex140 : x140.toInt = r66.toInt + r132.toInt := by rw [ex140]; exact wk_add (show (-2147483648) ≤ r66.toInt + r132.toInt by omega) (show r66.toInt + r132.toInt ≤ 2147483647 by omega)
                    refine lv_iload hx hb dX12_reaches_217 (lv_at hl 6 rfl) ?_
                    refine lv_icmp_gt (tgt := 259) hx hb dX12_reaches_219 (by decide) (fun c141 => ?_) (fun c141 => ?_)
                    · have c141 : a4.toInt < x140.toInt := wk_lt.mp c141
                      have gb142 : 0 ≤ sumG 19 10 w12 ∧ sumG 19 10 w12 ≤ 10 := hT.sum (lo := 0) (hi := 1) kM_at19 rfl (by decide) rfl
                      exact J259 x49 H locs ls w12 (show 0 ≤ a1.toInt from r13) (show a1.toInt ≤ 9 from t14) (show 0 ≤ a2.toInt from r15) (show a2.toInt ≤ 9 from t16) (show 0 ≤ a3.toInt from r17) (show a3.toInt ≤ 99999 from t18) (show 2000 ≤ a4.toInt from r19) (show a4.toInt ≤ 101999 from t20) (show 0 ≤ v145_5.toInt from r21) (show v145_5.toInt ≤ 9 from t22) (show 0 ≤ v145_6.toInt from r23) (show v145_6.toInt ≤ 11 by first | with_reducible assumption | omega) (show 0 ≤ f145_12_0.toInt from r25) (show f145_12_0.toInt ≤ 10 from t26) (show 1 ≤ x49.toInt by first | with_reducible assumption | omega) (show x49.toInt ≤ 12 by first | with_reducible assumption | omega) (show (sumG 19 10 w1) + 1 ≤ (sumG 19 10 w12) by omega)  hw hT hF c27 c50 (lv_sub hl [2, 3, 4, 5, 6, 7, 8] rfl)
                    · have c141 : x140.toInt ≤ a4.toInt := wk_ltF c141
                      refine lv_iload hx hb dX12_reaches_222 (lv_at hl 1 rfl) ?_
                      refine lv_aload_n hx hb dX12_reaches_224 rfl (lv_at hl 2 rfl) ?_
                      refine lv_iload hx hb dX12_reaches_225 (lv_at hl 8 rfl) ?_
                      refine lv_iconst (v := 2) hx hb dX12_reaches_227 (by decide) ?_
                      refine tk_Vi hC hK hw hT hA hE hSR kM_at0 (by decide) rfl (k_X12_streetOf_6 l adK adV dC dI cy ad B hB0 (Int.le_trans hB1 (by decide)) qr s1   v145_6 (show 0 ≤ v145_6.toInt from r23) (show v145_6.toInt ≤ 11 by first | with_reducible assumption | omega) w12 H.size hT ) (cwV 2 hC.2.2.2.2 uV_RX12_300 rfl rfl rfl (by decide +kernel) ⟨Nat.le_of_ble_eq_true rfl, Nat.le_of_ble_eq_true rfl⟩) rfl hl.1 rfl (Nat.le_of_ble_eq_true rfl) dX12_reaches_228 (fun r143 w145 H locs hp144 hw => ?_)
                      obtain ⟨rfl, hg150⟩ := hp144
                      obtain ⟨g147, g148, c149⟩ := hg150
                      obtain rfl : r132 = r143 := c138.symm.trans c149
                      refine lv_iadd hx hb dX12_reaches_231 ?_
                      refine lv_topi (fun x151 ex151 => ?_)
                      have ex151 : x151.toInt = r66.toInt + r132.toInt := by rw [ex151]; exact wk_add (show (-2147483648) ≤ r66.toInt + r132.toInt by omega) (show r66.toInt + r132.toInt ≤ 2147483647 by omega)
                      refine lv_aload_n hx hb dX12_reaches_232 rfl (lv_at hl 2 rfl) ?_
                      refine tk_getA hC hK hw hT hinX12 kM_at0 (by decide) rfl 35 (by decide) (List.mem_cons_of_mem _ uw_7_8) rfl rfl dX12_reaches_233 ?_
                      refine lv_iload hx hb dX12_reaches_236 (lv_at hl 0 rfl) ?_
                      refine tk_iald hC hK hw hT kM_at18 rfl rfl (show 0 ≤ r76.toInt by first | with_reducible assumption | omega) (show r76.toInt < 10 by first | with_reducible assumption | omega) dX12_reaches_238 (fun x152 c153 rx152 tx152 => ?_)
                      refine lv_icmp_ge (tgt := 259) hx hb dX12_reaches_239 (by decide) (fun c154 => ?_) (fun c154 => ?_)
                      · have c154 : x152.toInt ≤ x151.toInt := wk_le.mp c154
                        have gb155 : 0 ≤ sumG 19 10 w12 ∧ sumG 19 10 w12 ≤ 10 := hT.sum (lo := 0) (hi := 1) kM_at19 rfl (by decide) rfl
                        exact J259 x49 H locs ls w12 (show 0 ≤ a1.toInt from r13) (show a1.toInt ≤ 9 from t14) (show 0 ≤ a2.toInt from r15) (show a2.toInt ≤ 9 from t16) (show 0 ≤ a3.toInt from r17) (show a3.toInt ≤ 99999 from t18) (show 2000 ≤ a4.toInt from r19) (show a4.toInt ≤ 101999 from t20) (show 0 ≤ v145_5.toInt from r21) (show v145_5.toInt ≤ 9 from t22) (show 0 ≤ v145_6.toInt from r23) (show v145_6.toInt ≤ 11 by first | with_reducible assumption | omega) (show 0 ≤ f145_12_0.toInt from r25) (show f145_12_0.toInt ≤ 10 from t26) (show 1 ≤ x49.toInt by first | with_reducible assumption | omega) (show x49.toInt ≤ 12 by first | with_reducible assumption | omega) (show (sumG 19 10 w1) + 1 ≤ (sumG 19 10 w12) by omega)  hw hT hF c27 c50 (lv_sub hl [2, 3, 4, 5, 6, 7, 8] rfl)
                      · have c154 : x151.toInt < x152.toInt := wk_leF c154
                        refine lv_aload_n hx hb dX12_reaches_242 rfl (lv_at hl 2 rfl) ?_
                        refine tk_getA hC hK hw hT hinX12 kM_at0 (by decide) rfl 35 (by decide) (List.mem_cons_of_mem _ uw_7_8) rfl rfl dX12_reaches_243 ?_
                        refine lv_iload hx hb dX12_reaches_246 (lv_at hl 0 rfl) ?_
                        refine lv_iload hx hb dX12_reaches_248 (lv_at hl 1 rfl) ?_
                        refine lv_aload_n hx hb dX12_reaches_250 rfl (lv_at hl 2 rfl) ?_
                        refine lv_iload hx hb dX12_reaches_251 (lv_at hl 8 rfl) ?_
                        refine lv_iconst (v := 2) hx hb dX12_reaches_253 (by decide) ?_
                        refine tk_Vi hC hK hw hT hA hE hSR kM_at0 (by decide) rfl (k_X12_streetOf_6 l adK adV dC dI cy ad B hB0 (Int.le_trans hB1 (by decide)) qr s1   v145_6 (show 0 ≤ v145_6.toInt from r23) (show v145_6.toInt ≤ 11 by first | with_reducible assumption | omega) w12 H.size hT ) (cwV 2 hC.2.2.2.2 uV_RX12_300 rfl rfl rfl (by decide +kernel) ⟨Nat.le_of_ble_eq_true rfl, Nat.le_of_ble_eq_true rfl⟩) rfl hl.1 rfl (Nat.le_of_ble_eq_true rfl) dX12_reaches_254 (fun r156 w158 H locs hp157 hw => ?_)
                        obtain ⟨rfl, hg163⟩ := hp157
                        obtain ⟨g160, g161, c162⟩ := hg163
                        obtain rfl : r132 = r156 := c138.symm.trans c162
                        refine lv_iadd hx hb dX12_reaches_257 ?_
                        refine lv_topi (fun x164 ex164 => ?_)
                        have ex164 : x164.toInt = r66.toInt + r132.toInt := by rw [ex164]; exact wk_add (show (-2147483648) ≤ r66.toInt + r132.toInt by omega) (show r66.toInt + r132.toInt ≤ 2147483647 by omega)
                        refine tk_iast hC hK hw hT kM_at18 (by decide) rfl rfl (show 0 ≤ r76.toInt by first | with_reducible assumption | omega) (show r76.toInt < 10 by first | with_reducible assumption | omega) (show 0 ≤ x164.toInt by first | with_reducible assumption | omega) (show x164.toInt ≤ 100000100 by first | with_reducible assumption | omega) dX12_reaches_258 (fun H locs w165 hw hT k167 c166 => ?_)
                        have gs168 : sumG 19 10 w165 = sumG 19 10 w12 := sumG_ne 10 k167 (tk_ne kM_at19 kM_at18 (by decide))
                        have hF := hF.put kM_at18 (inE_of (a := 0) (b := 10) (by decide) (show 0 ≤ r76.toInt.toNat by omega) (show r76.toInt.toNat ≤ 10 by omega)) k167
                        have c169 := k167.gi (Or.inl (tk_ne kM_at12 kM_at18 (by decide))) c27
                        have c170 := k167.gi (Or.inl (tk_ne kM_at12 kM_at18 (by decide))) c50
                        have c171 := k167.gi (Or.inl (tk_ne kM_at12 kM_at18 (by decide))) c58
                        have c172 := k167.gi (Or.inl (tk_ne kM_at12 kM_at18 (by decide))) c138
                        have gb173 : 0 ≤ sumG 19 10 w165 ∧ sumG 19 10 w165 ≤ 10 := hT.sum (lo := 0) (hi := 1) kM_at19 rfl (by decide) rfl
                        exact J259 x49 H locs ls w165 (show 0 ≤ a1.toInt from r13) (show a1.toInt ≤ 9 from t14) (show 0 ≤ a2.toInt from r15) (show a2.toInt ≤ 9 from t16) (show 0 ≤ a3.toInt from r17) (show a3.toInt ≤ 99999 from t18) (show 2000 ≤ a4.toInt from r19) (show a4.toInt ≤ 101999 from t20) (show 0 ≤ v145_5.toInt from r21) (show v145_5.toInt ≤ 9 from t22) (show 0 ≤ v145_6.toInt from r23) (show v145_6.toInt ≤ 11 by first | with_reducible assumption | omega) (show 0 ≤ f145_12_0.toInt from r25) (show f145_12_0.toInt ≤ 10 from t26) (show 1 ≤ x49.toInt by first | with_reducible assumption | omega) (show x49.toInt ≤ 12 by first | with_reducible assumption | omega) (show (sumG 19 10 w1) + 1 ≤ (sumG 19 10 w165) by omega)  hw hT hF c169 c170 (lv_sub hl [2, 3, 4, 5, 6, 7, 8] rfl)
              · refine lv_istore (lv' := [(7, .int r66), (0, .ref (ad 0)), (1, .int a1), (2, .int a2), (3, .int a3), (4, .int a4), (5, .int v145_5), (6, .int v145_6)]) hx hb dX12_reaches_187 hl (by decide) rfl (fun ls hl => ?_)
                refine lv_aload_n hx hb dX12_reaches_189 rfl (lv_at hl 1 rfl) ?_
                refine lv_iload hx hb dX12_reaches_190 (lv_at hl 7 rfl) ?_
                refine lv_iload hx hb dX12_reaches_192 (lv_at hl 6 rfl) ?_
                refine tk_Vi hC hK hw hT hA hE hSR kM_at0 (by decide) rfl (k_X12_otherOf_1 l adK adV dC dI cy ad B hB0 (Int.le_trans hB1 (by decide)) qr s1   v145_6 (show 0 ≤ v145_6.toInt from r23) (show v145_6.toInt ≤ 11 by first | with_reducible assumption | omega) v145_5 (show 0 ≤ v145_5.toInt from r21) (show v145_5.toInt ≤ 9 from t22) w12 H.size hT ) (cwV 2 hC.2.2.2.2 uV_RX12_348 rfl rfl rfl (by decide +kernel) ⟨Nat.le_of_ble_eq_true rfl, Nat.le_of_ble_eq_true rfl⟩) rfl hl.1 rfl (Nat.le_of_ble_eq_true rfl) dX12_reaches_194 (fun r174 w176 H locs hp175 hw => ?_)
                obtain ⟨rfl, hg183⟩ := hp175
                rcases hg183 with ⟨g178, g179⟩ | ⟨g180, g181, c182⟩
                · refine lv_istore (lv' := [(8, .int r174), (7, .int r66), (0, .ref (ad 0)), (1, .int a1), (2, .int a2), (3, .int a3), (4, .int a4), (5, .int v145_5), (6, .int v145_6)]) hx hb dX12_reaches_197 hl (by decide) rfl (fun ls hl => ?_)
                  refine lv_iload hx hb dX12_reaches_199 (lv_at hl 1 rfl) ?_
                  refine lv_ldcw (v := 100000000) hx hb hC.2.2.2.1 (hC.2.2.2.2 _ (List.mem_cons_of_mem _ uw_38_2)) dX12_reaches_201 ?_
                  refine lv_icmp_ge (tgt := 259) hx hb dX12_reaches_204 (by decide) (fun c => absurd c (fun h => absurd (show (100000000 : Int) ≤ r66.toInt from wk_le.mp h) (by omega))) (fun _ => ?_)
                  refine lv_iload hx hb dX12_reaches_207 (lv_at hl 1 rfl) ?_
                  refine lv_aload_n hx hb dX12_reaches_209 rfl (lv_at hl 2 rfl) ?_
                  refine lv_iload hx hb dX12_reaches_210 (lv_at hl 8 rfl) ?_
                  refine lv_iconst (v := 2) hx hb dX12_reaches_212 (by decide) ?_
                  refine tk_Vi hC hK hw hT hA hE hSR kM_at0 (by decide) rfl (k_X12_streetOf_6 l adK adV dC dI cy ad B hB0 (Int.le_trans hB1 (by decide)) qr s1   v145_6 (show 0 ≤ v145_6.toInt from r23) (show v145_6.toInt ≤ 11 by first | with_reducible assumption | omega) w12 H.size hT ) (cwV 2 hC.2.2.2.2 uV_RX12_300 rfl rfl rfl (by decide +kernel) ⟨Nat.le_of_ble_eq_true rfl, Nat.le_of_ble_eq_true rfl⟩) rfl hl.1 rfl (Nat.le_of_ble_eq_true rfl) dX12_reaches_213 (fun r184 w186 H locs hp185 hw => ?_)
                  obtain ⟨rfl, hg191⟩ := hp185
                  obtain ⟨g188, g189, c190⟩ := hg191
                  refine lv_iadd hx hb dX12_reaches_216 ?_
                  refine lv_topi (fun x192 ex192 => ?_)
                  have ex192 : x192.toInt = r66.toInt + r184.toInt := by rw [ex192]; exact wk_add (show (-2147483648) ≤ r66.toInt + r184.toInt by omega) (show r66.toInt + r184.toInt ≤ 2147483647 by omega)
                  refine lv_iload hx hb dX12_reaches_217 (lv_at hl 6 rfl) ?_
                  refine lv_icmp_gt (tgt := 259) hx hb dX12_reaches_219 (by decide) (fun c193 => ?_) (fun c193 => ?_)
                  · have c193 : a4.toInt < x192.toInt := wk_lt.mp c193
                    have gb194 : 0 ≤ sumG 19 10 w12 ∧ sumG 19 10 w12 ≤ 10 := hT.sum (lo := 0) (hi := 1) kM_at19 rfl (by decide) rfl
                    exact J259 x49 H locs ls w12 (show 0 ≤ a1.toInt from r13) (show a1.toInt ≤ 9 from t14) (show 0 ≤ a2.toInt from r15) (show a2.toInt ≤ 9 from t16) (show 0 ≤ a3.toInt from r17) (show a3.toInt ≤ 99999 from t18) (show 2000 ≤ a4.toInt from r19) (show a4.toInt ≤ 101999 from t20) (show 0 ≤ v145_5.toInt from r21) (show v145_5.toInt ≤ 9 from t22) (show 0 ≤ v145_6.toInt from r23) (show v145_6.toInt ≤ 11 by first | with_reducible assumption | omega) (show 0 ≤ f145_12_0.toInt from r25) (show f145_12_0.toInt ≤ 10 from t26) (show 1 ≤ x49.toInt by first | with_reducible assumption | omega) (show x49.toInt ≤ 12 by first | with_reducible assumption | omega) (show (sumG 19 10 w1) + 1 ≤ (sumG 19 10 w12) by omega)  hw hT hF c27 c50 (lv_sub hl [2, 3, 4, 5, 6, 7, 8] rfl)
                  · have c193 : x192.toInt ≤ a4.toInt := wk_ltF c193
                    refine lv_iload hx hb dX12_reaches_222 (lv_at hl 1 rfl) ?_
                    refine lv_aload_n hx hb dX12_reaches_224 rfl (lv_at hl 2 rfl) ?_
                    refine lv_iload hx hb dX12_reaches_225 (lv_at hl 8 rfl) ?_
                    refine lv_iconst (v := 2) hx hb dX12_reaches_227 (by decide) ?_
                    refine tk_Vi hC hK hw hT hA hE hSR kM_at0 (by decide) rfl (k_X12_streetOf_6 l adK adV dC dI cy ad B hB0 (Int.le_trans hB1 (by decide)) qr s1   v145_6 (show 0 ≤ v145_6.toInt from r23) (show v145_6.toInt ≤ 11 by first | with_reducible assumption | omega) w12 H.size hT ) (cwV 2 hC.2.2.2.2 uV_RX12_300 rfl rfl rfl (by decide +kernel) ⟨Nat.le_of_ble_eq_true rfl, Nat.le_of_ble_eq_true rfl⟩) rfl hl.1 rfl (Nat.le_of_ble_eq_true rfl) dX12_reaches_228 (fun r195 w197 H locs hp196 hw => ?_)
                    obtain ⟨rfl, hg202⟩ := hp196
                    obtain ⟨g199, g200, c201⟩ := hg202
                    obtain rfl : r184 = r195 := c190.symm.trans c201
                    refine lv_iadd hx hb dX12_reaches_231 ?_
                    refine lv_topi (fun x203 ex203 => ?_)
                    have ex203 : x203.toInt = r66.toInt + r184.toInt := by rw [ex203]; exact wk_add (show (-2147483648) ≤ r66.toInt + r184.toInt by omega) (show r66.toInt + r184.toInt ≤ 2147483647 by omega)
                    refine lv_aload_n hx hb dX12_reaches_232 rfl (lv_at hl 2 rfl) ?_
                    refine tk_getA hC hK hw hT hinX12 kM_at0 (by decide) rfl 35 (by decide) (List.mem_cons_of_mem _ uw_7_8) rfl rfl dX12_reaches_233 ?_
                    refine lv_iload hx hb dX12_reaches_236 (lv_at hl 0 rfl) ?_
                    refine tk_iald hC hK hw hT kM_at18 rfl rfl (show 0 ≤ r174.toInt by first | with_reducible assumption | omega) (show r174.toInt < 10 by first | with_reducible assumption | omega) dX12_reaches_238 (fun x204 c205 rx204 tx204 => ?_)
                    refine lv_icmp_ge (tgt := 259) hx hb dX12_reaches_239 (by decide) (fun c206 => ?_) (fun c206 => ?_)
                    · have c206 : x204.toInt ≤ x203.toInt := wk_le.mp c206
                      have gb207 : 0 ≤ sumG 19 10 w12 ∧ sumG 19 10 w12 ≤ 10 := hT.sum (lo := 0) (hi := 1) kM_at19 rfl (by decide) rfl
                      exact J259 x49 H locs ls w12 (show 0 ≤ a1.toInt from r13) (show a1.toInt ≤ 9 from t14) (show 0 ≤ a2.toInt from r15) (show a2.toInt ≤ 9 from t16) (show 0 ≤ a3.toInt from r17) (show a3.toInt ≤ 99999 from t18) (show 2000 ≤ a4.toInt from r19) (show a4.toInt ≤ 101999 from t20) (show 0 ≤ v145_5.toInt from r21) (show v145_5.toInt ≤ 9 from t22) (show 0 ≤ v145_6.toInt from r23) (show v145_6.toInt ≤ 11 by first | with_reducible assumption | omega) (show 0 ≤ f145_12_0.toInt from r25) (show f145_12_0.toInt ≤ 10 from t26) (show 1 ≤ x49.toInt by first | with_reducible assumption | omega) (show x49.toInt ≤ 12 by first | with_reducible assumption | omega) (show (sumG 19 10 w1) + 1 ≤ (sumG 19 10 w12) by omega)  hw hT hF c27 c50 (lv_sub hl [2, 3, 4, 5, 6, 7, 8] rfl)
                    · have c206 : x203.toInt < x204.toInt := wk_leF c206
                      refine lv_aload_n hx hb dX12_reaches_242 rfl (lv_at hl 2 rfl) ?_
                      refine tk_getA hC hK hw hT hinX12 kM_at0 (by decide) rfl 35 (by decide) (List.mem_cons_of_mem _ uw_7_8) rfl rfl dX12_reaches_243 ?_
                      refine lv_iload hx hb dX12_reaches_246 (lv_at hl 0 rfl) ?_
                      refine lv_iload hx hb dX12_reaches_248 (lv_at hl 1 rfl) ?_
                      refine lv_aload_n hx hb dX12_reaches_250 rfl (lv_at hl 2 rfl) ?_
                      refine lv_iload hx hb dX12_reaches_251 (lv_at hl 8 rfl) ?_
                      refine lv_iconst (v := 2) hx hb dX12_reaches_253 (by decide) ?_
                      refine tk_Vi hC hK hw hT hA hE hSR kM_at0 (by decide) rfl (k_X12_streetOf_6 l adK adV dC dI cy ad B hB0 (Int.le_trans hB1 (by decide)) qr s1   v145_6 (show 0 ≤ v145_6.toInt from r23) (show v145_6.toInt ≤ 11 by first | with_reducible assumption | omega) w12 H.size hT ) (cwV 2 hC.2.2.2.2 uV_RX12_300 rfl rfl rfl (by decide +kernel) ⟨Nat.le_of_ble_eq_true rfl, Nat.le_of_ble_eq_true rfl⟩) rfl hl.1 rfl (Nat.le_of_ble_eq_true rfl) dX12_reaches_254 (fun r208 w210 H locs hp209 hw => ?_)
                      obtain ⟨rfl, hg215⟩ := hp209
                      obtain ⟨g212, g213, c214⟩ := hg215
                      obtain rfl : r184 = r208 := c190.symm.trans c214
                      refine lv_iadd hx hb dX12_reaches_257 ?_
                      refine lv_topi (fun x216 ex216 => ?_)
                      have ex216 : x216.toInt = r66.toInt + r184.toInt := by rw [ex216]; exact wk_add (show (-2147483648) ≤ r66.toInt + r184.toInt by omega) (show r66.toInt + r184.toInt ≤ 2147483647 by omega)
                      refine tk_iast hC hK hw hT kM_at18 (by decide) rfl rfl (show 0 ≤ r174.toInt by first | with_reducible assumption | omega) (show r174.toInt < 10 by first | with_reducible assumption | omega) (show 0 ≤ x216.toInt by first | with_reducible assumption | omega) (show x216.toInt ≤ 100000100 by first | with_reducible assumption | omega) dX12_reaches_258 (fun H locs w217 hw hT k219 c218 => ?_)
                      have gs220 : sumG 19 10 w217 = sumG 19 10 w12 := sumG_ne 10 k219 (tk_ne kM_at19 kM_at18 (by decide))
                      have hF := hF.put kM_at18 (inE_of (a := 0) (b := 10) (by decide) (show 0 ≤ r174.toInt.toNat by omega) (show r174.toInt.toNat ≤ 10 by omega)) k219
                      have c221 := k219.gi (Or.inl (tk_ne kM_at12 kM_at18 (by decide))) c27
                      have c222 := k219.gi (Or.inl (tk_ne kM_at12 kM_at18 (by decide))) c50
                      have c223 := k219.gi (Or.inl (tk_ne kM_at12 kM_at18 (by decide))) c58
                      have c224 := k219.gi (Or.inl (tk_ne kM_at12 kM_at18 (by decide))) c190
                      have gb225 : 0 ≤ sumG 19 10 w217 ∧ sumG 19 10 w217 ≤ 10 := hT.sum (lo := 0) (hi := 1) kM_at19 rfl (by decide) rfl
                      exact J259 x49 H locs ls w217 (show 0 ≤ a1.toInt from r13) (show a1.toInt ≤ 9 from t14) (show 0 ≤ a2.toInt from r15) (show a2.toInt ≤ 9 from t16) (show 0 ≤ a3.toInt from r17) (show a3.toInt ≤ 99999 from t18) (show 2000 ≤ a4.toInt from r19) (show a4.toInt ≤ 101999 from t20) (show 0 ≤ v145_5.toInt from r21) (show v145_5.toInt ≤ 9 from t22) (show 0 ≤ v145_6.toInt from r23) (show v145_6.toInt ≤ 11 by first | with_reducible assumption | omega) (show 0 ≤ f145_12_0.toInt from r25) (show f145_12_0.toInt ≤ 10 from t26) (show 1 ≤ x49.toInt by first | with_reducible assumption | omega) (show x49.toInt ≤ 12 by first | with_reducible assumption | omega) (show (sumG 19 10 w1) + 1 ≤ (sumG 19 10 w217) by omega)  hw hT hF c221 c222 (lv_sub hl [2, 3, 4, 5, 6, 7, 8] rfl)
                · refine lv_istore (lv' := [(8, .int r174), (7, .int r66), (0, .ref (ad 0)), (1, .int a1), (2, .int a2), (3, .int a3), (4, .int a4), (5, .int v145_5), (6, .int v145_6)]) hx hb dX12_reaches_197 hl (by decide) rfl (fun ls hl => ?_)
                  refine lv_iload hx hb dX12_reaches_199 (lv_at hl 1 rfl) ?_
                  refine lv_ldcw (v := 100000000) hx hb hC.2.2.2.1 (hC.2.2.2.2 _ (List.mem_cons_of_mem _ uw_38_2)) dX12_reaches_201 ?_
                  refine lv_icmp_ge (tgt := 259) hx hb dX12_reaches_204 (by decide) (fun c => absurd c (fun h => absurd (show (100000000 : Int) ≤ r66.toInt from wk_le.mp h) (by omega))) (fun _ => ?_)
                  refine lv_iload hx hb dX12_reaches_207 (lv_at hl 1 rfl) ?_
                  refine lv_aload_n hx hb dX12_reaches_209 rfl (lv_at hl 2 rfl) ?_
                  refine lv_iload hx hb dX12_reaches_210 (lv_at hl 8 rfl) ?_
                  refine lv_iconst (v := 2) hx hb dX12_reaches_212 (by decide) ?_
                  refine tk_Vi hC hK hw hT hA hE hSR kM_at0 (by decide) rfl (k_X12_streetOf_6 l adK adV dC dI cy ad B hB0 (Int.le_trans hB1 (by decide)) qr s1   v145_6 (show 0 ≤ v145_6.toInt from r23) (show v145_6.toInt ≤ 11 by first | with_reducible assumption | omega) w12 H.size hT ) (cwV 2 hC.2.2.2.2 uV_RX12_300 rfl rfl rfl (by decide +kernel) ⟨Nat.le_of_ble_eq_true rfl, Nat.le_of_ble_eq_true rfl⟩) rfl hl.1 rfl (Nat.le_of_ble_eq_true rfl) dX12_reaches_213 (fun r226 w228 H locs hp227 hw => ?_)
                  obtain ⟨rfl, hg233⟩ := hp227
                  obtain ⟨g230, g231, c232⟩ := hg233
                  refine lv_iadd hx hb dX12_reaches_216 ?_
                  refine lv_topi (fun x234 ex234 => ?_)
                  have ex234 : x234.toInt = r66.toInt + r226.toInt := by rw [ex234]; exact wk_add (show (-2147483648) ≤ r66.toInt + r226.toInt by omega) (show r66.toInt + r226.toInt ≤ 2147483647 by omega)
                  refine lv_iload hx hb dX12_reaches_217 (lv_at hl 6 rfl) ?_
                  refine lv_icmp_gt (tgt := 259) hx hb dX12_reaches_219 (by decide) (fun c235 => ?_) (fun c235 => ?_)
                  · have c235 : a4.toInt < x234.toInt := wk_lt.mp c235
                    have gb236 : 0 ≤ sumG 19 10 w12 ∧ sumG 19 10 w12 ≤ 10 := hT.sum (lo := 0) (hi := 1) kM_at19 rfl (by decide) rfl
                    exact J259 x49 H locs ls w12 (show 0 ≤ a1.toInt from r13) (show a1.toInt ≤ 9 from t14) (show 0 ≤ a2.toInt from r15) (show a2.toInt ≤ 9 from t16) (show 0 ≤ a3.toInt from r17) (show a3.toInt ≤ 99999 from t18) (show 2000 ≤ a4.toInt from r19) (show a4.toInt ≤ 101999 from t20) (show 0 ≤ v145_5.toInt from r21) (show v145_5.toInt ≤ 9 from t22) (show 0 ≤ v145_6.toInt from r23) (show v145_6.toInt ≤ 11 by first | with_reducible assumption | omega) (show 0 ≤ f145_12_0.toInt from r25) (show f145_12_0.toInt ≤ 10 from t26) (show 1 ≤ x49.toInt by first | with_reducible assumption | omega) (show x49.toInt ≤ 12 by first | with_reducible assumption | omega) (show (sumG 19 10 w1) + 1 ≤ (sumG 19 10 w12) by omega)  hw hT hF c27 c50 (lv_sub hl [2, 3, 4, 5, 6, 7, 8] rfl)
                  · have c235 : x234.toInt ≤ a4.toInt := wk_ltF c235
                    refine lv_iload hx hb dX12_reaches_222 (lv_at hl 1 rfl) ?_
                    refine lv_aload_n hx hb dX12_reaches_224 rfl (lv_at hl 2 rfl) ?_
                    refine lv_iload hx hb dX12_reaches_225 (lv_at hl 8 rfl) ?_
                    refine lv_iconst (v := 2) hx hb dX12_reaches_227 (by decide) ?_
                    refine tk_Vi hC hK hw hT hA hE hSR kM_at0 (by decide) rfl (k_X12_streetOf_6 l adK adV dC dI cy ad B hB0 (Int.le_trans hB1 (by decide)) qr s1   v145_6 (show 0 ≤ v145_6.toInt from r23) (show v145_6.toInt ≤ 11 by first | with_reducible assumption | omega) w12 H.size hT ) (cwV 2 hC.2.2.2.2 uV_RX12_300 rfl rfl rfl (by decide +kernel) ⟨Nat.le_of_ble_eq_true rfl, Nat.le_of_ble_eq_true rfl⟩) rfl hl.1 rfl (Nat.le_of_ble_eq_true rfl) dX12_reaches_228 (fun r237 w239 H locs hp238 hw => ?_)
                    obtain ⟨rfl, hg244⟩ := hp238
                    obtain ⟨g241, g242, c243⟩ := hg244
                    obtain rfl : r226 = r237 := c232.symm.trans c243
                    refine lv_iadd hx hb dX12_reaches_231 ?_
                    refine lv_topi (fun x245 ex245 => ?_)
                    have ex245 : x245.toInt = r66.toInt + r226.toInt := by rw [ex245]; exact wk_add (show (-2147483648) ≤ r66.toInt + r226.toInt by omega) (show r66.toInt + r226.toInt ≤ 2147483647 by omega)
                    refine lv_aload_n hx hb dX12_reaches_232 rfl (lv_at hl 2 rfl) ?_
                    refine tk_getA hC hK hw hT hinX12 kM_at0 (by decide) rfl 35 (by decide) (List.mem_cons_of_mem _ uw_7_8) rfl rfl dX12_reaches_233 ?_
                    refine lv_iload hx hb dX12_reaches_236 (lv_at hl 0 rfl) ?_
                    refine tk_iald hC hK hw hT kM_at18 rfl rfl (show 0 ≤ r174.toInt by first | with_reducible assumption | omega) (show r174.toInt < 10 by first | with_reducible assumption | omega) dX12_reaches_238 (fun x246 c247 rx246 tx246 => ?_)
                    refine lv_icmp_ge (tgt := 259) hx hb dX12_reaches_239 (by decide) (fun c248 => ?_) (fun c248 => ?_)
                    · have c248 : x246.toInt ≤ x245.toInt := wk_le.mp c248
                      have gb249 : 0 ≤ sumG 19 10 w12 ∧ sumG 19 10 w12 ≤ 10 := hT.sum (lo := 0) (hi := 1) kM_at19 rfl (by decide) rfl
                      exact J259 x49 H locs ls w12 (show 0 ≤ a1.toInt from r13) (show a1.toInt ≤ 9 from t14) (show 0 ≤ a2.toInt from r15) (show a2.toInt ≤ 9 from t16) (show 0 ≤ a3.toInt from r17) (show a3.toInt ≤ 99999 from t18) (show 2000 ≤ a4.toInt from r19) (show a4.toInt ≤ 101999 from t20) (show 0 ≤ v145_5.toInt from r21) (show v145_5.toInt ≤ 9 from t22) (show 0 ≤ v145_6.toInt from r23) (show v145_6.toInt ≤ 11 by first | with_reducible assumption | omega) (show 0 ≤ f145_12_0.toInt from r25) (show f145_12_0.toInt ≤ 10 from t26) (show 1 ≤ x49.toInt by first | with_reducible assumption | omega) (show x49.toInt ≤ 12 by first | with_reducible assumption | omega) (show (sumG 19 10 w1) + 1 ≤ (sumG 19 10 w12) by omega)  hw hT hF c27 c50 (lv_sub hl [2, 3, 4, 5, 6, 7, 8] rfl)
                    · have c248 : x245.toInt < x246.toInt := wk_leF c248
                      refine lv_aload_n hx hb dX12_reaches_242 rfl (lv_at hl 2 rfl) ?_
                      refine tk_getA hC hK hw hT hinX12 kM_at0 (by decide) rfl 35 (by decide) (List.mem_cons_of_mem _ uw_7_8) rfl rfl dX12_reaches_243 ?_
                      refine lv_iload hx hb dX12_reaches_246 (lv_at hl 0 rfl) ?_
                      refine lv_iload hx hb dX12_reaches_248 (lv_at hl 1 rfl) ?_
                      refine lv_aload_n hx hb dX12_reaches_250 rfl (lv_at hl 2 rfl) ?_
                      refine lv_iload hx hb dX12_reaches_251 (lv_at hl 8 rfl) ?_
                      refine lv_iconst (v := 2) hx hb dX12_reaches_253 (by decide) ?_
                      refine tk_Vi hC hK hw hT hA hE hSR kM_at0 (by decide) rfl (k_X12_streetOf_6 l adK adV dC dI cy ad B hB0 (Int.le_trans hB1 (by decide)) qr s1   v145_6 (show 0 ≤ v145_6.toInt from r23) (show v145_6.toInt ≤ 11 by first | with_reducible assumption | omega) w12 H.size hT ) (cwV 2 hC.2.2.2.2 uV_RX12_300 rfl rfl rfl (by decide +kernel) ⟨Nat.le_of_ble_eq_true rfl, Nat.le_of_ble_eq_true rfl⟩) rfl hl.1 rfl (Nat.le_of_ble_eq_true rfl) dX12_reaches_254 (fun r250 w252 H locs hp251 hw => ?_)
                      obtain ⟨rfl, hg257⟩ := hp251
                      obtain ⟨g254, g255, c256⟩ := hg257
                      obtain rfl : r226 = r250 := c232.symm.trans c256
                      refine lv_iadd hx hb dX12_reaches_257 ?_
                      refine lv_topi (fun x258 ex258 => ?_)
                      have ex258 : x258.toInt = r66.toInt + r226.toInt := by rw [ex258]; exact wk_add (show (-2147483648) ≤ r66.toInt + r226.toInt by omega) (show r66.toInt + r226.toInt ≤ 2147483647 by omega)
                      refine tk_iast hC hK hw hT kM_at18 (by decide) rfl rfl (show 0 ≤ r174.toInt by first | with_reducible assumption | omega) (show r174.toInt < 10 by first | with_reducible assumption | omega) (show 0 ≤ x258.toInt by first | with_reducible assumption | omega) (show x258.toInt ≤ 100000100 by first | with_reducible assumption | omega) dX12_reaches_258 (fun H locs w259 hw hT k261 c260 => ?_)
                      have gs262 : sumG 19 10 w259 = sumG 19 10 w12 := sumG_ne 10 k261 (tk_ne kM_at19 kM_at18 (by decide))
                      have hF := hF.put kM_at18 (inE_of (a := 0) (b := 10) (by decide) (show 0 ≤ r174.toInt.toNat by omega) (show r174.toInt.toNat ≤ 10 by omega)) k261
                      have c263 := k261.gi (Or.inl (tk_ne kM_at12 kM_at18 (by decide))) c27
                      have c264 := k261.gi (Or.inl (tk_ne kM_at12 kM_at18 (by decide))) c50
                      have c265 := k261.gi (Or.inl (tk_ne kM_at12 kM_at18 (by decide))) c58
                      have c266 := k261.gi (Or.inl (tk_ne kM_at12 kM_at18 (by decide))) c232
                      have gb267 : 0 ≤ sumG 19 10 w259 ∧ sumG 19 10 w259 ≤ 10 := hT.sum (lo := 0) (hi := 1) kM_at19 rfl (by decide) rfl
                      exact J259 x49 H locs ls w259 (show 0 ≤ a1.toInt from r13) (show a1.toInt ≤ 9 from t14) (show 0 ≤ a2.toInt from r15) (show a2.toInt ≤ 9 from t16) (show 0 ≤ a3.toInt from r17) (show a3.toInt ≤ 99999 from t18) (show 2000 ≤ a4.toInt from r19) (show a4.toInt ≤ 101999 from t20) (show 0 ≤ v145_5.toInt from r21) (show v145_5.toInt ≤ 9 from t22) (show 0 ≤ v145_6.toInt from r23) (show v145_6.toInt ≤ 11 by first | with_reducible assumption | omega) (show 0 ≤ f145_12_0.toInt from r25) (show f145_12_0.toInt ≤ 10 from t26) (show 1 ≤ x49.toInt by first | with_reducible assumption | omega) (show x49.toInt ≤ 12 by first | with_reducible assumption | omega) (show (sumG 19 10 w1) + 1 ≤ (sumG 19 10 w259) by omega)  hw hT hF c263 c264 (lv_sub hl [2, 3, 4, 5, 6, 7, 8] rfl)
            · refine lv_if_ne (tgt := 170) hx hb dX12_reaches_164 (by decide) (fun _ => ?_) (fun c => absurd c (by decide))
              refine lv_aload_n hx hb dX12_reaches_170 rfl (lv_at hl 0 rfl) ?_
              refine lv_iload hx hb dX12_reaches_171 (lv_at hl 6 rfl) ?_
              refine lv_iload hx hb dX12_reaches_173 (lv_at hl 5 rfl) ?_
              refine lv_aload_n hx hb dX12_reaches_175 rfl (lv_at hl 0 rfl) ?_
              refine tk_getA hC hK hw hT hinX12 kM_at0 (by decide) rfl 35 (by decide) (List.mem_cons_of_mem _ uw_7_8) rfl rfl dX12_reaches_176 ?_
              refine lv_iload hx hb dX12_reaches_179 (lv_at hl 5 rfl) ?_
              refine tk_iald hC hK hw hT kM_at18 rfl rfl (show 0 ≤ v145_5.toInt from r21) (show v145_5.toInt < 10 from Int.lt_of_le_of_lt t22 (by decide)) dX12_reaches_181 (fun x268 c269 rx268 tx268 => ?_)
              refine lv_iload hx hb dX12_reaches_182 (lv_at hl 4 rfl) ?_
              refine tk_Vi hC hK hw hT hA hE hSR kM_at0 (by decide) rfl (k_X12_firstOpen_1 l adK adV dC dI cy ad B hB0 (Int.le_trans hB1 (by decide)) qr s1   v145_6 (show 0 ≤ v145_6.toInt from r23) (show v145_6.toInt ≤ 11 by first | with_reducible assumption | omega) v145_5 (show 0 ≤ v145_5.toInt from r21) (show v145_5.toInt ≤ 9 from t22) x268 (show 0 ≤ x268.toInt from rx268) (show x268.toInt ≤ 100000100 from tx268) a4 (show 2000 ≤ a4.toInt from r19) (show a4.toInt ≤ 101999 from t20) w12 H.size hT ) (cwV 4 hC.2.2.2.2 uV_RX12_449 rfl rfl rfl (by decide +kernel) ⟨Nat.le_of_ble_eq_true rfl, Nat.le_of_ble_eq_true rfl⟩) rfl hl.1 rfl (Nat.le_of_ble_eq_true rfl) dX12_reaches_184 (fun r270 w272 H locs hp271 hw => ?_)
              obtain ⟨rfl, hg279⟩ := hp271
              rcases hg279 with ⟨g274, g275⟩ | ⟨g276, g277, c278⟩
              · refine lv_istore (lv' := [(7, .int r270), (0, .ref (ad 0)), (1, .int a1), (2, .int a2), (3, .int a3), (4, .int a4), (5, .int v145_5), (6, .int v145_6)]) hx hb dX12_reaches_187 hl (by decide) rfl (fun ls hl => ?_)
                refine lv_aload_n hx hb dX12_reaches_189 rfl (lv_at hl 1 rfl) ?_
                refine lv_iload hx hb dX12_reaches_190 (lv_at hl 7 rfl) ?_
                refine lv_iload hx hb dX12_reaches_192 (lv_at hl 6 rfl) ?_
                refine tk_Vi hC hK hw hT hA hE hSR kM_at0 (by decide) rfl (k_X12_otherOf_1 l adK adV dC dI cy ad B hB0 (Int.le_trans hB1 (by decide)) qr s1   v145_6 (show 0 ≤ v145_6.toInt from r23) (show v145_6.toInt ≤ 11 by first | with_reducible assumption | omega) v145_5 (show 0 ≤ v145_5.toInt from r21) (show v145_5.toInt ≤ 9 from t22) w12 H.size hT ) (cwV 2 hC.2.2.2.2 uV_RX12_348 rfl rfl rfl (by decide +kernel) ⟨Nat.le_of_ble_eq_true rfl, Nat.le_of_ble_eq_true rfl⟩) rfl hl.1 rfl (Nat.le_of_ble_eq_true rfl) dX12_reaches_194 (fun r280 w282 H locs hp281 hw => ?_)
                obtain ⟨rfl, hg289⟩ := hp281
                rcases hg289 with ⟨g284, g285⟩ | ⟨g286, g287, c288⟩
                · refine lv_istore (lv' := [(8, .int r280), (7, .int r270), (0, .ref (ad 0)), (1, .int a1), (2, .int a2), (3, .int a3), (4, .int a4), (5, .int v145_5), (6, .int v145_6)]) hx hb dX12_reaches_197 hl (by decide) rfl (fun ls hl => ?_)
                  refine lv_iload hx hb dX12_reaches_199 (lv_at hl 1 rfl) ?_
                  refine lv_ldcw (v := 100000000) hx hb hC.2.2.2.1 (hC.2.2.2.2 _ (List.mem_cons_of_mem _ uw_38_2)) dX12_reaches_201 ?_
                  refine lv_icmp_ge (tgt := 259) hx hb dX12_reaches_204 (by decide) (fun c290 => ?_) (fun c290 => ?_)
                  · have c290 : (100000000 : Int) ≤ r270.toInt := wk_le.mp c290
                    have gb291 : 0 ≤ sumG 19 10 w12 ∧ sumG 19 10 w12 ≤ 10 := hT.sum (lo := 0) (hi := 1) kM_at19 rfl (by decide) rfl
                    exact J259 x49 H locs ls w12 (show 0 ≤ a1.toInt from r13) (show a1.toInt ≤ 9 from t14) (show 0 ≤ a2.toInt from r15) (show a2.toInt ≤ 9 from t16) (show 0 ≤ a3.toInt from r17) (show a3.toInt ≤ 99999 from t18) (show 2000 ≤ a4.toInt from r19) (show a4.toInt ≤ 101999 from t20) (show 0 ≤ v145_5.toInt from r21) (show v145_5.toInt ≤ 9 from t22) (show 0 ≤ v145_6.toInt from r23) (show v145_6.toInt ≤ 11 by first | with_reducible assumption | omega) (show 0 ≤ f145_12_0.toInt from r25) (show f145_12_0.toInt ≤ 10 from t26) (show 1 ≤ x49.toInt by first | with_reducible assumption | omega) (show x49.toInt ≤ 12 by first | with_reducible assumption | omega) (show (sumG 19 10 w1) + 1 ≤ (sumG 19 10 w12) by omega)  hw hT hF c27 c50 (lv_sub hl [2, 3, 4, 5, 6, 7, 8] rfl)
                  · have c290 : r270.toInt < (100000000 : Int) := wk_leF c290
                    refine lv_iload hx hb dX12_reaches_207 (lv_at hl 1 rfl) ?_
                    refine lv_aload_n hx hb dX12_reaches_209 rfl (lv_at hl 2 rfl) ?_
                    refine lv_iload hx hb dX12_reaches_210 (lv_at hl 8 rfl) ?_
                    refine lv_iconst (v := 2) hx hb dX12_reaches_212 (by decide) ?_
                    refine tk_Vi hC hK hw hT hA hE hSR kM_at0 (by decide) rfl (k_X12_streetOf_6 l adK adV dC dI cy ad B hB0 (Int.le_trans hB1 (by decide)) qr s1   v145_6 (show 0 ≤ v145_6.toInt from r23) (show v145_6.toInt ≤ 11 by first | with_reducible assumption | omega) w12 H.size hT ) (cwV 2 hC.2.2.2.2 uV_RX12_300 rfl rfl rfl (by decide +kernel) ⟨Nat.le_of_ble_eq_true rfl, Nat.le_of_ble_eq_true rfl⟩) rfl hl.1 rfl (Nat.le_of_ble_eq_true rfl) dX12_reaches_213 (fun r292 w294 H locs hp293 hw => ?_)
                    obtain ⟨rfl, hg299⟩ := hp293
                    obtain ⟨g296, g297, c298⟩ := hg299
                    refine lv_iadd hx hb dX12_reaches_216 ?_
                    refine lv_topi (fun x300 ex300 => ?_)
                    have ex300 : x300.toInt = r270.toInt + r292.toInt := by rw [ex300]; exact wk_add (show (-2147483648) ≤ r270.toInt + r292.toInt by omega) (show r270.toInt + r292.toInt ≤ 2147483647 by omega)
                    refine lv_iload hx hb dX12_reaches_217 (lv_at hl 6 rfl) ?_
                    refine lv_icmp_gt (tgt := 259) hx hb dX12_reaches_219 (by decide) (fun c301 => ?_) (fun c301 => ?_)
                    · have c301 : a4.toInt < x300.toInt := wk_lt.mp c301
                      have gb302 : 0 ≤ sumG 19 10 w12 ∧ sumG 19 10 w12 ≤ 10 := hT.sum (lo := 0) (hi := 1) kM_at19 rfl (by decide) rfl
                      exact J259 x49 H locs ls w12 (show 0 ≤ a1.toInt from r13) (show a1.toInt ≤ 9 from t14) (show 0 ≤ a2.toInt from r15) (show a2.toInt ≤ 9 from t16) (show 0 ≤ a3.toInt from r17) (show a3.toInt ≤ 99999 from t18) (show 2000 ≤ a4.toInt from r19) (show a4.toInt ≤ 101999 from t20) (show 0 ≤ v145_5.toInt from r21) (show v145_5.toInt ≤ 9 from t22) (show 0 ≤ v145_6.toInt from r23) (show v145_6.toInt ≤ 11 by first | with_reducible assumption | omega) (show 0 ≤ f145_12_0.toInt from r25) (show f145_12_0.toInt ≤ 10 from t26) (show 1 ≤ x49.toInt by first | with_reducible assumption | omega) (show x49.toInt ≤ 12 by first | with_reducible assumption | omega) (show (sumG 19 10 w1) + 1 ≤ (sumG 19 10 w12) by omega)  hw hT hF c27 c50 (lv_sub hl [2, 3, 4, 5, 6, 7, 8] rfl)
                    · have c301 : x300.toInt ≤ a4.toInt := wk_ltF c301
                      refine lv_iload hx hb dX12_reaches_222 (lv_at hl 1 rfl) ?_
                      refine lv_aload_n hx hb dX12_reaches_224 rfl (lv_at hl 2 rfl) ?_
                      refine lv_iload hx hb dX12_reaches_225 (lv_at hl 8 rfl) ?_
                      refine lv_iconst (v := 2) hx hb dX12_reaches_227 (by decide) ?_
                      refine tk_Vi hC hK hw hT hA hE hSR kM_at0 (by decide) rfl (k_X12_streetOf_6 l adK adV dC dI cy ad B hB0 (Int.le_trans hB1 (by decide)) qr s1   v145_6 (show 0 ≤ v145_6.toInt from r23) (show v145_6.toInt ≤ 11 by first | with_reducible assumption | omega) w12 H.size hT ) (cwV 2 hC.2.2.2.2 uV_RX12_300 rfl rfl rfl (by decide +kernel) ⟨Nat.le_of_ble_eq_true rfl, Nat.le_of_ble_eq_true rfl⟩) rfl hl.1 rfl (Nat.le_of_ble_eq_true rfl) dX12_reaches_228 (fun r303 w305 H locs hp304 hw => ?_)
                      obtain ⟨rfl, hg310⟩ := hp304
                      obtain ⟨g307, g308, c309⟩ := hg310
                      obtain rfl : r292 = r303 := c298.symm.trans c309
                      refine lv_iadd hx hb dX12_reaches_231 ?_
                      refine lv_topi (fun x311 ex311 => ?_)
                      have ex311 : x311.toInt = r270.toInt + r292.toInt := by rw [ex311]; exact wk_add (show (-2147483648) ≤ r270.toInt + r292.toInt by omega) (show r270.toInt + r292.toInt ≤ 2147483647 by omega)
                      refine lv_aload_n hx hb dX12_reaches_232 rfl (lv_at hl 2 rfl) ?_
                      refine tk_getA hC hK hw hT hinX12 kM_at0 (by decide) rfl 35 (by decide) (List.mem_cons_of_mem _ uw_7_8) rfl rfl dX12_reaches_233 ?_
                      refine lv_iload hx hb dX12_reaches_236 (lv_at hl 0 rfl) ?_
                      refine tk_iald hC hK hw hT kM_at18 rfl rfl (show 0 ≤ r280.toInt by first | with_reducible assumption | omega) (show r280.toInt < 10 by first | with_reducible assumption | omega) dX12_reaches_238 (fun x312 c313 rx312 tx312 => ?_)
                      refine lv_icmp_ge (tgt := 259) hx hb dX12_reaches_239 (by decide) (fun c314 => ?_) (fun c314 => ?_)
                      · have c314 : x312.toInt ≤ x311.toInt := wk_le.mp c314
                        have gb315 : 0 ≤ sumG 19 10 w12 ∧ sumG 19 10 w12 ≤ 10 := hT.sum (lo := 0) (hi := 1) kM_at19 rfl (by decide) rfl
                        exact J259 x49 H locs ls w12 (show 0 ≤ a1.toInt from r13) (show a1.toInt ≤ 9 from t14) (show 0 ≤ a2.toInt from r15) (show a2.toInt ≤ 9 from t16) (show 0 ≤ a3.toInt from r17) (show a3.toInt ≤ 99999 from t18) (show 2000 ≤ a4.toInt from r19) (show a4.toInt ≤ 101999 from t20) (show 0 ≤ v145_5.toInt from r21) (show v145_5.toInt ≤ 9 from t22) (show 0 ≤ v145_6.toInt from r23) (show v145_6.toInt ≤ 11 by first | with_reducible assumption | omega) (show 0 ≤ f145_12_0.toInt from r25) (show f145_12_0.toInt ≤ 10 from t26) (show 1 ≤ x49.toInt by first | with_reducible assumption | omega) (show x49.toInt ≤ 12 by first | with_reducible assumption | omega) (show (sumG 19 10 w1) + 1 ≤ (sumG 19 10 w12) by omega)  hw hT hF c27 c50 (lv_sub hl [2, 3, 4, 5, 6, 7, 8] rfl)
                      · have c314 : x311.toInt < x312.toInt := wk_leF c314
                        refine lv_aload_n hx hb dX12_reaches_242 rfl (lv_at hl 2 rfl) ?_
                        refine tk_getA hC hK hw hT hinX12 kM_at0 (by decide) rfl 35 (by decide) (List.mem_cons_of_mem _ uw_7_8) rfl rfl dX12_reaches_243 ?_
                        refine lv_iload hx hb dX12_reaches_246 (lv_at hl 0 rfl) ?_
                        refine lv_iload hx hb dX12_reaches_248 (lv_at hl 1 rfl) ?_
                        refine lv_aload_n hx hb dX12_reaches_250 rfl (lv_at hl 2 rfl) ?_
                        refine lv_iload hx hb dX12_reaches_251 (lv_at hl 8 rfl) ?_
                        refine lv_iconst (v := 2) hx hb dX12_reaches_253 (by decide) ?_
                        refine tk_Vi hC hK hw hT hA hE hSR kM_at0 (by decide) rfl (k_X12_streetOf_6 l adK adV dC dI cy ad B hB0 (Int.le_trans hB1 (by decide)) qr s1   v145_6 (show 0 ≤ v145_6.toInt from r23) (show v145_6.toInt ≤ 11 by first | with_reducible assumption | omega) w12 H.size hT ) (cwV 2 hC.2.2.2.2 uV_RX12_300 rfl rfl rfl (by decide +kernel) ⟨Nat.le_of_ble_eq_true rfl, Nat.le_of_ble_eq_true rfl⟩) rfl hl.1 rfl (Nat.le_of_ble_eq_true rfl) dX12_reaches_254 (fun r316 w318 H locs hp317 hw => ?_)
                        obtain ⟨rfl, hg323⟩ := hp317
                        obtain ⟨g320, g321, c322⟩ := hg323
                        obtain rfl : r292 = r316 := c298.symm.trans c322
                        refine lv_iadd hx hb dX12_reaches_257 ?_
                        refine lv_topi (fun x324 ex324 => ?_)
                        have ex324 : x324.toInt = r270.toInt + r292.toInt := by rw [ex324]; exact wk_add (show (-2147483648) ≤ r270.toInt + r292.toInt by omega) (show r270.toInt + r292.toInt ≤ 2147483647 by omega)
                        refine tk_iast hC hK hw hT kM_at18 (by decide) rfl rfl (show 0 ≤ r280.toInt by first | with_reducible assumption | omega) (show r280.toInt < 10 by first | with_reducible assumption | omega) (show 0 ≤ x324.toInt by first | with_reducible assumption | omega) (show x324.toInt ≤ 100000100 by first | with_reducible assumption | omega) dX12_reaches_258 (fun H locs w325 hw hT k327 c326 => ?_)
                        have gs328 : sumG 19 10 w325 = sumG 19 10 w12 := sumG_ne 10 k327 (tk_ne kM_at19 kM_at18 (by decide))
                        have hF := hF.put kM_at18 (inE_of (a := 0) (b := 10) (by decide) (show 0 ≤ r280.toInt.toNat by omega) (show r280.toInt.toNat ≤ 10 by omega)) k327
                        have c329 := k327.gi (Or.inl (tk_ne kM_at12 kM_at18 (by decide))) c27
                        have c330 := k327.gi (Or.inl (tk_ne kM_at12 kM_at18 (by decide))) c50
                        have c331 := k327.gi (Or.inl (tk_ne kM_at12 kM_at18 (by decide))) c60
                        have c332 := k327.gi (Or.inl (tk_ne kM_at12 kM_at18 (by decide))) c298
                        have gb333 : 0 ≤ sumG 19 10 w325 ∧ sumG 19 10 w325 ≤ 10 := hT.sum (lo := 0) (hi := 1) kM_at19 rfl (by decide) rfl
                        exact J259 x49 H locs ls w325 (show 0 ≤ a1.toInt from r13) (show a1.toInt ≤ 9 from t14) (show 0 ≤ a2.toInt from r15) (show a2.toInt ≤ 9 from t16) (show 0 ≤ a3.toInt from r17) (show a3.toInt ≤ 99999 from t18) (show 2000 ≤ a4.toInt from r19) (show a4.toInt ≤ 101999 from t20) (show 0 ≤ v145_5.toInt from r21) (show v145_5.toInt ≤ 9 from t22) (show 0 ≤ v145_6.toInt from r23) (show v145_6.toInt ≤ 11 by first | with_reducible assumption | omega) (show 0 ≤ f145_12_0.toInt from r25) (show f145_12_0.toInt ≤ 10 from t26) (show 1 ≤ x49.toInt by first | with_reducible assumption | omega) (show x49.toInt ≤ 12 by first | with_reducible assumption | omega) (show (sumG 19 10 w1) + 1 ≤ (sumG 19 10 w325) by omega)  hw hT hF c329 c330 (lv_sub hl [2, 3, 4, 5, 6, 7, 8] rfl)
                · refine lv_istore (lv' := [(8, .int r280), (7, .int r270), (0, .ref (ad 0)), (1, .int a1), (2, .int a2), (3, .int a3), (4, .int a4), (5, .int v145_5), (6, .int v145_6)]) hx hb dX12_reaches_197 hl (by decide) rfl (fun ls hl => ?_)
                  refine lv_iload hx hb dX12_reaches_199 (lv_at hl 1 rfl) ?_
                  refine lv_ldcw (v := 100000000) hx hb hC.2.2.2.1 (hC.2.2.2.2 _ (List.mem_cons_of_mem _ uw_38_2)) dX12_reaches_201 ?_
                  refine lv_icmp_ge (tgt := 259) hx hb dX12_reaches_204 (by decide) (fun c334 => ?_) (fun c334 => ?_)
                  · have c334 : (100000000 : Int) ≤ r270.toInt := wk_le.mp c334
                    have gb335 : 0 ≤ sumG 19 10 w12 ∧ sumG 19 10 w12 ≤ 10 := hT.sum (lo := 0) (hi := 1) kM_at19 rfl (by decide) rfl
                    exact J259 x49 H locs ls w12 (show 0 ≤ a1.toInt from r13) (show a1.toInt ≤ 9 from t14) (show 0 ≤ a2.toInt from r15) (show a2.toInt ≤ 9 from t16) (show 0 ≤ a3.toInt from r17) (show a3.toInt ≤ 99999 from t18) (show 2000 ≤ a4.toInt from r19) (show a4.toInt ≤ 101999 from t20) (show 0 ≤ v145_5.toInt from r21) (show v145_5.toInt ≤ 9 from t22) (show 0 ≤ v145_6.toInt from r23) (show v145_6.toInt ≤ 11 by first | with_reducible assumption | omega) (show 0 ≤ f145_12_0.toInt from r25) (show f145_12_0.toInt ≤ 10 from t26) (show 1 ≤ x49.toInt by first | with_reducible assumption | omega) (show x49.toInt ≤ 12 by first | with_reducible assumption | omega) (show (sumG 19 10 w1) + 1 ≤ (sumG 19 10 w12) by omega)  hw hT hF c27 c50 (lv_sub hl [2, 3, 4, 5, 6, 7, 8] rfl)
                  · have c334 : r270.toInt < (100000000 : Int) := wk_leF c334
                    refine lv_iload hx hb dX12_reaches_207 (lv_at hl 1 rfl) ?_
                    refine lv_aload_n hx hb dX12_reaches_209 rfl (lv_at hl 2 rfl) ?_
                    refine lv_iload hx hb dX12_reaches_210 (lv_at hl 8 rfl) ?_
                    refine lv_iconst (v := 2) hx hb dX12_reaches_212 (by decide) ?_
                    refine tk_Vi hC hK hw hT hA hE hSR kM_at0 (by decide) rfl (k_X12_streetOf_6 l adK adV dC dI cy ad B hB0 (Int.le_trans hB1 (by decide)) qr s1   v145_6 (show 0 ≤ v145_6.toInt from r23) (show v145_6.toInt ≤ 11 by first | with_reducible assumption | omega) w12 H.size hT ) (cwV 2 hC.2.2.2.2 uV_RX12_300 rfl rfl rfl (by decide +kernel) ⟨Nat.le_of_ble_eq_true rfl, Nat.le_of_ble_eq_true rfl⟩) rfl hl.1 rfl (Nat.le_of_ble_eq_true rfl) dX12_reaches_213 (fun r336 w338 H locs hp337 hw => ?_)
                    obtain ⟨rfl, hg343⟩ := hp337
                    obtain ⟨g340, g341, c342⟩ := hg343
                    refine lv_iadd hx hb dX12_reaches_216 ?_
                    refine lv_topi (fun x344 ex344 => ?_)
                    have ex344 : x344.toInt = r270.toInt + r336.toInt := by rw [ex344]; exact wk_add (show (-2147483648) ≤ r270.toInt + r336.toInt by omega) (show r270.toInt + r336.toInt ≤ 2147483647 by omega)
                    refine lv_iload hx hb dX12_reaches_217 (lv_at hl 6 rfl) ?_
                    refine lv_icmp_gt (tgt := 259) hx hb dX12_reaches_219 (by decide) (fun c345 => ?_) (fun c345 => ?_)
                    · have c345 : a4.toInt < x344.toInt := wk_lt.mp c345
                      have gb346 : 0 ≤ sumG 19 10 w12 ∧ sumG 19 10 w12 ≤ 10 := hT.sum (lo := 0) (hi := 1) kM_at19 rfl (by decide) rfl
                      exact J259 x49 H locs ls w12 (show 0 ≤ a1.toInt from r13) (show a1.toInt ≤ 9 from t14) (show 0 ≤ a2.toInt from r15) (show a2.toInt ≤ 9 from t16) (show 0 ≤ a3.toInt from r17) (show a3.toInt ≤ 99999 from t18) (show 2000 ≤ a4.toInt from r19) (show a4.toInt ≤ 101999 from t20) (show 0 ≤ v145_5.toInt from r21) (show v145_5.toInt ≤ 9 from t22) (show 0 ≤ v145_6.toInt from r23) (show v145_6.toInt ≤ 11 by first | with_reducible assumption | omega) (show 0 ≤ f145_12_0.toInt from r25) (show f145_12_0.toInt ≤ 10 from t26) (show 1 ≤ x49.toInt by first | with_reducible assumption | omega) (show x49.toInt ≤ 12 by first | with_reducible assumption | omega) (show (sumG 19 10 w1) + 1 ≤ (sumG 19 10 w12) by omega)  hw hT hF c27 c50 (lv_sub hl [2, 3, 4, 5, 6, 7, 8] rfl)
                    · have c345 : x344.toInt ≤ a4.toInt := wk_ltF c345
                      refine lv_iload hx hb dX12_reaches_222 (lv_at hl 1 rfl) ?_
                      refine lv_aload_n hx hb dX12_reaches_224 rfl (lv_at hl 2 rfl) ?_
                      refine lv_iload hx hb dX12_reaches_225 (lv_at hl 8 rfl) ?_
                      refine lv_iconst (v := 2) hx hb dX12_reaches_227 (by decide) ?_
                      refine tk_Vi hC hK hw hT hA hE hSR kM_at0 (by decide) rfl (k_X12_streetOf_6 l adK adV dC dI cy ad B hB0 (Int.le_trans hB1 (by decide)) qr s1   v145_6 (show 0 ≤ v145_6.toInt from r23) (show v145_6.toInt ≤ 11 by first | with_reducible assumption | omega) w12 H.size hT ) (cwV 2 hC.2.2.2.2 uV_RX12_300 rfl rfl rfl (by decide +kernel) ⟨Nat.le_of_ble_eq_true rfl, Nat.le_of_ble_eq_true rfl⟩) rfl hl.1 rfl (Nat.le_of_ble_eq_true rfl) dX12_reaches_228 (fun r347 w349 H locs hp348 hw => ?_)
                      obtain ⟨rfl, hg354⟩ := hp348
                      obtain ⟨g351, g352, c353⟩ := hg354
                      obtain rfl : r336 = r347 := c342.symm.trans c353
                      refine lv_iadd hx hb dX12_reaches_231 ?_
                      refine lv_topi (fun x355 ex355 => ?_)
                      have ex355 : x355.toInt = r270.toInt + r336.toInt := by rw [ex355]; exact wk_add (show (-2147483648) ≤ r270.toInt + r336.toInt by omega) (show r270.toInt + r336.toInt ≤ 2147483647 by omega)
                      refine lv_aload_n hx hb dX12_reaches_232 rfl (lv_at hl 2 rfl) ?_
                      refine tk_getA hC hK hw hT hinX12 kM_at0 (by decide) rfl 35 (by decide) (List.mem_cons_of_mem _ uw_7_8) rfl rfl dX12_reaches_233 ?_
                      refine lv_iload hx hb dX12_reaches_236 (lv_at hl 0 rfl) ?_
                      refine tk_iald hC hK hw hT kM_at18 rfl rfl (show 0 ≤ r280.toInt by first | with_reducible assumption | omega) (show r280.toInt < 10 by first | with_reducible assumption | omega) dX12_reaches_238 (fun x356 c357 rx356 tx356 => ?_)
                      refine lv_icmp_ge (tgt := 259) hx hb dX12_reaches_239 (by decide) (fun c358 => ?_) (fun c358 => ?_)
                      · have c358 : x356.toInt ≤ x355.toInt := wk_le.mp c358
                        have gb359 : 0 ≤ sumG 19 10 w12 ∧ sumG 19 10 w12 ≤ 10 := hT.sum (lo := 0) (hi := 1) kM_at19 rfl (by decide) rfl
                        exact J259 x49 H locs ls w12 (show 0 ≤ a1.toInt from r13) (show a1.toInt ≤ 9 from t14) (show 0 ≤ a2.toInt from r15) (show a2.toInt ≤ 9 from t16) (show 0 ≤ a3.toInt from r17) (show a3.toInt ≤ 99999 from t18) (show 2000 ≤ a4.toInt from r19) (show a4.toInt ≤ 101999 from t20) (show 0 ≤ v145_5.toInt from r21) (show v145_5.toInt ≤ 9 from t22) (show 0 ≤ v145_6.toInt from r23) (show v145_6.toInt ≤ 11 by first | with_reducible assumption | omega) (show 0 ≤ f145_12_0.toInt from r25) (show f145_12_0.toInt ≤ 10 from t26) (show 1 ≤ x49.toInt by first | with_reducible assumption | omega) (show x49.toInt ≤ 12 by first | with_reducible assumption | omega) (show (sumG 19 10 w1) + 1 ≤ (sumG 19 10 w12) by omega)  hw hT hF c27 c50 (lv_sub hl [2, 3, 4, 5, 6, 7, 8] rfl)
                      · have c358 : x355.toInt < x356.toInt := wk_leF c358
                        refine lv_aload_n hx hb dX12_reaches_242 rfl (lv_at hl 2 rfl) ?_
                        refine tk_getA hC hK hw hT hinX12 kM_at0 (by decide) rfl 35 (by decide) (List.mem_cons_of_mem _ uw_7_8) rfl rfl dX12_reaches_243 ?_
                        refine lv_iload hx hb dX12_reaches_246 (lv_at hl 0 rfl) ?_
                        refine lv_iload hx hb dX12_reaches_248 (lv_at hl 1 rfl) ?_
                        refine lv_aload_n hx hb dX12_reaches_250 rfl (lv_at hl 2 rfl) ?_
                        refine lv_iload hx hb dX12_reaches_251 (lv_at hl 8 rfl) ?_
                        refine lv_iconst (v := 2) hx hb dX12_reaches_253 (by decide) ?_
                        refine tk_Vi hC hK hw hT hA hE hSR kM_at0 (by decide) rfl (k_X12_streetOf_6 l adK adV dC dI cy ad B hB0 (Int.le_trans hB1 (by decide)) qr s1   v145_6 (show 0 ≤ v145_6.toInt from r23) (show v145_6.toInt ≤ 11 by first | with_reducible assumption | omega) w12 H.size hT ) (cwV 2 hC.2.2.2.2 uV_RX12_300 rfl rfl rfl (by decide +kernel) ⟨Nat.le_of_ble_eq_true rfl, Nat.le_of_ble_eq_true rfl⟩) rfl hl.1 rfl (Nat.le_of_ble_eq_true rfl) dX12_reaches_254 (fun r360 w362 H locs hp361 hw => ?_)
                        obtain ⟨rfl, hg367⟩ := hp361
                        obtain ⟨g364, g365, c366⟩ := hg367
                        obtain rfl : r336 = r360 := c342.symm.trans c366
                        refine lv_iadd hx hb dX12_reaches_257 ?_
                        refine lv_topi (fun x368 ex368 => ?_)
                        have ex368 : x368.toInt = r270.toInt + r336.toInt := by rw [ex368]; exact wk_add (show (-2147483648) ≤ r270.toInt + r336.toInt by omega) (show r270.toInt + r336.toInt ≤ 2147483647 by omega)
                        refine tk_iast hC hK hw hT kM_at18 (by decide) rfl rfl (show 0 ≤ r280.toInt by first | with_reducible assumption | omega) (show r280.toInt < 10 by first | with_reducible assumption | omega) (show 0 ≤ x368.toInt by first | with_reducible assumption | omega) (show x368.toInt ≤ 100000100 by first | with_reducible assumption | omega) dX12_reaches_258 (fun H locs w369 hw hT k371 c370 => ?_)
                        have gs372 : sumG 19 10 w369 = sumG 19 10 w12 := sumG_ne 10 k371 (tk_ne kM_at19 kM_at18 (by decide))
                        have hF := hF.put kM_at18 (inE_of (a := 0) (b := 10) (by decide) (show 0 ≤ r280.toInt.toNat by omega) (show r280.toInt.toNat ≤ 10 by omega)) k371
                        have c373 := k371.gi (Or.inl (tk_ne kM_at12 kM_at18 (by decide))) c27
                        have c374 := k371.gi (Or.inl (tk_ne kM_at12 kM_at18 (by decide))) c50
                        have c375 := k371.gi (Or.inl (tk_ne kM_at12 kM_at18 (by decide))) c60
                        have c376 := k371.gi (Or.inl (tk_ne kM_at12 kM_at18 (by decide))) c288
                        have c377 := k371.gi (Or.inl (tk_ne kM_at12 kM_at18 (by decide))) c342
                        have gb378 : 0 ≤ sumG 19 10 w369 ∧ sumG 19 10 w369 ≤ 10 := hT.sum (lo := 0) (hi := 1) kM_at19 rfl (by decide) rfl
                        exact J259 x49 H locs ls w369 (show 0 ≤ a1.toInt from r13) (show a1.toInt ≤ 9 from t14) (show 0 ≤ a2.toInt from r15) (show a2.toInt ≤ 9 from t16) (show 0 ≤ a3.toInt from r17) (show a3.toInt ≤ 99999 from t18) (show 2000 ≤ a4.toInt from r19) (show a4.toInt ≤ 101999 from t20) (show 0 ≤ v145_5.toInt from r21) (show v145_5.toInt ≤ 9 from t22) (show 0 ≤ v145_6.toInt from r23) (show v145_6.toInt ≤ 11 by first | with_reducible assumption | omega) (show 0 ≤ f145_12_0.toInt from r25) (show f145_12_0.toInt ≤ 10 from t26) (show 1 ≤ x49.toInt by first | with_reducible assumption | omega) (show x49.toInt ≤ 12 by first | with_reducible assumption | omega) (show (sumG 19 10 w1) + 1 ≤ (sumG 19 10 w369) by omega)  hw hT hF c373 c374 (lv_sub hl [2, 3, 4, 5, 6, 7, 8] rfl)
              · refine lv_istore (lv' := [(7, .int r270), (0, .ref (ad 0)), (1, .int a1), (2, .int a2), (3, .int a3), (4, .int a4), (5, .int v145_5), (6, .int v145_6)]) hx hb dX12_reaches_187 hl (by decide) rfl (fun ls hl => ?_)
                refine lv_aload_n hx hb dX12_reaches_189 rfl (lv_at hl 1 rfl) ?_
                refine lv_iload hx hb dX12_reaches_190 (lv_at hl 7 rfl) ?_
                refine lv_iload hx hb dX12_reaches_192 (lv_at hl 6 rfl) ?_
                refine tk_Vi hC hK hw hT hA hE hSR kM_at0 (by decide) rfl (k_X12_otherOf_1 l adK adV dC dI cy ad B hB0 (Int.le_trans hB1 (by decide)) qr s1   v145_6 (show 0 ≤ v145_6.toInt from r23) (show v145_6.toInt ≤ 11 by first | with_reducible assumption | omega) v145_5 (show 0 ≤ v145_5.toInt from r21) (show v145_5.toInt ≤ 9 from t22) w12 H.size hT ) (cwV 2 hC.2.2.2.2 uV_RX12_348 rfl rfl rfl (by decide +kernel) ⟨Nat.le_of_ble_eq_true rfl, Nat.le_of_ble_eq_true rfl⟩) rfl hl.1 rfl (Nat.le_of_ble_eq_true rfl) dX12_reaches_194 (fun r379 w381 H locs hp380 hw => ?_)
                obtain ⟨rfl, hg388⟩ := hp380
                rcases hg388 with ⟨g383, g384⟩ | ⟨g385, g386, c387⟩
                · refine lv_istore (lv' := [(8, .int r379), (7, .int r270), (0, .ref (ad 0)), (1, .int a1), (2, .int a2), (3, .int a3), (4, .int a4), (5, .int v145_5), (6, .int v145_6)]) hx hb dX12_reaches_197 hl (by decide) rfl (fun ls hl => ?_)
                  refine lv_iload hx hb dX12_reaches_199 (lv_at hl 1 rfl) ?_
                  refine lv_ldcw (v := 100000000) hx hb hC.2.2.2.1 (hC.2.2.2.2 _ (List.mem_cons_of_mem _ uw_38_2)) dX12_reaches_201 ?_
                  refine lv_icmp_ge (tgt := 259) hx hb dX12_reaches_204 (by decide) (fun c => absurd c (fun h => absurd (show (100000000 : Int) ≤ r270.toInt from wk_le.mp h) (by omega))) (fun _ => ?_)
                  refine lv_iload hx hb dX12_reaches_207 (lv_at hl 1 rfl) ?_
                  refine lv_aload_n hx hb dX12_reaches_209 rfl (lv_at hl 2 rfl) ?_
                  refine lv_iload hx hb dX12_reaches_210 (lv_at hl 8 rfl) ?_
                  refine lv_iconst (v := 2) hx hb dX12_reaches_212 (by decide) ?_
                  refine tk_Vi hC hK hw hT hA hE hSR kM_at0 (by decide) rfl (k_X12_streetOf_6 l adK adV dC dI cy ad B hB0 (Int.le_trans hB1 (by decide)) qr s1   v145_6 (show 0 ≤ v145_6.toInt from r23) (show v145_6.toInt ≤ 11 by first | with_reducible assumption | omega) w12 H.size hT ) (cwV 2 hC.2.2.2.2 uV_RX12_300 rfl rfl rfl (by decide +kernel) ⟨Nat.le_of_ble_eq_true rfl, Nat.le_of_ble_eq_true rfl⟩) rfl hl.1 rfl (Nat.le_of_ble_eq_true rfl) dX12_reaches_213 (fun r389 w391 H locs hp390 hw => ?_)
                  obtain ⟨rfl, hg396⟩ := hp390
                  obtain ⟨g393, g394, c395⟩ := hg396
                  refine lv_iadd hx hb dX12_reaches_216 ?_
                  refine lv_topi (fun x397 ex397 => ?_)
                  have ex397 : x397.toInt = r270.toInt + r389.toInt := by rw [ex397]; exact wk_add (show (-2147483648) ≤ r270.toInt + r389.toInt by omega) (show r270.toInt + r389.toInt ≤ 2147483647 by omega)
                  refine lv_iload hx hb dX12_reaches_217 (lv_at hl 6 rfl) ?_
                  refine lv_icmp_gt (tgt := 259) hx hb dX12_reaches_219 (by decide) (fun c398 => ?_) (fun c398 => ?_)
                  · have c398 : a4.toInt < x397.toInt := wk_lt.mp c398
                    have gb399 : 0 ≤ sumG 19 10 w12 ∧ sumG 19 10 w12 ≤ 10 := hT.sum (lo := 0) (hi := 1) kM_at19 rfl (by decide) rfl
                    exact J259 x49 H locs ls w12 (show 0 ≤ a1.toInt from r13) (show a1.toInt ≤ 9 from t14) (show 0 ≤ a2.toInt from r15) (show a2.toInt ≤ 9 from t16) (show 0 ≤ a3.toInt from r17) (show a3.toInt ≤ 99999 from t18) (show 2000 ≤ a4.toInt from r19) (show a4.toInt ≤ 101999 from t20) (show 0 ≤ v145_5.toInt from r21) (show v145_5.toInt ≤ 9 from t22) (show 0 ≤ v145_6.toInt from r23) (show v145_6.toInt ≤ 11 by first | with_reducible assumption | omega) (show 0 ≤ f145_12_0.toInt from r25) (show f145_12_0.toInt ≤ 10 from t26) (show 1 ≤ x49.toInt by first | with_reducible assumption | omega) (show x49.toInt ≤ 12 by first | with_reducible assumption | omega) (show (sumG 19 10 w1) + 1 ≤ (sumG 19 10 w12) by omega)  hw hT hF c27 c50 (lv_sub hl [2, 3, 4, 5, 6, 7, 8] rfl)
                  · have c398 : x397.toInt ≤ a4.toInt := wk_ltF c398
                    refine lv_iload hx hb dX12_reaches_222 (lv_at hl 1 rfl) ?_
                    refine lv_aload_n hx hb dX12_reaches_224 rfl (lv_at hl 2 rfl) ?_
                    refine lv_iload hx hb dX12_reaches_225 (lv_at hl 8 rfl) ?_
                    refine lv_iconst (v := 2) hx hb dX12_reaches_227 (by decide) ?_
                    refine tk_Vi hC hK hw hT hA hE hSR kM_at0 (by decide) rfl (k_X12_streetOf_6 l adK adV dC dI cy ad B hB0 (Int.le_trans hB1 (by decide)) qr s1   v145_6 (show 0 ≤ v145_6.toInt from r23) (show v145_6.toInt ≤ 11 by first | with_reducible assumption | omega) w12 H.size hT ) (cwV 2 hC.2.2.2.2 uV_RX12_300 rfl rfl rfl (by decide +kernel) ⟨Nat.le_of_ble_eq_true rfl, Nat.le_of_ble_eq_true rfl⟩) rfl hl.1 rfl (Nat.le_of_ble_eq_true rfl) dX12_reaches_228 (fun r400 w402 H locs hp401 hw => ?_)
                    obtain ⟨rfl, hg407⟩ := hp401
                    obtain ⟨g404, g405, c406⟩ := hg407
                    obtain rfl : r389 = r400 := c395.symm.trans c406
                    refine lv_iadd hx hb dX12_reaches_231 ?_
                    refine lv_topi (fun x408 ex408 => ?_)
                    have ex408 : x408.toInt = r270.toInt + r389.toInt := by rw [ex408]; exact wk_add (show (-2147483648) ≤ r270.toInt + r389.toInt by omega) (show r270.toInt + r389.toInt ≤ 2147483647 by omega)
                    refine lv_aload_n hx hb dX12_reaches_232 rfl (lv_at hl 2 rfl) ?_
                    refine tk_getA hC hK hw hT hinX12 kM_at0 (by decide) rfl 35 (by decide) (List.mem_cons_of_mem _ uw_7_8) rfl rfl dX12_reaches_233 ?_
                    refine lv_iload hx hb dX12_reaches_236 (lv_at hl 0 rfl) ?_
                    refine tk_iald hC hK hw hT kM_at18 rfl rfl (show 0 ≤ r379.toInt by first | with_reducible assumption | omega) (show r379.toInt < 10 by first | with_reducible assumption | omega) dX12_reaches_238 (fun x409 c410 rx409 tx409 => ?_)
                    refine lv_icmp_ge (tgt := 259) hx hb dX12_reaches_239 (by decide) (fun c411 => ?_) (fun c411 => ?_)
                    · have c411 : x409.toInt ≤ x408.toInt := wk_le.mp c411
                      have gb412 : 0 ≤ sumG 19 10 w12 ∧ sumG 19 10 w12 ≤ 10 := hT.sum (lo := 0) (hi := 1) kM_at19 rfl (by decide) rfl
                      exact J259 x49 H locs ls w12 (show 0 ≤ a1.toInt from r13) (show a1.toInt ≤ 9 from t14) (show 0 ≤ a2.toInt from r15) (show a2.toInt ≤ 9 from t16) (show 0 ≤ a3.toInt from r17) (show a3.toInt ≤ 99999 from t18) (show 2000 ≤ a4.toInt from r19) (show a4.toInt ≤ 101999 from t20) (show 0 ≤ v145_5.toInt from r21) (show v145_5.toInt ≤ 9 from t22) (show 0 ≤ v145_6.toInt from r23) (show v145_6.toInt ≤ 11 by first | with_reducible assumption | omega) (show 0 ≤ f145_12_0.toInt from r25) (show f145_12_0.toInt ≤ 10 from t26) (show 1 ≤ x49.toInt by first | with_reducible assumption | omega) (show x49.toInt ≤ 12 by first | with_reducible assumption | omega) (show (sumG 19 10 w1) + 1 ≤ (sumG 19 10 w12) by omega)  hw hT hF c27 c50 (lv_sub hl [2, 3, 4, 5, 6, 7, 8] rfl)
                    · have c411 : x408.toInt < x409.toInt := wk_leF c411
                      refine lv_aload_n hx hb dX12_reaches_242 rfl (lv_at hl 2 rfl) ?_
                      refine tk_getA hC hK hw hT hinX12 kM_at0 (by decide) rfl 35 (by decide) (List.mem_cons_of_mem _ uw_7_8) rfl rfl dX12_reaches_243 ?_
                      refine lv_iload hx hb dX12_reaches_246 (lv_at hl 0 rfl) ?_
                      refine lv_iload hx hb dX12_reaches_248 (lv_at hl 1 rfl) ?_
                      refine lv_aload_n hx hb dX12_reaches_250 rfl (lv_at hl 2 rfl) ?_
                      refine lv_iload hx hb dX12_reaches_251 (lv_at hl 8 rfl) ?_
                      refine lv_iconst (v := 2) hx hb dX12_reaches_253 (by decide) ?_
                      refine tk_Vi hC hK hw hT hA hE hSR kM_at0 (by decide) rfl (k_X12_streetOf_6 l adK adV dC dI cy ad B hB0 (Int.le_trans hB1 (by decide)) qr s1   v145_6 (show 0 ≤ v145_6.toInt from r23) (show v145_6.toInt ≤ 11 by first | with_reducible assumption | omega) w12 H.size hT ) (cwV 2 hC.2.2.2.2 uV_RX12_300 rfl rfl rfl (by decide +kernel) ⟨Nat.le_of_ble_eq_true rfl, Nat.le_of_ble_eq_true rfl⟩) rfl hl.1 rfl (Nat.le_of_ble_eq_true rfl) dX12_reaches_254 (fun r413 w415 H locs hp414 hw => ?_)
                      obtain ⟨rfl, hg420⟩ := hp414
                      obtain ⟨g417, g418, c419⟩ := hg420
                      obtain rfl : r389 = r413 := c395.symm.trans c419
                      refine lv_iadd hx hb dX12_reaches_257 ?_
                      refine lv_topi (fun x421 ex421 => ?_)
                      have ex421 : x421.toInt = r270.toInt + r389.toInt := by rw [ex421]; exact wk_add (show (-2147483648) ≤ r270.toInt + r389.toInt by omega) (show r270.toInt + r389.toInt ≤ 2147483647 by omega)
                      refine tk_iast hC hK hw hT kM_at18 (by decide) rfl rfl (show 0 ≤ r379.toInt by first | with_reducible assumption | omega) (show r379.toInt < 10 by first | with_reducible assumption | omega) (show 0 ≤ x421.toInt by first | with_reducible assumption | omega) (show x421.toInt ≤ 100000100 by first | with_reducible assumption | omega) dX12_reaches_258 (fun H locs w422 hw hT k424 c423 => ?_)
                      have gs425 : sumG 19 10 w422 = sumG 19 10 w12 := sumG_ne 10 k424 (tk_ne kM_at19 kM_at18 (by decide))
                      have hF := hF.put kM_at18 (inE_of (a := 0) (b := 10) (by decide) (show 0 ≤ r379.toInt.toNat by omega) (show r379.toInt.toNat ≤ 10 by omega)) k424
                      have c426 := k424.gi (Or.inl (tk_ne kM_at12 kM_at18 (by decide))) c27
                      have c427 := k424.gi (Or.inl (tk_ne kM_at12 kM_at18 (by decide))) c50
                      have c428 := k424.gi (Or.inl (tk_ne kM_at12 kM_at18 (by decide))) c60
                      have c429 := k424.gi (Or.inl (tk_ne kM_at12 kM_at18 (by decide))) c278
                      have c430 := k424.gi (Or.inl (tk_ne kM_at12 kM_at18 (by decide))) c395
                      have gb431 : 0 ≤ sumG 19 10 w422 ∧ sumG 19 10 w422 ≤ 10 := hT.sum (lo := 0) (hi := 1) kM_at19 rfl (by decide) rfl
                      exact J259 x49 H locs ls w422 (show 0 ≤ a1.toInt from r13) (show a1.toInt ≤ 9 from t14) (show 0 ≤ a2.toInt from r15) (show a2.toInt ≤ 9 from t16) (show 0 ≤ a3.toInt from r17) (show a3.toInt ≤ 99999 from t18) (show 2000 ≤ a4.toInt from r19) (show a4.toInt ≤ 101999 from t20) (show 0 ≤ v145_5.toInt from r21) (show v145_5.toInt ≤ 9 from t22) (show 0 ≤ v145_6.toInt from r23) (show v145_6.toInt ≤ 11 by first | with_reducible assumption | omega) (show 0 ≤ f145_12_0.toInt from r25) (show f145_12_0.toInt ≤ 10 from t26) (show 1 ≤ x49.toInt by first | with_reducible assumption | omega) (show x49.toInt ≤ 12 by first | with_reducible assumption | omega) (show (sumG 19 10 w1) + 1 ≤ (sumG 19 10 w422) by omega)  hw hT hF c426 c427 (lv_sub hl [2, 3, 4, 5, 6, 7, 8] rfl)
                · refine lv_istore (lv' := [(8, .int r379), (7, .int r270), (0, .ref (ad 0)), (1, .int a1), (2, .int a2), (3, .int a3), (4, .int a4), (5, .int v145_5), (6, .int v145_6)]) hx hb dX12_reaches_197 hl (by decide) rfl (fun ls hl => ?_)
                  refine lv_iload hx hb dX12_reaches_199 (lv_at hl 1 rfl) ?_
                  refine lv_ldcw (v := 100000000) hx hb hC.2.2.2.1 (hC.2.2.2.2 _ (List.mem_cons_of_mem _ uw_38_2)) dX12_reaches_201 ?_
                  refine lv_icmp_ge (tgt := 259) hx hb dX12_reaches_204 (by decide) (fun c => absurd c (fun h => absurd (show (100000000 : Int) ≤ r270.toInt from wk_le.mp h) (by omega))) (fun _ => ?_)
                  refine lv_iload hx hb dX12_reaches_207 (lv_at hl 1 rfl) ?_
                  refine lv_aload_n hx hb dX12_reaches_209 rfl (lv_at hl 2 rfl) ?_
                  refine lv_iload hx hb dX12_reaches_210 (lv_at hl 8 rfl) ?_
                  refine lv_iconst (v := 2) hx hb dX12_reaches_212 (by decide) ?_
                  refine tk_Vi hC hK hw hT hA hE hSR kM_at0 (by decide) rfl (k_X12_streetOf_6 l adK adV dC dI cy ad B hB0 (Int.le_trans hB1 (by decide)) qr s1   v145_6 (show 0 ≤ v145_6.toInt from r23) (show v145_6.toInt ≤ 11 by first | with_reducible assumption | omega) w12 H.size hT ) (cwV 2 hC.2.2.2.2 uV_RX12_300 rfl rfl rfl (by decide +kernel) ⟨Nat.le_of_ble_eq_true rfl, Nat.le_of_ble_eq_true rfl⟩) rfl hl.1 rfl (Nat.le_of_ble_eq_true rfl) dX12_reaches_213 (fun r432 w434 H locs hp433 hw => ?_)
                  obtain ⟨rfl, hg439⟩ := hp433
                  obtain ⟨g436, g437, c438⟩ := hg439
                  refine lv_iadd hx hb dX12_reaches_216 ?_
                  refine lv_topi (fun x440 ex440 => ?_)
                  have ex440 : x440.toInt = r270.toInt + r432.toInt := by rw [ex440]; exact wk_add (show (-2147483648) ≤ r270.toInt + r432.toInt by omega) (show r270.toInt + r432.toInt ≤ 2147483647 by omega)
                  refine lv_iload hx hb dX12_reaches_217 (lv_at hl 6 rfl) ?_
                  refine lv_icmp_gt (tgt := 259) hx hb dX12_reaches_219 (by decide) (fun c441 => ?_) (fun c441 => ?_)
                  · have c441 : a4.toInt < x440.toInt := wk_lt.mp c441
                    have gb442 : 0 ≤ sumG 19 10 w12 ∧ sumG 19 10 w12 ≤ 10 := hT.sum (lo := 0) (hi := 1) kM_at19 rfl (by decide) rfl
                    exact J259 x49 H locs ls w12 (show 0 ≤ a1.toInt from r13) (show a1.toInt ≤ 9 from t14) (show 0 ≤ a2.toInt from r15) (show a2.toInt ≤ 9 from t16) (show 0 ≤ a3.toInt from r17) (show a3.toInt ≤ 99999 from t18) (show 2000 ≤ a4.toInt from r19) (show a4.toInt ≤ 101999 from t20) (show 0 ≤ v145_5.toInt from r21) (show v145_5.toInt ≤ 9 from t22) (show 0 ≤ v145_6.toInt from r23) (show v145_6.toInt ≤ 11 by first | with_reducible assumption | omega) (show 0 ≤ f145_12_0.toInt from r25) (show f145_12_0.toInt ≤ 10 from t26) (show 1 ≤ x49.toInt by first | with_reducible assumption | omega) (show x49.toInt ≤ 12 by first | with_reducible assumption | omega) (show (sumG 19 10 w1) + 1 ≤ (sumG 19 10 w12) by omega)  hw hT hF c27 c50 (lv_sub hl [2, 3, 4, 5, 6, 7, 8] rfl)
                  · have c441 : x440.toInt ≤ a4.toInt := wk_ltF c441
                    refine lv_iload hx hb dX12_reaches_222 (lv_at hl 1 rfl) ?_
                    refine lv_aload_n hx hb dX12_reaches_224 rfl (lv_at hl 2 rfl) ?_
                    refine lv_iload hx hb dX12_reaches_225 (lv_at hl 8 rfl) ?_
                    refine lv_iconst (v := 2) hx hb dX12_reaches_227 (by decide) ?_
                    refine tk_Vi hC hK hw hT hA hE hSR kM_at0 (by decide) rfl (k_X12_streetOf_6 l adK adV dC dI cy ad B hB0 (Int.le_trans hB1 (by decide)) qr s1   v145_6 (show 0 ≤ v145_6.toInt from r23) (show v145_6.toInt ≤ 11 by first | with_reducible assumption | omega) w12 H.size hT ) (cwV 2 hC.2.2.2.2 uV_RX12_300 rfl rfl rfl (by decide +kernel) ⟨Nat.le_of_ble_eq_true rfl, Nat.le_of_ble_eq_true rfl⟩) rfl hl.1 rfl (Nat.le_of_ble_eq_true rfl) dX12_reaches_228 (fun r443 w445 H locs hp444 hw => ?_)
                    obtain ⟨rfl, hg450⟩ := hp444
                    obtain ⟨g447, g448, c449⟩ := hg450
                    obtain rfl : r432 = r443 := c438.symm.trans c449
                    refine lv_iadd hx hb dX12_reaches_231 ?_
                    refine lv_topi (fun x451 ex451 => ?_)
                    have ex451 : x451.toInt = r270.toInt + r432.toInt := by rw [ex451]; exact wk_add (show (-2147483648) ≤ r270.toInt + r432.toInt by omega) (show r270.toInt + r432.toInt ≤ 2147483647 by omega)
                    refine lv_aload_n hx hb dX12_reaches_232 rfl (lv_at hl 2 rfl) ?_
                    refine tk_getA hC hK hw hT hinX12 kM_at0 (by decide) rfl 35 (by decide) (List.mem_cons_of_mem _ uw_7_8) rfl rfl dX12_reaches_233 ?_
                    refine lv_iload hx hb dX12_reaches_236 (lv_at hl 0 rfl) ?_
                    refine tk_iald hC hK hw hT kM_at18 rfl rfl (show 0 ≤ r379.toInt by first | with_reducible assumption | omega) (show r379.toInt < 10 by first | with_reducible assumption | omega) dX12_reaches_238 (fun x452 c453 rx452 tx452 => ?_)
                    refine lv_icmp_ge (tgt := 259) hx hb dX12_reaches_239 (by decide) (fun c454 => ?_) (fun c454 => ?_)
                    · have c454 : x452.toInt ≤ x451.toInt := wk_le.mp c454
                      have gb455 : 0 ≤ sumG 19 10 w12 ∧ sumG 19 10 w12 ≤ 10 := hT.sum (lo := 0) (hi := 1) kM_at19 rfl (by decide) rfl
                      exact J259 x49 H locs ls w12 (show 0 ≤ a1.toInt from r13) (show a1.toInt ≤ 9 from t14) (show 0 ≤ a2.toInt from r15) (show a2.toInt ≤ 9 from t16) (show 0 ≤ a3.toInt from r17) (show a3.toInt ≤ 99999 from t18) (show 2000 ≤ a4.toInt from r19) (show a4.toInt ≤ 101999 from t20) (show 0 ≤ v145_5.toInt from r21) (show v145_5.toInt ≤ 9 from t22) (show 0 ≤ v145_6.toInt from r23) (show v145_6.toInt ≤ 11 by first | with_reducible assumption | omega) (show 0 ≤ f145_12_0.toInt from r25) (show f145_12_0.toInt ≤ 10 from t26) (show 1 ≤ x49.toInt by first | with_reducible assumption | omega) (show x49.toInt ≤ 12 by first | with_reducible assumption | omega) (show (sumG 19 10 w1) + 1 ≤ (sumG 19 10 w12) by omega)  hw hT hF c27 c50 (lv_sub hl [2, 3, 4, 5, 6, 7, 8] rfl)
                    · have c454 : x451.toInt < x452.toInt := wk_leF c454
                      refine lv_aload_n hx hb dX12_reaches_242 rfl (lv_at hl 2 rfl) ?_
                      refine tk_getA hC hK hw hT hinX12 kM_at0 (by decide) rfl 35 (by decide) (List.mem_cons_of_mem _ uw_7_8) rfl rfl dX12_reaches_243 ?_
                      refine lv_iload hx hb dX12_reaches_246 (lv_at hl 0 rfl) ?_
                      refine lv_iload hx hb dX12_reaches_248 (lv_at hl 1 rfl) ?_
                      refine lv_aload_n hx hb dX12_reaches_250 rfl (lv_at hl 2 rfl) ?_
                      refine lv_iload hx hb dX12_reaches_251 (lv_at hl 8 rfl) ?_
                      refine lv_iconst (v := 2) hx hb dX12_reaches_253 (by decide) ?_
                      refine tk_Vi hC hK hw hT hA hE hSR kM_at0 (by decide) rfl (k_X12_streetOf_6 l adK adV dC dI cy ad B hB0 (Int.le_trans hB1 (by decide)) qr s1   v145_6 (show 0 ≤ v145_6.toInt from r23) (show v145_6.toInt ≤ 11 by first | with_reducible assumption | omega) w12 H.size hT ) (cwV 2 hC.2.2.2.2 uV_RX12_300 rfl rfl rfl (by decide +kernel) ⟨Nat.le_of_ble_eq_true rfl, Nat.le_of_ble_eq_true rfl⟩) rfl hl.1 rfl (Nat.le_of_ble_eq_true rfl) dX12_reaches_254 (fun r456 w458 H locs hp457 hw => ?_)
                      obtain ⟨rfl, hg463⟩ := hp457
                      obtain ⟨g460, g461, c462⟩ := hg463
                      obtain rfl : r432 = r456 := c438.symm.trans c462
                      refine lv_iadd hx hb dX12_reaches_257 ?_
                      refine lv_topi (fun x464 ex464 => ?_)
                      have ex464 : x464.toInt = r270.toInt + r432.toInt := by rw [ex464]; exact wk_add (show (-2147483648) ≤ r270.toInt + r432.toInt by omega) (show r270.toInt + r432.toInt ≤ 2147483647 by omega)
                      refine tk_iast hC hK hw hT kM_at18 (by decide) rfl rfl (show 0 ≤ r379.toInt by first | with_reducible assumption | omega) (show r379.toInt < 10 by first | with_reducible assumption | omega) (show 0 ≤ x464.toInt by first | with_reducible assumption | omega) (show x464.toInt ≤ 100000100 by first | with_reducible assumption | omega) dX12_reaches_258 (fun H locs w465 hw hT k467 c466 => ?_)
                      have gs468 : sumG 19 10 w465 = sumG 19 10 w12 := sumG_ne 10 k467 (tk_ne kM_at19 kM_at18 (by decide))
                      have hF := hF.put kM_at18 (inE_of (a := 0) (b := 10) (by decide) (show 0 ≤ r379.toInt.toNat by omega) (show r379.toInt.toNat ≤ 10 by omega)) k467
                      have c469 := k467.gi (Or.inl (tk_ne kM_at12 kM_at18 (by decide))) c27
                      have c470 := k467.gi (Or.inl (tk_ne kM_at12 kM_at18 (by decide))) c50
                      have c471 := k467.gi (Or.inl (tk_ne kM_at12 kM_at18 (by decide))) c60
                      have c472 := k467.gi (Or.inl (tk_ne kM_at12 kM_at18 (by decide))) c278
                      have c473 := k467.gi (Or.inl (tk_ne kM_at12 kM_at18 (by decide))) c438
                      have gb474 : 0 ≤ sumG 19 10 w465 ∧ sumG 19 10 w465 ≤ 10 := hT.sum (lo := 0) (hi := 1) kM_at19 rfl (by decide) rfl
                      exact J259 x49 H locs ls w465 (show 0 ≤ a1.toInt from r13) (show a1.toInt ≤ 9 from t14) (show 0 ≤ a2.toInt from r15) (show a2.toInt ≤ 9 from t16) (show 0 ≤ a3.toInt from r17) (show a3.toInt ≤ 99999 from t18) (show 2000 ≤ a4.toInt from r19) (show a4.toInt ≤ 101999 from t20) (show 0 ≤ v145_5.toInt from r21) (show v145_5.toInt ≤ 9 from t22) (show 0 ≤ v145_6.toInt from r23) (show v145_6.toInt ≤ 11 by first | with_reducible assumption | omega) (show 0 ≤ f145_12_0.toInt from r25) (show f145_12_0.toInt ≤ 10 from t26) (show 1 ≤ x49.toInt by first | with_reducible assumption | omega) (show x49.toInt ≤ 12 by first | with_reducible assumption | omega) (show (sumG 19 10 w1) + 1 ≤ (sumG 19 10 w465) by omega)  hw hT hF c469 c470 (lv_sub hl [2, 3, 4, 5, 6, 7, 8] rfl)
      have L59 : ∀ (n59 : Nat) (v59_5 : Int32) (v59_6 : Int32) (H : Heap) (locs : List Loc) (ls : Array Slot) (w475 : va_W), 0 ≤ a1.toInt → a1.toInt ≤ 9 → 0 ≤ a2.toInt → a2.toInt ≤ 9 → 0 ≤ a3.toInt → a3.toInt ≤ 99999 → 2000 ≤ a4.toInt → a4.toInt ≤ 101999 → (-1) ≤ v59_5.toInt → v59_5.toInt ≤ 9 → 0 ≤ v59_6.toInt → v59_6.toInt ≤ 10 → ((sumG 19 10 w475) ≤ (sumG 19 10 w1)) → ((sumG 19 10 w1) ≤ (sumG 19 10 w475)) → ((v59_5.toInt = -1 ∨ (gi w475 19 (v59_5.toInt).toNat).toInt = 0)) → (10 - v59_6.toInt).toNat < n59 → Wd dC dI A s.heap H locs w475 → TW ksM ad cy B qr 12 w475 → FE ksM [(77, 0, 10), (78, 0, 10)] w0 w475 → gi w475 19 (a2.toInt).toNat = 0 → lv_has ls 9 [(0, .ref (ad 0)), (1, .int a1), (2, .int a2), (3, .int a3), (4, .int a4), (5, .int v59_5), (6, .int v59_6)] → W p l e ({ frames := 5, cells := 0, slots := 0, locals := 105 }) s m (List.toArray [.ref (ad 0), .int a1, .int a2, .int a3, .int a4]) below meth c H locs 0 0 (MQ below (va_Qi (P_X12_reaches_1 ad cy B qr s1 a1 a2 a3 a4 w0) (fun u : va_W => wpost dC dI cy A u) A) (List.toArray [.ref (ad 0), .int a1, .int a2, .int a3, .int a4]) s 0 0 A) (F0 m 59 ls []) := by
        intro n59
        induction n59 with
        | zero => intro v59_5 v59_6 H locs ls w475 r476 t477 r478 t479 r480 t481 r482 t483 r484 t485 r486 t487 hcr59_0 hcr59_1 hcr59_2 hm59 hw hT hF c488 hl; omega
        | succ n59 ih59 =>
          intro v59_5 v59_6 H locs ls w475 r476 t477 r478 t479 r480 t481 r482 t483 r484 t485 r486 t487 hcr59_0 hcr59_1 hcr59_2 hm59 hw hT hF c488 hl
          have J119 : ∀ (v119_5 : Int32) (f119_12_0 : Int32) (f119_19__v59_6_toInt_toNat : Int32) (H : Heap) (locs : List Loc) (ls : Array Slot) (w489 : va_W), 0 ≤ a1.toInt → a1.toInt ≤ 9 → 0 ≤ a2.toInt → a2.toInt ≤ 9 → 0 ≤ a3.toInt → a3.toInt ≤ 99999 → 2000 ≤ a4.toInt → a4.toInt ≤ 101999 → (-1) ≤ v119_5.toInt → v119_5.toInt ≤ 9 → 0 ≤ v59_6.toInt → v59_6.toInt ≤ 9 → 1 ≤ f119_12_0.toInt → f119_12_0.toInt ≤ 10 → 0 ≤ f119_19__v59_6_toInt_toNat.toInt → f119_19__v59_6_toInt_toNat.toInt ≤ 1 → ((sumG 19 10 w489) ≤ (sumG 19 10 w1)) → ((sumG 19 10 w1) ≤ (sumG 19 10 w489)) → ((v119_5.toInt = -1 ∨ (gi w489 19 (v119_5.toInt).toNat).toInt = 0)) → Wd dC dI A s.heap H locs w489 → TW ksM ad cy B qr 12 w489 → FE ksM [(77, 0, 10), (78, 0, 10)] w0 w489 → gi w489 12 0 = f119_12_0 → gi w489 19 (a2.toInt).toNat = 0 → gi w489 19 (v59_6.toInt).toNat = f119_19__v59_6_toInt_toNat → lv_has ls 9 [(0, .ref (ad 0)), (1, .int a1), (2, .int a2), (3, .int a3), (4, .int a4), (5, .int v119_5), (6, .int v59_6)] → W p l e ({ frames := 5, cells := 0, slots := 0, locals := 105 }) s m (List.toArray [.ref (ad 0), .int a1, .int a2, .int a3, .int a4]) below meth c H locs 0 0 (MQ below (va_Qi (P_X12_reaches_1 ad cy B qr s1 a1 a2 a3 a4 w0) (fun u : va_W => wpost dC dI cy A u) A) (List.toArray [.ref (ad 0), .int a1, .int a2, .int a3, .int a4]) s 0 0 A) (F0 m 119 ls []) := by
            intro v119_5 f119_12_0 f119_19__v59_6_toInt_toNat H locs ls w489 r490 t491 r492 t493 r494 t495 r496 t497 r498 t499 r500 t501 r502 t503 r506 t507 hcr119_0 hcr119_1 hcr119_2 hw hT hF c504 c505 c508 hl
            obtain ⟨x509, ex509⟩ : ∃ y : Int32, y = v59_6 + Int32.ofInt 1 := ⟨_, rfl⟩
            refine lv_iinc (v := x509) (lv' := [(6, .int x509), (0, .ref (ad 0)), (1, .int a1), (2, .int a2), (3, .int a3), (4, .int a4), (5, .int v119_5)]) hx hb dX12_reaches_119 hl (k := 6) rfl ex509.symm (by decide) rfl (fun ls hl => ?_)
            have ex509 : x509.toInt = v59_6.toInt + 1 := by rw [ex509]; exact wk_add (y := 1) (show -2147483648 ≤ v59_6.toInt + 1 by omega) (show v59_6.toInt + 1 ≤ 2147483647 by omega)
            refine lv_goto (tgt := 59) hx hb dX12_reaches_122 (by decide) ?_
            have gb510 : 0 ≤ sumG 19 10 w489 ∧ sumG 19 10 w489 ≤ 10 := hT.sum (lo := 0) (hi := 1) kM_at19 rfl (by decide) rfl
            exact ih59 v119_5 x509 H locs ls w489 (show 0 ≤ a1.toInt from r490) (show a1.toInt ≤ 9 from t491) (show 0 ≤ a2.toInt from r492) (show a2.toInt ≤ 9 from t493) (show 0 ≤ a3.toInt from r494) (show a3.toInt ≤ 99999 from t495) (show 2000 ≤ a4.toInt from r496) (show a4.toInt ≤ 101999 from t497) (show (-1) ≤ v119_5.toInt from r498) (show v119_5.toInt ≤ 9 from t499) (show 0 ≤ x509.toInt by first | with_reducible assumption | omega) (show x509.toInt ≤ 10 by first | with_reducible assumption | omega) (show (sumG 19 10 w489) ≤ (sumG 19 10 w1) by omega) (show (sumG 19 10 w1) ≤ (sumG 19 10 w489) by omega) (show (v119_5.toInt = -1 ∨ (gi w489 19 (v119_5.toInt).toNat).toInt = 0) by first | omega | assumption | (left; omega) | (left; decide) | (right; assumption) | (right; rw [c505]; omega) | (right; rw [c505]; decide) | (right; rw [c508]; omega) | (right; rw [c508]; decide) | (right; rcases hcr59_2 with hx1 | hx1 <;> first | exact hx1 | (rw [← hx1]; exact (congrArg Int32.toInt ((hF.gi kM_at19 rfl rfl).symm.trans c505)).trans (by omega))) | (right; rcases hcr59_2 with hx1 | hx1 <;> first | exact hx1 | (rw [← hx1]; exact (congrArg Int32.toInt ((hF.gi kM_at19 rfl rfl).symm.trans c508)).trans (by omega)))) (show (10 - x509.toInt).toNat < n59 by first | exact tn_lt hm59 (by omega) (by omega) | omega) hw hT hF c505 (lv_sub hl [1, 2, 3, 4, 5, 6, 0] rfl)
          have J115 : ∀ (f115_12_0 : Int32) (H : Heap) (locs : List Loc) (ls : Array Slot) (w511 : va_W), 0 ≤ a1.toInt → a1.toInt ≤ 9 → 0 ≤ a2.toInt → a2.toInt ≤ 9 → 0 ≤ a3.toInt → a3.toInt ≤ 99999 → 2000 ≤ a4.toInt → a4.toInt ≤ 101999 → (-1) ≤ v59_5.toInt → v59_5.toInt ≤ 9 → 0 ≤ v59_6.toInt → v59_6.toInt ≤ 9 → 1 ≤ f115_12_0.toInt → f115_12_0.toInt ≤ 10 → ((sumG 19 10 w511) ≤ (sumG 19 10 w1)) → ((sumG 19 10 w1) ≤ (sumG 19 10 w511)) → ((v59_5.toInt = -1 ∨ (gi w511 19 (v59_5.toInt).toNat).toInt = 0)) → Wd dC dI A s.heap H locs w511 → TW ksM ad cy B qr 12 w511 → FE ksM [(77, 0, 10), (78, 0, 10)] w0 w511 → gi w511 12 0 = f115_12_0 → gi w511 19 (a2.toInt).toNat = 0 → gi w511 19 (v59_6.toInt).toNat = 0 → lv_has ls 9 [(0, .ref (ad 0)), (1, .int a1), (2, .int a2), (3, .int a3), (4, .int a4), (5, .int v59_5), (6, .int v59_6)] → W p l e ({ frames := 5, cells := 0, slots := 0, locals := 105 }) s m (List.toArray [.ref (ad 0), .int a1, .int a2, .int a3, .int a4]) below meth c H locs 0 0 (MQ below (va_Qi (P_X12_reaches_1 ad cy B qr s1 a1 a2 a3 a4 w0) (fun u : va_W => wpost dC dI cy A u) A) (List.toArray [.ref (ad 0), .int a1, .int a2, .int a3, .int a4]) s 0 0 A) (F0 m 115 ls []) := by
            intro f115_12_0 H locs ls w511 r512 t513 r514 t515 r516 t517 r518 t519 r520 t521 r522 t523 r524 t525 hcr115_0 hcr115_1 hcr115_2 hw hT hF c526 c527 c528 hl
            refine lv_iload hx hb dX12_reaches_115 (lv_at hl 6 rfl) ?_
            refine lv_istore (lv' := [(5, .int v59_6), (0, .ref (ad 0)), (1, .int a1), (2, .int a2), (3, .int a3), (4, .int a4), (6, .int v59_6)]) hx hb dX12_reaches_117 hl (by decide) rfl (fun ls hl => ?_)
            have gb529 : 0 ≤ sumG 19 10 w511 ∧ sumG 19 10 w511 ≤ 10 := hT.sum (lo := 0) (hi := 1) kM_at19 rfl (by decide) rfl
            exact J119 v59_6 f115_12_0 0 H locs ls w511 (show 0 ≤ a1.toInt from r512) (show a1.toInt ≤ 9 from t513) (show 0 ≤ a2.toInt from r514) (show a2.toInt ≤ 9 from t515) (show 0 ≤ a3.toInt from r516) (show a3.toInt ≤ 99999 from t517) (show 2000 ≤ a4.toInt from r518) (show a4.toInt ≤ 101999 from t519) (show (-1) ≤ v59_6.toInt from Int.le_trans (by decide) r522) (show v59_6.toInt ≤ 9 from t523) (show 0 ≤ v59_6.toInt from r522) (show v59_6.toInt ≤ 9 from t523) (show 1 ≤ f115_12_0.toInt from r524) (show f115_12_0.toInt ≤ 10 from t525) (by decide) (by decide) (show (sumG 19 10 w511) ≤ (sumG 19 10 w1) by omega) (show (sumG 19 10 w1) ≤ (sumG 19 10 w511) by omega) (show (v59_6.toInt = -1 ∨ (gi w511 19 (v59_6.toInt).toNat).toInt = 0) by first | omega | assumption | (left; omega) | (left; decide) | (right; assumption) | (right; rw [c527]; omega) | (right; rw [c527]; decide) | (right; rw [c528]; omega) | (right; rw [c528]; decide))  hw hT hF c526 c527 c528 (lv_sub hl [1, 2, 3, 4, 5, 0, 6] rfl)
          refine lv_iload hx hb dX12_reaches_59 (lv_at hl 6 rfl) ?_
          refine lv_aload_n hx hb dX12_reaches_61 rfl (lv_at hl 0 rfl) ?_
          refine tk_getA hC hK hw hT hinX12 kM_at0 (by decide) rfl 26 (by decide) (List.mem_cons_of_mem _ uw_7_1) rfl rfl dX12_reaches_62 ?_
          refine lv_iconst (v := 0) hx hb dX12_reaches_65 (by decide) ?_
          refine tk_ialdR hC hK hw hT kM_at12 rfl (by decide) (by decide) dX12_reaches_66 (fun x530 c531 Ex530 => ?_)
          have bx530 := tk_rgI rfl 0 1 1 0 10 (by decide +kernel) ⟨0, by decide, by decide⟩ Ex530
          have c531 : gi w475 12 0 = x530 := c531
          refine lv_icmp_ge (tgt := 125) hx hb dX12_reaches_67 (by decide) (fun c532 => ?_) (fun c532 => ?_)
          · have c532 : x530.toInt ≤ v59_6.toInt := wk_le.mp c532
            refine lv_iload hx hb dX12_reaches_125 (lv_at hl 5 rfl) ?_
            refine lv_if_ge (tgt := 134) hx hb dX12_reaches_127 (by decide) (fun c533 => ?_) (fun c533 => ?_)
            · have c533 : (0 : Int) ≤ v59_5.toInt := wk_le.mp c533
              refine lv_aload_n hx hb dX12_reaches_134 rfl (lv_at hl 0 rfl) ?_
              refine tk_getA hC hK hw hT hinX12 kM_at0 (by decide) rfl 36 (by decide) (List.mem_cons_of_mem _ uw_7_9) rfl rfl dX12_reaches_135 ?_
              refine lv_iload hx hb dX12_reaches_138 (lv_at hl 5 rfl) ?_
              refine lv_iconst (v := 1) hx hb dX12_reaches_140 (by decide) ?_
              refine tk_zast hC hK hw hT kM_at19 (by decide) rfl rfl (show 0 ≤ v59_5.toInt from c533) (show v59_5.toInt < 10 from Int.lt_of_le_of_lt t485 (by decide)) (by decide) (by decide) dX12_reaches_141 (fun H locs w534 hw hT k536 c535 => ?_)
              have gs537 : sumG 19 10 w534 = sumG 19 10 w475 - (gi w475 19 (v59_5.toInt.toNat)).toInt + (gi w534 19 (v59_5.toInt.toNat)).toInt := sumG_up (i := v59_5.toInt.toNat) k536 10 (show v59_5.toInt.toNat < 10 by omega)
              rw [show gi w534 19 (v59_5.toInt.toNat) = 1 from c535] at gs537
              rw [show (1 : Int32).toInt = 1 by decide] at gs537
              have hF := hF.put kM_at19 (inE_of (a := 0) (b := 10) (by decide) (show 0 ≤ v59_5.toInt.toNat by omega) (show v59_5.toInt.toNat ≤ 10 by omega)) k536
              have c538 := k536.gi (Or.inl (tk_ne kM_at12 kM_at19 (by decide))) c531
              refine lv_iconst (v := 0) hx hb dX12_reaches_142 (by decide) ?_
              refine lv_istore (lv' := [(6, .int 0), (0, .ref (ad 0)), (1, .int a1), (2, .int a2), (3, .int a3), (4, .int a4), (5, .int v59_5)]) hx hb dX12_reaches_143 hl (by decide) rfl (fun ls hl => ?_)
              have gb539 : 0 ≤ sumG 19 10 w534 ∧ sumG 19 10 w534 ≤ 10 := hT.sum (lo := 0) (hi := 1) kM_at19 rfl (by decide) rfl
              exact L145 ((12 - (0 : Int)).toNat + 1) v59_5 0 x530 H locs ls w534 (show 0 ≤ a1.toInt from r476) (show a1.toInt ≤ 9 from t477) (show 0 ≤ a2.toInt from r478) (show a2.toInt ≤ 9 from t479) (show 0 ≤ a3.toInt from r480) (show a3.toInt ≤ 99999 from t481) (show 2000 ≤ a4.toInt from r482) (show a4.toInt ≤ 101999 from t483) (show 0 ≤ v59_5.toInt from c533) (show v59_5.toInt ≤ 9 from t485) (by decide) (by decide) (show 0 ≤ x530.toInt by first | with_reducible assumption | omega) (show x530.toInt ≤ 10 by first | with_reducible assumption | omega) (show (sumG 19 10 w1) + 1 ≤ (sumG 19 10 w534) by omega) (Nat.lt_succ_self _) hw hT hF c538 (lv_sub hl [1, 2, 3, 4, 5, 6, 0] rfl)
            · have c533 : v59_5.toInt < (0 : Int) := wk_leF c533
              refine lv_ldcw (v := 100000000) hx hb hC.2.2.2.1 (hC.2.2.2.2 _ (List.mem_cons_of_mem _ uw_38_2)) dX12_reaches_130 ?_
              exact tk_iret hC hr hlocks hK ⟨hT, hF, ⟨(by decide), (by decide)⟩⟩ hw dX12_reaches_133
          · have c532 : v59_6.toInt < x530.toInt := wk_leF c532
            refine lv_aload_n hx hb dX12_reaches_70 rfl (lv_at hl 0 rfl) ?_
            refine tk_getA hC hK hw hT hinX12 kM_at0 (by decide) rfl 36 (by decide) (List.mem_cons_of_mem _ uw_7_9) rfl rfl dX12_reaches_71 ?_
            refine lv_iload hx hb dX12_reaches_74 (lv_at hl 6 rfl) ?_
            refine tk_zald hC hK hw hT kM_at19 rfl rfl (show 0 ≤ v59_6.toInt from r486) (show v59_6.toInt < 10 by first | with_reducible assumption | omega) dX12_reaches_76 (fun x540 c541 rx540 tx540 => ?_)
            have c541 : gi w475 19 (v59_6.toInt).toNat = x540 := (congrArg (gi w475 19) (congrArg Int.toNat (show v59_6.toInt = v59_6.toInt from rfl))).trans c541
            refine lv_if_ne (tgt := 119) hx hb dX12_reaches_77 (by decide) (fun c542 => ?_) (fun c542 => ?_)
            · have c542 : ¬ x540.toInt = (0 : Int) := wk_eqF c542
              have gb543 : 0 ≤ sumG 19 10 w475 ∧ sumG 19 10 w475 ≤ 10 := hT.sum (lo := 0) (hi := 1) kM_at19 rfl (by decide) rfl
              exact J119 v59_5 x530 x540 H locs ls w475 (show 0 ≤ a1.toInt from r476) (show a1.toInt ≤ 9 from t477) (show 0 ≤ a2.toInt from r478) (show a2.toInt ≤ 9 from t479) (show 0 ≤ a3.toInt from r480) (show a3.toInt ≤ 99999 from t481) (show 2000 ≤ a4.toInt from r482) (show a4.toInt ≤ 101999 from t483) (show (-1) ≤ v59_5.toInt from r484) (show v59_5.toInt ≤ 9 from t485) (show 0 ≤ v59_6.toInt from r486) (show v59_6.toInt ≤ 9 by first | with_reducible assumption | omega) (show 1 ≤ x530.toInt by first | with_reducible assumption | omega) (show x530.toInt ≤ 10 by first | with_reducible assumption | omega) (show 0 ≤ x540.toInt from rx540) (show x540.toInt ≤ 1 from tx540) (show (sumG 19 10 w475) ≤ (sumG 19 10 w1) by omega) (show (sumG 19 10 w1) ≤ (sumG 19 10 w475) by omega) (show (v59_5.toInt = -1 ∨ (gi w475 19 (v59_5.toInt).toNat).toInt = 0) by first | omega | assumption | (left; omega) | (left; decide) | (right; assumption) | (right; rw [c488]; omega) | (right; rw [c488]; decide) | (right; rw [c541]; omega) | (right; rw [c541]; decide))  hw hT hF c531 c488 c541 (lv_sub hl [0, 1, 2, 3, 4, 5, 6] rfl)
            · have c542 : x540.toInt = (0 : Int) := wk_eq.mp c542
              refine lv_aload_n hx hb dX12_reaches_80 rfl (lv_at hl 0 rfl) ?_
              refine tk_getA hC hK hw hT hinX12 kM_at0 (by decide) rfl 35 (by decide) (List.mem_cons_of_mem _ uw_7_8) rfl rfl dX12_reaches_81 ?_
              refine lv_iload hx hb dX12_reaches_84 (lv_at hl 6 rfl) ?_
              refine tk_iald hC hK hw hT kM_at18 rfl rfl (show 0 ≤ v59_6.toInt from r486) (show v59_6.toInt < 10 by first | with_reducible assumption | omega) dX12_reaches_86 (fun x544 c545 rx544 tx544 => ?_)
              refine lv_ldcw (v := 100000000) hx hb hC.2.2.2.1 (hC.2.2.2.2 _ (List.mem_cons_of_mem _ uw_38_2)) dX12_reaches_87 ?_
              refine lv_icmp_ge (tgt := 119) hx hb dX12_reaches_90 (by decide) (fun c546 => ?_) (fun c546 => ?_)
              · have c546 : (100000000 : Int) ≤ x544.toInt := wk_le.mp c546
                have gb547 : 0 ≤ sumG 19 10 w475 ∧ sumG 19 10 w475 ≤ 10 := hT.sum (lo := 0) (hi := 1) kM_at19 rfl (by decide) rfl
                exact J119 v59_5 x530 x540 H locs ls w475 (show 0 ≤ a1.toInt from r476) (show a1.toInt ≤ 9 from t477) (show 0 ≤ a2.toInt from r478) (show a2.toInt ≤ 9 from t479) (show 0 ≤ a3.toInt from r480) (show a3.toInt ≤ 99999 from t481) (show 2000 ≤ a4.toInt from r482) (show a4.toInt ≤ 101999 from t483) (show (-1) ≤ v59_5.toInt from r484) (show v59_5.toInt ≤ 9 from t485) (show 0 ≤ v59_6.toInt from r486) (show v59_6.toInt ≤ 9 by first | with_reducible assumption | omega) (show 1 ≤ x530.toInt by first | with_reducible assumption | omega) (show x530.toInt ≤ 10 by first | with_reducible assumption | omega) (show 0 ≤ x540.toInt from rx540) (show x540.toInt ≤ 1 from tx540) (show (sumG 19 10 w475) ≤ (sumG 19 10 w1) by omega) (show (sumG 19 10 w1) ≤ (sumG 19 10 w475) by omega) (show (v59_5.toInt = -1 ∨ (gi w475 19 (v59_5.toInt).toNat).toInt = 0) by first | omega | assumption | (left; omega) | (left; decide) | (right; assumption) | (right; rw [c488]; omega) | (right; rw [c488]; decide) | (right; rw [c541]; omega) | (right; rw [c541]; decide))  hw hT hF c531 c488 c541 (lv_sub hl [0, 1, 2, 3, 4, 5, 6] rfl)
              · have c546 : x544.toInt < (100000000 : Int) := wk_leF c546
                refine lv_iload hx hb dX12_reaches_93 (lv_at hl 5 rfl) ?_
                refine lv_if_lt (tgt := 115) hx hb dX12_reaches_95 (by decide) (fun c548 => ?_) (fun c548 => ?_)
                · have c548 : v59_5.toInt < (0 : Int) := wk_lt.mp c548
                  have gb549 : 0 ≤ sumG 19 10 w475 ∧ sumG 19 10 w475 ≤ 10 := hT.sum (lo := 0) (hi := 1) kM_at19 rfl (by decide) rfl
                  obtain rfl : x540 = 0 := wk_eq.mpr (show x540.toInt = 0 by first | exact Int.le_antisymm (by omega) (by omega) | omega)
                  exact J115 x530 H locs ls w475 (show 0 ≤ a1.toInt from r476) (show a1.toInt ≤ 9 from t477) (show 0 ≤ a2.toInt from r478) (show a2.toInt ≤ 9 from t479) (show 0 ≤ a3.toInt from r480) (show a3.toInt ≤ 99999 from t481) (show 2000 ≤ a4.toInt from r482) (show a4.toInt ≤ 101999 from t483) (show (-1) ≤ v59_5.toInt from r484) (show v59_5.toInt ≤ 9 from t485) (show 0 ≤ v59_6.toInt from r486) (show v59_6.toInt ≤ 9 by first | with_reducible assumption | omega) (show 1 ≤ x530.toInt by first | with_reducible assumption | omega) (show x530.toInt ≤ 10 by first | with_reducible assumption | omega) (show (sumG 19 10 w475) ≤ (sumG 19 10 w1) by omega) (show (sumG 19 10 w1) ≤ (sumG 19 10 w475) by omega) (show (v59_5.toInt = -1 ∨ (gi w475 19 (v59_5.toInt).toNat).toInt = 0) by first | omega | assumption | (left; omega) | (left; decide) | (right; assumption) | (right; rw [c488]; omega) | (right; rw [c488]; decide) | (right; rw [c541]; omega) | (right; rw [c541]; decide))  hw hT hF c531 c488 c541 (lv_sub hl [0, 1, 2, 3, 4, 5, 6] rfl)
                · have c548 : (0 : Int) ≤ v59_5.toInt := wk_ltF c548
                  refine lv_aload_n hx hb dX12_reaches_98 rfl (lv_at hl 0 rfl) ?_
                  refine tk_getA hC hK hw hT hinX12 kM_at0 (by decide) rfl 35 (by decide) (List.mem_cons_of_mem _ uw_7_8) rfl rfl dX12_reaches_99 ?_
                  refine lv_iload hx hb dX12_reaches_102 (lv_at hl 6 rfl) ?_
                  refine tk_iald hC hK hw hT kM_at18 rfl rfl (show 0 ≤ v59_6.toInt from r486) (show v59_6.toInt < 10 by first | with_reducible assumption | omega) dX12_reaches_104 (fun x550 c551 rx550 tx550 => ?_)
                  refine lv_aload_n hx hb dX12_reaches_105 rfl (lv_at hl 0 rfl) ?_
                  refine tk_getA hC hK hw hT hinX12 kM_at0 (by decide) rfl 35 (by decide) (List.mem_cons_of_mem _ uw_7_8) rfl rfl dX12_reaches_106 ?_
                  refine lv_iload hx hb dX12_reaches_109 (lv_at hl 5 rfl) ?_
                  refine tk_iald hC hK hw hT kM_at18 rfl rfl (show 0 ≤ v59_5.toInt from c548) (show v59_5.toInt < 10 from Int.lt_of_le_of_lt t485 (by decide)) dX12_reaches_111 (fun x552 c553 rx552 tx552 => ?_)
                  refine lv_icmp_ge (tgt := 119) hx hb dX12_reaches_112 (by decide) (fun c554 => ?_) (fun c554 => ?_)
                  · have c554 : x552.toInt ≤ x550.toInt := wk_le.mp c554
                    have gb555 : 0 ≤ sumG 19 10 w475 ∧ sumG 19 10 w475 ≤ 10 := hT.sum (lo := 0) (hi := 1) kM_at19 rfl (by decide) rfl
                    exact J119 v59_5 x530 x540 H locs ls w475 (show 0 ≤ a1.toInt from r476) (show a1.toInt ≤ 9 from t477) (show 0 ≤ a2.toInt from r478) (show a2.toInt ≤ 9 from t479) (show 0 ≤ a3.toInt from r480) (show a3.toInt ≤ 99999 from t481) (show 2000 ≤ a4.toInt from r482) (show a4.toInt ≤ 101999 from t483) (show (-1) ≤ v59_5.toInt from r484) (show v59_5.toInt ≤ 9 from t485) (show 0 ≤ v59_6.toInt from r486) (show v59_6.toInt ≤ 9 by first | with_reducible assumption | omega) (show 1 ≤ x530.toInt by first | with_reducible assumption | omega) (show x530.toInt ≤ 10 by first | with_reducible assumption | omega) (show 0 ≤ x540.toInt from rx540) (show x540.toInt ≤ 1 from tx540) (show (sumG 19 10 w475) ≤ (sumG 19 10 w1) by omega) (show (sumG 19 10 w1) ≤ (sumG 19 10 w475) by omega) (show (v59_5.toInt = -1 ∨ (gi w475 19 (v59_5.toInt).toNat).toInt = 0) by first | omega | assumption | (left; omega) | (left; decide) | (right; assumption) | (right; rw [c488]; omega) | (right; rw [c488]; decide) | (right; rw [c541]; omega) | (right; rw [c541]; decide))  hw hT hF c531 c488 c541 (lv_sub hl [0, 1, 2, 3, 4, 5, 6] rfl)
                  · have c554 : x550.toInt < x552.toInt := wk_leF c554
                    have gb556 : 0 ≤ sumG 19 10 w475 ∧ sumG 19 10 w475 ≤ 10 := hT.sum (lo := 0) (hi := 1) kM_at19 rfl (by decide) rfl
                    obtain rfl : x540 = 0 := wk_eq.mpr (show x540.toInt = 0 by first | exact Int.le_antisymm (by omega) (by omega) | omega)
                    exact J115 x530 H locs ls w475 (show 0 ≤ a1.toInt from r476) (show a1.toInt ≤ 9 from t477) (show 0 ≤ a2.toInt from r478) (show a2.toInt ≤ 9 from t479) (show 0 ≤ a3.toInt from r480) (show a3.toInt ≤ 99999 from t481) (show 2000 ≤ a4.toInt from r482) (show a4.toInt ≤ 101999 from t483) (show (-1) ≤ v59_5.toInt from r484) (show v59_5.toInt ≤ 9 from t485) (show 0 ≤ v59_6.toInt from r486) (show v59_6.toInt ≤ 9 by first | with_reducible assumption | omega) (show 1 ≤ x530.toInt by first | with_reducible assumption | omega) (show x530.toInt ≤ 10 by first | with_reducible assumption | omega) (show (sumG 19 10 w475) ≤ (sumG 19 10 w1) by omega) (show (sumG 19 10 w1) ≤ (sumG 19 10 w475) by omega) (show (v59_5.toInt = -1 ∨ (gi w475 19 (v59_5.toInt).toNat).toInt = 0) by first | omega | assumption | (left; omega) | (left; decide) | (right; assumption) | (right; rw [c488]; omega) | (right; rw [c488]; decide) | (right; rw [c541]; omega) | (right; rw [c541]; decide))  hw hT hF c531 c488 c541 (lv_sub hl [0, 1, 2, 3, 4, 5, 6] rfl)
      refine lv_aload_n hx hb dX12_reaches_44 rfl (lv_at hl 0 rfl) ?_
      refine tk_getA hC hK hw hT hinX12 kM_at0 (by decide) rfl 36 (by decide) (List.mem_cons_of_mem _ uw_7_9) rfl rfl dX12_reaches_45 ?_
      refine lv_iload_n hx hb dX12_reaches_48 rfl (lv_at hl 2 rfl) ?_
      refine tk_zald hC hK hw hT kM_at19 rfl rfl (show 0 ≤ a2.toInt from r4) (show a2.toInt < 10 from Int.lt_of_le_of_lt t5 (by decide)) dX12_reaches_49 (fun x557 c558 rx557 tx557 => ?_)
      have c558 : gi w1 19 (a2.toInt).toNat = x557 := (congrArg (gi w1 19) (congrArg Int.toNat (show a2.toInt = a2.toInt from rfl))).trans c558
      refine lv_if_ne (tgt := 268) hx hb dX12_reaches_50 (by decide) (fun c559 => ?_) (fun c559 => ?_)
      · have c559 : ¬ x557.toInt = (0 : Int) := wk_eqF c559
        refine lv_aload_n hx hb dX12_reaches_268 rfl (lv_at hl 0 rfl) ?_
        refine tk_getA hC hK hw hT hinX12 kM_at0 (by decide) rfl 35 (by decide) (List.mem_cons_of_mem _ uw_7_8) rfl rfl dX12_reaches_269 ?_
        refine lv_iload_n hx hb dX12_reaches_272 rfl (lv_at hl 2 rfl) ?_
        refine tk_iald hC hK hw hT kM_at18 rfl rfl (show 0 ≤ a2.toInt from r4) (show a2.toInt < 10 from Int.lt_of_le_of_lt t5 (by decide)) dX12_reaches_273 (fun x560 c561 rx560 tx560 => ?_)
        exact tk_iret hC hr hlocks hK ⟨hT, hF, ⟨(show 0 ≤ x560.toInt from rx560), (show x560.toInt ≤ 100000100 from tx560)⟩⟩ hw dX12_reaches_274
      · have c559 : x557.toInt = (0 : Int) := wk_eq.mp c559
        refine lv_iconst (v := (-1)) hx hb dX12_reaches_53 (by decide) ?_
        refine lv_istore (lv' := [(5, .int (-1)), (0, .ref (ad 0)), (1, .int a1), (2, .int a2), (3, .int a3), (4, .int a4)]) hx hb dX12_reaches_54 hl (by decide) rfl (fun ls hl => ?_)
        refine lv_iconst (v := 0) hx hb dX12_reaches_56 (by decide) ?_
        refine lv_istore (lv' := [(6, .int 0), (5, .int (-1)), (0, .ref (ad 0)), (1, .int a1), (2, .int a2), (3, .int a3), (4, .int a4)]) hx hb dX12_reaches_57 hl (by decide) rfl (fun ls hl => ?_)
        have gb562 : 0 ≤ sumG 19 10 w1 ∧ sumG 19 10 w1 ≤ 10 := hT.sum (lo := 0) (hi := 1) kM_at19 rfl (by decide) rfl
        obtain rfl : x557 = 0 := wk_eq.mpr (show x557.toInt = 0 by first | exact Int.le_antisymm (by omega) (by omega) | omega)
        exact L59 ((10 - (0 : Int)).toNat + 1) (-1) 0 H locs ls w1 (show 0 ≤ a1.toInt from r2) (show a1.toInt ≤ 9 from t3) (show 0 ≤ a2.toInt from r4) (show a2.toInt ≤ 9 from t5) (show 0 ≤ a3.toInt from r6) (show a3.toInt ≤ 99999 from t7) (show 2000 ≤ a4.toInt from r8) (show a4.toInt ≤ 101999 from t9) (by decide) (by decide) (by decide) (by decide) (show (sumG 19 10 w1) ≤ (sumG 19 10 w1) from Int.le_refl _) (show (sumG 19 10 w1) ≤ (sumG 19 10 w1) from Int.le_refl _) (show ((-1 : Int) = -1 ∨ (gi w1 19 ((-1 : Int)).toNat).toInt = 0) by first | omega | assumption | (left; omega) | (left; decide) | (right; assumption) | (right; rw [c558]; omega) | (right; rw [c558]; decide)) (Nat.lt_succ_self _) hw hT hF c558 (lv_sub hl [2, 3, 4, 5, 6, 1, 0] rfl)
  have L3 : ∀ (n3 : Nat) (v3_5 : Int32) (H : Heap) (locs : List Loc) (ls : Array Slot) (w563 : va_W), 0 ≤ a1.toInt → a1.toInt ≤ 9 → 0 ≤ a2.toInt → a2.toInt ≤ 9 → 0 ≤ a3.toInt → a3.toInt ≤ 99999 → 2000 ≤ a4.toInt → a4.toInt ≤ 101999 → 0 ≤ v3_5.toInt → v3_5.toInt ≤ 10 → (10 - v3_5.toInt).toNat < n3 → Wd dC dI A s.heap H locs w563 → TW ksM ad cy B qr 12 w563 → FE ksM [(77, 0, 10), (78, 0, 10)] w0 w563 → lv_has ls 9 [(0, .ref (ad 0)), (1, .int a1), (2, .int a2), (3, .int a3), (4, .int a4), (5, .int v3_5)] → W p l e ({ frames := 5, cells := 0, slots := 0, locals := 105 }) s m (List.toArray [.ref (ad 0), .int a1, .int a2, .int a3, .int a4]) below meth c H locs 0 0 (MQ below (va_Qi (P_X12_reaches_1 ad cy B qr s1 a1 a2 a3 a4 w0) (fun u : va_W => wpost dC dI cy A u) A) (List.toArray [.ref (ad 0), .int a1, .int a2, .int a3, .int a4]) s 0 0 A) (F0 m 3 ls []) := by
    intro n3
    induction n3 with
    | zero => intro v3_5 H locs ls w563 r564 t565 r566 t567 r568 t569 r570 t571 r572 t573 hm3 hw hT hF hl; omega
    | succ n3 ih3 =>
      intro v3_5 H locs ls w563 r564 t565 r566 t567 r568 t569 r570 t571 r572 t573 hm3 hw hT hF hl
      refine lv_iload hx hb dX12_reaches_3 (lv_at hl 5 rfl) ?_
      refine lv_bipush (v := 10) hx hb dX12_reaches_5 (by decide) ?_
      refine lv_icmp_ge (tgt := 44) hx hb dX12_reaches_7 (by decide) (fun c574 => ?_) (fun c574 => ?_)
      · have c574 : (10 : Int) ≤ v3_5.toInt := wk_le.mp c574
        have gb575 : 0 ≤ sumG 19 10 w563 ∧ sumG 19 10 w563 ≤ 10 := hT.sum (lo := 0) (hi := 1) kM_at19 rfl (by decide) rfl
        exact L44 ((10 - (sumG 19 10 w563)).toNat + 1) v3_5 H locs ls w563 (show 0 ≤ a1.toInt from r564) (show a1.toInt ≤ 9 from t565) (show 0 ≤ a2.toInt from r566) (show a2.toInt ≤ 9 from t567) (show 0 ≤ a3.toInt from r568) (show a3.toInt ≤ 99999 from t569) (show 2000 ≤ a4.toInt from r570) (show a4.toInt ≤ 101999 from t571) (show 0 ≤ v3_5.toInt from r572) (show v3_5.toInt ≤ 10 from t573) (show 0 ≤ (sumG 19 10 w563) by omega) (Nat.lt_succ_self _) hw hT hF  (lv_sub hl [0, 1, 2, 3, 4, 5] rfl)
      · have c574 : v3_5.toInt < (10 : Int) := wk_leF c574
        refine lv_aload_n hx hb dX12_reaches_10 rfl (lv_at hl 0 rfl) ?_
        refine tk_getA hC hK hw hT hinX12 kM_at0 (by decide) rfl 35 (by decide) (List.mem_cons_of_mem _ uw_7_8) rfl rfl dX12_reaches_11 ?_
        refine lv_iload hx hb dX12_reaches_14 (lv_at hl 5 rfl) ?_
        refine lv_iload hx hb dX12_reaches_16 (lv_at hl 5 rfl) ?_
        refine lv_iload_n hx hb dX12_reaches_18 rfl (lv_at hl 1 rfl) ?_
        refine lv_icmp_ne (tgt := 26) hx hb dX12_reaches_19 (by decide) (fun c576 => ?_) (fun c576 => ?_)
        · have c576 : ¬ v3_5.toInt = a1.toInt := wk_eqF c576
          refine lv_ldcw (v := 100000000) hx hb hC.2.2.2.1 (hC.2.2.2.2 _ (List.mem_cons_of_mem _ uw_38_2)) dX12_reaches_26 ?_
          refine tk_iast hC hK hw hT kM_at18 (by decide) rfl rfl (show 0 ≤ v3_5.toInt from r572) (show v3_5.toInt < 10 from c574) (by decide) (by decide) dX12_reaches_29 (fun H locs w577 hw hT k579 c578 => ?_)
          have gs580 : sumG 19 10 w577 = sumG 19 10 w563 := sumG_ne 10 k579 (tk_ne kM_at19 kM_at18 (by decide))
          have hF := hF.put kM_at18 (inE_of (a := 0) (b := 10) (by decide) (show 0 ≤ v3_5.toInt.toNat by omega) (show v3_5.toInt.toNat ≤ 10 by omega)) k579
          refine lv_aload_n hx hb dX12_reaches_30 rfl (lv_at hl 0 rfl) ?_
          refine tk_getA hC hK hw hT hinX12 kM_at0 (by decide) rfl 36 (by decide) (List.mem_cons_of_mem _ uw_7_9) rfl rfl dX12_reaches_31 ?_
          refine lv_iload hx hb dX12_reaches_34 (lv_at hl 5 rfl) ?_
          refine lv_iconst (v := 0) hx hb dX12_reaches_36 (by decide) ?_
          refine tk_zast hC hK hw hT kM_at19 (by decide) rfl rfl (show 0 ≤ v3_5.toInt from r572) (show v3_5.toInt < 10 from c574) (by decide) (by decide) dX12_reaches_37 (fun H locs w581 hw hT k583 c582 => ?_)
          have gs584 : sumG 19 10 w581 = sumG 19 10 w577 - (gi w577 19 (v3_5.toInt.toNat)).toInt + (gi w581 19 (v3_5.toInt.toNat)).toInt := sumG_up (i := v3_5.toInt.toNat) k583 10 (show v3_5.toInt.toNat < 10 by omega)
          rw [show gi w581 19 (v3_5.toInt.toNat) = 0 from c582] at gs584
          rw [show (0 : Int32).toInt = 0 by decide] at gs584
          have hF := hF.put kM_at19 (inE_of (a := 0) (b := 10) (by decide) (show 0 ≤ v3_5.toInt.toNat by omega) (show v3_5.toInt.toNat ≤ 10 by omega)) k583
          obtain ⟨x585, ex585⟩ : ∃ y : Int32, y = v3_5 + Int32.ofInt 1 := ⟨_, rfl⟩
          refine lv_iinc (v := x585) (lv' := [(5, .int x585), (0, .ref (ad 0)), (1, .int a1), (2, .int a2), (3, .int a3), (4, .int a4)]) hx hb dX12_reaches_38 hl (k := 5) rfl ex585.symm (by decide) rfl (fun ls hl => ?_)
          have ex585 : x585.toInt = v3_5.toInt + 1 := by rw [ex585]; exact wk_add (y := 1) (show -2147483648 ≤ v3_5.toInt + 1 by omega) (show v3_5.toInt + 1 ≤ 2147483647 by omega)
          refine lv_goto (tgt := 3) hx hb dX12_reaches_41 (by decide) ?_
          exact ih3 x585 H locs ls w581 (show 0 ≤ a1.toInt from r564) (show a1.toInt ≤ 9 from t565) (show 0 ≤ a2.toInt from r566) (show a2.toInt ≤ 9 from t567) (show 0 ≤ a3.toInt from r568) (show a3.toInt ≤ 99999 from t569) (show 2000 ≤ a4.toInt from r570) (show a4.toInt ≤ 101999 from t571) (show 0 ≤ x585.toInt by first | with_reducible assumption | omega) (show x585.toInt ≤ 10 by first | with_reducible assumption | omega) (show (10 - x585.toInt).toNat < n3 by first | exact tn_lt hm3 (by omega) (by omega) | omega) hw hT hF  (lv_sub hl [1, 2, 3, 4, 5, 0] rfl)
        · have c576 : v3_5.toInt = a1.toInt := wk_eq.mp c576
          refine lv_iload_n hx hb dX12_reaches_22 rfl (lv_at hl 3 rfl) ?_
          refine lv_goto (tgt := 29) hx hb dX12_reaches_23 (by decide) ?_
          refine tk_iast hC hK hw hT kM_at18 (by decide) rfl rfl (show 0 ≤ v3_5.toInt from r572) (show v3_5.toInt < 10 from c574) (show 0 ≤ a3.toInt from r568) (show a3.toInt ≤ 100000100 from Int.le_trans t569 (by decide)) dX12_reaches_29 (fun H locs w586 hw hT k588 c587 => ?_)
          have gs589 : sumG 19 10 w586 = sumG 19 10 w563 := sumG_ne 10 k588 (tk_ne kM_at19 kM_at18 (by decide))
          have hF := hF.put kM_at18 (inE_of (a := 0) (b := 10) (by decide) (show 0 ≤ v3_5.toInt.toNat by omega) (show v3_5.toInt.toNat ≤ 10 by omega)) k588
          refine lv_aload_n hx hb dX12_reaches_30 rfl (lv_at hl 0 rfl) ?_
          refine tk_getA hC hK hw hT hinX12 kM_at0 (by decide) rfl 36 (by decide) (List.mem_cons_of_mem _ uw_7_9) rfl rfl dX12_reaches_31 ?_
          refine lv_iload hx hb dX12_reaches_34 (lv_at hl 5 rfl) ?_
          refine lv_iconst (v := 0) hx hb dX12_reaches_36 (by decide) ?_
          refine tk_zast hC hK hw hT kM_at19 (by decide) rfl rfl (show 0 ≤ v3_5.toInt from r572) (show v3_5.toInt < 10 from c574) (by decide) (by decide) dX12_reaches_37 (fun H locs w590 hw hT k592 c591 => ?_)
          have gs593 : sumG 19 10 w590 = sumG 19 10 w586 - (gi w586 19 (v3_5.toInt.toNat)).toInt + (gi w590 19 (v3_5.toInt.toNat)).toInt := sumG_up (i := v3_5.toInt.toNat) k592 10 (show v3_5.toInt.toNat < 10 by omega)
          rw [show gi w590 19 (v3_5.toInt.toNat) = 0 from c591] at gs593
          rw [show (0 : Int32).toInt = 0 by decide] at gs593
          have hF := hF.put kM_at19 (inE_of (a := 0) (b := 10) (by decide) (show 0 ≤ v3_5.toInt.toNat by omega) (show v3_5.toInt.toNat ≤ 10 by omega)) k592
          obtain ⟨x594, ex594⟩ : ∃ y : Int32, y = v3_5 + Int32.ofInt 1 := ⟨_, rfl⟩
          refine lv_iinc (v := x594) (lv' := [(5, .int x594), (0, .ref (ad 0)), (1, .int a1), (2, .int a2), (3, .int a3), (4, .int a4)]) hx hb dX12_reaches_38 hl (k := 5) rfl ex594.symm (by decide) rfl (fun ls hl => ?_)
          have ex594 : x594.toInt = v3_5.toInt + 1 := by rw [ex594]; exact wk_add (y := 1) (show -2147483648 ≤ v3_5.toInt + 1 by omega) (show v3_5.toInt + 1 ≤ 2147483647 by omega)
          refine lv_goto (tgt := 3) hx hb dX12_reaches_41 (by decide) ?_
          exact ih3 x594 H locs ls w590 (show 0 ≤ a1.toInt from r564) (show a1.toInt ≤ 9 from t565) (show 0 ≤ a2.toInt from r566) (show a2.toInt ≤ 9 from t567) (show 0 ≤ a3.toInt from r568) (show a3.toInt ≤ 99999 from t569) (show 2000 ≤ a4.toInt from r570) (show a4.toInt ≤ 101999 from t571) (show 0 ≤ x594.toInt by first | with_reducible assumption | omega) (show x594.toInt ≤ 10 by first | with_reducible assumption | omega) (show (10 - x594.toInt).toNat < n3 by first | exact tn_lt hm3 (by omega) (by omega) | omega) hw hT hF  (lv_sub hl [1, 2, 3, 4, 5, 0] rfl)
  refine lv_iconst (v := 0) hx hb dX12_reaches_0 (by decide) ?_
  refine lv_istore (lv' := [(5, .int 0), (0, .ref (ad 0)), (1, .int a1), (2, .int a2), (3, .int a3), (4, .int a4)]) hx hb dX12_reaches_1 hl (by decide) rfl (fun ls hl => ?_)
  exact L3 ((10 - (0 : Int)).toNat + 1) 0 s.heap locs ls w0 (show 0 ≤ a1.toInt from ra1) (show a1.toInt ≤ 9 from ta1) (show 0 ≤ a2.toInt from ra2) (show a2.toInt ≤ 9 from ta2) (show 0 ≤ a3.toInt from ra3) (show a3.toInt ≤ 99999 from ta3) (show 2000 ≤ a4.toInt from ra4) (show a4.toInt ≤ 101999 from ta4) (by decide) (by decide) (Nat.lt_succ_self _) hw hT hF  (lv_sub hl [1, 2, 3, 4, 5, 0] rfl)
