abbrev Pz_X12_soonest_1 (ad : Nat → Nat) (cy : Nat → ClassId) (B : Int) (qr : Nat) (s1 : Int) (a1 : Int32) (a2 : Int32) (a3 : Int32) (w0 : va_W) : Int32 → va_W → Prop := fun r u => TW ksM ad cy B qr 12 u ∧ FE ksM [(77, 0, 10), (78, 0, 10)] w0 u ∧ Ev (fun n => m_X12_soonest n 0 a1.toInt a2.toInt a3.toInt (sI w0)) (r.toInt, sI u) ∧ ((r = (-2) ∧ 0 ≤ a1.toInt ∧ a1.toInt ≤ 9 ∧ 0 ≤ a2.toInt ∧ a2.toInt ≤ 9 ∧ 0 ≤ a3.toInt ∧ a3.toInt ≤ 99999 ∧ (∃ y : Int32, gi u 12 0 = y ∧ 1 ≤ y.toInt ∧ y.toInt ≤ 10)) ∨ (0 ≤ r.toInt ∧ r.toInt ≤ 100000100 ∧ 0 ≤ a1.toInt ∧ a1.toInt ≤ 9 ∧ 0 ≤ a2.toInt ∧ a2.toInt ≤ 9 ∧ 0 ≤ a3.toInt ∧ a3.toInt ≤ 99999 ∧ (∃ y : Int32, gi u 12 0 = y ∧ 1 ≤ y.toInt ∧ y.toInt ≤ 10)) ∨ (r = (-1)))
set_option maxHeartbeats 4000000 in
set_option maxRecDepth 100000 in
theorem kz_X12_soonest_1 (l : Launch) (adK adV : Nat → Nat) (dC : Nat → ClassId) (dI : Nat → Nat → Nat) (cy : Nat → ClassId) (ad : Nat → Nat) (B : Int) (hB0 : 100000 ≤ B) (hB1 : B ≤ 1073741824) (qr : Nat) (s1 : Int)  (a1 : Int32) (a2 : Int32) (a3 : Int32) (w0 : va_W) (sz : Nat) (hT : TW ksM ad cy B qr 12 w0)  : Met l yX12_soonest (wu yX12_soonest cX12_soonest 5 (some .int)) ({ frames := 6, cells := 0, slots := 0, locals := 133 }) (va_Pc [.ref (ad 0), .int a1, .int a2, .int a3] (wpreS adK adV dC dI cy sz w0)) (va_Qi (Pz_X12_soonest_1 ad cy B qr s1 a1 a2 a3 w0) (fun u : va_W => wpost dC dI cy (va_A w0 sz) u) (va_A w0 sz)) 0 0 (va_A w0 sz) := by
  refine Met.ofW (cc := cX12_soonest) (maxL := 5) (ret := (some .int)) (by decide) rfl ?_
  intro p e s m args below meth c s₁ Bk hml hv
  obtain ⟨rfl, ⟨hsz, hP, hK, hD0⟩, hE, hSR⟩ := hv
  have hx := Bk.exec
  have hb := Bk.bytes
  have hr := Bk.returns
  have hlocks := Bk.notSynchronized
  have hC : CallFix p m c cX12_soonest 5 s _ (wu yX12_soonest cX12_soonest 5 (some .int)) RX12 := ⟨hx, hb, hml, findClass_of_methodNamed Bk.named, atoms_spec (ws := (wu yX12_soonest cX12_soonest 5 (some .int))) Bk.pre⟩
  subst hsz
  have hD := hD0.self (sz := s.heap.size)
  generalize hAe : va_A w0 s.heap.size = A at hD hE ⊢
  have hA : ∀ q : Nat, s.heap.size ≤ q → A q := fun q h => by rw [← hAe]; exact Or.inr h
  have hw : Wd dC dI A s.heap s.heap [] w0 := ⟨hP, hD, va_S.rf⟩
  have hF : FE ksM [(77, 0, 10), (78, 0, 10)] w0 w0 := FE.rf
  have hl := lv_entry ([.ref (ad 0), .int a1, .int a2, .int a3]) (n := 5) (Nat.le_of_ble_eq_true rfl)
  rw [lg_entry_eq]
  generalize (lg_sl ([.ref (ad 0), .int a1, .int a2, .int a3]) ++ List.replicate (5 - (lg_sl ([.ref (ad 0), .int a1, .int a2, .int a3])).length) Slot.unset).toArray = ls at hl ⊢
  have hl : lv_has ls 5 [(0, .ref (ad 0)), (1, .int a1), (2, .int a2), (3, .int a3)] := hl
  generalize hloc : ([] : List Loc) = locs at hw ⊢
  have hM : TT (fun n => m_X12_soonest n 0 a1.toInt a2.toInt a3.toInt (sI w0)) (fun n => m_X12_soonest n 0 a1.toInt a2.toInt a3.toInt (sI w0)) := TT.rf
  refine lv_aload_n hx hb dX12_soonest_0 rfl (lv_at hl 0 rfl) ?_
  refine lv_iload_n hx hb dX12_soonest_1 rfl (lv_at hl 1 rfl) ?_
  refine lv_iload_n hx hb dX12_soonest_2 rfl (lv_at hl 2 rfl) ?_
  refine lv_iload_n hx hb dX12_soonest_3 rfl (lv_at hl 3 rfl) ?_
  refine tk_Vi hC hK hw hT hA hE hSR kM_at0 (by decide) rfl (kz_X12_canLook_1 l adK adV dC dI cy ad B hB0 (Int.le_trans hB1 (by decide)) qr s1   a1 a2 a3 w0 s.heap.size hT ) (cwV 3 hC.2.2.2.2 uV_RX12_453 rfl rfl rfl (by decide +kernel) ⟨Nat.le_of_ble_eq_true rfl, Nat.le_of_ble_eq_true rfl⟩) rfl hl.1 rfl (Nat.le_of_ble_eq_true rfl) dX12_soonest_4 (fun r1 w3 H locs hp2 hw => ?_)
  obtain ⟨rfl, hv14, hg13⟩ := hp2
  rcases hg13 with rfl | ⟨rfl, g5, g6, g7, g8, g9, g10, ⟨x11, c12, rx11, tx11⟩⟩
  · replace hM := hM.call (r' := 0) hv14 (by decide)
    refine lv_if_ne (tgt := 12) hx hb dX12_soonest_7 (by decide) (fun c => absurd (by decide) c) (fun _ => ?_)
    replace hM := hM.neg (by decide)
    refine lv_iconst (v := (-1)) hx hb dX12_soonest_10 (by decide) ?_
    exact tk_iret hC hr hlocks hK ⟨hT, hF, hM.ret (by decide), (Or.inr (Or.inr rfl))⟩ hw dX12_soonest_11
  · replace hM := hM.call (r' := 1) hv14 (by decide)
    refine lv_if_ne (tgt := 12) hx hb dX12_soonest_7 (by decide) (fun _ => ?_) (fun c => absurd c (by decide))
    replace hM := hM.pos (by decide)
    refine lv_aload_n hx hb dX12_soonest_12 rfl (lv_at hl 0 rfl) ?_
    refine lv_iload_n hx hb dX12_soonest_13 rfl (lv_at hl 1 rfl) ?_
    refine lv_iload_n hx hb dX12_soonest_14 rfl (lv_at hl 2 rfl) ?_
    refine lv_iload_n hx hb dX12_soonest_15 rfl (lv_at hl 3 rfl) ?_
    refine lv_iload_n hx hb dX12_soonest_16 rfl (lv_at hl 3 rfl) ?_
    refine lv_sipush (v := 2000) hx hb dX12_soonest_17 (by decide) ?_
    refine lv_iadd hx hb dX12_soonest_20 ?_
    refine lv_topi (fun x15 ex15 => ?_)
    have ezx15 := ex15
    have ex15 : x15.toInt = a3.toInt + (2000 : Int) := by rw [ex15]; exact wk_add (show (-2147483648) ≤ a3.toInt + (2000 : Int) by omega) (show a3.toInt + (2000 : Int) ≤ 2147483647 by omega)
    replace hM := hM.lt ex15.symm
    refine tk_Vi hC hK hw hT hA hE hSR kM_at0 (by decide) rfl (kz_X12_reaches_2 l adK adV dC dI cy ad B hB0 (Int.le_trans hB1 (by decide)) qr s1   a1 (show 0 ≤ a1.toInt by first | with_reducible assumption | omega) (show a1.toInt ≤ 9 by first | with_reducible assumption | omega) a2 (show 0 ≤ a2.toInt by first | with_reducible assumption | omega) (show a2.toInt ≤ 9 by first | with_reducible assumption | omega) a3 (show 0 ≤ a3.toInt by first | with_reducible assumption | omega) (show a3.toInt ≤ 99999 by first | with_reducible assumption | omega) x15 (show 2000 ≤ x15.toInt by first | with_reducible assumption | omega) (show x15.toInt ≤ 101999 by first | with_reducible assumption | omega) w0 H.size hT ) (cwV 4 hC.2.2.2.2 uV_RX12_456 rfl rfl rfl (by decide +kernel) ⟨Nat.le_of_ble_eq_true rfl, Nat.le_of_ble_eq_true rfl⟩) rfl hl.1 rfl (Nat.le_of_ble_eq_true rfl) dX12_soonest_21 (fun r16 w18 H locs hp17 hw => ?_)
    obtain ⟨hT, k19, hv23, hg22⟩ := hp17
    have hF := hF.tr k19 (by decide)
    have c24 := k19.gi kM_at12 (by decide) c12
    obtain ⟨g20, g21⟩ := hg22
    replace hM := hM.call hv23 rfl
    refine lv_istore (lv' := [(4, .int r16), (0, .ref (ad 0)), (1, .int a1), (2, .int a2), (3, .int a3)]) hx hb dX12_soonest_24 hl (by decide) rfl (fun ls hl => ?_)
    refine lv_iload hx hb dX12_soonest_26 (lv_at hl 0 rfl) ?_
    refine lv_ldcw (v := 100000000) hx hb hC.2.2.2.1 (hC.2.2.2.2 _ (List.mem_cons_of_mem _ uw_38_2)) dX12_soonest_28 ?_
    refine lv_icmp_ne (tgt := 39) hx hb dX12_soonest_31 (by decide) (fun c25 => ?_) (fun c25 => ?_)
    · have c25 : ¬ r16.toInt = (100000000 : Int) := wk_eqF c25
      replace hM := hM.pos c25
      refine lv_iload hx hb dX12_soonest_39 (lv_at hl 0 rfl) ?_
      exact tk_iret hC hr hlocks hK ⟨hT, hF, hM.ret rfl, (Or.inr (Or.inl ⟨(show 0 ≤ r16.toInt by first | with_reducible assumption | omega), (show r16.toInt ≤ 100000100 by first | with_reducible assumption | omega), (show 0 ≤ a1.toInt by first | with_reducible assumption | omega), (show a1.toInt ≤ 9 by first | with_reducible assumption | omega), (show 0 ≤ a2.toInt by first | with_reducible assumption | omega), (show a2.toInt ≤ 9 by first | with_reducible assumption | omega), (show 0 ≤ a3.toInt by first | with_reducible assumption | omega), (show a3.toInt ≤ 99999 by first | with_reducible assumption | omega), ⟨x11, c24, (show 1 ≤ x11.toInt by first | with_reducible assumption | omega), (show x11.toInt ≤ 10 by first | with_reducible assumption | omega)⟩⟩))⟩ hw dX12_soonest_41
    · have c25 : r16.toInt = (100000000 : Int) := wk_eq.mp c25
      replace hM := hM.neg (fun q => q c25)
      refine lv_bipush (v := (-2)) hx hb dX12_soonest_34 (by decide) ?_
      refine lv_goto (tgt := 41) hx hb dX12_soonest_36 (by decide) ?_
      exact tk_iret hC hr hlocks hK ⟨hT, hF, hM.ret (by decide), (Or.inl ⟨rfl, (show 0 ≤ a1.toInt by first | with_reducible assumption | omega), (show a1.toInt ≤ 9 by first | with_reducible assumption | omega), (show 0 ≤ a2.toInt by first | with_reducible assumption | omega), (show a2.toInt ≤ 9 by first | with_reducible assumption | omega), (show 0 ≤ a3.toInt by first | with_reducible assumption | omega), (show a3.toInt ≤ 99999 by first | with_reducible assumption | omega), ⟨x11, c24, (show 1 ≤ x11.toInt by first | with_reducible assumption | omega), (show x11.toInt ≤ 10 by first | with_reducible assumption | omega)⟩⟩)⟩ hw dX12_soonest_41
