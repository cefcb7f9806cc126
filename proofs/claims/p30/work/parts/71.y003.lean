abbrev Py_X1_follow_1 (ad : Nat → Nat) (cy : Nat → ClassId) (B : Int) (qr : Nat) (s1 : Int) (a2 : Int32) (w0 : va_W) : va_W → Prop := fun u => TW ksC ad cy (B + 9) qr s1 u ∧ FE ksC [(9, 0, 0), (9, 4, 4), (9, 7, 7)] w0 u ∧ Ev (fun n => m_X1_follow n 149 152 a2.toInt (sL w0)) (0, sL u) ∧ ((True))
set_option maxHeartbeats 4000000 in
set_option maxRecDepth 100000 in
theorem ky_X1_follow_1 (l : Launch) (adK adV : Nat → Nat) (dC : Nat → ClassId) (dI : Nat → Nat → Nat) (cy : Nat → ClassId) (ad : Nat → Nat) (B : Int) (hB0 : 2147483648 ≤ B) (hB1 : B ≤ 1152921504606846976) (qr : Nat) (s1 : Int)  (a2 : Int32) (ra2 : (-1) ≤ a2.toInt) (ta2 : a2.toInt ≤ 11) (w0 : va_W) (sz : Nat) (hT : TW ksC ad cy B qr s1 w0)  : Met l yX1_follow (wu yX1_follow cX1_follow 4 none) ({ frames := 2, cells := 0, slots := 0, locals := 34 }) (va_Pc [.ref (ad 149), .ref (ad 152), .int a2] (wpreS adK adV dC dI cy sz w0)) (va_Qv (Py_X1_follow_1 ad cy B qr s1 a2 w0) (fun u : va_W => wpost dC dI cy (va_A w0 sz) u) (va_A w0 sz)) 0 0 (va_A w0 sz) := by
  refine Met.ofW (cc := cX1_follow) (maxL := 4) (ret := none) (by decide) rfl ?_
  intro p e s m args below meth c s₁ Bk hml hv
  obtain ⟨rfl, ⟨hsz, hP, hK, hD0⟩, hE, hSR⟩ := hv
  have hx := Bk.exec
  have hb := Bk.bytes
  have hr := Bk.returns
  have hlocks := Bk.notSynchronized
  have hC : CallFix p m c cX1_follow 4 s _ (wu yX1_follow cX1_follow 4 none) RX1 := ⟨hx, hb, hml, findClass_of_methodNamed Bk.named, atoms_spec (ws := (wu yX1_follow cX1_follow 4 none)) Bk.pre⟩
  subst hsz
  have hD := hD0.self (sz := s.heap.size)
  generalize hAe : va_A w0 s.heap.size = A at hD hE ⊢
  have hA : ∀ q : Nat, s.heap.size ≤ q → A q := fun q h => by rw [← hAe]; exact Or.inr h
  have hw : Wd dC dI A s.heap s.heap [] w0 := ⟨hP, hD, va_S.rf⟩
  have hF : FE ksC [(9, 0, 0), (9, 4, 4), (9, 7, 7)] w0 w0 := FE.rf
  have hl := lv_entry ([.ref (ad 149), .ref (ad 152), .int a2]) (n := 4) (Nat.le_of_ble_eq_true rfl)
  rw [lg_entry_eq]
  generalize (lg_sl ([.ref (ad 149), .ref (ad 152), .int a2]) ++ List.replicate (4 - (lg_sl ([.ref (ad 149), .ref (ad 152), .int a2])).length) Slot.unset).toArray = ls at hl ⊢
  have hl : lv_has ls 4 [(0, .ref (ad 149)), (1, .ref (ad 152)), (2, .int a2)] := hl
  generalize hloc : ([] : List Loc) = locs at hw ⊢
  have hinX1 : ∀ w ∈ u_ws RX1 TX1 10, w ∈ (wu yX1_follow cX1_follow 4 none) := fun _ h => List.mem_cons_of_mem _ (up_78 h)
  have hinX5 : ∀ w ∈ u_ws RX5 TX5 14, w ∈ (wu yX1_follow cX1_follow 4 none) := fun _ h => List.mem_cons_of_mem _ (up_76 h)
  have hinX9 : ∀ w ∈ u_ws RX9 TX9 9, w ∈ (wu yX1_follow cX1_follow 4 none) := fun _ h => List.mem_cons_of_mem _ (up_82 h)
  have hinX7 : ∀ w ∈ u_ws RX7 TX7 12, w ∈ (wu yX1_follow cX1_follow 4 none) := fun _ h => List.mem_cons_of_mem _ (up_73 h)
  have hM : TT (fun n => m_X1_follow n 149 152 a2.toInt (sL w0)) (fun n => m_X1_follow n 149 152 a2.toInt (sL w0)) := TT.rf
  refine lv_iload_n hx hb dX1_follow_0 rfl (lv_at hl 2 rfl) ?_
  refine lv_iconst (v := (-1)) hx hb dX1_follow_1 (by decide) ?_
  refine lv_icmp_ne (tgt := 6) hx hb dX1_follow_2 (by decide) (fun c1 => ?_) (fun c1 => ?_)
  · have c1 : ¬ a2.toInt = (-1 : Int) := wk_eqF c1
    replace hM := hM.pos c1
    refine lv_aload_n hx hb dX1_follow_6 rfl (lv_at hl 0 rfl) ?_
    refine tk_getA hC hK hw hT hinX1 kC_at149 (by decide) rfl 0 (by decide) (List.mem_cons_of_mem _ uw_5_0) rfl rfl dX1_follow_7 ?_
    refine tk_getO hC hK hw hT hinX5 kC_at38 (by decide) rfl 0 (by decide) (List.mem_cons_of_mem _ uw_43_2) rfl rfl dX1_follow_10 ?_
    refine lv_iload_n hx hb dX1_follow_13 rfl (lv_at hl 2 rfl) ?_
    refine lv_aload_n hx hb dX1_follow_14 rfl (lv_at hl 1 rfl) ?_
    refine tk_geti hC hK hw hT hinX9 kC_at152 (by decide) rfl 0 (by decide) (List.mem_cons_of_mem _ uw_42_22) rfl rfl dX1_follow_15 (fun x2 c3 rx2 tx2 => ?_)
    replace hM := hM.rd (sL_at (kC_lt kC_at152) c3)
    refine tk_Vi hC hK hw hT hA hE hSR kC_at39 (by decide) rfl (ky_X7_sideOf_1 l adK adV dC dI cy ad B hB0 (Int.le_trans hB1 (by decide)) qr s1   a2 (show 0 ≤ a2.toInt by first | with_reducible assumption | omega) (show a2.toInt ≤ 11 from ta2) x2 (show 0 ≤ x2.toInt from rx2) (show x2.toInt ≤ 9 from tx2) w0 s.heap.size hT ) (cwV 2 hC.2.2.2.2 uV_RX1_137 rfl rfl rfl (by decide +kernel) ⟨Nat.le_of_ble_eq_true rfl, Nat.le_of_ble_eq_true rfl⟩) rfl hl.1 rfl (Nat.le_of_ble_eq_true rfl) dX1_follow_18 (fun r4 w6 H locs hp5 hw => ?_)
    obtain ⟨hT, k7, hv11, hg10⟩ := hp5
    have hF := hF.tr k7 (by decide)
    have c12 := k7.gi kC_at152 (by decide) c3
    rcases hg10 with rfl | ⟨rfl, c8⟩ | ⟨rfl, c9⟩
    · replace hM := hM.call (r' := (-1)) hv11 (by decide)
      refine lv_istore_n (lv' := [(3, .int (-1)), (0, .ref (ad 149)), (1, .ref (ad 152)), (2, .int a2)]) hx hb dX1_follow_21 rfl hl (by decide) rfl (fun ls hl => ?_)
      refine lv_iload_n hx hb dX1_follow_22 rfl (lv_at hl 0 rfl) ?_
      refine lv_iconst (v := (-1)) hx hb dX1_follow_23 (by decide) ?_
      refine lv_icmp_ne (tgt := 28) hx hb dX1_follow_24 (by decide) (fun c => absurd (by decide) c) (fun _ => ?_)
      replace hM := hM.neg (by decide)
      exact tk_vret hC hr hlocks hK ⟨(hT.up (show B ≤ (B + 9) by omega)), hF, hM.ret rfl, trivial⟩ hw dX1_follow_27
    · replace hM := hM.call (r' := 0) hv11 (by decide)
      refine lv_istore_n (lv' := [(3, .int 0), (0, .ref (ad 149)), (1, .ref (ad 152)), (2, .int a2)]) hx hb dX1_follow_21 rfl hl (by decide) rfl (fun ls hl => ?_)
      refine lv_iload_n hx hb dX1_follow_22 rfl (lv_at hl 0 rfl) ?_
      refine lv_iconst (v := (-1)) hx hb dX1_follow_23 (by decide) ?_
      refine lv_icmp_ne (tgt := 28) hx hb dX1_follow_24 (by decide) (fun _ => ?_) (fun c => absurd c (by decide))
      replace hM := hM.pos (by decide)
      refine lv_aload_n hx hb dX1_follow_28 rfl (lv_at hl 2 rfl) ?_
      refine lv_aload_n hx hb dX1_follow_29 rfl (lv_at hl 2 rfl) ?_
      refine tk_geti hC hK hw hT hinX9 kC_at152 (by decide) rfl 0 (by decide) (List.mem_cons_of_mem _ uw_42_22) rfl rfl dX1_follow_30 (fun x13 c14 rx13 tx13 => ?_)
      refine wk_top x2 (c14.symm.trans c12) ?_
      replace hM := hM.rd (sL_at (kC_lt kC_at152) c12)
      have hTq := hT
      refine tk_puti hC hK hw hT hinX9 tyX9_ok nmX9 kC_at152 (by decide) rfl rfl 7 (by decide) (List.mem_cons_of_mem _ uw_45_15) rfl rfl rfl rfl (show (-1) ≤ x2.toInt from Int.le_trans (by decide) rx2) (show x2.toInt ≤ 9 from tx2) dX1_follow_33 (fun H locs w15 hw hT k17 c16 => ?_)
      replace hM := hM.wr (sL_upf hTq hT kC_at152 (kC_lt kC_at152) (by decide) rfl k17 c16 rfl)
      have hF := hF.put kC_at152 (k := 7) (by decide) k17
      have c18 := k17.gi (Or.inr (by decide)) c12
      have c19 := k17.gi (Or.inl (tk_ne kC_at40 kC_at152 (by decide))) c8
      refine lv_aload_n hx hb dX1_follow_36 rfl (lv_at hl 2 rfl) ?_
      refine lv_aload_n hx hb dX1_follow_37 rfl (lv_at hl 1 rfl) ?_
      refine tk_getA hC hK hw hT hinX1 kC_at149 (by decide) rfl 0 (by decide) (List.mem_cons_of_mem _ uw_5_0) rfl rfl dX1_follow_38 ?_
      refine tk_getO hC hK hw hT hinX5 kC_at38 (by decide) rfl 0 (by decide) (List.mem_cons_of_mem _ uw_43_2) rfl rfl dX1_follow_41 ?_
      refine lv_iload_n hx hb dX1_follow_44 rfl (lv_at hl 3 rfl) ?_
      refine lv_iload_n hx hb dX1_follow_45 rfl (lv_at hl 0 rfl) ?_
      refine tk_Vi hC hK hw hT hA hE hSR kC_at39 (by decide) rfl (ky_X7_cornerAcross_2 l adK adV dC dI cy ad B hB0 (Int.le_trans hB1 (by decide)) qr s1   a2 (show 0 ≤ a2.toInt by first | with_reducible assumption | omega) (show a2.toInt ≤ 11 from ta2) w15 H.size hT ) (cwV 2 hC.2.2.2.2 uV_RX1_147 rfl rfl rfl (by decide +kernel) ⟨Nat.le_of_ble_eq_true rfl, Nat.le_of_ble_eq_true rfl⟩) rfl hl.1 rfl (Nat.le_of_ble_eq_true rfl) dX1_follow_46 (fun r20 w22 H locs hp21 hw => ?_)
      obtain ⟨hT, k23, hv27, hg26⟩ := hp21
      have hF := hF.tr k23 (by decide)
      have c28 := k23.gi kC_at152 (by decide) c18
      have c29 := k23.gi kC_at40 rfl c19
      have c30 := k23.gi kC_at152 (by decide) c16
      obtain ⟨g24, g25⟩ := hg26
      replace hM := hM.call hv27 rfl
      have hTq := hT
      refine tk_puti hC hK hw hT hinX9 tyX9_ok nmX9 kC_at152 (by decide) rfl rfl 0 (by decide) (List.mem_cons_of_mem _ uw_42_22) rfl rfl rfl rfl (show 0 ≤ r20.toInt by first | with_reducible assumption | omega) (show r20.toInt ≤ 9 by first | with_reducible assumption | omega) dX1_follow_49 (fun H locs w31 hw hT k33 c32 => ?_)
      replace hM := hM.wr (sL_upf hTq hT kC_at152 (kC_lt kC_at152) (by decide) rfl k33 c32 rfl)
      have hF := hF.put kC_at152 (k := 0) (by decide) k33
      have c34 := k33.gi (Or.inl (tk_ne kC_at40 kC_at152 (by decide))) c29
      have c35 := k33.gi (Or.inr (by decide)) c30
      refine lv_aload_n hx hb dX1_follow_52 rfl (lv_at hl 2 rfl) ?_
      refine lv_dup hx hb dX1_follow_53 rfl ?_
      refine tk_getB hC hK hw hT hinX9 kC_at152 (by decide) rfl 4 (by decide) (List.mem_cons_of_mem _ uw_42_10) rfl rfl dX1_follow_54 (fun x36 c37 rx36 tx36 => ?_)
      replace hM := hM.rd (sL_atl (kC_lt kC_at152) c37)
      refine lv_aload_n hx hb dX1_follow_57 rfl (lv_at hl 1 rfl) ?_
      refine tk_getA hC hK hw hT hinX1 kC_at149 (by decide) rfl 0 (by decide) (List.mem_cons_of_mem _ uw_5_0) rfl rfl dX1_follow_58 ?_
      refine tk_getO hC hK hw hT hinX5 kC_at38 (by decide) rfl 0 (by decide) (List.mem_cons_of_mem _ uw_43_2) rfl rfl dX1_follow_61 ?_
      refine tk_getO hC hK hw hT hinX7 kC_at39 (by decide) rfl 1 (by decide) (List.mem_cons_of_mem _ uw_46_8) rfl rfl dX1_follow_64 ?_
      refine lv_iload_n hx hb dX1_follow_67 rfl (lv_at hl 3 rfl) ?_
      refine tk_iald hC hK hw hT kC_at41 rfl rfl (show 0 ≤ a2.toInt by first | with_reducible assumption | omega) (show a2.toInt < 13 from Int.lt_of_le_of_lt ta2 (by decide)) dX1_follow_68 (fun x38 c39 rx38 tx38 => ?_)
      have hox38 := c39
      replace hM := hM.rd (sL_at (kC_lt kC_at41) hox38)
      refine lv_i2l hx hb dX1_follow_69 rfl ?_
      refine lv_topl (fun x40 ex40 => ?_)
      have ex40 : x40.toInt = x38.toInt := by rw [ex40]; exact wk_i2l _
      have bx40 := wk_i32 x38
      replace hM := hM.lt ex40.symm
      refine lv_ladd hx hb dX1_follow_70 ?_
      refine lv_topl (fun x41 ex41 => ?_)
      have ezx41 := ex41
      have ex41 : x41.toInt = x36.toInt + x40.toInt := by rw [ex41]; exact wk_addl (show (-9223372036854775808) ≤ x36.toInt + x40.toInt by omega) (show x36.toInt + x40.toInt ≤ 9223372036854775807 by omega)
      replace hM := hM.lt ex41.symm
      have hT := hT.up (show B ≤ (B + 9) by omega)
      have hTq := hT
      refine tk_putB hC hK hw hT hinX9 tyX9_ok nmX9 kC_at152 (by decide) rfl rfl 4 (by decide) (List.mem_cons_of_mem _ uw_42_10) rfl rfl rfl rfl (show 0 ≤ x41.toInt by first | with_reducible assumption | omega) (show x41.toInt ≤ (B + 9) by omega) dX1_follow_71 (fun H locs w42 hw hT k44 c43 => ?_)
      replace hM := hM.wr (sL_upl hTq hT kC_at152 (kC_lt kC_at152) (by decide) rfl (by decide) k44 c43 rfl)
      have hF := hF.put kC_at152 (k := 4) (by decide) k44
      have c45 := k44.gi (Or.inl (tk_ne kC_at40 kC_at152 (by decide))) c34
      have c46 := k44.gi (Or.inr (by decide)) c35
      have c47 := k44.gi (Or.inr (by decide)) c32
      exact tk_vret hC hr hlocks hK ⟨hT, hF, hM.ret rfl, trivial⟩ hw dX1_follow_74
    · replace hM := hM.call (r' := 1) hv11 (by decide)
      refine lv_istore_n (lv' := [(3, .int 1), (0, .ref (ad 149)), (1, .ref (ad 152)), (2, .int a2)]) hx hb dX1_follow_21 rfl hl (by decide) rfl (fun ls hl => ?_)
      refine lv_iload_n hx hb dX1_follow_22 rfl (lv_at hl 0 rfl) ?_
      refine lv_iconst (v := (-1)) hx hb dX1_follow_23 (by decide) ?_
      refine lv_icmp_ne (tgt := 28) hx hb dX1_follow_24 (by decide) (fun _ => ?_) (fun c => absurd c (by decide))
      replace hM := hM.pos (by decide)
      refine lv_aload_n hx hb dX1_follow_28 rfl (lv_at hl 2 rfl) ?_
      refine lv_aload_n hx hb dX1_follow_29 rfl (lv_at hl 2 rfl) ?_
      refine tk_geti hC hK hw hT hinX9 kC_at152 (by decide) rfl 0 (by decide) (List.mem_cons_of_mem _ uw_42_22) rfl rfl dX1_follow_30 (fun x48 c49 rx48 tx48 => ?_)
      refine wk_top x2 (c49.symm.trans c12) ?_
      replace hM := hM.rd (sL_at (kC_lt kC_at152) c12)
      have hTq := hT
      refine tk_puti hC hK hw hT hinX9 tyX9_ok nmX9 kC_at152 (by decide) rfl rfl 7 (by decide) (List.mem_cons_of_mem _ uw_45_15) rfl rfl rfl rfl (show (-1) ≤ x2.toInt from Int.le_trans (by decide) rx2) (show x2.toInt ≤ 9 from tx2) dX1_follow_33 (fun H locs w50 hw hT k52 c51 => ?_)
      replace hM := hM.wr (sL_upf hTq hT kC_at152 (kC_lt kC_at152) (by decide) rfl k52 c51 rfl)
      have hF := hF.put kC_at152 (k := 7) (by decide) k52
      have c53 := k52.gi (Or.inr (by decide)) c12
      have c54 := k52.gi (Or.inl (tk_ne kC_at40 kC_at152 (by decide))) c9
      refine lv_aload_n hx hb dX1_follow_36 rfl (lv_at hl 2 rfl) ?_
      refine lv_aload_n hx hb dX1_follow_37 rfl (lv_at hl 1 rfl) ?_
      refine tk_getA hC hK hw hT hinX1 kC_at149 (by decide) rfl 0 (by decide) (List.mem_cons_of_mem _ uw_5_0) rfl rfl dX1_follow_38 ?_
      refine tk_getO hC hK hw hT hinX5 kC_at38 (by decide) rfl 0 (by decide) (List.mem_cons_of_mem _ uw_43_2) rfl rfl dX1_follow_41 ?_
      refine lv_iload_n hx hb dX1_follow_44 rfl (lv_at hl 3 rfl) ?_
      refine lv_iload_n hx hb dX1_follow_45 rfl (lv_at hl 0 rfl) ?_
      refine tk_Vi hC hK hw hT hA hE hSR kC_at39 (by decide) rfl (ky_X7_cornerAcross_3 l adK adV dC dI cy ad B hB0 (Int.le_trans hB1 (by decide)) qr s1   a2 (show 0 ≤ a2.toInt by first | with_reducible assumption | omega) (show a2.toInt ≤ 11 from ta2) w50 H.size hT ) (cwV 2 hC.2.2.2.2 uV_RX1_147 rfl rfl rfl (by decide +kernel) ⟨Nat.le_of_ble_eq_true rfl, Nat.le_of_ble_eq_true rfl⟩) rfl hl.1 rfl (Nat.le_of_ble_eq_true rfl) dX1_follow_46 (fun r55 w57 H locs hp56 hw => ?_)
      obtain ⟨hT, k58, hv62, hg61⟩ := hp56
      have hF := hF.tr k58 (by decide)
      have c63 := k58.gi kC_at152 (by decide) c53
      have c64 := k58.gi kC_at40 rfl c54
      have c65 := k58.gi kC_at152 (by decide) c51
      obtain ⟨g59, g60⟩ := hg61
      replace hM := hM.call hv62 rfl
      have hTq := hT
      refine tk_puti hC hK hw hT hinX9 tyX9_ok nmX9 kC_at152 (by decide) rfl rfl 0 (by decide) (List.mem_cons_of_mem _ uw_42_22) rfl rfl rfl rfl (show 0 ≤ r55.toInt by first | with_reducible assumption | omega) (show r55.toInt ≤ 9 by first | with_reducible assumption | omega) dX1_follow_49 (fun H locs w66 hw hT k68 c67 => ?_)
      replace hM := hM.wr (sL_upf hTq hT kC_at152 (kC_lt kC_at152) (by decide) rfl k68 c67 rfl)
      have hF := hF.put kC_at152 (k := 0) (by decide) k68
      have c69 := k68.gi (Or.inl (tk_ne kC_at40 kC_at152 (by decide))) c64
      have c70 := k68.gi (Or.inr (by decide)) c65
      refine lv_aload_n hx hb dX1_follow_52 rfl (lv_at hl 2 rfl) ?_
      refine lv_dup hx hb dX1_follow_53 rfl ?_
      refine tk_getB hC hK hw hT hinX9 kC_at152 (by decide) rfl 4 (by decide) (List.mem_cons_of_mem _ uw_42_10) rfl rfl dX1_follow_54 (fun x71 c72 rx71 tx71 => ?_)
      replace hM := hM.rd (sL_atl (kC_lt kC_at152) c72)
      refine lv_aload_n hx hb dX1_follow_57 rfl (lv_at hl 1 rfl) ?_
      refine tk_getA hC hK hw hT hinX1 kC_at149 (by decide) rfl 0 (by decide) (List.mem_cons_of_mem _ uw_5_0) rfl rfl dX1_follow_58 ?_
      refine tk_getO hC hK hw hT hinX5 kC_at38 (by decide) rfl 0 (by decide) (List.mem_cons_of_mem _ uw_43_2) rfl rfl dX1_follow_61 ?_
      refine tk_getO hC hK hw hT hinX7 kC_at39 (by decide) rfl 1 (by decide) (List.mem_cons_of_mem _ uw_46_8) rfl rfl dX1_follow_64 ?_
      refine lv_iload_n hx hb dX1_follow_67 rfl (lv_at hl 3 rfl) ?_
      refine tk_iald hC hK hw hT kC_at41 rfl rfl (show 0 ≤ a2.toInt by first | with_reducible assumption | omega) (show a2.toInt < 13 from Int.lt_of_le_of_lt ta2 (by decide)) dX1_follow_68 (fun x73 c74 rx73 tx73 => ?_)
      have hox73 := c74
      replace hM := hM.rd (sL_at (kC_lt kC_at41) hox73)
      refine lv_i2l hx hb dX1_follow_69 rfl ?_
      refine lv_topl (fun x75 ex75 => ?_)
      have ex75 : x75.toInt = x73.toInt := by rw [ex75]; exact wk_i2l _
      have bx75 := wk_i32 x73
      replace hM := hM.lt ex75.symm
      refine lv_ladd hx hb dX1_follow_70 ?_
      refine lv_topl (fun x76 ex76 => ?_)
      have ezx76 := ex76
      have ex76 : x76.toInt = x71.toInt + x75.toInt := by rw [ex76]; exact wk_addl (show (-9223372036854775808) ≤ x71.toInt + x75.toInt by omega) (show x71.toInt + x75.toInt ≤ 9223372036854775807 by omega)
      replace hM := hM.lt ex76.symm
      have hT := hT.up (show B ≤ (B + 9) by omega)
      have hTq := hT
      refine tk_putB hC hK hw hT hinX9 tyX9_ok nmX9 kC_at152 (by decide) rfl rfl 4 (by decide) (List.mem_cons_of_mem _ uw_42_10) rfl rfl rfl rfl (show 0 ≤ x76.toInt by first | with_reducible assumption | omega) (show x76.toInt ≤ (B + 9) by omega) dX1_follow_71 (fun H locs w77 hw hT k79 c78 => ?_)
      replace hM := hM.wr (sL_upl hTq hT kC_at152 (kC_lt kC_at152) (by decide) rfl (by decide) k79 c78 rfl)
      have hF := hF.put kC_at152 (k := 4) (by decide) k79
      have c80 := k79.gi (Or.inl (tk_ne kC_at40 kC_at152 (by decide))) c69
      have c81 := k79.gi (Or.inr (by decide)) c70
      have c82 := k79.gi (Or.inr (by decide)) c67
      exact tk_vret hC hr hlocks hK ⟨hT, hF, hM.ret rfl, trivial⟩ hw dX1_follow_74
  · have c1 : a2.toInt = (-1 : Int) := wk_eq.mp c1
    replace hM := hM.neg (fun q => q c1)
    exact tk_vret hC hr hlocks hK ⟨(hT.up (show B ≤ (B + 9) by omega)), hF, hM.ret rfl, trivial⟩ hw dX1_follow_5
abbrev Py_X9_isAtGoal_1 (ad : Nat → Nat) (cy : Nat → ClassId) (B : Int) (qr : Nat) (s1 : Int)  (w0 : va_W) : Int32 → va_W → Prop := fun r u => TW ksC ad cy B qr s1 u ∧ FE ksC ([] : List (Nat × Nat × Nat)) w0 u ∧ Ev (fun n => m_X9_isAtGoal n 152 (sL w0)) (r.toInt, sL u) ∧ ((r = 0) ∨ (r = 1))
set_option maxHeartbeats 4000000 in
set_option maxRecDepth 100000 in
theorem ky_X9_isAtGoal_1 (l : Launch) (adK adV : Nat → Nat) (dC : Nat → ClassId) (dI : Nat → Nat → Nat) (cy : Nat → ClassId) (ad : Nat → Nat) (B : Int) (hB0 : 2147483648 ≤ B) (hB1 : B ≤ 1152921504606846976) (qr : Nat) (s1 : Int)   (w0 : va_W) (sz : Nat) (hT : TW ksC ad cy B qr s1 w0)  : Met l yX9_isAtGoal (wu yX9_isAtGoal cX9_isAtGoal 1 (some .boolean)) ({ frames := 1, cells := 0, slots := 0, locals := 12 }) (va_Pc [.ref (ad 152)] (wpreS adK adV dC dI cy sz w0)) (va_Qi (Py_X9_isAtGoal_1 ad cy B qr s1  w0) (fun u : va_W => wpost dC dI cy (va_A w0 sz) u) (va_A w0 sz)) 0 0 (va_A w0 sz) := by
  refine Met.ofW (cc := cX9_isAtGoal) (maxL := 1) (ret := (some .boolean)) (by decide) rfl ?_
  intro p e s m args below meth c s₁ Bk hml hv
  obtain ⟨rfl, ⟨hsz, hP, hK, hD0⟩, hE, hSR⟩ := hv
  have hx := Bk.exec
  have hb := Bk.bytes
  have hr := Bk.returns
  have hlocks := Bk.notSynchronized
  have hC : CallFix p m c cX9_isAtGoal 1 s _ (wu yX9_isAtGoal cX9_isAtGoal 1 (some .boolean)) RX9 := ⟨hx, hb, hml, findClass_of_methodNamed Bk.named, atoms_spec (ws := (wu yX9_isAtGoal cX9_isAtGoal 1 (some .boolean))) Bk.pre⟩
  subst hsz
  have hD := hD0.self (sz := s.heap.size)
  generalize hAe : va_A w0 s.heap.size = A at hD hE ⊢
  have hA : ∀ q : Nat, s.heap.size ≤ q → A q := fun q h => by rw [← hAe]; exact Or.inr h
  have hw : Wd dC dI A s.heap s.heap [] w0 := ⟨hP, hD, va_S.rf⟩
  have hF : FE ksC ([] : List (Nat × Nat × Nat)) w0 w0 := FE.rf
  have hl := lv_entry ([.ref (ad 152)]) (n := 1) (Nat.le_of_ble_eq_true rfl)
  rw [lg_entry_eq]
  generalize (lg_sl ([.ref (ad 152)]) ++ List.replicate (1 - (lg_sl ([.ref (ad 152)])).length) Slot.unset).toArray = ls at hl ⊢
  have hl : lv_has ls 1 [(0, .ref (ad 152))] := hl
  generalize hloc : ([] : List Loc) = locs at hw ⊢
  have hinX9 : ∀ w ∈ u_ws RX9 TX9 9, w ∈ (wu yX9_isAtGoal cX9_isAtGoal 1 (some .boolean)) := fun _ h => List.mem_cons_of_mem _ (up_82 h)
  have hM : TT (fun n => m_X9_isAtGoal n 152 (sL w0)) (fun n => m_X9_isAtGoal n 152 (sL w0)) := TT.rf
  refine lv_aload_n hx hb dX9_isAtGoal_0 rfl (lv_at hl 0 rfl) ?_
  refine tk_geti hC hK hw hT hinX9 kC_at152 (by decide) rfl 0 (by decide) (List.mem_cons_of_mem _ uw_39_9) rfl rfl dX9_isAtGoal_1 (fun x1 c2 rx1 tx1 => ?_)
  replace hM := hM.rd (sL_at (kC_lt kC_at152) c2)
  refine lv_aload_n hx hb dX9_isAtGoal_4 rfl (lv_at hl 0 rfl) ?_
  refine tk_geti hC hK hw hT hinX9 kC_at152 (by decide) rfl 1 (by decide) (List.mem_cons_of_mem _ uw_39_10) rfl rfl dX9_isAtGoal_5 (fun x3 c4 rx3 tx3 => ?_)
  replace hM := hM.rd (sL_at (kC_lt kC_at152) c4)
  refine lv_icmp_ne (tgt := 15) hx hb dX9_isAtGoal_8 (by decide) (fun c5 => ?_) (fun c5 => ?_)
  · have c5 : ¬ x1.toInt = x3.toInt := wk_eqF c5
    replace hM := hM.pos c5
    refine lv_iconst (v := 0) hx hb dX9_isAtGoal_15 (by decide) ?_
    exact tk_zret hC hr rfl hlocks hK ⟨hT, hF, hM.ret (by decide), (Or.inl rfl)⟩ hw dX9_isAtGoal_16
  · have c5 : x1.toInt = x3.toInt := wk_eq.mp c5
    replace hM := hM.neg (fun q => q c5)
    refine lv_iconst (v := 1) hx hb dX9_isAtGoal_11 (by decide) ?_
    refine lv_goto (tgt := 16) hx hb dX9_isAtGoal_12 (by decide) ?_
    exact tk_zret hC hr rfl hlocks hK ⟨hT, hF, hM.ret (by decide), (Or.inr rfl)⟩ hw dX9_isAtGoal_16
abbrev Py_X2_deedOf_1 (ad : Nat → Nat) (cy : Nat → ClassId) (B : Int) (qr : Nat) (s1 : Int) (q0_ : Nat) (a1 : Int32) (w0 : va_W) : Int32 → va_W → Prop := fun r u => TW ksC ad cy B qr s1 u ∧ FE ksC ([] : List (Nat × Nat × Nat)) w0 u ∧ Ev (fun n => m_X2_deedOf n q0_ a1.toInt (sL w0)) (r.toInt, sL u) ∧ ((True))
set_option maxHeartbeats 4000000 in
set_option maxRecDepth 100000 in
theorem ky_X2_deedOf_1 (l : Launch) (adK adV : Nat → Nat) (dC : Nat → ClassId) (dI : Nat → Nat → Nat) (cy : Nat → ClassId) (ad : Nat → Nat) (B : Int) (hB0 : 2147483648 ≤ B) (hB1 : B ≤ 1152921504606846976) (qr : Nat) (s1 : Int)  (q0_ : Nat) (hkq0_ : ksC[q0_]? = some 2) (a1 : Int32) (ra1 : 0 ≤ a1.toInt) (ta1 : a1.toInt ≤ 11) (w0 : va_W) (sz : Nat) (hT : TW ksC ad cy B qr s1 w0)  : Met l yX2_deedOf (wu yX2_deedOf cX2_deedOf 2 (some .int)) ({ frames := 1, cells := 0, slots := 0, locals := 12 }) (va_Pc [.ref (ad q0_), .int a1] (wpreS adK adV dC dI cy sz w0)) (va_Qi (Py_X2_deedOf_1 ad cy B qr s1 q0_ a1 w0) (fun u : va_W => wpost dC dI cy (va_A w0 sz) u) (va_A w0 sz)) 0 0 (va_A w0 sz) := by
  refine Met.ofW (cc := cX2_deedOf) (maxL := 2) (ret := (some .int)) (by decide) rfl ?_
  intro p e s m args below meth c s₁ Bk hml hv
  obtain ⟨rfl, ⟨hsz, hP, hK, hD0⟩, hE, hSR⟩ := hv
  have hx := Bk.exec
  have hb := Bk.bytes
  have hr := Bk.returns
  have hlocks := Bk.notSynchronized
  have hC : CallFix p m c cX2_deedOf 2 s _ (wu yX2_deedOf cX2_deedOf 2 (some .int)) RX2 := ⟨hx, hb, hml, findClass_of_methodNamed Bk.named, atoms_spec (ws := (wu yX2_deedOf cX2_deedOf 2 (some .int))) Bk.pre⟩
  subst hsz
  have hD := hD0.self (sz := s.heap.size)
  generalize hAe : va_A w0 s.heap.size = A at hD hE ⊢
  have hA : ∀ q : Nat, s.heap.size ≤ q → A q := fun q h => by rw [← hAe]; exact Or.inr h
  have hw : Wd dC dI A s.heap s.heap [] w0 := ⟨hP, hD, va_S.rf⟩
  have hF : FE ksC ([] : List (Nat × Nat × Nat)) w0 w0 := FE.rf
  have hl := lv_entry ([.ref (ad q0_), .int a1]) (n := 2) (Nat.le_of_ble_eq_true rfl)
  rw [lg_entry_eq]
  generalize (lg_sl ([.ref (ad q0_), .int a1]) ++ List.replicate (2 - (lg_sl ([.ref (ad q0_), .int a1])).length) Slot.unset).toArray = ls at hl ⊢
  have hl : lv_has ls 2 [(0, .ref (ad q0_)), (1, .int a1)] := hl
  generalize hloc : ([] : List Loc) = locs at hw ⊢
  have hinX2 : ∀ w ∈ u_ws RX2 TX2 6, w ∈ (wu yX2_deedOf cX2_deedOf 2 (some .int)) := fun _ h => List.mem_cons_of_mem _ (up_74 h)
  have hM : TT (fun n => m_X2_deedOf n q0_ a1.toInt (sL w0)) (fun n => m_X2_deedOf n q0_ a1.toInt (sL w0)) := TT.rf
  refine lv_aload_n hx hb dX2_deedOf_0 rfl (lv_at hl 0 rfl) ?_
  refine tk_getO hC hK hw hT hinX2 hkq0_ (by decide) rfl 0 (by decide) (List.mem_cons_of_mem _ uw_3_5) rfl rfl dX2_deedOf_1 ?_
  refine lv_iload_n hx hb dX2_deedOf_4 rfl (lv_at hl 1 rfl) ?_
  refine tk_iald hC hK hw hT (kC_2_1 hkq0_) rfl rfl (show 0 ≤ a1.toInt from ra1) (show a1.toInt < 12 from Int.lt_of_le_of_lt ta1 (by decide)) dX2_deedOf_5 (fun x1 c2 rx1 tx1 => ?_)
  have hox1 := c2
  replace hM := hM.rd (sL_at (kC_lt (kC_2_1 hkq0_)) hox1)
  exact tk_iret hC hr hlocks hK ⟨hT, hF, hM.ret rfl, trivial⟩ hw dX2_deedOf_6
abbrev Py_X1_mayDo_1 (ad : Nat → Nat) (cy : Nat → ClassId) (B : Int) (qr : Nat) (s1 : Int) (a2 : Int32) (w0 : va_W) : Int32 → va_W → Prop := fun r u => TW ksC ad cy B qr s1 u ∧ FE ksC ([] : List (Nat × Nat × Nat)) w0 u ∧ Ev (fun n => m_X1_mayDo n 149 152 a2.toInt (sL w0)) (r.toInt, sL u) ∧ ((0 ≤ r.toInt ∧ r.toInt ≤ 1 ∧ 0 ≤ a2.toInt ∧ a2.toInt ≤ 0) ∨ (r = 0) ∨ (r = 1))
set_option maxHeartbeats 4000000 in
set_option maxRecDepth 100000 in
theorem ky_X1_mayDo_1 (l : Launch) (adK adV : Nat → Nat) (dC : Nat → ClassId) (dI : Nat → Nat → Nat) (cy : Nat → ClassId) (ad : Nat → Nat) (B : Int) (hB0 : 2147483648 ≤ B) (hB1 : B ≤ 1152921504606846976) (qr : Nat) (s1 : Int)  (a2 : Int32) (w0 : va_W) (sz : Nat) (hT : TW ksC ad cy B qr s1 w0)  : Met l yX1_mayDo (wu yX1_mayDo cX1_mayDo 3 (some .boolean)) ({ frames := 3, cells := 0, slots := 0, locals := 52 }) (va_Pc [.ref (ad 149), .ref (ad 152), .int a2] (wpreS adK adV dC dI cy sz w0)) (va_Qi (Py_X1_mayDo_1 ad cy B qr s1 a2 w0) (fun u : va_W => wpost dC dI cy (va_A w0 sz) u) (va_A w0 sz)) 0 0 (va_A w0 sz) := by
  refine Met.ofW (cc := cX1_mayDo) (maxL := 3) (ret := (some .boolean)) (by decide) rfl ?_
  intro p e s m args below meth c s₁ Bk hml hv
  obtain ⟨rfl, ⟨hsz, hP, hK, hD0⟩, hE, hSR⟩ := hv
  have hx := Bk.exec
  have hb := Bk.bytes
  have hr := Bk.returns
  have hlocks := Bk.notSynchronized
  have hC : CallFix p m c cX1_mayDo 3 s _ (wu yX1_mayDo cX1_mayDo 3 (some .boolean)) RX1 := ⟨hx, hb, hml, findClass_of_methodNamed Bk.named, atoms_spec (ws := (wu yX1_mayDo cX1_mayDo 3 (some .boolean))) Bk.pre⟩
  subst hsz
  have hD := hD0.self (sz := s.heap.size)
  generalize hAe : va_A w0 s.heap.size = A at hD hE ⊢
  have hA : ∀ q : Nat, s.heap.size ≤ q → A q := fun q h => by rw [← hAe]; exact Or.inr h
  have hw : Wd dC dI A s.heap s.heap [] w0 := ⟨hP, hD, va_S.rf⟩
  have hF : FE ksC ([] : List (Nat × Nat × Nat)) w0 w0 := FE.rf
  have hl := lv_entry ([.ref (ad 149), .ref (ad 152), .int a2]) (n := 3) (Nat.le_of_ble_eq_true rfl)
  rw [lg_entry_eq]
  generalize (lg_sl ([.ref (ad 149), .ref (ad 152), .int a2]) ++ List.replicate (3 - (lg_sl ([.ref (ad 149), .ref (ad 152), .int a2])).length) Slot.unset).toArray = ls at hl ⊢
  have hl : lv_has ls 3 [(0, .ref (ad 149)), (1, .ref (ad 152)), (2, .int a2)] := hl
  generalize hloc : ([] : List Loc) = locs at hw ⊢
  have hinX1 : ∀ w ∈ u_ws RX1 TX1 10, w ∈ (wu yX1_mayDo cX1_mayDo 3 (some .boolean)) := fun _ h => List.mem_cons_of_mem _ (up_78 h)
  have J65 : ∀ (f65_149_9 : Int32) (H : Heap) (locs : List Loc) (ls : Array Slot) (w1 : va_W), 0 ≤ f65_149_9.toInt → f65_149_9.toInt ≤ 1 → Wd dC dI A s.heap H locs w1 → TW ksC ad cy B qr s1 w1 → FE ksC ([] : List (Nat × Nat × Nat)) w0 w1 → gi w1 149 9 = f65_149_9 → TT (fun n => m_X1_mayDo n 149 152 a2.toInt (sL w0)) (fun n => b_X1_mayDo_65 n 149 152 (sL w1)) → lv_has ls 3 [(0, .ref (ad 149)), (1, .ref (ad 152)), (2, .int 2)] → W p l e ({ frames := 3, cells := 0, slots := 0, locals := 52 }) s m (List.toArray [.ref (ad 149), .ref (ad 152), .int a2]) below meth c H locs 0 0 (MQ below (va_Qi (Py_X1_mayDo_1 ad cy B qr s1 a2 w0) (fun u : va_W => wpost dC dI cy A u) A) (List.toArray [.ref (ad 149), .ref (ad 152), .int a2]) s 0 0 A) (F0 m 65 ls []) := by
    intro f65_149_9 H locs ls w1 r2 t3 hw hT hF c4 hM hl
    refine lv_iconst (v := 0) hx hb dX1_mayDo_65 (by decide) ?_
    exact tk_zret hC hr rfl hlocks hK ⟨hT, hF, hM.ret (by decide), (Or.inr (Or.inl rfl))⟩ hw dX1_mayDo_66
  have hM : TT (fun n => m_X1_mayDo n 149 152 a2.toInt (sL w0)) (fun n => m_X1_mayDo n 149 152 a2.toInt (sL w0)) := TT.rf
  refine lv_iload_n hx hb dX1_mayDo_0 rfl (lv_at hl 2 rfl) ?_
  rcases (show a2.toInt = 0 ∨ a2.toInt = 1 ∨ a2.toInt = 2 ∨ (a2.toInt < 0 ∨ 2 < a2.toInt) by omega) with c5 | c5 | c5 | c5
  · refine lv_tableIn (off := 27) (tgt := 28) hx hb dX1_mayDo_1 (by omega) (by omega) (by rw [c5]; rfl) (by decide) ?_
    replace hM := hM.pos (by omega)
    refine lv_aload_n hx hb dX1_mayDo_28 rfl (lv_at hl 0 rfl) ?_
    refine tk_geti hC hK hw hT hinX1 kC_at149 (by decide) rfl 6 (by decide) (List.mem_cons_of_mem _ uw_42_5) rfl rfl dX1_mayDo_29 (fun x6 c7 rx6 tx6 => ?_)
    replace hM := hM.rd (sL_at (kC_lt kC_at149) c7)
    exact tk_zret hC hr (by rcases nar_z (show 0 ≤ x6.toInt from rx6) (show x6.toInt ≤ 1 from tx6) with h | h <;> (rw [h]; rfl)) hlocks hK ⟨hT, hF, hM.ret rfl, (Or.inl ⟨(show 0 ≤ x6.toInt from rx6), (show x6.toInt ≤ 1 from tx6), (show 0 ≤ a2.toInt by first | with_reducible assumption | omega), (show a2.toInt ≤ 0 by first | with_reducible assumption | omega)⟩)⟩ hw dX1_mayDo_32
  · refine lv_tableIn (off := 32) (tgt := 33) hx hb dX1_mayDo_1 (by omega) (by omega) (by rw [c5]; rfl) (by decide) ?_
    replace hM := hM.neg (by omega)
    replace hM := hM.pos (by omega)
    refine lv_aload_n hx hb dX1_mayDo_33 rfl (lv_at hl 0 rfl) ?_
    refine tk_geti hC hK hw hT hinX1 kC_at149 (by decide) rfl 7 (by decide) (List.mem_cons_of_mem _ uw_42_7) rfl rfl dX1_mayDo_34 (fun x8 c9 rx8 tx8 => ?_)
    replace hM := hM.rd (sL_at (kC_lt kC_at149) c9)
    refine lv_iconst (v := (-1)) hx hb dX1_mayDo_37 (by decide) ?_
    refine lv_icmp_eq (tgt := 45) hx hb dX1_mayDo_38 (by decide) (fun c10 => ?_) (fun c10 => ?_)
    · have c10 : x8.toInt = (-1 : Int) := wk_eq.mp c10
      replace hM := hM.pos c10
      refine lv_iconst (v := 0) hx hb dX1_mayDo_45 (by decide) ?_
      exact tk_zret hC hr rfl hlocks hK ⟨hT, hF, hM.ret (by decide), (Or.inr (Or.inl rfl))⟩ hw dX1_mayDo_46
    · have c10 : ¬ x8.toInt = (-1 : Int) := wk_eqF c10
      replace hM := hM.neg c10
      refine lv_iconst (v := 1) hx hb dX1_mayDo_41 (by decide) ?_
      refine lv_goto (tgt := 46) hx hb dX1_mayDo_42 (by decide) ?_
      exact tk_zret hC hr rfl hlocks hK ⟨hT, hF, hM.ret (by decide), (Or.inr (Or.inr rfl))⟩ hw dX1_mayDo_46
  · refine lv_tableIn (off := 46) (tgt := 47) hx hb dX1_mayDo_1 (by omega) (by omega) (by rw [c5]; rfl) (by decide) ?_
    replace hM := hM.neg (by omega)
    replace hM := hM.neg (by omega)
    replace hM := hM.pos (by omega)
    refine lv_aload_n hx hb dX1_mayDo_47 rfl (lv_at hl 0 rfl) ?_
    refine tk_geti hC hK hw hT hinX1 kC_at149 (by decide) rfl 9 (by decide) (List.mem_cons_of_mem _ uw_42_20) rfl rfl dX1_mayDo_48 (fun x11 c12 rx11 tx11 => ?_)
    replace hM := hM.rd (sL_at (kC_lt kC_at149) c12)
    refine lv_if_ne (tgt := 65) hx hb dX1_mayDo_51 (by decide) (fun c13 => ?_) (fun c13 => ?_)
    · have c13 : ¬ x11.toInt = (0 : Int) := wk_eqF c13
      replace hM := hM.pos c13
      obtain rfl : a2 = 2 := wk_eq.mpr (show a2.toInt = 2 by first | exact Int.le_antisymm (by omega) (by omega) | omega)
      try simp only [show (2 : Int32).toInt = 2 by decide] at hM
      exact J65 x11 s.heap locs ls w0 (show 0 ≤ x11.toInt from rx11) (show x11.toInt ≤ 1 from tx11)  hw hT hF c12 hM (lv_sub hl [0, 1, 2] rfl)
    · have c13 : x11.toInt = (0 : Int) := wk_eq.mp c13
      replace hM := hM.neg (fun q => q c13)
      refine lv_aload_n hx hb dX1_mayDo_54 rfl (lv_at hl 1 rfl) ?_
      refine tk_Vi hC hK hw hT hA hE hSR kC_at152 (by decide) rfl (ky_X9_askedToday_1 l adK adV dC dI cy ad B hB0 (Int.le_trans hB1 (by decide)) qr s1    w0 s.heap.size hT ) (cwV 0 hC.2.2.2.2 uV_RX1_85 rfl rfl rfl (by decide +kernel) ⟨Nat.le_of_ble_eq_true rfl, Nat.le_of_ble_eq_true rfl⟩) rfl hl.1 rfl (Nat.le_of_ble_eq_true rfl) dX1_mayDo_55 (fun r14 w16 H locs hp15 hw => ?_)
      obtain ⟨hT, k17, hv19, hg18⟩ := hp15
      have hF := hF.tr k17 (by decide)
      have c20 := k17.gi kC_at149 (by decide) c12
      rcases hg18 with rfl | rfl
      · replace hM := hM.call (r' := 0) hv19 (by decide)
        refine lv_if_ne (tgt := 65) hx hb dX1_mayDo_58 (by decide) (fun c => absurd (by decide) c) (fun _ => ?_)
        replace hM := hM.neg (by decide)
        refine lv_iconst (v := 1) hx hb dX1_mayDo_61 (by decide) ?_
        refine lv_goto (tgt := 66) hx hb dX1_mayDo_62 (by decide) ?_
        exact tk_zret hC hr rfl hlocks hK ⟨hT, hF, hM.ret (by decide), (Or.inr (Or.inr rfl))⟩ hw dX1_mayDo_66
      · replace hM := hM.call (r' := 1) hv19 (by decide)
        refine lv_if_ne (tgt := 65) hx hb dX1_mayDo_58 (by decide) (fun _ => ?_) (fun c => absurd c (by decide))
        replace hM := hM.pos (by decide)
        obtain rfl : a2 = 2 := wk_eq.mpr (show a2.toInt = 2 by first | exact Int.le_antisymm (by omega) (by omega) | omega)
        try simp only [show (2 : Int32).toInt = 2 by decide] at hM
        exact J65 x11 H locs ls w16 (show 0 ≤ x11.toInt from rx11) (show x11.toInt ≤ 1 from tx11)  hw hT hF c20 hM (lv_sub hl [0, 1, 2] rfl)
  · refine lv_tableOut (tgt := 67) hx hb dX1_mayDo_1 c5 (by decide) ?_
    replace hM := hM.neg (by omega)
    replace hM := hM.neg (by omega)
    replace hM := hM.neg (by omega)
    refine lv_iconst (v := 1) hx hb dX1_mayDo_67 (by decide) ?_
    exact tk_zret hC hr rfl hlocks hK ⟨hT, hF, hM.ret (by decide), (Or.inr (Or.inr rfl))⟩ hw dX1_mayDo_68
abbrev Py_X2_firstToken_1 (ad : Nat → Nat) (cy : Nat → ClassId) (B : Int) (qr : Nat) (s1 : Int) (q0_ : Nat) (a1 : Int32) (w0 : va_W) : Int32 → va_W → Prop := fun r u => TW ksC ad cy B qr s1 u ∧ FE ksC ([] : List (Nat × Nat × Nat)) w0 u ∧ Ev (fun n => m_X2_firstToken n q0_ a1.toInt (sL w0)) (r.toInt, sL u) ∧ ((0 ≤ r.toInt ∧ r.toInt ≤ 400))
set_option maxHeartbeats 4000000 in
set_option maxRecDepth 100000 in
theorem ky_X2_firstToken_1 (l : Launch) (adK adV : Nat → Nat) (dC : Nat → ClassId) (dI : Nat → Nat → Nat) (cy : Nat → ClassId) (ad : Nat → Nat) (B : Int) (hB0 : 2147483648 ≤ B) (hB1 : B ≤ 1152921504606846976) (qr : Nat) (s1 : Int)  (q0_ : Nat) (hkq0_ : ksC[q0_]? = some 2) (a1 : Int32) (ra1 : 1 ≤ a1.toInt) (ta1 : a1.toInt ≤ 12) (w0 : va_W) (sz : Nat) (hT : TW ksC ad cy B qr s1 w0)  : Met l yX2_firstToken (wu yX2_firstToken cX2_firstToken 2 (some .int)) ({ frames := 1, cells := 0, slots := 0, locals := 12 }) (va_Pc [.ref (ad q0_), .int a1] (wpreS adK adV dC dI cy sz w0)) (va_Qi (Py_X2_firstToken_1 ad cy B qr s1 q0_ a1 w0) (fun u : va_W => wpost dC dI cy (va_A w0 sz) u) (va_A w0 sz)) 0 0 (va_A w0 sz) := by
  refine Met.ofW (cc := cX2_firstToken) (maxL := 2) (ret := (some .int)) (by decide) rfl ?_
  intro p e s m args below meth c s₁ Bk hml hv
  obtain ⟨rfl, ⟨hsz, hP, hK, hD0⟩, hE, hSR⟩ := hv
  have hx := Bk.exec
  have hb := Bk.bytes
  have hr := Bk.returns
  have hlocks := Bk.notSynchronized
  have hC : CallFix p m c cX2_firstToken 2 s _ (wu yX2_firstToken cX2_firstToken 2 (some .int)) RX2 := ⟨hx, hb, hml, findClass_of_methodNamed Bk.named, atoms_spec (ws := (wu yX2_firstToken cX2_firstToken 2 (some .int))) Bk.pre⟩
  subst hsz
  have hD := hD0.self (sz := s.heap.size)
  generalize hAe : va_A w0 s.heap.size = A at hD hE ⊢
  have hA : ∀ q : Nat, s.heap.size ≤ q → A q := fun q h => by rw [← hAe]; exact Or.inr h
  have hw : Wd dC dI A s.heap s.heap [] w0 := ⟨hP, hD, va_S.rf⟩
  have hF : FE ksC ([] : List (Nat × Nat × Nat)) w0 w0 := FE.rf
  have hl := lv_entry ([.ref (ad q0_), .int a1]) (n := 2) (Nat.le_of_ble_eq_true rfl)
  rw [lg_entry_eq]
  generalize (lg_sl ([.ref (ad q0_), .int a1]) ++ List.replicate (2 - (lg_sl ([.ref (ad q0_), .int a1])).length) Slot.unset).toArray = ls at hl ⊢
  have hl : lv_has ls 2 [(0, .ref (ad q0_)), (1, .int a1)] := hl
  generalize hloc : ([] : List Loc) = locs at hw ⊢
  have hinX2 : ∀ w ∈ u_ws RX2 TX2 6, w ∈ (wu yX2_firstToken cX2_firstToken 2 (some .int)) := fun _ h => List.mem_cons_of_mem _ (up_74 h)
  have hM : TT (fun n => m_X2_firstToken n q0_ a1.toInt (sL w0)) (fun n => m_X2_firstToken n q0_ a1.toInt (sL w0)) := TT.rf
  refine lv_aload_n hx hb dX2_firstToken_0 rfl (lv_at hl 0 rfl) ?_
  refine tk_getO hC hK hw hT hinX2 hkq0_ (by decide) rfl 1 (by decide) (List.mem_cons_of_mem _ uw_3_6) rfl rfl dX2_firstToken_1 ?_
  refine lv_iload_n hx hb dX2_firstToken_4 rfl (lv_at hl 1 rfl) ?_
  refine tk_iald hC hK hw hT (kC_2_2 hkq0_) rfl rfl (show 0 ≤ a1.toInt from Int.le_trans (by decide) ra1) (show a1.toInt < 13 from Int.lt_of_le_of_lt ta1 (by decide)) dX2_firstToken_5 (fun x1 c2 rx1 tx1 => ?_)
  have hox1 := c2
  replace hM := hM.rd (sL_at (kC_lt (kC_2_2 hkq0_)) hox1)
  exact tk_iret hC hr hlocks hK ⟨hT, hF, hM.ret rfl, ⟨(show 0 ≤ x1.toInt by first | with_reducible assumption | omega), (show x1.toInt ≤ 400 by first | with_reducible assumption | omega)⟩⟩ hw dX2_firstToken_6
abbrev Py_X2_tokenAt_1 (ad : Nat → Nat) (cy : Nat → ClassId) (B : Int) (qr : Nat) (s1 : Int) (q0_ : Nat) (a1 : Int32) (w0 : va_W) : Int32 → va_W → Prop := fun r u => TW ksC ad cy B qr s1 u ∧ FE ksC ([] : List (Nat × Nat × Nat)) w0 u ∧ Ev (fun n => m_X2_tokenAt n q0_ a1.toInt (sL w0)) (r.toInt, sL u) ∧ ((True))
set_option maxHeartbeats 4000000 in
set_option maxRecDepth 100000 in
theorem ky_X2_tokenAt_1 (l : Launch) (adK adV : Nat → Nat) (dC : Nat → ClassId) (dI : Nat → Nat → Nat) (cy : Nat → ClassId) (ad : Nat → Nat) (B : Int) (hB0 : 2147483648 ≤ B) (hB1 : B ≤ 1152921504606846976) (qr : Nat) (s1 : Int)  (q0_ : Nat) (hkq0_ : ksC[q0_]? = some 2) (a1 : Int32) (ra1 : 0 ≤ a1.toInt) (ta1 : a1.toInt ≤ 399) (w0 : va_W) (sz : Nat) (hT : TW ksC ad cy B qr s1 w0)  : Met l yX2_tokenAt (wu yX2_tokenAt cX2_tokenAt 2 (some .int)) ({ frames := 1, cells := 0, slots := 0, locals := 12 }) (va_Pc [.ref (ad q0_), .int a1] (wpreS adK adV dC dI cy sz w0)) (va_Qi (Py_X2_tokenAt_1 ad cy B qr s1 q0_ a1 w0) (fun u : va_W => wpost dC dI cy (va_A w0 sz) u) (va_A w0 sz)) 0 0 (va_A w0 sz) := by
  refine Met.ofW (cc := cX2_tokenAt) (maxL := 2) (ret := (some .int)) (by decide) rfl ?_
  intro p e s m args below meth c s₁ Bk hml hv
  obtain ⟨rfl, ⟨hsz, hP, hK, hD0⟩, hE, hSR⟩ := hv
  have hx := Bk.exec
  have hb := Bk.bytes
  have hr := Bk.returns
  have hlocks := Bk.notSynchronized
  have hC : CallFix p m c cX2_tokenAt 2 s _ (wu yX2_tokenAt cX2_tokenAt 2 (some .int)) RX2 := ⟨hx, hb, hml, findClass_of_methodNamed Bk.named, atoms_spec (ws := (wu yX2_tokenAt cX2_tokenAt 2 (some .int))) Bk.pre⟩
  subst hsz
  have hD := hD0.self (sz := s.heap.size)
  generalize hAe : va_A w0 s.heap.size = A at hD hE ⊢
  have hA : ∀ q : Nat, s.heap.size ≤ q → A q := fun q h => by rw [← hAe]; exact Or.inr h
  have hw : Wd dC dI A s.heap s.heap [] w0 := ⟨hP, hD, va_S.rf⟩
  have hF : FE ksC ([] : List (Nat × Nat × Nat)) w0 w0 := FE.rf
  have hl := lv_entry ([.ref (ad q0_), .int a1]) (n := 2) (Nat.le_of_ble_eq_true rfl)
  rw [lg_entry_eq]
  generalize (lg_sl ([.ref (ad q0_), .int a1]) ++ List.replicate (2 - (lg_sl ([.ref (ad q0_), .int a1])).length) Slot.unset).toArray = ls at hl ⊢
  have hl : lv_has ls 2 [(0, .ref (ad q0_)), (1, .int a1)] := hl
  generalize hloc : ([] : List Loc) = locs at hw ⊢
  have hinX2 : ∀ w ∈ u_ws RX2 TX2 6, w ∈ (wu yX2_tokenAt cX2_tokenAt 2 (some .int)) := fun _ h => List.mem_cons_of_mem _ (up_74 h)
  have hM : TT (fun n => m_X2_tokenAt n q0_ a1.toInt (sL w0)) (fun n => m_X2_tokenAt n q0_ a1.toInt (sL w0)) := TT.rf
  refine lv_aload_n hx hb dX2_tokenAt_0 rfl (lv_at hl 0 rfl) ?_
  refine tk_getO hC hK hw hT hinX2 hkq0_ (by decide) rfl 2 (by decide) (List.mem_cons_of_mem _ uw_3_7) rfl rfl dX2_tokenAt_1 ?_
  refine lv_iload_n hx hb dX2_tokenAt_4 rfl (lv_at hl 1 rfl) ?_
  refine tk_iald hC hK hw hT (kC_2_3 hkq0_) rfl rfl (show 0 ≤ a1.toInt from ra1) (show a1.toInt < 400 from Int.lt_of_le_of_lt ta1 (by decide)) dX2_tokenAt_5 (fun x1 c2 rx1 tx1 => ?_)
  have hox1 := c2
  replace hM := hM.rd (sL_at (kC_lt (kC_2_3 hkq0_)) hox1)
  exact tk_iret hC hr hlocks hK ⟨hT, hF, hM.ret rfl, trivial⟩ hw dX2_tokenAt_6
abbrev Py_X1_joined_1 (ad : Nat → Nat) (cy : Nat → ClassId) (B : Int) (qr : Nat) (s1 : Int) (a0 : Int32) (a1 : Int64) (a2 : Int64) (w0 : va_W) : Int64 → va_W → Prop := fun r u => TW ksC ad cy B qr s1 u ∧ FE ksC ([] : List (Nat × Nat × Nat)) w0 u ∧ Ev (fun n => m_X1_joined n a0.toInt a1.toInt a2.toInt (sL w0)) (r.toInt, sL u) ∧ ((True))
set_option maxHeartbeats 4000000 in
set_option maxRecDepth 100000 in
theorem ky_X1_joined_1 (l : Launch) (adK adV : Nat → Nat) (dC : Nat → ClassId) (dI : Nat → Nat → Nat) (cy : Nat → ClassId) (ad : Nat → Nat) (B : Int) (hB0 : 2147483648 ≤ B) (hB1 : B ≤ 1152921504606846976) (qr : Nat) (s1 : Int)  (a0 : Int32) (ra0 : 10 ≤ a0.toInt) (ta0 : a0.toInt ≤ 31) (a1 : Int64) (a2 : Int64) (w0 : va_W) (sz : Nat) (hT : TW ksC ad cy B qr s1 w0)  : Met l yX1_joined (wu yX1_joined cX1_joined 5 (some .long)) ({ frames := 1, cells := 0, slots := 0, locals := 12 }) (va_Pc [.int a0, .long a1, .long a2] (wpreS adK adV dC dI cy sz w0)) (va_Ql (Py_X1_joined_1 ad cy B qr s1 a0 a1 a2 w0) (fun u : va_W => wpost dC dI cy (va_A w0 sz) u) (va_A w0 sz)) 0 0 (va_A w0 sz) := by
  refine Met.ofW (cc := cX1_joined) (maxL := 5) (ret := (some .long)) (by decide) rfl ?_
  intro p e s m args below meth c s₁ Bk hml hv
  obtain ⟨rfl, ⟨hsz, hP, hK, hD0⟩, hE, hSR⟩ := hv
  have hx := Bk.exec
  have hb := Bk.bytes
  have hr := Bk.returns
  have hlocks := Bk.notSynchronized
  have hC : CallFix p m c cX1_joined 5 s _ (wu yX1_joined cX1_joined 5 (some .long)) RX1 := ⟨hx, hb, hml, findClass_of_methodNamed Bk.named, atoms_spec (ws := (wu yX1_joined cX1_joined 5 (some .long))) Bk.pre⟩
  subst hsz
  have hD := hD0.self (sz := s.heap.size)
  generalize hAe : va_A w0 s.heap.size = A at hD hE ⊢
  have hA : ∀ q : Nat, s.heap.size ≤ q → A q := fun q h => by rw [← hAe]; exact Or.inr h
  have hw : Wd dC dI A s.heap s.heap [] w0 := ⟨hP, hD, va_S.rf⟩
  have hF : FE ksC ([] : List (Nat × Nat × Nat)) w0 w0 := FE.rf
  have hl := lv_entry ([.int a0, .long a1, .long a2]) (n := 5) (Nat.le_of_ble_eq_true rfl)
  rw [lg_entry_eq]
  generalize (lg_sl ([.int a0, .long a1, .long a2]) ++ List.replicate (5 - (lg_sl ([.int a0, .long a1, .long a2])).length) Slot.unset).toArray = ls at hl ⊢
  have hl : lv_has ls 5 [(0, .int a0), (1, .long a1), (3, .long a2)] := hl
  generalize hloc : ([] : List Loc) = locs at hw ⊢
  have hM : TT (fun n => m_X1_joined n a0.toInt a1.toInt a2.toInt (sL w0)) (fun n => m_X1_joined n a0.toInt a1.toInt a2.toInt (sL w0)) := TT.rf
  refine lv_iload_n hx hb dX1_joined_0 rfl (lv_at hl 0 rfl) ?_
  rcases (show a0.toInt = 10 ∨ a0.toInt = 11 ∨ a0.toInt = 12 ∨ a0.toInt = 13 ∨ a0.toInt = 14 ∨ a0.toInt = 15 ∨ a0.toInt = 16 ∨ a0.toInt = 17 ∨ a0.toInt = 18 ∨ a0.toInt = 19 ∨ a0.toInt = 20 ∨ (a0.toInt < 10 ∨ 20 < a0.toInt) by omega) with c1 | c1 | c1 | c1 | c1 | c1 | c1 | c1 | c1 | c1 | c1 | c1
  · refine lv_tableIn (off := 59) (tgt := 60) hx hb dX1_joined_1 (by omega) (by omega) (by rw [c1]; rfl) (by decide) ?_
    replace hM := hM.pos (by omega)
    refine lv_lload_n hx hb dX1_joined_60 rfl (lv_at hl 1 rfl) ?_
    refine lv_lload_n hx hb dX1_joined_61 rfl (lv_at hl 2 rfl) ?_
    refine lv_ladd hx hb dX1_joined_62 ?_
    have nx2 := wk_i64 a1
    have nx3 := wk_i64 a2
    refine lv_topl (fun x4 ex4 => ?_)
    have ezx4 := ex4
    replace hM := hM.lt (o64_e (f := fun x y => x + y) ezx4 rfl rfl)
    exact tk_lret hC hr hlocks hK ⟨hT, hF, hM.ret rfl, trivial⟩ hw dX1_joined_63
  · refine lv_tableIn (off := 63) (tgt := 64) hx hb dX1_joined_1 (by omega) (by omega) (by rw [c1]; rfl) (by decide) ?_
    replace hM := hM.neg (by omega)
    replace hM := hM.pos (by omega)
    refine lv_lload_n hx hb dX1_joined_64 rfl (lv_at hl 1 rfl) ?_
    refine lv_lload_n hx hb dX1_joined_65 rfl (lv_at hl 2 rfl) ?_
    refine lv_lsub hx hb dX1_joined_66 ?_
    have nx5 := wk_i64 a1
    have nx6 := wk_i64 a2
    refine lv_topl (fun x7 ex7 => ?_)
    have ezx7 := ex7
    replace hM := hM.lt (o64_e (f := fun x y => x - y) ezx7 rfl rfl)
    exact tk_lret hC hr hlocks hK ⟨hT, hF, hM.ret rfl, trivial⟩ hw dX1_joined_67
  · refine lv_tableIn (off := 67) (tgt := 68) hx hb dX1_joined_1 (by omega) (by omega) (by rw [c1]; rfl) (by decide) ?_
    replace hM := hM.neg (by omega)
    replace hM := hM.neg (by omega)
    replace hM := hM.pos (by omega)
    refine lv_lload_n hx hb dX1_joined_68 rfl (lv_at hl 1 rfl) ?_
    refine lv_lload_n hx hb dX1_joined_69 rfl (lv_at hl 2 rfl) ?_
    refine lv_lmul hx hb dX1_joined_70 ?_
    have nx8 := wk_i64 a1
    have nx9 := wk_i64 a2
    refine lv_topl (fun x10 ex10 => ?_)
    have ezx10 := ex10
    replace hM := hM.lt (o64_e (f := fun x y => x * y) ezx10 rfl rfl)
    exact tk_lret hC hr hlocks hK ⟨hT, hF, hM.ret rfl, trivial⟩ hw dX1_joined_71
  · refine lv_tableIn (off := 71) (tgt := 72) hx hb dX1_joined_1 (by omega) (by omega) (by rw [c1]; rfl) (by decide) ?_
    replace hM := hM.neg (by omega)
    replace hM := hM.neg (by omega)
    replace hM := hM.neg (by omega)
    replace hM := hM.pos (by omega)
    refine lv_lload_n hx hb dX1_joined_72 rfl (lv_at hl 2 rfl) ?_
    refine lv_lconst (v := 0) hx hb dX1_joined_73 (by decide) ?_
    refine W.lcmp hx hb dX1_joined_74 ?_
    refine lv_if_ne (tgt := 82) hx hb dX1_joined_75 (by decide) (fun c11 => ?_) (fun c11 => ?_)
    · have c11 : ¬ a2.toInt = (0 : Int) := wk_ceF c11
      replace hM := hM.pos c11
      refine lv_lload_n hx hb dX1_joined_82 rfl (lv_at hl 1 rfl) ?_
      refine lv_lload_n hx hb dX1_joined_83 rfl (lv_at hl 2 rfl) ?_
      refine lv_ldiv hx hb dX1_joined_84 (fun h => absurd (show a2.toInt = 0 from wk_eql.mp h) c11) ?_
      refine lv_topl (fun x12 ex12 => ?_)
      have ezx12 := ex12
      replace hM := hM.lt (o64_e (f := fun x y => x / y) ezx12 rfl rfl)
      exact tk_lret hC hr hlocks hK ⟨hT, hF, hM.ret rfl, trivial⟩ hw dX1_joined_85
    · have c11 : a2.toInt = (0 : Int) := wk_ceT c11
      replace hM := hM.neg (fun q => q c11)
      refine lv_lconst (v := 0) hx hb dX1_joined_78 (by decide) ?_
      refine lv_goto (tgt := 85) hx hb dX1_joined_79 (by decide) ?_
      exact tk_lret hC hr hlocks hK ⟨hT, hF, hM.ret (by decide), trivial⟩ hw dX1_joined_85
  · refine lv_tableIn (off := 85) (tgt := 86) hx hb dX1_joined_1 (by omega) (by omega) (by rw [c1]; rfl) (by decide) ?_
    replace hM := hM.neg (by omega)
    replace hM := hM.neg (by omega)
    replace hM := hM.neg (by omega)
    replace hM := hM.neg (by omega)
    replace hM := hM.pos (by omega)
    refine lv_lload_n hx hb dX1_joined_86 rfl (lv_at hl 1 rfl) ?_
    refine lv_lload_n hx hb dX1_joined_87 rfl (lv_at hl 2 rfl) ?_
    refine W.lcmp hx hb dX1_joined_88 ?_
    refine lv_if_ge (tgt := 96) hx hb dX1_joined_89 (by decide) (fun c13 => ?_) (fun c13 => ?_)
    · have c13 : a2.toInt ≤ a1.toInt := wk_cgeT c13
      replace hM := hM.pos c13
      refine lv_lconst (v := 0) hx hb dX1_joined_96 (by decide) ?_
      exact tk_lret hC hr hlocks hK ⟨hT, hF, hM.ret (by decide), trivial⟩ hw dX1_joined_97
    · have c13 : a1.toInt < a2.toInt := wk_cgeF c13
      replace hM := hM.neg (Int.not_le.mpr c13)
      refine lv_lconst (v := 1) hx hb dX1_joined_92 (by decide) ?_
      refine lv_goto (tgt := 97) hx hb dX1_joined_93 (by decide) ?_
      exact tk_lret hC hr hlocks hK ⟨hT, hF, hM.ret (by decide), trivial⟩ hw dX1_joined_97
  · refine lv_tableIn (off := 97) (tgt := 98) hx hb dX1_joined_1 (by omega) (by omega) (by rw [c1]; rfl) (by decide) ?_
    replace hM := hM.neg (by omega)
    replace hM := hM.neg (by omega)
    replace hM := hM.neg (by omega)
    replace hM := hM.neg (by omega)
    replace hM := hM.neg (by omega)
    replace hM := hM.pos (by omega)
    refine lv_lload_n hx hb dX1_joined_98 rfl (lv_at hl 1 rfl) ?_
    refine lv_lload_n hx hb dX1_joined_99 rfl (lv_at hl 2 rfl) ?_
    refine W.lcmp hx hb dX1_joined_100 ?_
    refine lv_if_gt (tgt := 108) hx hb dX1_joined_101 (by decide) (fun c14 => ?_) (fun c14 => ?_)
    · have c14 : a2.toInt < a1.toInt := wk_cgtT c14
      replace hM := hM.pos c14
      refine lv_lconst (v := 0) hx hb dX1_joined_108 (by decide) ?_
      exact tk_lret hC hr hlocks hK ⟨hT, hF, hM.ret (by decide), trivial⟩ hw dX1_joined_109
    · have c14 : a1.toInt ≤ a2.toInt := wk_cgtF c14
      replace hM := hM.neg (Int.not_lt.mpr c14)
      refine lv_lconst (v := 1) hx hb dX1_joined_104 (by decide) ?_
      refine lv_goto (tgt := 109) hx hb dX1_joined_105 (by decide) ?_
      exact tk_lret hC hr hlocks hK ⟨hT, hF, hM.ret (by decide), trivial⟩ hw dX1_joined_109
  · refine lv_tableIn (off := 109) (tgt := 110) hx hb dX1_joined_1 (by omega) (by omega) (by rw [c1]; rfl) (by decide) ?_
    replace hM := hM.neg (by omega)
    replace hM := hM.neg (by omega)
    replace hM := hM.neg (by omega)
    replace hM := hM.neg (by omega)
    replace hM := hM.neg (by omega)
    replace hM := hM.neg (by omega)
    replace hM := hM.pos (by omega)
    refine lv_lload_n hx hb dX1_joined_110 rfl (lv_at hl 1 rfl) ?_
    refine lv_lload_n hx hb dX1_joined_111 rfl (lv_at hl 2 rfl) ?_
    refine W.lcmp hx hb dX1_joined_112 ?_
    refine lv_if_ne (tgt := 120) hx hb dX1_joined_113 (by decide) (fun c15 => ?_) (fun c15 => ?_)
    · have c15 : ¬ a1.toInt = a2.toInt := wk_ceF c15
      replace hM := hM.pos c15
      refine lv_lconst (v := 0) hx hb dX1_joined_120 (by decide) ?_
      exact tk_lret hC hr hlocks hK ⟨hT, hF, hM.ret (by decide), trivial⟩ hw dX1_joined_121
    · have c15 : a1.toInt = a2.toInt := wk_ceT c15
      replace hM := hM.neg (fun q => q c15)
      refine lv_lconst (v := 1) hx hb dX1_joined_116 (by decide) ?_
      refine lv_goto (tgt := 121) hx hb dX1_joined_117 (by decide) ?_
      exact tk_lret hC hr hlocks hK ⟨hT, hF, hM.ret (by decide), trivial⟩ hw dX1_joined_121
  · refine lv_tableIn (off := 121) (tgt := 122) hx hb dX1_joined_1 (by omega) (by omega) (by rw [c1]; rfl) (by decide) ?_
    replace hM := hM.neg (by omega)
    replace hM := hM.neg (by omega)
    replace hM := hM.neg (by omega)
    replace hM := hM.neg (by omega)
    replace hM := hM.neg (by omega)
    replace hM := hM.neg (by omega)
    replace hM := hM.neg (by omega)
    replace hM := hM.pos (by omega)
    refine lv_lload_n hx hb dX1_joined_122 rfl (lv_at hl 1 rfl) ?_
    refine lv_lload_n hx hb dX1_joined_123 rfl (lv_at hl 2 rfl) ?_
    refine W.lcmp hx hb dX1_joined_124 ?_
    refine lv_if_lt (tgt := 132) hx hb dX1_joined_125 (by decide) (fun c16 => ?_) (fun c16 => ?_)
    · have c16 : a1.toInt < a2.toInt := wk_cltT c16
      replace hM := hM.pos c16
      refine lv_lconst (v := 0) hx hb dX1_joined_132 (by decide) ?_
      exact tk_lret hC hr hlocks hK ⟨hT, hF, hM.ret (by decide), trivial⟩ hw dX1_joined_133
    · have c16 : a2.toInt ≤ a1.toInt := wk_cltF c16
      replace hM := hM.neg (Int.not_lt.mpr c16)
      refine lv_lconst (v := 1) hx hb dX1_joined_128 (by decide) ?_
      refine lv_goto (tgt := 133) hx hb dX1_joined_129 (by decide) ?_
      exact tk_lret hC hr hlocks hK ⟨hT, hF, hM.ret (by decide), trivial⟩ hw dX1_joined_133
  · refine lv_tableIn (off := 133) (tgt := 134) hx hb dX1_joined_1 (by omega) (by omega) (by rw [c1]; rfl) (by decide) ?_
    replace hM := hM.neg (by omega)
    replace hM := hM.neg (by omega)
    replace hM := hM.neg (by omega)
    replace hM := hM.neg (by omega)
    replace hM := hM.neg (by omega)
    replace hM := hM.neg (by omega)
    replace hM := hM.neg (by omega)
    replace hM := hM.neg (by omega)
    replace hM := hM.pos (by omega)
    refine lv_lload_n hx hb dX1_joined_134 rfl (lv_at hl 1 rfl) ?_
    refine lv_lload_n hx hb dX1_joined_135 rfl (lv_at hl 2 rfl) ?_
    refine W.lcmp hx hb dX1_joined_136 ?_
    refine lv_if_le (tgt := 144) hx hb dX1_joined_137 (by decide) (fun c17 => ?_) (fun c17 => ?_)
    · have c17 : a1.toInt ≤ a2.toInt := wk_cleT c17
      replace hM := hM.pos c17
      refine lv_lconst (v := 0) hx hb dX1_joined_144 (by decide) ?_
      exact tk_lret hC hr hlocks hK ⟨hT, hF, hM.ret (by decide), trivial⟩ hw dX1_joined_145
    · have c17 : a2.toInt < a1.toInt := wk_cleF c17
      replace hM := hM.neg (Int.not_le.mpr c17)
      refine lv_lconst (v := 1) hx hb dX1_joined_140 (by decide) ?_
      refine lv_goto (tgt := 145) hx hb dX1_joined_141 (by decide) ?_
      exact tk_lret hC hr hlocks hK ⟨hT, hF, hM.ret (by decide), trivial⟩ hw dX1_joined_145
  · refine lv_tableIn (off := 149) (tgt := 150) hx hb dX1_joined_1 (by omega) (by omega) (by rw [c1]; rfl) (by decide) ?_
    replace hM := hM.neg (by omega)
    replace hM := hM.neg (by omega)
    replace hM := hM.neg (by omega)
    replace hM := hM.neg (by omega)
    replace hM := hM.neg (by omega)
    replace hM := hM.neg (by omega)
    replace hM := hM.neg (by omega)
    replace hM := hM.neg (by omega)
    replace hM := hM.neg (by omega)
    replace hM := hM.pos (by omega)
    refine lv_lload_n hx hb dX1_joined_150 rfl (lv_at hl 1 rfl) ?_
    refine lv_lload_n hx hb dX1_joined_151 rfl (lv_at hl 2 rfl) ?_
    refine lv_lor hx hb dX1_joined_152 ?_
    refine lv_topl (fun x18 ex18 => ?_)
    have ezx18 := ex18
    replace hM := hM.lt (o64_e (f := fun x y => x ||| y) ezx18 rfl rfl)
    exact tk_lret hC hr hlocks hK ⟨hT, hF, hM.ret rfl, trivial⟩ hw dX1_joined_153
  · refine lv_tableIn (off := 145) (tgt := 146) hx hb dX1_joined_1 (by omega) (by omega) (by rw [c1]; rfl) (by decide) ?_
    replace hM := hM.neg (by omega)
    replace hM := hM.neg (by omega)
    replace hM := hM.neg (by omega)
    replace hM := hM.neg (by omega)
    replace hM := hM.neg (by omega)
    replace hM := hM.neg (by omega)
    replace hM := hM.neg (by omega)
    replace hM := hM.neg (by omega)
    replace hM := hM.neg (by omega)
    replace hM := hM.neg (by omega)
    replace hM := hM.pos (by omega)
    refine lv_lload_n hx hb dX1_joined_146 rfl (lv_at hl 1 rfl) ?_
    refine lv_lload_n hx hb dX1_joined_147 rfl (lv_at hl 2 rfl) ?_
    refine lv_land hx hb dX1_joined_148 ?_
    refine lv_topl (fun x19 ex19 => ?_)
    have ezx19 := ex19
    replace hM := hM.lt (o64_e (f := fun x y => x &&& y) ezx19 rfl rfl)
    exact tk_lret hC hr hlocks hK ⟨hT, hF, hM.ret rfl, trivial⟩ hw dX1_joined_149
  · refine lv_tableOut (tgt := 150) hx hb dX1_joined_1 c1 (by decide) ?_
    replace hM := hM.neg (by omega)
    replace hM := hM.neg (by omega)
    replace hM := hM.neg (by omega)
    replace hM := hM.neg (by omega)
    replace hM := hM.neg (by omega)
    replace hM := hM.neg (by omega)
    replace hM := hM.neg (by omega)
    replace hM := hM.neg (by omega)
    replace hM := hM.neg (by omega)
    replace hM := hM.neg (by omega)
    replace hM := hM.neg (by omega)
    refine lv_lload_n hx hb dX1_joined_150 rfl (lv_at hl 1 rfl) ?_
    refine lv_lload_n hx hb dX1_joined_151 rfl (lv_at hl 2 rfl) ?_
    refine lv_lor hx hb dX1_joined_152 ?_
    refine lv_topl (fun x20 ex20 => ?_)
    have ezx20 := ex20
    replace hM := hM.lt (o64_e (f := fun x y => x ||| y) ezx20 rfl rfl)
    exact tk_lret hC hr hlocks hK ⟨hT, hF, hM.ret rfl, trivial⟩ hw dX1_joined_153
abbrev Py_X1_join_1 (ad : Nat → Nat) (cy : Nat → ClassId) (B : Int) (qr : Nat) (s1 : Int) (a1 : Int32) (w0 : va_W) : va_W → Prop := fun u => TW ksC ad cy B qr s1 u ∧ FE ksC [(1, 4, 4), (45, 0, 64)] w0 u ∧ Ev (fun n => m_X1_join n 149 a1.toInt (sL w0)) (0, sL u) ∧ (((∃ y : Int32, gi u 149 4 = y ∧ 0 ≤ y.toInt ∧ y.toInt ≤ 63)))
set_option maxHeartbeats 4000000 in
set_option maxRecDepth 100000 in
theorem ky_X1_join_1 (l : Launch) (adK adV : Nat → Nat) (dC : Nat → ClassId) (dI : Nat → Nat → Nat) (cy : Nat → ClassId) (ad : Nat → Nat) (B : Int) (hB0 : 2147483648 ≤ B) (hB1 : B ≤ 1152921504606846976) (qr : Nat) (s1 : Int)  (a1 : Int32) (ra1 : 10 ≤ a1.toInt) (ta1 : a1.toInt ≤ 31) (w0 : va_W) (sz : Nat) (hT : TW ksC ad cy B qr s1 w0)  : Met l yX1_join (wu yX1_join cX1_join 2 none) ({ frames := 2, cells := 0, slots := 0, locals := 36 }) (va_Pc [.ref (ad 149), .int a1] (wpreS adK adV dC dI cy sz w0)) (va_Qv (Py_X1_join_1 ad cy B qr s1 a1 w0) (fun u : va_W => wpost dC dI cy (va_A w0 sz) u) (va_A w0 sz)) 0 0 (va_A w0 sz) := by
  refine Met.ofW (cc := cX1_join) (maxL := 2) (ret := none) (by decide) rfl ?_
  intro p e s m args below meth c s₁ Bk hml hv
  obtain ⟨rfl, ⟨hsz, hP, hK, hD0⟩, hE, hSR⟩ := hv
  have hx := Bk.exec
  have hb := Bk.bytes
  have hr := Bk.returns
  have hlocks := Bk.notSynchronized
  have hC : CallFix p m c cX1_join 2 s _ (wu yX1_join cX1_join 2 none) RX1 := ⟨hx, hb, hml, findClass_of_methodNamed Bk.named, atoms_spec (ws := (wu yX1_join cX1_join 2 none)) Bk.pre⟩
  subst hsz
  have hD := hD0.self (sz := s.heap.size)
  generalize hAe : va_A w0 s.heap.size = A at hD hE ⊢
  have hA : ∀ q : Nat, s.heap.size ≤ q → A q := fun q h => by rw [← hAe]; exact Or.inr h
  have hw : Wd dC dI A s.heap s.heap [] w0 := ⟨hP, hD, va_S.rf⟩
  have hF : FE ksC [(1, 4, 4), (45, 0, 64)] w0 w0 := FE.rf
  have hl := lv_entry ([.ref (ad 149), .int a1]) (n := 2) (Nat.le_of_ble_eq_true rfl)
  rw [lg_entry_eq]
  generalize (lg_sl ([.ref (ad 149), .int a1]) ++ List.replicate (2 - (lg_sl ([.ref (ad 149), .int a1])).length) Slot.unset).toArray = ls at hl ⊢
  have hl : lv_has ls 2 [(0, .ref (ad 149)), (1, .int a1)] := hl
  generalize hloc : ([] : List Loc) = locs at hw ⊢
  have hinX1 : ∀ w ∈ u_ws RX1 TX1 10, w ∈ (wu yX1_join cX1_join 2 none) := fun _ h => List.mem_cons_of_mem _ (up_78 h)
  have J53 : ∀ (f53_149_4 : Int32) (H : Heap) (locs : List Loc) (ls : Array Slot) (w1 : va_W), 10 ≤ a1.toInt → a1.toInt ≤ 31 → 0 ≤ f53_149_4.toInt → f53_149_4.toInt ≤ 63 → Wd dC dI A s.heap H locs w1 → TW ksC ad cy B qr s1 w1 → FE ksC [(1, 4, 4), (45, 0, 64)] w0 w1 → gi w1 149 4 = f53_149_4 → TT (fun n => m_X1_join n 149 a1.toInt (sL w0)) (fun n => b_X1_join_53 n 149 (sL w1)) → lv_has ls 2 [(0, .ref (ad 149)), (1, .int a1)] → W p l e ({ frames := 2, cells := 0, slots := 0, locals := 36 }) s m (List.toArray [.ref (ad 149), .int a1]) below meth c H locs 0 0 (MQ below (va_Qv (Py_X1_join_1 ad cy B qr s1 a1 w0) (fun u : va_W => wpost dC dI cy A u) A) (List.toArray [.ref (ad 149), .int a1]) s 0 0 A) (F0 m 53 ls []) := by
    intro f53_149_4 H locs ls w1 r2 t3 r4 t5 hw hT hF c6 hM hl
    exact tk_vret hC hr hlocks hK ⟨hT, hF, hM.ret rfl, ⟨f53_149_4, c6, (show 0 ≤ f53_149_4.toInt from r4), (show f53_149_4.toInt ≤ 63 from t5)⟩⟩ hw dX1_join_53
  have hM : TT (fun n => m_X1_join n 149 a1.toInt (sL w0)) (fun n => m_X1_join n 149 a1.toInt (sL w0)) := TT.rf
  refine lv_aload_n hx hb dX1_join_0 rfl (lv_at hl 0 rfl) ?_
  refine tk_geti hC hK hw hT hinX1 kC_at149 (by decide) rfl 4 (by decide) (List.mem_cons_of_mem _ uw_44_19) rfl rfl dX1_join_1 (fun x7 c8 rx7 tx7 => ?_)
  replace hM := hM.rd (sL_at (kC_lt kC_at149) c8)
  refine lv_iconst (v := 1) hx hb dX1_join_4 (by decide) ?_
  refine lv_icmp_le (tgt := 53) hx hb dX1_join_5 (by decide) (fun c9 => ?_) (fun c9 => ?_)
  · have c9 : x7.toInt ≤ (1 : Int) := wk_le.mp c9
    replace hM := hM.pos c9
    exact J53 x7 s.heap locs ls w0 (show 10 ≤ a1.toInt from ra1) (show a1.toInt ≤ 31 from ta1) (show 0 ≤ x7.toInt from rx7) (show x7.toInt ≤ 63 by first | with_reducible assumption | omega)  hw hT hF c8 hM (lv_sub hl [0, 1] rfl)
  · have c9 : (1 : Int) < x7.toInt := wk_leF c9
    replace hM := hM.neg (Int.not_le.mpr c9)
    refine lv_aload_n hx hb dX1_join_8 rfl (lv_at hl 0 rfl) ?_
    refine lv_dup hx hb dX1_join_9 rfl ?_
    refine tk_geti hC hK hw hT hinX1 kC_at149 (by decide) rfl 4 (by decide) (List.mem_cons_of_mem _ uw_44_19) rfl rfl dX1_join_10 (fun x10 c11 rx10 tx10 => ?_)
    refine wk_top x7 (c11.symm.trans c8) ?_
    replace hM := hM.rd (sL_at (kC_lt kC_at149) c8)
    refine lv_iconst (v := 1) hx hb dX1_join_13 (by decide) ?_
    refine lv_isub hx hb dX1_join_14 ?_
    refine lv_topi (fun x12 ex12 => ?_)
    have ezx12 := ex12
    have ex12 : x12.toInt = x7.toInt - (1 : Int) := by rw [ex12]; exact wk_sub (show (-2147483648) ≤ x7.toInt - (1 : Int) by omega) (show x7.toInt - (1 : Int) ≤ 2147483647 by omega)
    replace hM := hM.lt ex12.symm
    have hTq := hT
    refine tk_puti hC hK hw hT hinX1 tyX1_ok nmX1 kC_at149 (by decide) rfl rfl 4 (by decide) (List.mem_cons_of_mem _ uw_44_19) rfl rfl rfl rfl (show 0 ≤ x12.toInt by first | with_reducible assumption | omega) (show x12.toInt ≤ 64 by first | with_reducible assumption | omega) dX1_join_15 (fun H locs w13 hw hT k15 c14 => ?_)
    replace hM := hM.wr (sL_upf hTq hT kC_at149 (kC_lt kC_at149) (by decide) rfl k15 c14 rfl)
    have hF := hF.put kC_at149 (k := 4) (by decide) k15
    refine lv_aload_n hx hb dX1_join_18 rfl (lv_at hl 0 rfl) ?_
    refine tk_getA hC hK hw hT hinX1 kC_at149 (by decide) rfl 3 (by decide) (List.mem_cons_of_mem _ uw_4_23) rfl rfl dX1_join_19 ?_
    refine lv_aload_n hx hb dX1_join_22 rfl (lv_at hl 0 rfl) ?_
    refine tk_geti hC hK hw hT hinX1 kC_at149 (by decide) rfl 4 (by decide) (List.mem_cons_of_mem _ uw_44_19) rfl rfl dX1_join_23 (fun x16 c17 rx16 tx16 => ?_)
    refine wk_top x12 (c17.symm.trans c14) ?_
    replace hM := hM.rd (sL_at (kC_lt kC_at149) c14)
    refine lv_iconst (v := 1) hx hb dX1_join_26 (by decide) ?_
    refine lv_isub hx hb dX1_join_27 ?_
    refine lv_topi (fun x18 ex18 => ?_)
    have ezx18 := ex18
    have ex18 : x18.toInt = x12.toInt - (1 : Int) := by rw [ex18]; exact wk_sub (show (-2147483648) ≤ x12.toInt - (1 : Int) by omega) (show x12.toInt - (1 : Int) ≤ 2147483647 by omega)
    replace hM := hM.lt ex18.symm
    refine lv_iload_n hx hb dX1_join_28 rfl (lv_at hl 1 rfl) ?_
    refine lv_aload_n hx hb dX1_join_29 rfl (lv_at hl 0 rfl) ?_
    refine tk_getA hC hK hw hT hinX1 kC_at149 (by decide) rfl 3 (by decide) (List.mem_cons_of_mem _ uw_4_23) rfl rfl dX1_join_30 ?_
    refine lv_aload_n hx hb dX1_join_33 rfl (lv_at hl 0 rfl) ?_
    refine tk_geti hC hK hw hT hinX1 kC_at149 (by decide) rfl 4 (by decide) (List.mem_cons_of_mem _ uw_44_19) rfl rfl dX1_join_34 (fun x19 c20 rx19 tx19 => ?_)
    refine wk_top x12 (c20.symm.trans c14) ?_
    replace hM := hM.rd (sL_at (kC_lt kC_at149) c14)
    refine lv_iconst (v := 1) hx hb dX1_join_37 (by decide) ?_
    refine lv_isub hx hb dX1_join_38 ?_
    refine lv_topi (fun x21 ex21 => ?_)
    have ezx21 := ex21
    have ex21 : x21.toInt = x12.toInt - (1 : Int) := by rw [ex21]; exact wk_sub (show (-2147483648) ≤ x12.toInt - (1 : Int) by omega) (show x12.toInt - (1 : Int) ≤ 2147483647 by omega)
    replace hM := hM.lt ex21.symm
    refine tk_laldv hC hK hw hT kC_at150 rfl (show 0 ≤ x21.toInt by first | with_reducible assumption | omega) (show x21.toInt < 64 by first | with_reducible assumption | omega) dX1_join_39 (fun x22 c23 => ?_)
    replace hM := hM.rd (sL_atl (kC_lt kC_at150) c23)
    refine lv_aload_n hx hb dX1_join_40 rfl (lv_at hl 0 rfl) ?_
    refine tk_getA hC hK hw hT hinX1 kC_at149 (by decide) rfl 3 (by decide) (List.mem_cons_of_mem _ uw_4_23) rfl rfl dX1_join_41 ?_
    refine lv_aload_n hx hb dX1_join_44 rfl (lv_at hl 0 rfl) ?_
    refine tk_geti hC hK hw hT hinX1 kC_at149 (by decide) rfl 4 (by decide) (List.mem_cons_of_mem _ uw_44_19) rfl rfl dX1_join_45 (fun x24 c25 rx24 tx24 => ?_)
    refine wk_top x12 (c25.symm.trans c14) ?_
    replace hM := hM.rd (sL_at (kC_lt kC_at149) c14)
    refine tk_laldv hC hK hw hT kC_at150 rfl (show 0 ≤ x12.toInt by first | with_reducible assumption | omega) (show x12.toInt < 64 by first | with_reducible assumption | omega) dX1_join_48 (fun x26 c27 => ?_)
    replace hM := hM.rd (sL_atl (kC_lt kC_at150) c27)
    refine tk_Sl hC hK hw hT hA hE hSR (ky_X1_joined_1 l adK adV dC dI cy ad B hB0 (Int.le_trans hB1 (by decide)) qr s1   a1 (show 10 ≤ a1.toInt from ra1) (show a1.toInt ≤ 31 from ta1) x22 x26 w13 H.size hT ) (va_cwS 3 hC.2.2.2.2 uS_RX1_192 rfl rfl rfl (by decide +kernel) ⟨Nat.le_of_ble_eq_true rfl, Nat.le_of_ble_eq_true rfl⟩) rfl hl.1 rfl (Nat.le_of_ble_eq_true rfl) dX1_join_49 (fun r28 w30 H locs hp29 hw => ?_)
    obtain ⟨hT, k31, hv33, hg32⟩ := hp29
    have hF := hF.tr k31 (by decide)
    have c34 := k31.gi kC_at149 (by decide) c14
    clear hg32
    replace hM := hM.call hv33 rfl
    have hTq := hT
    refine tk_lastv hC hK hw hT kC_at150 (by decide) rfl (show 0 ≤ x18.toInt by first | with_reducible assumption | omega) (show x18.toInt < 64 by first | with_reducible assumption | omega) dX1_join_52 (fun H locs w35 hw hT k37 c36 => ?_)
    replace hM := hM.wr (sL_upk hTq hT kC_at150 (kC_lt kC_at150) rfl k37 c36 rfl)
    have hF := hF.put kC_at150 (inE_of (a := 0) (b := 64) (by decide) (show 0 ≤ x18.toInt.toNat by omega) (show x18.toInt.toNat ≤ 64 by omega)) k37
    have c38 := k37.gi (Or.inl (tk_ne kC_at149 kC_at150 (by decide))) c34
    exact J53 x12 H locs ls w35 (show 10 ≤ a1.toInt from ra1) (show a1.toInt ≤ 31 from ta1) (show 0 ≤ x12.toInt by first | with_reducible assumption | omega) (show x12.toInt ≤ 63 by first | with_reducible assumption | omega)  hw hT hF c38 hM (lv_sub hl [0, 1] rfl)
abbrev Py_X1_turn_1 (ad : Nat → Nat) (cy : Nat → ClassId) (B : Int) (qr : Nat) (s1 : Int)  (w0 : va_W) : va_W → Prop := fun u => TW ksC ad cy B qr s1 u ∧ FE ksC [(45, 0, 64)] w0 u ∧ Ev (fun n => m_X1_turn n 149 (sL w0)) (0, sL u) ∧ ((True))
set_option maxHeartbeats 4000000 in
set_option maxRecDepth 100000 in
theorem ky_X1_turn_1 (l : Launch) (adK adV : Nat → Nat) (dC : Nat → ClassId) (dI : Nat → Nat → Nat) (cy : Nat → ClassId) (ad : Nat → Nat) (B : Int) (hB0 : 2147483648 ≤ B) (hB1 : B ≤ 1152921504606846976) (qr : Nat) (s1 : Int)   (w0 : va_W) (sz : Nat) (hT : TW ksC ad cy B qr s1 w0)  : Met l yX1_turn (wu yX1_turn cX1_turn 1 none) ({ frames := 1, cells := 0, slots := 0, locals := 12 }) (va_Pc [.ref (ad 149)] (wpreS adK adV dC dI cy sz w0)) (va_Qv (Py_X1_turn_1 ad cy B qr s1  w0) (fun u : va_W => wpost dC dI cy (va_A w0 sz) u) (va_A w0 sz)) 0 0 (va_A w0 sz) := by
  refine Met.ofW (cc := cX1_turn) (maxL := 1) (ret := none) (by decide) rfl ?_
  intro p e s m args below meth c s₁ Bk hml hv
  obtain ⟨rfl, ⟨hsz, hP, hK, hD0⟩, hE, hSR⟩ := hv
  have hx := Bk.exec
  have hb := Bk.bytes
  have hr := Bk.returns
  have hlocks := Bk.notSynchronized
  have hC : CallFix p m c cX1_turn 1 s _ (wu yX1_turn cX1_turn 1 none) RX1 := ⟨hx, hb, hml, findClass_of_methodNamed Bk.named, atoms_spec (ws := (wu yX1_turn cX1_turn 1 none)) Bk.pre⟩
  subst hsz
  have hD := hD0.self (sz := s.heap.size)
  generalize hAe : va_A w0 s.heap.size = A at hD hE ⊢
  have hA : ∀ q : Nat, s.heap.size ≤ q → A q := fun q h => by rw [← hAe]; exact Or.inr h
  have hw : Wd dC dI A s.heap s.heap [] w0 := ⟨hP, hD, va_S.rf⟩
  have hF : FE ksC [(45, 0, 64)] w0 w0 := FE.rf
  have hl := lv_entry ([.ref (ad 149)]) (n := 1) (Nat.le_of_ble_eq_true rfl)
  rw [lg_entry_eq]
  generalize (lg_sl ([.ref (ad 149)]) ++ List.replicate (1 - (lg_sl ([.ref (ad 149)])).length) Slot.unset).toArray = ls at hl ⊢
  have hl : lv_has ls 1 [(0, .ref (ad 149))] := hl
  generalize hloc : ([] : List Loc) = locs at hw ⊢
  have hinX1 : ∀ w ∈ u_ws RX1 TX1 10, w ∈ (wu yX1_turn cX1_turn 1 none) := fun _ h => List.mem_cons_of_mem _ (up_78 h)
  have J31 : ∀ (f31_149_4 : Int32) (H : Heap) (locs : List Loc) (ls : Array Slot) (w1 : va_W), 0 ≤ f31_149_4.toInt → f31_149_4.toInt ≤ 64 → Wd dC dI A s.heap H locs w1 → TW ksC ad cy B qr s1 w1 → FE ksC [(45, 0, 64)] w0 w1 → gi w1 149 4 = f31_149_4 → TT (fun n => m_X1_turn n 149 (sL w0)) (fun n => b_X1_turn_31 n 149 (sL w1)) → lv_has ls 1 [(0, .ref (ad 149))] → W p l e ({ frames := 1, cells := 0, slots := 0, locals := 12 }) s m (List.toArray [.ref (ad 149)]) below meth c H locs 0 0 (MQ below (va_Qv (Py_X1_turn_1 ad cy B qr s1  w0) (fun u : va_W => wpost dC dI cy A u) A) (List.toArray [.ref (ad 149)]) s 0 0 A) (F0 m 31 ls []) := by
    intro f31_149_4 H locs ls w1 r2 t3 hw hT hF c4 hM hl
    exact tk_vret hC hr hlocks hK ⟨hT, hF, hM.ret rfl, trivial⟩ hw dX1_turn_31
  have hM : TT (fun n => m_X1_turn n 149 (sL w0)) (fun n => m_X1_turn n 149 (sL w0)) := TT.rf
  refine lv_aload_n hx hb dX1_turn_0 rfl (lv_at hl 0 rfl) ?_
  refine tk_geti hC hK hw hT hinX1 kC_at149 (by decide) rfl 4 (by decide) (List.mem_cons_of_mem _ uw_44_19) rfl rfl dX1_turn_1 (fun x5 c6 rx5 tx5 => ?_)
  replace hM := hM.rd (sL_at (kC_lt kC_at149) c6)
  refine lv_if_le (tgt := 31) hx hb dX1_turn_4 (by decide) (fun c7 => ?_) (fun c7 => ?_)
  · have c7 : x5.toInt ≤ (0 : Int) := wk_le.mp c7
    replace hM := hM.pos c7
    exact J31 x5 s.heap locs ls w0 (show 0 ≤ x5.toInt from rx5) (show x5.toInt ≤ 64 from tx5)  hw hT hF c6 hM (lv_sub hl [0] rfl)
  · have c7 : (0 : Int) < x5.toInt := wk_leF c7
    replace hM := hM.neg (Int.not_le.mpr c7)
    refine lv_aload_n hx hb dX1_turn_7 rfl (lv_at hl 0 rfl) ?_
    refine tk_getA hC hK hw hT hinX1 kC_at149 (by decide) rfl 3 (by decide) (List.mem_cons_of_mem _ uw_4_23) rfl rfl dX1_turn_8 ?_
    refine lv_aload_n hx hb dX1_turn_11 rfl (lv_at hl 0 rfl) ?_
    refine tk_geti hC hK hw hT hinX1 kC_at149 (by decide) rfl 4 (by decide) (List.mem_cons_of_mem _ uw_44_19) rfl rfl dX1_turn_12 (fun x8 c9 rx8 tx8 => ?_)
    refine wk_top x5 (c9.symm.trans c6) ?_
    replace hM := hM.rd (sL_at (kC_lt kC_at149) c6)
    refine lv_iconst (v := 1) hx hb dX1_turn_15 (by decide) ?_
    refine lv_isub hx hb dX1_turn_16 ?_
    refine lv_topi (fun x10 ex10 => ?_)
    have ezx10 := ex10
    have ex10 : x10.toInt = x5.toInt - (1 : Int) := by rw [ex10]; exact wk_sub (show (-2147483648) ≤ x5.toInt - (1 : Int) by omega) (show x5.toInt - (1 : Int) ≤ 2147483647 by omega)
    replace hM := hM.lt ex10.symm
    refine lv_lconst (v := 1) hx hb dX1_turn_17 (by decide) ?_
    refine lv_aload_n hx hb dX1_turn_18 rfl (lv_at hl 0 rfl) ?_
    refine tk_getA hC hK hw hT hinX1 kC_at149 (by decide) rfl 3 (by decide) (List.mem_cons_of_mem _ uw_4_23) rfl rfl dX1_turn_19 ?_
    refine lv_aload_n hx hb dX1_turn_22 rfl (lv_at hl 0 rfl) ?_
    refine tk_geti hC hK hw hT hinX1 kC_at149 (by decide) rfl 4 (by decide) (List.mem_cons_of_mem _ uw_44_19) rfl rfl dX1_turn_23 (fun x11 c12 rx11 tx11 => ?_)
    refine wk_top x5 (c12.symm.trans c6) ?_
    replace hM := hM.rd (sL_at (kC_lt kC_at149) c6)
    refine lv_iconst (v := 1) hx hb dX1_turn_26 (by decide) ?_
    refine lv_isub hx hb dX1_turn_27 ?_
    refine lv_topi (fun x13 ex13 => ?_)
    have ezx13 := ex13
    have ex13 : x13.toInt = x5.toInt - (1 : Int) := by rw [ex13]; exact wk_sub (show (-2147483648) ≤ x5.toInt - (1 : Int) by omega) (show x5.toInt - (1 : Int) ≤ 2147483647 by omega)
    replace hM := hM.lt ex13.symm
    refine tk_laldv hC hK hw hT kC_at150 rfl (show 0 ≤ x13.toInt by first | with_reducible assumption | omega) (show x13.toInt < 64 by first | with_reducible assumption | omega) dX1_turn_28 (fun x14 c15 => ?_)
    replace hM := hM.rd (sL_atl (kC_lt kC_at150) c15)
    refine lv_lsub hx hb dX1_turn_29 ?_
    have nx16 := wk_i64 x14
    refine lv_topl (fun x17 ex17 => ?_)
    have ezx17 := ex17
    replace hM := hM.lt (o64_e (f := fun x y => x - y) ezx17 (by decide) rfl)
    have hTq := hT
    refine tk_lastv hC hK hw hT kC_at150 (by decide) rfl (show 0 ≤ x10.toInt by first | with_reducible assumption | omega) (show x10.toInt < 64 by first | with_reducible assumption | omega) dX1_turn_30 (fun H locs w18 hw hT k20 c19 => ?_)
    replace hM := hM.wr (sL_upk hTq hT kC_at150 (kC_lt kC_at150) rfl k20 c19 rfl)
    have hF := hF.put kC_at150 (inE_of (a := 0) (b := 64) (by decide) (show 0 ≤ x10.toInt.toNat by omega) (show x10.toInt.toNat ≤ 64 by omega)) k20
    have c21 := k20.gi (Or.inl (tk_ne kC_at149 kC_at150 (by decide))) c6
    exact J31 x5 H locs ls w18 (show 0 ≤ x5.toInt from rx5) (show x5.toInt ≤ 64 from tx5)  hw hT hF c21 hM (lv_sub hl [0] rfl)
abbrev Py_X1_valueOf_1 (ad : Nat → Nat) (cy : Nat → ClassId) (B : Int) (qr : Nat) (s1 : Int) (a2 : Int32) (w0 : va_W) : Int64 → va_W → Prop := fun r u => TW ksC ad cy B qr s1 u ∧ FE ksC ([] : List (Nat × Nat × Nat)) w0 u ∧ Ev (fun n => m_X1_valueOf n 149 152 a2.toInt (sL w0)) (r.toInt, sL u) ∧ (((-2147483648) ≤ r.toInt ∧ r.toInt ≤ 2147483647))
set_option maxHeartbeats 4000000 in
set_option maxRecDepth 100000 in
theorem ky_X1_valueOf_1 (l : Launch) (adK adV : Nat → Nat) (dC : Nat → ClassId) (dI : Nat → Nat → Nat) (cy : Nat → ClassId) (ad : Nat → Nat) (B : Int) (hB0 : 2147483648 ≤ B) (hB1 : B ≤ 1152921504606846976) (qr : Nat) (s1 : Int)  (a2 : Int32) (ta2 : a2.toInt ≤ 9) (w0 : va_W) (sz : Nat) (hT : TW ksC ad cy B qr s1 w0)  : Met l yX1_valueOf (wu yX1_valueOf cX1_valueOf 3 (some .long)) ({ frames := 2, cells := 0, slots := 0, locals := 32 }) (va_Pc [.ref (ad 149), .ref (ad 152), .int a2] (wpreS adK adV dC dI cy sz w0)) (va_Ql (Py_X1_valueOf_1 ad cy B qr s1 a2 w0) (fun u : va_W => wpost dC dI cy (va_A w0 sz) u) (va_A w0 sz)) 0 0 (va_A w0 sz) := by
  refine Met.ofW (cc := cX1_valueOf) (maxL := 3) (ret := (some .long)) (by decide) rfl ?_
  intro p e s m args below meth c s₁ Bk hml hv
  obtain ⟨rfl, ⟨hsz, hP, hK, hD0⟩, hE, hSR⟩ := hv
  have hx := Bk.exec
  have hb := Bk.bytes
  have hr := Bk.returns
  have hlocks := Bk.notSynchronized
  have hC : CallFix p m c cX1_valueOf 3 s _ (wu yX1_valueOf cX1_valueOf 3 (some .long)) RX1 := ⟨hx, hb, hml, findClass_of_methodNamed Bk.named, atoms_spec (ws := (wu yX1_valueOf cX1_valueOf 3 (some .long))) Bk.pre⟩
  subst hsz
  have hD := hD0.self (sz := s.heap.size)
  generalize hAe : va_A w0 s.heap.size = A at hD hE ⊢
  have hA : ∀ q : Nat, s.heap.size ≤ q → A q := fun q h => by rw [← hAe]; exact Or.inr h
  have hw : Wd dC dI A s.heap s.heap [] w0 := ⟨hP, hD, va_S.rf⟩
  have hF : FE ksC ([] : List (Nat × Nat × Nat)) w0 w0 := FE.rf
  have hl := lv_entry ([.ref (ad 149), .ref (ad 152), .int a2]) (n := 3) (Nat.le_of_ble_eq_true rfl)
  rw [lg_entry_eq]
  generalize (lg_sl ([.ref (ad 149), .ref (ad 152), .int a2]) ++ List.replicate (3 - (lg_sl ([.ref (ad 149), .ref (ad 152), .int a2])).length) Slot.unset).toArray = ls at hl ⊢
  have hl : lv_has ls 3 [(0, .ref (ad 149)), (1, .ref (ad 152)), (2, .int a2)] := hl
  generalize hloc : ([] : List Loc) = locs at hw ⊢
  have hinX9 : ∀ w ∈ u_ws RX9 TX9 9, w ∈ (wu yX1_valueOf cX1_valueOf 3 (some .long)) := fun _ h => List.mem_cons_of_mem _ (up_82 h)
  have hinX1 : ∀ w ∈ u_ws RX1 TX1 10, w ∈ (wu yX1_valueOf cX1_valueOf 3 (some .long)) := fun _ h => List.mem_cons_of_mem _ (up_78 h)
  have hM : TT (fun n => m_X1_valueOf n 149 152 a2.toInt (sL w0)) (fun n => m_X1_valueOf n 149 152 a2.toInt (sL w0)) := TT.rf
  refine lv_iload_n hx hb dX1_valueOf_0 rfl (lv_at hl 2 rfl) ?_
  rcases (show a2.toInt = 0 ∨ a2.toInt = 1 ∨ a2.toInt = 2 ∨ a2.toInt = 3 ∨ a2.toInt = 4 ∨ a2.toInt = 5 ∨ a2.toInt = 6 ∨ a2.toInt = 7 ∨ a2.toInt = 8 ∨ (a2.toInt < 0 ∨ 8 < a2.toInt) by omega) with c1 | c1 | c1 | c1 | c1 | c1 | c1 | c1 | c1 | c1
  · refine lv_tableIn (off := 51) (tgt := 52) hx hb dX1_valueOf_1 (by omega) (by omega) (by rw [c1]; rfl) (by decide) ?_
    replace hM := hM.pos (by omega)
    refine lv_aload_n hx hb dX1_valueOf_52 rfl (lv_at hl 1 rfl) ?_
    refine tk_getB hC hK hw hT hinX9 kC_at152 (by decide) rfl 4 (by decide) (List.mem_cons_of_mem _ uw_42_10) rfl rfl dX1_valueOf_53 (fun x2 c3 rx2 tx2 => ?_)
    replace hM := hM.rd (sL_atl (kC_lt kC_at152) c3)
    refine lv_ldc2 (v := 24) hx hb hC.2.2.2.1 (hC.2.2.2.2 _ (List.mem_cons_of_mem _ uw_45_12)) dX1_valueOf_56 ?_
    refine lv_lrem hx hb dX1_valueOf_59 (by decide) ?_
    refine lv_topl (fun x4 ex4 => ?_)
    have ezx4 := ex4
    have ex4 : x4.toInt = x2.toInt % (24 : Int) := by rw [ex4]; exact wk_reml (show 0 ≤ x2.toInt by first | with_reducible assumption | omega) (show 0 < (24 : Int) by decide)
    replace hM := hM.lt ex4.symm
    exact tk_lret hC hr hlocks hK ⟨hT, hF, hM.ret rfl, ⟨(show (-2147483648) ≤ x4.toInt by first | with_reducible assumption | omega), (show x4.toInt ≤ 2147483647 by first | with_reducible assumption | omega)⟩⟩ hw dX1_valueOf_60
  · refine lv_tableIn (off := 60) (tgt := 61) hx hb dX1_valueOf_1 (by omega) (by omega) (by rw [c1]; rfl) (by decide) ?_
    replace hM := hM.neg (by omega)
    replace hM := hM.pos (by omega)
    refine lv_aload_n hx hb dX1_valueOf_61 rfl (lv_at hl 1 rfl) ?_
    refine tk_Vl hC hK hw hT hA hE hSR kC_at152 (by decide) rfl (ky_X9_dayNow_1 l adK adV dC dI cy ad B hB0 (Int.le_trans hB1 (by decide)) qr s1    w0 s.heap.size hT ) (cwV 0 hC.2.2.2.2 uV_RX1_68 rfl rfl rfl (by decide +kernel) ⟨Nat.le_of_ble_eq_true rfl, Nat.le_of_ble_eq_true rfl⟩) rfl hl.1 rfl (Nat.le_of_ble_eq_true rfl) dX1_valueOf_62 (fun r5 w7 H locs hp6 hw => ?_)
    obtain ⟨hT, k8, hv12, hg11⟩ := hp6
    have hF := hF.tr k8 (by decide)
    obtain ⟨g9, g10⟩ := hg11
    replace hM := hM.call hv12 rfl
    refine lv_ldc2 (v := 7) hx hb hC.2.2.2.1 (hC.2.2.2.2 _ (List.mem_cons_of_mem _ uw_45_13)) dX1_valueOf_65 ?_
    refine lv_lrem hx hb dX1_valueOf_68 (by decide) ?_
    refine lv_topl (fun x13 ex13 => ?_)
    have ezx13 := ex13
    have ex13 : x13.toInt = r5.toInt % (7 : Int) := by rw [ex13]; exact wk_reml (show 0 ≤ r5.toInt by first | with_reducible assumption | omega) (show 0 < (7 : Int) by decide)
    replace hM := hM.lt ex13.symm
    exact tk_lret hC hr hlocks hK ⟨hT, hF, hM.ret rfl, ⟨(show (-2147483648) ≤ x13.toInt by first | with_reducible assumption | omega), (show x13.toInt ≤ 2147483647 by first | with_reducible assumption | omega)⟩⟩ hw dX1_valueOf_69
  · refine lv_tableIn (off := 69) (tgt := 70) hx hb dX1_valueOf_1 (by omega) (by omega) (by rw [c1]; rfl) (by decide) ?_
    replace hM := hM.neg (by omega)
    replace hM := hM.neg (by omega)
    replace hM := hM.pos (by omega)
    refine lv_aload_n hx hb dX1_valueOf_70 rfl (lv_at hl 0 rfl) ?_
    refine tk_geti hC hK hw hT hinX1 kC_at149 (by decide) rfl 9 (by decide) (List.mem_cons_of_mem _ uw_42_20) rfl rfl dX1_valueOf_71 (fun x14 c15 rx14 tx14 => ?_)
    replace hM := hM.rd (sL_at (kC_lt kC_at149) c15)
    refine lv_if_eq (tgt := 81) hx hb dX1_valueOf_74 (by decide) (fun c16 => ?_) (fun c16 => ?_)
    · have c16 : x14.toInt = (0 : Int) := wk_eq.mp c16
      replace hM := hM.pos c16
      refine lv_aload_n hx hb dX1_valueOf_81 rfl (lv_at hl 1 rfl) ?_
      refine tk_Vl hC hK hw hT hA hE hSR kC_at152 (by decide) rfl (ky_X9_dayNow_1 l adK adV dC dI cy ad B hB0 (Int.le_trans hB1 (by decide)) qr s1    w0 s.heap.size hT ) (cwV 0 hC.2.2.2.2 uV_RX1_68 rfl rfl rfl (by decide +kernel) ⟨Nat.le_of_ble_eq_true rfl, Nat.le_of_ble_eq_true rfl⟩) rfl hl.1 rfl (Nat.le_of_ble_eq_true rfl) dX1_valueOf_82 (fun r17 w19 H locs hp18 hw => ?_)
      obtain ⟨hT, k20, hv24, hg23⟩ := hp18
      have hF := hF.tr k20 (by decide)
      have c25 := k20.gi kC_at149 (by decide) c15
      obtain ⟨g21, g22⟩ := hg23
      replace hM := hM.call hv24 rfl
      refine lv_ldc2 (v := 360) hx hb hC.2.2.2.1 (hC.2.2.2.2 _ (List.mem_cons_of_mem _ uw_45_14)) dX1_valueOf_85 ?_
      refine lv_lrem hx hb dX1_valueOf_88 (by decide) ?_
      refine lv_topl (fun x26 ex26 => ?_)
      have ezx26 := ex26
      have ex26 : x26.toInt = r17.toInt % (360 : Int) := by rw [ex26]; exact wk_reml (show 0 ≤ r17.toInt by first | with_reducible assumption | omega) (show 0 < (360 : Int) by decide)
      replace hM := hM.lt ex26.symm
      exact tk_lret hC hr hlocks hK ⟨hT, hF, hM.ret rfl, ⟨(show (-2147483648) ≤ x26.toInt by first | with_reducible assumption | omega), (show x26.toInt ≤ 2147483647 by first | with_reducible assumption | omega)⟩⟩ hw dX1_valueOf_89
    · have c16 : ¬ x14.toInt = (0 : Int) := wk_eqF c16
      replace hM := hM.neg c16
      refine lv_lconst (v := 0) hx hb dX1_valueOf_77 (by decide) ?_
      refine lv_goto (tgt := 89) hx hb dX1_valueOf_78 (by decide) ?_
      exact tk_lret hC hr hlocks hK ⟨hT, hF, hM.ret (by decide), ⟨(by decide), (by decide)⟩⟩ hw dX1_valueOf_89
  · refine lv_tableIn (off := 89) (tgt := 90) hx hb dX1_valueOf_1 (by omega) (by omega) (by rw [c1]; rfl) (by decide) ?_
    replace hM := hM.neg (by omega)
    replace hM := hM.neg (by omega)
    replace hM := hM.neg (by omega)
    replace hM := hM.pos (by omega)
    refine lv_aload_n hx hb dX1_valueOf_90 rfl (lv_at hl 1 rfl) ?_
    refine tk_geti hC hK hw hT hinX9 kC_at152 (by decide) rfl 0 (by decide) (List.mem_cons_of_mem _ uw_42_22) rfl rfl dX1_valueOf_91 (fun x27 c28 rx27 tx27 => ?_)
    replace hM := hM.rd (sL_at (kC_lt kC_at152) c28)
    refine lv_i2l hx hb dX1_valueOf_94 rfl ?_
    refine lv_topl (fun x29 ex29 => ?_)
    have ex29 : x29.toInt = x27.toInt := by rw [ex29]; exact wk_i2l _
    have bx29 := wk_i32 x27
    replace hM := hM.lt ex29.symm
    exact tk_lret hC hr hlocks hK ⟨hT, hF, hM.ret rfl, ⟨(show (-2147483648) ≤ x29.toInt by first | with_reducible assumption | omega), (show x29.toInt ≤ 2147483647 by first | with_reducible assumption | omega)⟩⟩ hw dX1_valueOf_95
  · refine lv_tableIn (off := 95) (tgt := 96) hx hb dX1_valueOf_1 (by omega) (by omega) (by rw [c1]; rfl) (by decide) ?_
    replace hM := hM.neg (by omega)
    replace hM := hM.neg (by omega)
    replace hM := hM.neg (by omega)
    replace hM := hM.neg (by omega)
    replace hM := hM.pos (by omega)
    refine lv_aload_n hx hb dX1_valueOf_96 rfl (lv_at hl 1 rfl) ?_
    refine tk_geti hC hK hw hT hinX9 kC_at152 (by decide) rfl 1 (by decide) (List.mem_cons_of_mem _ uw_42_23) rfl rfl dX1_valueOf_97 (fun x30 c31 rx30 tx30 => ?_)
    replace hM := hM.rd (sL_at (kC_lt kC_at152) c31)
    refine lv_i2l hx hb dX1_valueOf_100 rfl ?_
    refine lv_topl (fun x32 ex32 => ?_)
    have ex32 : x32.toInt = x30.toInt := by rw [ex32]; exact wk_i2l _
    have bx32 := wk_i32 x30
    replace hM := hM.lt ex32.symm
    exact tk_lret hC hr hlocks hK ⟨hT, hF, hM.ret rfl, ⟨(show (-2147483648) ≤ x32.toInt by first | with_reducible assumption | omega), (show x32.toInt ≤ 2147483647 by first | with_reducible assumption | omega)⟩⟩ hw dX1_valueOf_101
  · refine lv_tableIn (off := 101) (tgt := 102) hx hb dX1_valueOf_1 (by omega) (by omega) (by rw [c1]; rfl) (by decide) ?_
    replace hM := hM.neg (by omega)
    replace hM := hM.neg (by omega)
    replace hM := hM.neg (by omega)
    replace hM := hM.neg (by omega)
    replace hM := hM.neg (by omega)
    replace hM := hM.pos (by omega)
    refine lv_aload_n hx hb dX1_valueOf_102 rfl (lv_at hl 0 rfl) ?_
    refine tk_geti hC hK hw hT hinX1 kC_at149 (by decide) rfl 6 (by decide) (List.mem_cons_of_mem _ uw_42_5) rfl rfl dX1_valueOf_103 (fun x33 c34 rx33 tx33 => ?_)
    replace hM := hM.rd (sL_at (kC_lt kC_at149) c34)
    refine lv_if_eq (tgt := 113) hx hb dX1_valueOf_106 (by decide) (fun c35 => ?_) (fun c35 => ?_)
    · have c35 : x33.toInt = (0 : Int) := wk_eq.mp c35
      replace hM := hM.pos c35
      refine lv_lconst (v := 1) hx hb dX1_valueOf_113 (by decide) ?_
      exact tk_lret hC hr hlocks hK ⟨hT, hF, hM.ret (by decide), ⟨(by decide), (by decide)⟩⟩ hw dX1_valueOf_114
    · have c35 : ¬ x33.toInt = (0 : Int) := wk_eqF c35
      replace hM := hM.neg c35
      refine lv_lconst (v := 0) hx hb dX1_valueOf_109 (by decide) ?_
      refine lv_goto (tgt := 114) hx hb dX1_valueOf_110 (by decide) ?_
      exact tk_lret hC hr hlocks hK ⟨hT, hF, hM.ret (by decide), ⟨(by decide), (by decide)⟩⟩ hw dX1_valueOf_114
  · refine lv_tableIn (off := 114) (tgt := 115) hx hb dX1_valueOf_1 (by omega) (by omega) (by rw [c1]; rfl) (by decide) ?_
    replace hM := hM.neg (by omega)
    replace hM := hM.neg (by omega)
    replace hM := hM.neg (by omega)
    replace hM := hM.neg (by omega)
    replace hM := hM.neg (by omega)
    replace hM := hM.neg (by omega)
    replace hM := hM.pos (by omega)
    refine lv_aload_n hx hb dX1_valueOf_115 rfl (lv_at hl 0 rfl) ?_
    refine tk_geti hC hK hw hT hinX1 kC_at149 (by decide) rfl 8 (by decide) (List.mem_cons_of_mem _ uw_43_1) rfl rfl dX1_valueOf_116 (fun x36 c37 rx36 tx36 => ?_)
    replace hM := hM.rd (sL_at (kC_lt kC_at149) c37)
    refine lv_i2l hx hb dX1_valueOf_119 rfl ?_
    refine lv_topl (fun x38 ex38 => ?_)
    have ex38 : x38.toInt = x36.toInt := by rw [ex38]; exact wk_i2l _
    have bx38 := wk_i32 x36
    replace hM := hM.lt ex38.symm
    exact tk_lret hC hr hlocks hK ⟨hT, hF, hM.ret rfl, ⟨(show (-2147483648) ≤ x38.toInt by first | with_reducible assumption | omega), (show x38.toInt ≤ 2147483647 by first | with_reducible assumption | omega)⟩⟩ hw dX1_valueOf_120
  · refine lv_tableIn (off := 120) (tgt := 121) hx hb dX1_valueOf_1 (by omega) (by omega) (by rw [c1]; rfl) (by decide) ?_
    replace hM := hM.neg (by omega)
    replace hM := hM.neg (by omega)
    replace hM := hM.neg (by omega)
    replace hM := hM.neg (by omega)
    replace hM := hM.neg (by omega)
    replace hM := hM.neg (by omega)
    replace hM := hM.neg (by omega)
    replace hM := hM.pos (by omega)
    refine lv_aload_n hx hb dX1_valueOf_121 rfl (lv_at hl 0 rfl) ?_
    refine tk_geti hC hK hw hT hinX1 kC_at149 (by decide) rfl 9 (by decide) (List.mem_cons_of_mem _ uw_42_20) rfl rfl dX1_valueOf_122 (fun x39 c40 rx39 tx39 => ?_)
    replace hM := hM.rd (sL_at (kC_lt kC_at149) c40)
    refine lv_if_eq (tgt := 132) hx hb dX1_valueOf_125 (by decide) (fun c41 => ?_) (fun c41 => ?_)
    · have c41 : x39.toInt = (0 : Int) := wk_eq.mp c41
      replace hM := hM.pos c41
      refine lv_aload_n hx hb dX1_valueOf_132 rfl (lv_at hl 1 rfl) ?_
      refine tk_geti hC hK hw hT hinX9 kC_at152 (by decide) rfl 5 (by decide) (List.mem_cons_of_mem _ uw_42_11) rfl rfl dX1_valueOf_133 (fun x42 c43 rx42 tx42 => ?_)
      replace hM := hM.rd (sL_at (kC_lt kC_at152) c43)
      refine lv_i2l hx hb dX1_valueOf_136 rfl ?_
      refine lv_topl (fun x44 ex44 => ?_)
      have ex44 : x44.toInt = x42.toInt := by rw [ex44]; exact wk_i2l _
      have bx44 := wk_i32 x42
      replace hM := hM.lt ex44.symm
      exact tk_lret hC hr hlocks hK ⟨hT, hF, hM.ret rfl, ⟨(show (-2147483648) ≤ x44.toInt by first | with_reducible assumption | omega), (show x44.toInt ≤ 2147483647 by first | with_reducible assumption | omega)⟩⟩ hw dX1_valueOf_137
    · have c41 : ¬ x39.toInt = (0 : Int) := wk_eqF c41
      replace hM := hM.neg c41
      refine lv_lconst (v := 0) hx hb dX1_valueOf_128 (by decide) ?_
      refine lv_goto (tgt := 137) hx hb dX1_valueOf_129 (by decide) ?_
      exact tk_lret hC hr hlocks hK ⟨hT, hF, hM.ret (by decide), ⟨(by decide), (by decide)⟩⟩ hw dX1_valueOf_137
  · refine lv_tableIn (off := 137) (tgt := 138) hx hb dX1_valueOf_1 (by omega) (by omega) (by rw [c1]; rfl) (by decide) ?_
    replace hM := hM.neg (by omega)
    replace hM := hM.neg (by omega)
    replace hM := hM.neg (by omega)
    replace hM := hM.neg (by omega)
    replace hM := hM.neg (by omega)
    replace hM := hM.neg (by omega)
    replace hM := hM.neg (by omega)
    replace hM := hM.neg (by omega)
    replace hM := hM.pos (by omega)
    refine lv_aload_n hx hb dX1_valueOf_138 rfl (lv_at hl 1 rfl) ?_
    refine tk_geti hC hK hw hT hinX9 kC_at152 (by decide) rfl 6 (by decide) (List.mem_cons_of_mem _ uw_42_9) rfl rfl dX1_valueOf_139 (fun x45 c46 rx45 tx45 => ?_)
    replace hM := hM.rd (sL_at (kC_lt kC_at152) c46)
    refine lv_i2l hx hb dX1_valueOf_142 rfl ?_
    refine lv_topl (fun x47 ex47 => ?_)
    have ex47 : x47.toInt = x45.toInt := by rw [ex47]; exact wk_i2l _
    have bx47 := wk_i32 x45
    replace hM := hM.lt ex47.symm
    exact tk_lret hC hr hlocks hK ⟨hT, hF, hM.ret rfl, ⟨(show (-2147483648) ≤ x47.toInt by first | with_reducible assumption | omega), (show x47.toInt ≤ 2147483647 by first | with_reducible assumption | omega)⟩⟩ hw dX1_valueOf_143
  · refine lv_tableOut (tgt := 144) hx hb dX1_valueOf_1 c1 (by decide) ?_
    replace hM := hM.neg (by omega)
    replace hM := hM.neg (by omega)
    replace hM := hM.neg (by omega)
    replace hM := hM.neg (by omega)
    replace hM := hM.neg (by omega)
    replace hM := hM.neg (by omega)
    replace hM := hM.neg (by omega)
    replace hM := hM.neg (by omega)
    replace hM := hM.neg (by omega)
    refine lv_aload_n hx hb dX1_valueOf_144 rfl (lv_at hl 1 rfl) ?_
    refine tk_geti hC hK hw hT hinX9 kC_at152 (by decide) rfl 7 (by decide) (List.mem_cons_of_mem _ uw_45_15) rfl rfl dX1_valueOf_145 (fun x48 c49 rx48 tx48 => ?_)
    replace hM := hM.rd (sL_at (kC_lt kC_at152) c49)
    refine lv_iconst (v := (-1)) hx hb dX1_valueOf_148 (by decide) ?_
    refine lv_icmp_ne (tgt := 158) hx hb dX1_valueOf_149 (by decide) (fun c50 => ?_) (fun c50 => ?_)
    · have c50 : ¬ x48.toInt = (-1 : Int) := wk_eqF c50
      replace hM := hM.pos c50
      refine lv_aload_n hx hb dX1_valueOf_158 rfl (lv_at hl 1 rfl) ?_
      refine tk_geti hC hK hw hT hinX9 kC_at152 (by decide) rfl 7 (by decide) (List.mem_cons_of_mem _ uw_45_15) rfl rfl dX1_valueOf_159 (fun x51 c52 rx51 tx51 => ?_)
      refine wk_top x48 (c52.symm.trans c49) ?_
      replace hM := hM.rd (sL_at (kC_lt kC_at152) c49)
      refine lv_i2l hx hb dX1_valueOf_162 rfl ?_
      refine lv_topl (fun x53 ex53 => ?_)
      have ex53 : x53.toInt = x48.toInt := by rw [ex53]; exact wk_i2l _
      have bx53 := wk_i32 x48
      replace hM := hM.lt ex53.symm
      exact tk_lret hC hr hlocks hK ⟨hT, hF, hM.ret rfl, ⟨(show (-2147483648) ≤ x53.toInt by first | with_reducible assumption | omega), (show x53.toInt ≤ 2147483647 by first | with_reducible assumption | omega)⟩⟩ hw dX1_valueOf_163
    · have c50 : x48.toInt = (-1 : Int) := wk_eq.mp c50
      replace hM := hM.neg (fun q => q c50)
      refine lv_ldc2 (v := 99) hx hb hC.2.2.2.1 (hC.2.2.2.2 _ (List.mem_cons_of_mem _ uw_45_16)) dX1_valueOf_152 ?_
      refine lv_goto (tgt := 163) hx hb dX1_valueOf_155 (by decide) ?_
      exact tk_lret hC hr hlocks hK ⟨hT, hF, hM.ret (by decide), ⟨(by decide), (by decide)⟩⟩ hw dX1_valueOf_163
abbrev Py_X1_push_1 (ad : Nat → Nat) (cy : Nat → ClassId) (B : Int) (qr : Nat) (s1 : Int) (a1 : Int64) (w0 : va_W) : va_W → Prop := fun u => TW ksC ad cy B qr s1 u ∧ FE ksC [(1, 4, 4), (45, 0, 64)] w0 u ∧ Ev (fun n => m_X1_push n 149 a1.toInt (sL w0)) (0, sL u) ∧ (((∃ y : Int32, gi u 149 4 = y ∧ 1 ≤ y.toInt ∧ y.toInt ≤ 64)))
set_option maxHeartbeats 4000000 in
set_option maxRecDepth 100000 in
theorem ky_X1_push_1 (l : Launch) (adK adV : Nat → Nat) (dC : Nat → ClassId) (dI : Nat → Nat → Nat) (cy : Nat → ClassId) (ad : Nat → Nat) (B : Int) (hB0 : 2147483648 ≤ B) (hB1 : B ≤ 1152921504606846976) (qr : Nat) (s1 : Int)  (a1 : Int64) (ra1 : (-2147483648) ≤ a1.toInt) (ta1 : a1.toInt ≤ 2147483647) (w0 : va_W) (sz : Nat) (hT : TW ksC ad cy B qr s1 w0)  : Met l yX1_push (wu yX1_push cX1_push 3 none) ({ frames := 1, cells := 0, slots := 0, locals := 12 }) (va_Pc [.ref (ad 149), .long a1] (wpreS adK adV dC dI cy sz w0)) (va_Qv (Py_X1_push_1 ad cy B qr s1 a1 w0) (fun u : va_W => wpost dC dI cy (va_A w0 sz) u) (va_A w0 sz)) 0 0 (va_A w0 sz) := by
  refine Met.ofW (cc := cX1_push) (maxL := 3) (ret := none) (by decide) rfl ?_
  intro p e s m args below meth c s₁ Bk hml hv
  obtain ⟨rfl, ⟨hsz, hP, hK, hD0⟩, hE, hSR⟩ := hv
  have hx := Bk.exec
  have hb := Bk.bytes
  have hr := Bk.returns
  have hlocks := Bk.notSynchronized
  have hC : CallFix p m c cX1_push 3 s _ (wu yX1_push cX1_push 3 none) RX1 := ⟨hx, hb, hml, findClass_of_methodNamed Bk.named, atoms_spec (ws := (wu yX1_push cX1_push 3 none)) Bk.pre⟩
  subst hsz
  have hD := hD0.self (sz := s.heap.size)
  generalize hAe : va_A w0 s.heap.size = A at hD hE ⊢
  have hA : ∀ q : Nat, s.heap.size ≤ q → A q := fun q h => by rw [← hAe]; exact Or.inr h
  have hw : Wd dC dI A s.heap s.heap [] w0 := ⟨hP, hD, va_S.rf⟩
  have hF : FE ksC [(1, 4, 4), (45, 0, 64)] w0 w0 := FE.rf
  have hl := lv_entry ([.ref (ad 149), .long a1]) (n := 3) (Nat.le_of_ble_eq_true rfl)
  rw [lg_entry_eq]
  generalize (lg_sl ([.ref (ad 149), .long a1]) ++ List.replicate (3 - (lg_sl ([.ref (ad 149), .long a1])).length) Slot.unset).toArray = ls at hl ⊢
  have hl : lv_has ls 3 [(0, .ref (ad 149)), (1, .long a1)] := hl
  generalize hloc : ([] : List Loc) = locs at hw ⊢
  have hinX1 : ∀ w ∈ u_ws RX1 TX1 10, w ∈ (wu yX1_push cX1_push 3 none) := fun _ h => List.mem_cons_of_mem _ (up_78 h)
  have J29 : ∀ (f29_149_4 : Int32) (H : Heap) (locs : List Loc) (ls : Array Slot) (w1 : va_W), (-2147483648) ≤ a1.toInt → a1.toInt ≤ 2147483647 → 1 ≤ f29_149_4.toInt → f29_149_4.toInt ≤ 64 → Wd dC dI A s.heap H locs w1 → TW ksC ad cy B qr s1 w1 → FE ksC [(1, 4, 4), (45, 0, 64)] w0 w1 → gi w1 149 4 = f29_149_4 → TT (fun n => m_X1_push n 149 a1.toInt (sL w0)) (fun n => b_X1_push_29 n 149 (sL w1)) → lv_has ls 3 [(0, .ref (ad 149)), (1, .long a1)] → W p l e ({ frames := 1, cells := 0, slots := 0, locals := 12 }) s m (List.toArray [.ref (ad 149), .long a1]) below meth c H locs 0 0 (MQ below (va_Qv (Py_X1_push_1 ad cy B qr s1 a1 w0) (fun u : va_W => wpost dC dI cy A u) A) (List.toArray [.ref (ad 149), .long a1]) s 0 0 A) (F0 m 29 ls []) := by
    intro f29_149_4 H locs ls w1 r2 t3 r4 t5 hw hT hF c6 hM hl
    exact tk_vret hC hr hlocks hK ⟨hT, hF, hM.ret rfl, ⟨f29_149_4, c6, (show 1 ≤ f29_149_4.toInt from r4), (show f29_149_4.toInt ≤ 64 from t5)⟩⟩ hw dX1_push_29
  have hM : TT (fun n => m_X1_push n 149 a1.toInt (sL w0)) (fun n => m_X1_push n 149 a1.toInt (sL w0)) := TT.rf
  refine lv_aload_n hx hb dX1_push_0 rfl (lv_at hl 0 rfl) ?_
  refine tk_geti hC hK hw hT hinX1 kC_at149 (by decide) rfl 4 (by decide) (List.mem_cons_of_mem _ uw_44_19) rfl rfl dX1_push_1 (fun x7 c8 rx7 tx7 => ?_)
  replace hM := hM.rd (sL_at (kC_lt kC_at149) c8)
  refine lv_bipush (v := 64) hx hb dX1_push_4 (by decide) ?_
  refine lv_icmp_ge (tgt := 29) hx hb dX1_push_6 (by decide) (fun c9 => ?_) (fun c9 => ?_)
  · have c9 : (64 : Int) ≤ x7.toInt := wk_le.mp c9
    replace hM := hM.pos c9
    exact J29 x7 s.heap locs ls w0 (show (-2147483648) ≤ a1.toInt from ra1) (show a1.toInt ≤ 2147483647 from ta1) (show 1 ≤ x7.toInt by first | with_reducible assumption | omega) (show x7.toInt ≤ 64 from tx7)  hw hT hF c8 hM (lv_sub hl [0, 1] rfl)
  · have c9 : x7.toInt < (64 : Int) := wk_leF c9
    replace hM := hM.neg (Int.not_le.mpr c9)
    refine lv_aload_n hx hb dX1_push_9 rfl (lv_at hl 0 rfl) ?_
    refine tk_getA hC hK hw hT hinX1 kC_at149 (by decide) rfl 3 (by decide) (List.mem_cons_of_mem _ uw_4_23) rfl rfl dX1_push_10 ?_
    refine lv_aload_n hx hb dX1_push_13 rfl (lv_at hl 0 rfl) ?_
    refine tk_geti hC hK hw hT hinX1 kC_at149 (by decide) rfl 4 (by decide) (List.mem_cons_of_mem _ uw_44_19) rfl rfl dX1_push_14 (fun x10 c11 rx10 tx10 => ?_)
    refine wk_top x7 (c11.symm.trans c8) ?_
    replace hM := hM.rd (sL_at (kC_lt kC_at149) c8)
    refine lv_lload_n hx hb dX1_push_17 rfl (lv_at hl 1 rfl) ?_
    have hTq := hT
    refine tk_lastv hC hK hw hT kC_at150 (by decide) rfl (show 0 ≤ x7.toInt from rx7) (show x7.toInt < 64 by first | with_reducible assumption | omega) dX1_push_18 (fun H locs w12 hw hT k14 c13 => ?_)
    replace hM := hM.wr (sL_upk hTq hT kC_at150 (kC_lt kC_at150) rfl k14 c13 rfl)
    have hF := hF.put kC_at150 (inE_of (a := 0) (b := 64) (by decide) (show 0 ≤ x7.toInt.toNat by omega) (show x7.toInt.toNat ≤ 64 by omega)) k14
    have c15 := k14.gi (Or.inl (tk_ne kC_at149 kC_at150 (by decide))) c8
    refine lv_aload_n hx hb dX1_push_19 rfl (lv_at hl 0 rfl) ?_
    refine lv_dup hx hb dX1_push_20 rfl ?_
    refine tk_geti hC hK hw hT hinX1 kC_at149 (by decide) rfl 4 (by decide) (List.mem_cons_of_mem _ uw_44_19) rfl rfl dX1_push_21 (fun x16 c17 rx16 tx16 => ?_)
    refine wk_top x7 (c17.symm.trans c15) ?_
    replace hM := hM.rd (sL_at (kC_lt kC_at149) c15)
    refine lv_iconst (v := 1) hx hb dX1_push_24 (by decide) ?_
    refine lv_iadd hx hb dX1_push_25 ?_
    refine lv_topi (fun x18 ex18 => ?_)
    have ezx18 := ex18
    have ex18 : x18.toInt = x7.toInt + (1 : Int) := by rw [ex18]; exact wk_add (show (-2147483648) ≤ x7.toInt + (1 : Int) by omega) (show x7.toInt + (1 : Int) ≤ 2147483647 by omega)
    replace hM := hM.lt ex18.symm
    have hTq := hT
    refine tk_puti hC hK hw hT hinX1 tyX1_ok nmX1 kC_at149 (by decide) rfl rfl 4 (by decide) (List.mem_cons_of_mem _ uw_44_19) rfl rfl rfl rfl (show 0 ≤ x18.toInt by first | with_reducible assumption | omega) (show x18.toInt ≤ 64 by first | with_reducible assumption | omega) dX1_push_26 (fun H locs w19 hw hT k21 c20 => ?_)
    replace hM := hM.wr (sL_upf hTq hT kC_at149 (kC_lt kC_at149) (by decide) rfl k21 c20 rfl)
    have hF := hF.put kC_at149 (k := 4) (by decide) k21
    exact J29 x18 H locs ls w19 (show (-2147483648) ≤ a1.toInt from ra1) (show a1.toInt ≤ 2147483647 from ta1) (show 1 ≤ x18.toInt by first | with_reducible assumption | omega) (show x18.toInt ≤ 64 by first | with_reducible assumption | omega)  hw hT hF c20 hM (lv_sub hl [0, 1] rfl)
abbrev Py_X1_push_2 (ad : Nat → Nat) (cy : Nat → ClassId) (B : Int) (qr : Nat) (s1 : Int) (a1 : Int64) (w0 : va_W) : va_W → Prop := fun u => TW ksC ad cy B qr s1 u ∧ FE ksC [(1, 4, 4), (45, 0, 64)] w0 u ∧ Ev (fun n => m_X1_push n 149 a1.toInt (sL w0)) (0, sL u) ∧ (((∃ y : Int32, gi u 149 4 = y ∧ 1 ≤ y.toInt ∧ y.toInt ≤ 64)))
set_option maxHeartbeats 4000000 in
set_option maxRecDepth 100000 in
theorem ky_X1_push_2 (l : Launch) (adK adV : Nat → Nat) (dC : Nat → ClassId) (dI : Nat → Nat → Nat) (cy : Nat → ClassId) (ad : Nat → Nat) (B : Int) (hB0 : 2147483648 ≤ B) (hB1 : B ≤ 1152921504606846976) (qr : Nat) (s1 : Int)  (a1 : Int64) (ra1 : 0 ≤ a1.toInt) (ta1 : a1.toInt ≤ 2147483615) (w0 : va_W) (sz : Nat) (hT : TW ksC ad cy B qr s1 w0)  : Met l yX1_push (wu yX1_push cX1_push 3 none) ({ frames := 1, cells := 0, slots := 0, locals := 12 }) (va_Pc [.ref (ad 149), .long a1] (wpreS adK adV dC dI cy sz w0)) (va_Qv (Py_X1_push_2 ad cy B qr s1 a1 w0) (fun u : va_W => wpost dC dI cy (va_A w0 sz) u) (va_A w0 sz)) 0 0 (va_A w0 sz) := by
  refine Met.ofW (cc := cX1_push) (maxL := 3) (ret := none) (by decide) rfl ?_
  intro p e s m args below meth c s₁ Bk hml hv
  obtain ⟨rfl, ⟨hsz, hP, hK, hD0⟩, hE, hSR⟩ := hv
  have hx := Bk.exec
  have hb := Bk.bytes
  have hr := Bk.returns
  have hlocks := Bk.notSynchronized
  have hC : CallFix p m c cX1_push 3 s _ (wu yX1_push cX1_push 3 none) RX1 := ⟨hx, hb, hml, findClass_of_methodNamed Bk.named, atoms_spec (ws := (wu yX1_push cX1_push 3 none)) Bk.pre⟩
  subst hsz
  have hD := hD0.self (sz := s.heap.size)
  generalize hAe : va_A w0 s.heap.size = A at hD hE ⊢
  have hA : ∀ q : Nat, s.heap.size ≤ q → A q := fun q h => by rw [← hAe]; exact Or.inr h
  have hw : Wd dC dI A s.heap s.heap [] w0 := ⟨hP, hD, va_S.rf⟩
  have hF : FE ksC [(1, 4, 4), (45, 0, 64)] w0 w0 := FE.rf
  have hl := lv_entry ([.ref (ad 149), .long a1]) (n := 3) (Nat.le_of_ble_eq_true rfl)
  rw [lg_entry_eq]
  generalize (lg_sl ([.ref (ad 149), .long a1]) ++ List.replicate (3 - (lg_sl ([.ref (ad 149), .long a1])).length) Slot.unset).toArray = ls at hl ⊢
  have hl : lv_has ls 3 [(0, .ref (ad 149)), (1, .long a1)] := hl
  generalize hloc : ([] : List Loc) = locs at hw ⊢
  have hinX1 : ∀ w ∈ u_ws RX1 TX1 10, w ∈ (wu yX1_push cX1_push 3 none) := fun _ h => List.mem_cons_of_mem _ (up_78 h)
  have J29 : ∀ (f29_149_4 : Int32) (H : Heap) (locs : List Loc) (ls : Array Slot) (w1 : va_W), 0 ≤ a1.toInt → a1.toInt ≤ 2147483615 → 1 ≤ f29_149_4.toInt → f29_149_4.toInt ≤ 64 → Wd dC dI A s.heap H locs w1 → TW ksC ad cy B qr s1 w1 → FE ksC [(1, 4, 4), (45, 0, 64)] w0 w1 → gi w1 149 4 = f29_149_4 → TT (fun n => m_X1_push n 149 a1.toInt (sL w0)) (fun n => b_X1_push_29 n 149 (sL w1)) → lv_has ls 3 [(0, .ref (ad 149)), (1, .long a1)] → W p l e ({ frames := 1, cells := 0, slots := 0, locals := 12 }) s m (List.toArray [.ref (ad 149), .long a1]) below meth c H locs 0 0 (MQ below (va_Qv (Py_X1_push_2 ad cy B qr s1 a1 w0) (fun u : va_W => wpost dC dI cy A u) A) (List.toArray [.ref (ad 149), .long a1]) s 0 0 A) (F0 m 29 ls []) := by
    intro f29_149_4 H locs ls w1 r2 t3 r4 t5 hw hT hF c6 hM hl
    exact tk_vret hC hr hlocks hK ⟨hT, hF, hM.ret rfl, ⟨f29_149_4, c6, (show 1 ≤ f29_149_4.toInt from r4), (show f29_149_4.toInt ≤ 64 from t5)⟩⟩ hw dX1_push_29
  have hM : TT (fun n => m_X1_push n 149 a1.toInt (sL w0)) (fun n => m_X1_push n 149 a1.toInt (sL w0)) := TT.rf
  refine lv_aload_n hx hb dX1_push_0 rfl (lv_at hl 0 rfl) ?_
  refine tk_geti hC hK hw hT hinX1 kC_at149 (by decide) rfl 4 (by decide) (List.mem_cons_of_mem _ uw_44_19) rfl rfl dX1_push_1 (fun x7 c8 rx7 tx7 => ?_)
  replace hM := hM.rd (sL_at (kC_lt kC_at149) c8)
  refine lv_bipush (v := 64) hx hb dX1_push_4 (by decide) ?_
  refine lv_icmp_ge (tgt := 29) hx hb dX1_push_6 (by decide) (fun c9 => ?_) (fun c9 => ?_)
  · have c9 : (64 : Int) ≤ x7.toInt := wk_le.mp c9
    replace hM := hM.pos c9
    exact J29 x7 s.heap locs ls w0 (show 0 ≤ a1.toInt from ra1) (show a1.toInt ≤ 2147483615 from ta1) (show 1 ≤ x7.toInt by first | with_reducible assumption | omega) (show x7.toInt ≤ 64 from tx7)  hw hT hF c8 hM (lv_sub hl [0, 1] rfl)
  · have c9 : x7.toInt < (64 : Int) := wk_leF c9
    replace hM := hM.neg (Int.not_le.mpr c9)
    refine lv_aload_n hx hb dX1_push_9 rfl (lv_at hl 0 rfl) ?_
    refine tk_getA hC hK hw hT hinX1 kC_at149 (by decide) rfl 3 (by decide) (List.mem_cons_of_mem _ uw_4_23) rfl rfl dX1_push_10 ?_
    refine lv_aload_n hx hb dX1_push_13 rfl (lv_at hl 0 rfl) ?_
    refine tk_geti hC hK hw hT hinX1 kC_at149 (by decide) rfl 4 (by decide) (List.mem_cons_of_mem _ uw_44_19) rfl rfl dX1_push_14 (fun x10 c11 rx10 tx10 => ?_)
    refine wk_top x7 (c11.symm.trans c8) ?_
    replace hM := hM.rd (sL_at (kC_lt kC_at149) c8)
    refine lv_lload_n hx hb dX1_push_17 rfl (lv_at hl 1 rfl) ?_
    have hTq := hT
    refine tk_lastv hC hK hw hT kC_at150 (by decide) rfl (show 0 ≤ x7.toInt from rx7) (show x7.toInt < 64 by first | with_reducible assumption | omega) dX1_push_18 (fun H locs w12 hw hT k14 c13 => ?_)
    replace hM := hM.wr (sL_upk hTq hT kC_at150 (kC_lt kC_at150) rfl k14 c13 rfl)
    have hF := hF.put kC_at150 (inE_of (a := 0) (b := 64) (by decide) (show 0 ≤ x7.toInt.toNat by omega) (show x7.toInt.toNat ≤ 64 by omega)) k14
    have c15 := k14.gi (Or.inl (tk_ne kC_at149 kC_at150 (by decide))) c8
    refine lv_aload_n hx hb dX1_push_19 rfl (lv_at hl 0 rfl) ?_
    refine lv_dup hx hb dX1_push_20 rfl ?_
    refine tk_geti hC hK hw hT hinX1 kC_at149 (by decide) rfl 4 (by decide) (List.mem_cons_of_mem _ uw_44_19) rfl rfl dX1_push_21 (fun x16 c17 rx16 tx16 => ?_)
    refine wk_top x7 (c17.symm.trans c15) ?_
    replace hM := hM.rd (sL_at (kC_lt kC_at149) c15)
    refine lv_iconst (v := 1) hx hb dX1_push_24 (by decide) ?_
    refine lv_iadd hx hb dX1_push_25 ?_
    refine lv_topi (fun x18 ex18 => ?_)
    have ezx18 := ex18
    have ex18 : x18.toInt = x7.toInt + (1 : Int) := by rw [ex18]; exact wk_add (show (-2147483648) ≤ x7.toInt + (1 : Int) by omega) (show x7.toInt + (1 : Int) ≤ 2147483647 by omega)
    replace hM := hM.lt ex18.symm
    have hTq := hT
    refine tk_puti hC hK hw hT hinX1 tyX1_ok nmX1 kC_at149 (by decide) rfl rfl 4 (by decide) (List.mem_cons_of_mem _ uw_44_19) rfl rfl rfl rfl (show 0 ≤ x18.toInt by first | with_reducible assumption | omega) (show x18.toInt ≤ 64 by first | with_reducible assumption | omega) dX1_push_26 (fun H locs w19 hw hT k21 c20 => ?_)
    replace hM := hM.wr (sL_upf hTq hT kC_at149 (kC_lt kC_at149) (by decide) rfl k21 c20 rfl)
    have hF := hF.put kC_at149 (k := 4) (by decide) k21
    exact J29 x18 H locs ls w19 (show 0 ≤ a1.toInt from ra1) (show a1.toInt ≤ 2147483615 from ta1) (show 1 ≤ x18.toInt by first | with_reducible assumption | omega) (show x18.toInt ≤ 64 by first | with_reducible assumption | omega)  hw hT hF c20 hM (lv_sub hl [0, 1] rfl)
abbrev Py_X2_firstToken_2 (ad : Nat → Nat) (cy : Nat → ClassId) (B : Int) (qr : Nat) (s1 : Int) (q0_ : Nat) (a1 : Int32) (w0 : va_W) : Int32 → va_W → Prop := fun r u => TW ksC ad cy B qr s1 u ∧ FE ksC ([] : List (Nat × Nat × Nat)) w0 u ∧ Ev (fun n => m_X2_firstToken n q0_ a1.toInt (sL w0)) (r.toInt, sL u) ∧ ((0 ≤ r.toInt ∧ r.toInt ≤ 400))
set_option maxHeartbeats 4000000 in
set_option maxRecDepth 100000 in
theorem ky_X2_firstToken_2 (l : Launch) (adK adV : Nat → Nat) (dC : Nat → ClassId) (dI : Nat → Nat → Nat) (cy : Nat → ClassId) (ad : Nat → Nat) (B : Int) (hB0 : 2147483648 ≤ B) (hB1 : B ≤ 1152921504606846976) (qr : Nat) (s1 : Int)  (q0_ : Nat) (hkq0_ : ksC[q0_]? = some 2) (a1 : Int32) (ra1 : 0 ≤ a1.toInt) (ta1 : a1.toInt ≤ 11) (w0 : va_W) (sz : Nat) (hT : TW ksC ad cy B qr s1 w0)  : Met l yX2_firstToken (wu yX2_firstToken cX2_firstToken 2 (some .int)) ({ frames := 1, cells := 0, slots := 0, locals := 12 }) (va_Pc [.ref (ad q0_), .int a1] (wpreS adK adV dC dI cy sz w0)) (va_Qi (Py_X2_firstToken_2 ad cy B qr s1 q0_ a1 w0) (fun u : va_W => wpost dC dI cy (va_A w0 sz) u) (va_A w0 sz)) 0 0 (va_A w0 sz) := by
  refine Met.ofW (cc := cX2_firstToken) (maxL := 2) (ret := (some .int)) (by decide) rfl ?_
  intro p e s m args below meth c s₁ Bk hml hv
  obtain ⟨rfl, ⟨hsz, hP, hK, hD0⟩, hE, hSR⟩ := hv
  have hx := Bk.exec
  have hb := Bk.bytes
  have hr := Bk.returns
  have hlocks := Bk.notSynchronized
  have hC : CallFix p m c cX2_firstToken 2 s _ (wu yX2_firstToken cX2_firstToken 2 (some .int)) RX2 := ⟨hx, hb, hml, findClass_of_methodNamed Bk.named, atoms_spec (ws := (wu yX2_firstToken cX2_firstToken 2 (some .int))) Bk.pre⟩
  subst hsz
  have hD := hD0.self (sz := s.heap.size)
  generalize hAe : va_A w0 s.heap.size = A at hD hE ⊢
  have hA : ∀ q : Nat, s.heap.size ≤ q → A q := fun q h => by rw [← hAe]; exact Or.inr h
  have hw : Wd dC dI A s.heap s.heap [] w0 := ⟨hP, hD, va_S.rf⟩
  have hF : FE ksC ([] : List (Nat × Nat × Nat)) w0 w0 := FE.rf
  have hl := lv_entry ([.ref (ad q0_), .int a1]) (n := 2) (Nat.le_of_ble_eq_true rfl)
  rw [lg_entry_eq]
  generalize (lg_sl ([.ref (ad q0_), .int a1]) ++ List.replicate (2 - (lg_sl ([.ref (ad q0_), .int a1])).length) Slot.unset).toArray = ls at hl ⊢
  have hl : lv_has ls 2 [(0, .ref (ad q0_)), (1, .int a1)] := hl
  generalize hloc : ([] : List Loc) = locs at hw ⊢
  have hinX2 : ∀ w ∈ u_ws RX2 TX2 6, w ∈ (wu yX2_firstToken cX2_firstToken 2 (some .int)) := fun _ h => List.mem_cons_of_mem _ (up_74 h)
  have hM : TT (fun n => m_X2_firstToken n q0_ a1.toInt (sL w0)) (fun n => m_X2_firstToken n q0_ a1.toInt (sL w0)) := TT.rf
  refine lv_aload_n hx hb dX2_firstToken_0 rfl (lv_at hl 0 rfl) ?_
  refine tk_getO hC hK hw hT hinX2 hkq0_ (by decide) rfl 1 (by decide) (List.mem_cons_of_mem _ uw_3_6) rfl rfl dX2_firstToken_1 ?_
  refine lv_iload_n hx hb dX2_firstToken_4 rfl (lv_at hl 1 rfl) ?_
  refine tk_iald hC hK hw hT (kC_2_2 hkq0_) rfl rfl (show 0 ≤ a1.toInt from ra1) (show a1.toInt < 13 from Int.lt_of_le_of_lt ta1 (by decide)) dX2_firstToken_5 (fun x1 c2 rx1 tx1 => ?_)
  have hox1 := c2
  replace hM := hM.rd (sL_at (kC_lt (kC_2_2 hkq0_)) hox1)
  exact tk_iret hC hr hlocks hK ⟨hT, hF, hM.ret rfl, ⟨(show 0 ≤ x1.toInt by first | with_reducible assumption | omega), (show x1.toInt ≤ 400 by first | with_reducible assumption | omega)⟩⟩ hw dX2_firstToken_6
abbrev Py_X1_holds_1 (ad : Nat → Nat) (cy : Nat → ClassId) (B : Int) (qr : Nat) (s1 : Int) (q2_ : Nat) (a3 : Int32) (w0 : va_W) : Int32 → va_W → Prop := fun r u => TW ksC ad cy B qr s1 u ∧ FE ksC [(1, 4, 4), (45, 0, 64)] w0 u ∧ Ev (fun n => m_X1_holds n 149 152 q2_ a3.toInt (sL w0)) (r.toInt, sL u) ∧ ((r = 0 ∧ (∃ y : Int32, gi u 149 4 = y ∧ 1 ≤ y.toInt ∧ y.toInt ≤ 64)) ∨ (r = 1))
set_option maxHeartbeats 4000000 in
set_option maxRecDepth 100000 in
theorem ky_X1_holds_1 (l : Launch) (adK adV : Nat → Nat) (dC : Nat → ClassId) (dI : Nat → Nat → Nat) (cy : Nat → ClassId) (ad : Nat → Nat) (B : Int) (hB0 : 2147483648 ≤ B) (hB1 : B ≤ 1152921504606846976) (qr : Nat) (s1 : Int)  (q2_ : Nat) (hkq2_ : ksC[q2_]? = some 2) (a3 : Int32) (ra3 : 0 ≤ a3.toInt) (ta3 : a3.toInt ≤ 11) (w0 : va_W) (sz : Nat) (hT : TW ksC ad cy B qr s1 w0)  : Met l yX1_holds (wu yX1_holds cX1_holds 6 (some .boolean)) ({ frames := 3, cells := 0, slots := 0, locals := 57 }) (va_Pc [.ref (ad 149), .ref (ad 152), .ref (ad q2_), .int a3] (wpreS adK adV dC dI cy sz w0)) (va_Qi (Py_X1_holds_1 ad cy B qr s1 q2_ a3 w0) (fun u : va_W => wpost dC dI cy (va_A w0 sz) u) (va_A w0 sz)) 0 0 (va_A w0 sz) := by
  refine Met.ofW (cc := cX1_holds) (maxL := 6) (ret := (some .boolean)) (by decide) rfl ?_
  intro p e s m args below meth c s₁ Bk hml hv
  obtain ⟨rfl, ⟨hsz, hP, hK, hD0⟩, hE, hSR⟩ := hv
  have hx := Bk.exec
  have hb := Bk.bytes
  have hr := Bk.returns
  have hlocks := Bk.notSynchronized
  have hC : CallFix p m c cX1_holds 6 s _ (wu yX1_holds cX1_holds 6 (some .boolean)) RX1 := ⟨hx, hb, hml, findClass_of_methodNamed Bk.named, atoms_spec (ws := (wu yX1_holds cX1_holds 6 (some .boolean))) Bk.pre⟩
  subst hsz
  have hD := hD0.self (sz := s.heap.size)
  generalize hAe : va_A w0 s.heap.size = A at hD hE ⊢
  have hA : ∀ q : Nat, s.heap.size ≤ q → A q := fun q h => by rw [← hAe]; exact Or.inr h
  have hw : Wd dC dI A s.heap s.heap [] w0 := ⟨hP, hD, va_S.rf⟩
  have hF : FE ksC [(1, 4, 4), (45, 0, 64)] w0 w0 := FE.rf
  have hl := lv_entry ([.ref (ad 149), .ref (ad 152), .ref (ad q2_), .int a3]) (n := 6) (Nat.le_of_ble_eq_true rfl)
  rw [lg_entry_eq]
  generalize (lg_sl ([.ref (ad 149), .ref (ad 152), .ref (ad q2_), .int a3]) ++ List.replicate (6 - (lg_sl ([.ref (ad 149), .ref (ad 152), .ref (ad q2_), .int a3])).length) Slot.unset).toArray = ls at hl ⊢
  have hl : lv_has ls 6 [(0, .ref (ad 149)), (1, .ref (ad 152)), (2, .ref (ad q2_)), (3, .int a3)] := hl
  generalize hloc : ([] : List Loc) = locs at hw ⊢
  have hinX1 : ∀ w ∈ u_ws RX1 TX1 10, w ∈ (wu yX1_holds cX1_holds 6 (some .boolean)) := fun _ h => List.mem_cons_of_mem _ (up_78 h)
  have J123 : ∀ (v123_4 : Int32) (f123_149_4 : Int32) (H : Heap) (locs : List Loc) (ls : Array Slot) (w1 : va_W), 0 ≤ a3.toInt → a3.toInt ≤ 11 → 0 ≤ v123_4.toInt → v123_4.toInt ≤ 400 → 0 ≤ f123_149_4.toInt → f123_149_4.toInt ≤ 64 → Wd dC dI A s.heap H locs w1 → TW ksC ad cy B qr s1 w1 → FE ksC [(1, 4, 4), (45, 0, 64)] w0 w1 → gi w1 149 4 = f123_149_4 → TT (fun n => m_X1_holds n 149 152 q2_ a3.toInt (sL w0)) (fun n => b_X1_holds_123 (j_X1_holds 149 152 q2_ n) n 149 152 q2_ (sL w1)) → lv_has ls 6 [(0, .ref (ad 149)), (1, .ref (ad 152)), (2, .ref (ad q2_)), (3, .int a3), (4, .int v123_4)] → W p l e ({ frames := 3, cells := 0, slots := 0, locals := 57 }) s m (List.toArray [.ref (ad 149), .ref (ad 152), .ref (ad q2_), .int a3]) below meth c H locs 0 0 (MQ below (va_Qi (Py_X1_holds_1 ad cy B qr s1 q2_ a3 w0) (fun u : va_W => wpost dC dI cy A u) A) (List.toArray [.ref (ad 149), .ref (ad 152), .ref (ad q2_), .int a3]) s 0 0 A) (F0 m 123 ls []) := by
    intro v123_4 f123_149_4 H locs ls w1 r2 t3 r4 t5 r6 t7 hw hT hF c8 hM hl
    refine lv_iconst (v := 1) hx hb dX1_holds_123 (by decide) ?_
    refine lv_goto (tgt := 128) hx hb dX1_holds_124 (by decide) ?_
    exact tk_zret hC hr rfl hlocks hK ⟨hT, hF, hM.ret (by decide), (Or.inr rfl)⟩ hw dX1_holds_128
  have L12 : ∀ (n12 : Nat) (v12_4 : Int32) (f12_149_4 : Int32) (H : Heap) (locs : List Loc) (ls : Array Slot) (w9 : va_W), 0 ≤ a3.toInt → a3.toInt ≤ 11 → 0 ≤ v12_4.toInt → v12_4.toInt ≤ 400 → 0 ≤ f12_149_4.toInt → f12_149_4.toInt ≤ 64 → (400 - v12_4.toInt).toNat < n12 → Wd dC dI A s.heap H locs w9 → TW ksC ad cy B qr s1 w9 → FE ksC [(1, 4, 4), (45, 0, 64)] w0 w9 → gi w9 149 4 = f12_149_4 → TT (fun n => m_X1_holds n 149 152 q2_ a3.toInt (sL w0)) (fun n => j_X1_holds 149 152 q2_ n 12 [a3.toInt, v12_4.toInt] (sL w9)) → lv_has ls 6 [(0, .ref (ad 149)), (1, .ref (ad 152)), (2, .ref (ad q2_)), (3, .int a3), (4, .int v12_4)] → W p l e ({ frames := 3, cells := 0, slots := 0, locals := 57 }) s m (List.toArray [.ref (ad 149), .ref (ad 152), .ref (ad q2_), .int a3]) below meth c H locs 0 0 (MQ below (va_Qi (Py_X1_holds_1 ad cy B qr s1 q2_ a3 w0) (fun u : va_W => wpost dC dI cy A u) A) (List.toArray [.ref (ad 149), .ref (ad 152), .ref (ad q2_), .int a3]) s 0 0 A) (F0 m 12 ls []) := by
    intro n12
    induction n12 with
    | zero => intro v12_4 f12_149_4 H locs ls w9 r10 t11 r12 t13 r14 t15 hm12 hw hT hF c16 hM hl; omega
    | succ n12 ih12 =>
      intro v12_4 f12_149_4 H locs ls w9 r10 t11 r12 t13 r14 t15 hm12 hw hT hF c16 hM hl
      have J93 : ∀ (v93_5 : Int32) (f93_149_4 : Int32) (H : Heap) (locs : List Loc) (ls : Array Slot) (w17 : va_W), 0 ≤ a3.toInt → a3.toInt ≤ 11 → 0 ≤ v12_4.toInt → v12_4.toInt ≤ 399 → 0 ≤ f93_149_4.toInt → f93_149_4.toInt ≤ 64 → Wd dC dI A s.heap H locs w17 → TW ksC ad cy B qr s1 w17 → FE ksC [(1, 4, 4), (45, 0, 64)] w0 w17 → gi w17 149 4 = f93_149_4 → TT (fun n => m_X1_holds n 149 152 q2_ a3.toInt (sL w0)) (fun n => b_X1_holds_93 (j_X1_holds 149 152 q2_ n) n 149 152 q2_ (a3.toInt) (v12_4.toInt) (sL w17)) → lv_has ls 6 [(0, .ref (ad 149)), (1, .ref (ad 152)), (2, .ref (ad q2_)), (3, .int a3), (4, .int v12_4), (5, .int v93_5)] → W p l e ({ frames := 3, cells := 0, slots := 0, locals := 57 }) s m (List.toArray [.ref (ad 149), .ref (ad 152), .ref (ad q2_), .int a3]) below meth c H locs 0 0 (MQ below (va_Qi (Py_X1_holds_1 ad cy B qr s1 q2_ a3 w0) (fun u : va_W => wpost dC dI cy A u) A) (List.toArray [.ref (ad 149), .ref (ad 152), .ref (ad q2_), .int a3]) s 0 0 A) (F0 m 93 ls []) := by
        intro v93_5 f93_149_4 H locs ls w17 r18 t19 r20 t21 r22 t23 hw hT hF c24 hM hl
        obtain ⟨x25, ex25⟩ : ∃ y : Int32, y = v12_4 + Int32.ofInt 1 := ⟨_, rfl⟩
        have erx25 := ex25
        refine lv_iinc (v := x25) (lv' := [(4, .int x25), (0, .ref (ad 149)), (1, .ref (ad 152)), (2, .ref (ad q2_)), (3, .int a3), (5, .int v93_5)]) hx hb dX1_holds_93 hl (k := 4) rfl ex25.symm (by decide) rfl (fun ls hl => ?_)
        have ex25 : x25.toInt = v12_4.toInt + 1 := by rw [ex25]; exact wk_add (y := 1) (show -2147483648 ≤ v12_4.toInt + 1 by omega) (show v12_4.toInt + 1 ≤ 2147483647 by omega)
        replace hM := hM.lt ex25.symm
        refine lv_goto (tgt := 12) hx hb dX1_holds_96 (by decide) ?_
        exact ih12 x25 f93_149_4 H locs ls w17 (show 0 ≤ a3.toInt from r18) (show a3.toInt ≤ 11 from t19) (show 0 ≤ x25.toInt by first | with_reducible assumption | omega) (show x25.toInt ≤ 400 by first | with_reducible assumption | omega) (show 0 ≤ f93_149_4.toInt from r22) (show f93_149_4.toInt ≤ 64 from t23) (show (400 - x25.toInt).toNat < n12 by first | exact tn_lt hm12 (by omega) (by omega) | omega) hw hT hF c24 hM (lv_sub hl [1, 2, 3, 4, 0] rfl)
      replace hM := hM.suc (fun _ => e_X1_holds_12)
      refine lv_iload hx hb dX1_holds_12 (lv_at hl 4 rfl) ?_
      refine lv_aload_n hx hb dX1_holds_14 rfl (lv_at hl 2 rfl) ?_
      refine lv_iload_n hx hb dX1_holds_15 rfl (lv_at hl 3 rfl) ?_
      refine lv_iconst (v := 1) hx hb dX1_holds_16 (by decide) ?_
      refine lv_iadd hx hb dX1_holds_17 ?_
      refine lv_topi (fun x26 ex26 => ?_)
      have ezx26 := ex26
      have ex26 : x26.toInt = a3.toInt + (1 : Int) := by rw [ex26]; exact wk_add (show (-2147483648) ≤ a3.toInt + (1 : Int) by omega) (show a3.toInt + (1 : Int) ≤ 2147483647 by omega)
      replace hM := hM.lt ex26.symm
      refine tk_Vi hC hK hw hT hA hE hSR hkq2_ (by decide) rfl (ky_X2_firstToken_1 l adK adV dC dI cy ad B hB0 (Int.le_trans hB1 (by decide)) qr s1   q2_ hkq2_ x26 (show 1 ≤ x26.toInt by first | with_reducible assumption | omega) (show x26.toInt ≤ 12 by first | with_reducible assumption | omega) w9 H.size hT ) (cwV 1 hC.2.2.2.2 uV_RX1_171 rfl rfl rfl (by decide +kernel) ⟨Nat.le_of_ble_eq_true rfl, Nat.le_of_ble_eq_true rfl⟩) rfl hl.1 rfl (Nat.le_of_ble_eq_true rfl) dX1_holds_18 (fun r27 w29 H locs hp28 hw => ?_)
      obtain ⟨hT, k30, hv34, hg33⟩ := hp28
      have hF := hF.tr k30 (by decide)
      have c35 := k30.gi kC_at149 (by decide) c16
      obtain ⟨g31, g32⟩ := hg33
      replace hM := hM.call hv34 rfl
      refine lv_icmp_ge (tgt := 99) hx hb dX1_holds_21 (by decide) (fun c36 => ?_) (fun c36 => ?_)
      · have c36 : r27.toInt ≤ v12_4.toInt := wk_le.mp c36
        replace hM := hM.pos c36
        refine lv_aload_n hx hb dX1_holds_99 rfl (lv_at hl 0 rfl) ?_
        refine tk_geti hC hK hw hT hinX1 kC_at149 (by decide) rfl 4 (by decide) (List.mem_cons_of_mem _ uw_44_19) rfl rfl dX1_holds_100 (fun x37 c38 rx37 tx37 => ?_)
        refine wk_top f12_149_4 (c38.symm.trans c35) ?_
        replace hM := hM.rd (sL_at (kC_lt kC_at149) c35)
        refine lv_iconst (v := 1) hx hb dX1_holds_103 (by decide) ?_
        refine lv_icmp_lt (tgt := 123) hx hb dX1_holds_104 (by decide) (fun c39 => ?_) (fun c39 => ?_)
        · have c39 : f12_149_4.toInt < (1 : Int) := wk_lt.mp c39
          replace hM := hM.pos c39
          exact J123 v12_4 f12_149_4 H locs ls w29 (show 0 ≤ a3.toInt from r10) (show a3.toInt ≤ 11 from t11) (show 0 ≤ v12_4.toInt from r12) (show v12_4.toInt ≤ 400 from t13) (show 0 ≤ f12_149_4.toInt from r14) (show f12_149_4.toInt ≤ 64 from t15)  hw hT hF c35 hM (lv_sub hl [0, 1, 2, 3, 4] rfl)
        · have c39 : (1 : Int) ≤ f12_149_4.toInt := wk_ltF c39
          replace hM := hM.neg (Int.not_lt.mpr c39)
          refine lv_aload_n hx hb dX1_holds_107 rfl (lv_at hl 0 rfl) ?_
          refine tk_getA hC hK hw hT hinX1 kC_at149 (by decide) rfl 3 (by decide) (List.mem_cons_of_mem _ uw_4_23) rfl rfl dX1_holds_108 ?_
          refine lv_aload_n hx hb dX1_holds_111 rfl (lv_at hl 0 rfl) ?_
          refine tk_geti hC hK hw hT hinX1 kC_at149 (by decide) rfl 4 (by decide) (List.mem_cons_of_mem _ uw_44_19) rfl rfl dX1_holds_112 (fun x40 c41 rx40 tx40 => ?_)
          refine wk_top f12_149_4 (c41.symm.trans c35) ?_
          replace hM := hM.rd (sL_at (kC_lt kC_at149) c35)
          refine lv_iconst (v := 1) hx hb dX1_holds_115 (by decide) ?_
          refine lv_isub hx hb dX1_holds_116 ?_
          refine lv_topi (fun x42 ex42 => ?_)
          have ezx42 := ex42
          have ex42 : x42.toInt = f12_149_4.toInt - (1 : Int) := by rw [ex42]; exact wk_sub (show (-2147483648) ≤ f12_149_4.toInt - (1 : Int) by omega) (show f12_149_4.toInt - (1 : Int) ≤ 2147483647 by omega)
          replace hM := hM.lt ex42.symm
          refine tk_laldv hC hK hw hT kC_at150 rfl (show 0 ≤ x42.toInt by first | with_reducible assumption | omega) (show x42.toInt < 64 by first | with_reducible assumption | omega) dX1_holds_117 (fun x43 c44 => ?_)
          replace hM := hM.rd (sL_atl (kC_lt kC_at150) c44)
          refine lv_lconst (v := 0) hx hb dX1_holds_118 (by decide) ?_
          refine W.lcmp hx hb dX1_holds_119 ?_
          refine lv_if_eq (tgt := 127) hx hb dX1_holds_120 (by decide) (fun c45 => ?_) (fun c45 => ?_)
          · have c45 : x43.toInt = (0 : Int) := wk_ceT c45
            replace hM := hM.pos c45
            refine lv_iconst (v := 0) hx hb dX1_holds_127 (by decide) ?_
            exact tk_zret hC hr rfl hlocks hK ⟨hT, hF, hM.ret (by decide), (Or.inl ⟨rfl, ⟨f12_149_4, c35, (show 1 ≤ f12_149_4.toInt by first | with_reducible assumption | omega), (show f12_149_4.toInt ≤ 64 from t15)⟩⟩)⟩ hw dX1_holds_128
          · have c45 : ¬ x43.toInt = (0 : Int) := wk_ceF c45
            replace hM := hM.neg c45
            exact J123 v12_4 f12_149_4 H locs ls w29 (show 0 ≤ a3.toInt from r10) (show a3.toInt ≤ 11 from t11) (show 0 ≤ v12_4.toInt from r12) (show v12_4.toInt ≤ 400 from t13) (show 0 ≤ f12_149_4.toInt from r14) (show f12_149_4.toInt ≤ 64 from t15)  hw hT hF c35 hM (lv_sub hl [0, 1, 2, 3, 4] rfl)
      · have c36 : v12_4.toInt < r27.toInt := wk_leF c36
        replace hM := hM.neg (Int.not_le.mpr c36)
        refine lv_aload_n hx hb dX1_holds_24 rfl (lv_at hl 2 rfl) ?_
        refine lv_iload hx hb dX1_holds_25 (lv_at hl 4 rfl) ?_
        refine tk_Vi hC hK hw hT hA hE hSR hkq2_ (by decide) rfl (ky_X2_tokenAt_1 l adK adV dC dI cy ad B hB0 (Int.le_trans hB1 (by decide)) qr s1   q2_ hkq2_ v12_4 (show 0 ≤ v12_4.toInt from r12) (show v12_4.toInt ≤ 399 by first | with_reducible assumption | omega) w29 H.size hT ) (cwV 1 hC.2.2.2.2 uV_RX1_174 rfl rfl rfl (by decide +kernel) ⟨Nat.le_of_ble_eq_true rfl, Nat.le_of_ble_eq_true rfl⟩) rfl hl.1 rfl (Nat.le_of_ble_eq_true rfl) dX1_holds_27 (fun r46 w48 H locs hp47 hw => ?_)
        obtain ⟨hT, k49, hv51, hg50⟩ := hp47
        have hF := hF.tr k49 (by decide)
        have c52 := k49.gi kC_at149 (by decide) c35
        clear hg50
        replace hM := hM.call hv51 rfl
        refine lv_istore (lv' := [(5, .int r46), (0, .ref (ad 149)), (1, .ref (ad 152)), (2, .ref (ad q2_)), (3, .int a3), (4, .int v12_4)]) hx hb dX1_holds_30 hl (by decide) rfl (fun ls hl => ?_)
        refine lv_iload hx hb dX1_holds_32 (lv_at hl 0 rfl) ?_
        refine lv_bipush (v := 32) hx hb dX1_holds_34 (by decide) ?_
        refine lv_icmp_lt (tgt := 52) hx hb dX1_holds_36 (by decide) (fun c53 => ?_) (fun c53 => ?_)
        · have c53 : r46.toInt < (32 : Int) := wk_lt.mp c53
          replace hM := hM.pos c53
          refine lv_iload hx hb dX1_holds_52 (lv_at hl 0 rfl) ?_
          refine lv_bipush (v := 10) hx hb dX1_holds_54 (by decide) ?_
          refine lv_icmp_ge (tgt := 73) hx hb dX1_holds_56 (by decide) (fun c54 => ?_) (fun c54 => ?_)
          · have c54 : (10 : Int) ≤ r46.toInt := wk_le.mp c54
            replace hM := hM.pos c54
            refine lv_iload hx hb dX1_holds_73 (lv_at hl 0 rfl) ?_
            refine lv_bipush (v := 19) hx hb dX1_holds_75 (by decide) ?_
            refine lv_icmp_ne (tgt := 87) hx hb dX1_holds_77 (by decide) (fun c55 => ?_) (fun c55 => ?_)
            · have c55 : ¬ r46.toInt = (19 : Int) := wk_eqF c55
              replace hM := hM.pos c55
              refine lv_aload_n hx hb dX1_holds_87 rfl (lv_at hl 1 rfl) ?_
              refine lv_iload hx hb dX1_holds_88 (lv_at hl 0 rfl) ?_
              refine tk_Vv hC hK hw hT hA hE hSR kC_at149 (by decide) rfl (ky_X1_join_1 l adK adV dC dI cy ad B hB0 (Int.le_trans hB1 (by decide)) qr s1   r46 (show 10 ≤ r46.toInt by first | with_reducible assumption | omega) (show r46.toInt ≤ 31 by first | with_reducible assumption | omega) w48 H.size hT ) (cwV 1 hC.2.2.2.2 uV_RX1_188 rfl rfl rfl (by decide +kernel) ⟨Nat.le_of_ble_eq_true rfl, Nat.le_of_ble_eq_true rfl⟩) rfl hl.1 rfl (Nat.le_of_ble_eq_true rfl) dX1_holds_90 (fun w58 H locs hp57 hw => ?_)
              obtain ⟨hT, k59, hv63, hg62⟩ := hp57
              have hF := hF.tr k59 (by decide)
              obtain ⟨x60, c61, rx60, tx60⟩ := hg62
              replace hM := hM.call hv63 rfl
              exact J93 r46 x60 H locs ls w58 (show 0 ≤ a3.toInt from r10) (show a3.toInt ≤ 11 from t11) (show 0 ≤ v12_4.toInt from r12) (show v12_4.toInt ≤ 399 by first | with_reducible assumption | omega) (show 0 ≤ x60.toInt by first | with_reducible assumption | omega) (show x60.toInt ≤ 64 by first | with_reducible assumption | omega)  hw hT hF c61 hM (lv_sub hl [1, 2, 3, 4, 5, 0] rfl)
            · have c55 : r46.toInt = (19 : Int) := wk_eq.mp c55
              replace hM := hM.neg (fun q => q c55)
              refine lv_aload_n hx hb dX1_holds_80 rfl (lv_at hl 1 rfl) ?_
              refine tk_Vv hC hK hw hT hA hE hSR kC_at149 (by decide) rfl (ky_X1_turn_1 l adK adV dC dI cy ad B hB0 (Int.le_trans hB1 (by decide)) qr s1    w48 H.size hT ) (cwV 0 hC.2.2.2.2 uV_RX1_185 rfl rfl rfl (by decide +kernel) ⟨Nat.le_of_ble_eq_true rfl, Nat.le_of_ble_eq_true rfl⟩) rfl hl.1 rfl (Nat.le_of_ble_eq_true rfl) dX1_holds_81 (fun w66 H locs hp65 hw => ?_)
              obtain ⟨hT, k67, hv69, hg68⟩ := hp65
              have hF := hF.tr k67 (by decide)
              have c70 := k67.gi kC_at149 (by decide) c52
              clear hg68
              replace hM := hM.call hv69 rfl
              refine lv_goto (tgt := 93) hx hb dX1_holds_84 (by decide) ?_
              exact J93 r46 f12_149_4 H locs ls w66 (show 0 ≤ a3.toInt from r10) (show a3.toInt ≤ 11 from t11) (show 0 ≤ v12_4.toInt from r12) (show v12_4.toInt ≤ 399 by first | with_reducible assumption | omega) (show 0 ≤ f12_149_4.toInt from r14) (show f12_149_4.toInt ≤ 64 from t15)  hw hT hF c70 hM (lv_sub hl [1, 2, 3, 4, 5, 0] rfl)
          · have c54 : r46.toInt < (10 : Int) := wk_leF c54
            replace hM := hM.neg (Int.not_le.mpr c54)
            refine lv_aload_n hx hb dX1_holds_59 rfl (lv_at hl 1 rfl) ?_
            refine lv_aload_n hx hb dX1_holds_60 rfl (lv_at hl 1 rfl) ?_
            refine lv_aload_n hx hb dX1_holds_61 rfl (lv_at hl 2 rfl) ?_
            refine lv_iload hx hb dX1_holds_62 (lv_at hl 0 rfl) ?_
            refine tk_Vl hC hK hw hT hA hE hSR kC_at149 (by decide) rfl (ky_X1_valueOf_1 l adK adV dC dI cy ad B hB0 (Int.le_trans hB1 (by decide)) qr s1   r46 (show r46.toInt ≤ 9 by first | with_reducible assumption | omega) w48 H.size hT ) (cwV 2 hC.2.2.2.2 uV_RX1_181 rfl rfl rfl (by decide +kernel) ⟨Nat.le_of_ble_eq_true rfl, Nat.le_of_ble_eq_true rfl⟩) rfl hl.1 rfl (Nat.le_of_ble_eq_true rfl) dX1_holds_64 (fun r71 w73 H locs hp72 hw => ?_)
            obtain ⟨hT, k74, hv78, hg77⟩ := hp72
            have hF := hF.tr k74 (by decide)
            have c79 := k74.gi kC_at149 (by decide) c52
            obtain ⟨g75, g76⟩ := hg77
            replace hM := hM.call hv78 rfl
            refine tk_Vv hC hK hw hT hA hE hSR kC_at149 (by decide) rfl (ky_X1_push_1 l adK adV dC dI cy ad B hB0 (Int.le_trans hB1 (by decide)) qr s1   r71 (show (-2147483648) ≤ r71.toInt by first | with_reducible assumption | omega) (show r71.toInt ≤ 2147483647 by first | with_reducible assumption | omega) w73 H.size hT ) (cwV 1 hC.2.2.2.2 uV_RX1_177 rfl rfl rfl (by decide +kernel) ⟨Nat.le_of_ble_eq_true rfl, Nat.le_of_ble_eq_true rfl⟩) rfl hl.1 rfl (Nat.le_of_ble_eq_true rfl) dX1_holds_67 (fun w82 H locs hp81 hw => ?_)
            obtain ⟨hT, k83, hv87, hg86⟩ := hp81
            have hF := hF.tr k83 (by decide)
            obtain ⟨x84, c85, rx84, tx84⟩ := hg86
            replace hM := hM.call hv87 rfl
            refine lv_goto (tgt := 93) hx hb dX1_holds_70 (by decide) ?_
            exact J93 r46 x84 H locs ls w82 (show 0 ≤ a3.toInt from r10) (show a3.toInt ≤ 11 from t11) (show 0 ≤ v12_4.toInt from r12) (show v12_4.toInt ≤ 399 by first | with_reducible assumption | omega) (show 0 ≤ x84.toInt by first | with_reducible assumption | omega) (show x84.toInt ≤ 64 by first | with_reducible assumption | omega)  hw hT hF c85 hM (lv_sub hl [1, 2, 3, 4, 5, 0] rfl)
        · have c53 : (32 : Int) ≤ r46.toInt := wk_ltF c53
          replace hM := hM.neg (Int.not_lt.mpr c53)
          refine lv_aload_n hx hb dX1_holds_39 rfl (lv_at hl 1 rfl) ?_
          refine lv_iload hx hb dX1_holds_40 (lv_at hl 0 rfl) ?_
          refine lv_bipush (v := 32) hx hb dX1_holds_42 (by decide) ?_
          refine lv_isub hx hb dX1_holds_44 ?_
          have nx88 := wk_i32 r46
          refine lv_topi (fun x89 ex89 => ?_)
          have ezx89 := ex89
          have ex89 : x89.toInt = r46.toInt - (32 : Int) := by rw [ex89]; exact wk_sub (show (-2147483648) ≤ r46.toInt - (32 : Int) by omega) (show r46.toInt - (32 : Int) ≤ 2147483647 by omega)
          replace hM := hM.lt ex89.symm
          refine lv_i2l hx hb dX1_holds_45 rfl ?_
          refine lv_topl (fun x90 ex90 => ?_)
          have ex90 : x90.toInt = x89.toInt := by rw [ex90]; exact wk_i2l _
          have bx90 := wk_i32 x89
          replace hM := hM.lt ex90.symm
          refine tk_Vv hC hK hw hT hA hE hSR kC_at149 (by decide) rfl (ky_X1_push_2 l adK adV dC dI cy ad B hB0 (Int.le_trans hB1 (by decide)) qr s1   x90 (show 0 ≤ x90.toInt by first | with_reducible assumption | omega) (show x90.toInt ≤ 2147483615 by first | with_reducible assumption | omega) w48 H.size hT ) (cwV 1 hC.2.2.2.2 uV_RX1_177 rfl rfl rfl (by decide +kernel) ⟨Nat.le_of_ble_eq_true rfl, Nat.le_of_ble_eq_true rfl⟩) rfl hl.1 rfl (Nat.le_of_ble_eq_true rfl) dX1_holds_46 (fun w93 H locs hp92 hw => ?_)
          obtain ⟨hT, k94, hv98, hg97⟩ := hp92
          have hF := hF.tr k94 (by decide)
          obtain ⟨x95, c96, rx95, tx95⟩ := hg97
          replace hM := hM.call hv98 rfl
          refine lv_goto (tgt := 93) hx hb dX1_holds_49 (by decide) ?_
          exact J93 r46 x95 H locs ls w93 (show 0 ≤ a3.toInt from r10) (show a3.toInt ≤ 11 from t11) (show 0 ≤ v12_4.toInt from r12) (show v12_4.toInt ≤ 399 by first | with_reducible assumption | omega) (show 0 ≤ x95.toInt by first | with_reducible assumption | omega) (show x95.toInt ≤ 64 by first | with_reducible assumption | omega)  hw hT hF c96 hM (lv_sub hl [1, 2, 3, 4, 5, 0] rfl)
  have hM : TT (fun n => m_X1_holds n 149 152 q2_ a3.toInt (sL w0)) (fun n => m_X1_holds n 149 152 q2_ a3.toInt (sL w0)) := TT.rf
  refine lv_aload_n hx hb dX1_holds_0 rfl (lv_at hl 0 rfl) ?_
  refine lv_iconst (v := 0) hx hb dX1_holds_1 (by decide) ?_
  have hTq := hT
  refine tk_puti hC hK hw hT hinX1 tyX1_ok nmX1 kC_at149 (by decide) rfl rfl 4 (by decide) (List.mem_cons_of_mem _ uw_44_19) rfl rfl rfl rfl (by decide) (by decide) dX1_holds_2 (fun H locs w99 hw hT k101 c100 => ?_)
  replace hM := hM.wr (sL_upf hTq hT kC_at149 (kC_lt kC_at149) (by decide) rfl k101 c100 (by decide))
  have hF := hF.put kC_at149 (k := 4) (by decide) k101
  refine lv_aload_n hx hb dX1_holds_5 rfl (lv_at hl 2 rfl) ?_
  refine lv_iload_n hx hb dX1_holds_6 rfl (lv_at hl 3 rfl) ?_
  refine tk_Vi hC hK hw hT hA hE hSR hkq2_ (by decide) rfl (ky_X2_firstToken_2 l adK adV dC dI cy ad B hB0 (Int.le_trans hB1 (by decide)) qr s1   q2_ hkq2_ a3 (show 0 ≤ a3.toInt from ra3) (show a3.toInt ≤ 11 from ta3) w99 H.size hT ) (cwV 1 hC.2.2.2.2 uV_RX1_171 rfl rfl rfl (by decide +kernel) ⟨Nat.le_of_ble_eq_true rfl, Nat.le_of_ble_eq_true rfl⟩) rfl hl.1 rfl (Nat.le_of_ble_eq_true rfl) dX1_holds_7 (fun r102 w104 H locs hp103 hw => ?_)
  obtain ⟨hT, k105, hv109, hg108⟩ := hp103
  have hF := hF.tr k105 (by decide)
  have c110 := k105.gi kC_at149 (by decide) c100
  obtain ⟨g106, g107⟩ := hg108
  replace hM := hM.call hv109 rfl
  refine lv_istore (lv' := [(4, .int r102), (0, .ref (ad 149)), (1, .ref (ad 152)), (2, .ref (ad q2_)), (3, .int a3)]) hx hb dX1_holds_10 hl (by decide) rfl (fun ls hl => ?_)
  exact L12 ((400 - r102.toInt).toNat + 1) r102 0 H locs ls w104 (show 0 ≤ a3.toInt from ra3) (show a3.toInt ≤ 11 from ta3) (show 0 ≤ r102.toInt by first | with_reducible assumption | omega) (show r102.toInt ≤ 400 by first | with_reducible assumption | omega) (by decide) (by decide) (Nat.lt_succ_self _) hw hT hF c110 hM (lv_sub hl [1, 2, 3, 4, 0] rfl)
abbrev Py_X1_chooseDeed_1 (ad : Nat → Nat) (cy : Nat → ClassId) (B : Int) (qr : Nat) (s1 : Int) (q2_ : Nat) (w0 : va_W) : Int32 → va_W → Prop := fun r u => TW ksC ad cy B qr s1 u ∧ FE ksC [(1, 4, 4), (45, 0, 64)] w0 u ∧ Ev (fun n => m_X1_chooseDeed n 149 152 q2_ (sL w0)) (r.toInt, sL u) ∧ (((∃ y : Int32, gi u q2_ 4 = y ∧ 1 ≤ y.toInt ∧ y.toInt ≤ 12)) ∨ (0 ≤ r.toInt ∧ r.toInt ≤ 3))
set_option maxHeartbeats 4000000 in
set_option maxRecDepth 100000 in
theorem ky_X1_chooseDeed_1 (l : Launch) (adK adV : Nat → Nat) (dC : Nat → ClassId) (dI : Nat → Nat → Nat) (cy : Nat → ClassId) (ad : Nat → Nat) (B : Int) (hB0 : 2147483648 ≤ B) (hB1 : B ≤ 1152921504606846976) (qr : Nat) (s1 : Int)  (q2_ : Nat) (hkq2_ : ksC[q2_]? = some 2) (w0 : va_W) (sz : Nat) (hT : TW ksC ad cy B qr s1 w0)  : Met l yX1_chooseDeed (wu yX1_chooseDeed cX1_chooseDeed 5 (some .int)) ({ frames := 4, cells := 0, slots := 0, locals := 82 }) (va_Pc [.ref (ad 149), .ref (ad 152), .ref (ad q2_)] (wpreS adK adV dC dI cy sz w0)) (va_Qi (Py_X1_chooseDeed_1 ad cy B qr s1 q2_ w0) (fun u : va_W => wpost dC dI cy (va_A w0 sz) u) (va_A w0 sz)) 0 0 (va_A w0 sz) := by
  refine Met.ofW (cc := cX1_chooseDeed) (maxL := 5) (ret := (some .int)) (by decide) rfl ?_
  intro p e s m args below meth c s₁ Bk hml hv
  obtain ⟨rfl, ⟨hsz, hP, hK, hD0⟩, hE, hSR⟩ := hv
  have hx := Bk.exec
  have hb := Bk.bytes
  have hr := Bk.returns
  have hlocks := Bk.notSynchronized
  have hC : CallFix p m c cX1_chooseDeed 5 s _ (wu yX1_chooseDeed cX1_chooseDeed 5 (some .int)) RX1 := ⟨hx, hb, hml, findClass_of_methodNamed Bk.named, atoms_spec (ws := (wu yX1_chooseDeed cX1_chooseDeed 5 (some .int))) Bk.pre⟩
  subst hsz
  have hD := hD0.self (sz := s.heap.size)
  generalize hAe : va_A w0 s.heap.size = A at hD hE ⊢
  have hA : ∀ q : Nat, s.heap.size ≤ q → A q := fun q h => by rw [← hAe]; exact Or.inr h
  have hw : Wd dC dI A s.heap s.heap [] w0 := ⟨hP, hD, va_S.rf⟩
  have hF : FE ksC [(1, 4, 4), (45, 0, 64)] w0 w0 := FE.rf
  have hl := lv_entry ([.ref (ad 149), .ref (ad 152), .ref (ad q2_)]) (n := 5) (Nat.le_of_ble_eq_true rfl)
  rw [lg_entry_eq]
  generalize (lg_sl ([.ref (ad 149), .ref (ad 152), .ref (ad q2_)]) ++ List.replicate (5 - (lg_sl ([.ref (ad 149), .ref (ad 152), .ref (ad q2_)])).length) Slot.unset).toArray = ls at hl ⊢
  have hl : lv_has ls 5 [(0, .ref (ad 149)), (1, .ref (ad 152)), (2, .ref (ad q2_))] := hl
  generalize hloc : ([] : List Loc) = locs at hw ⊢
  have hinX2 : ∀ w ∈ u_ws RX2 TX2 6, w ∈ (wu yX1_chooseDeed cX1_chooseDeed 5 (some .int)) := fun _ h => List.mem_cons_of_mem _ (up_74 h)
  have L2 : ∀ (n2 : Nat) (v2_3 : Int32) (H : Heap) (locs : List Loc) (ls : Array Slot) (w1 : va_W), 0 ≤ v2_3.toInt → v2_3.toInt ≤ 12 → (12 - v2_3.toInt).toNat < n2 → Wd dC dI A s.heap H locs w1 → TW ksC ad cy B qr s1 w1 → FE ksC [(1, 4, 4), (45, 0, 64)] w0 w1 → TT (fun n => m_X1_chooseDeed n 149 152 q2_ (sL w0)) (fun n => j_X1_chooseDeed 149 152 q2_ n 2 [v2_3.toInt] (sL w1)) → lv_has ls 5 [(0, .ref (ad 149)), (1, .ref (ad 152)), (2, .ref (ad q2_)), (3, .int v2_3)] → W p l e ({ frames := 4, cells := 0, slots := 0, locals := 82 }) s m (List.toArray [.ref (ad 149), .ref (ad 152), .ref (ad q2_)]) below meth c H locs 0 0 (MQ below (va_Qi (Py_X1_chooseDeed_1 ad cy B qr s1 q2_ w0) (fun u : va_W => wpost dC dI cy A u) A) (List.toArray [.ref (ad 149), .ref (ad 152), .ref (ad q2_)]) s 0 0 A) (F0 m 2 ls []) := by
    intro n2
    induction n2 with
    | zero => intro v2_3 H locs ls w1 r2 t3 hm2 hw hT hF hM hl; omega
    | succ n2 ih2 =>
      intro v2_3 H locs ls w1 r2 t3 hm2 hw hT hF hM hl
      have J40 : ∀ (v40_4 : Int32) (f40_q2__4 : Int32) (H : Heap) (locs : List Loc) (ls : Array Slot) (w4 : va_W), 0 ≤ v2_3.toInt → v2_3.toInt ≤ 11 → 1 ≤ f40_q2__4.toInt → f40_q2__4.toInt ≤ 12 → Wd dC dI A s.heap H locs w4 → TW ksC ad cy B qr s1 w4 → FE ksC [(1, 4, 4), (45, 0, 64)] w0 w4 → gi w4 q2_ 4 = f40_q2__4 → TT (fun n => m_X1_chooseDeed n 149 152 q2_ (sL w0)) (fun n => b_X1_chooseDeed_40 (j_X1_chooseDeed 149 152 q2_ n) n 149 152 q2_ (v2_3.toInt) (sL w4)) → lv_has ls 5 [(0, .ref (ad 149)), (1, .ref (ad 152)), (2, .ref (ad q2_)), (3, .int v2_3), (4, .int v40_4)] → W p l e ({ frames := 4, cells := 0, slots := 0, locals := 82 }) s m (List.toArray [.ref (ad 149), .ref (ad 152), .ref (ad q2_)]) below meth c H locs 0 0 (MQ below (va_Qi (Py_X1_chooseDeed_1 ad cy B qr s1 q2_ w0) (fun u : va_W => wpost dC dI cy A u) A) (List.toArray [.ref (ad 149), .ref (ad 152), .ref (ad q2_)]) s 0 0 A) (F0 m 40 ls []) := by
        intro v40_4 f40_q2__4 H locs ls w4 r5 t6 r7 t8 hw hT hF c9 hM hl
        obtain ⟨x10, ex10⟩ : ∃ y : Int32, y = v2_3 + Int32.ofInt 1 := ⟨_, rfl⟩
        have erx10 := ex10
        refine lv_iinc (v := x10) (lv' := [(3, .int x10), (0, .ref (ad 149)), (1, .ref (ad 152)), (2, .ref (ad q2_)), (4, .int v40_4)]) hx hb dX1_chooseDeed_40 hl (k := 3) rfl ex10.symm (by decide) rfl (fun ls hl => ?_)
        have ex10 : x10.toInt = v2_3.toInt + 1 := by rw [ex10]; exact wk_add (y := 1) (show -2147483648 ≤ v2_3.toInt + 1 by omega) (show v2_3.toInt + 1 ≤ 2147483647 by omega)
        replace hM := hM.lt ex10.symm
        refine lv_goto (tgt := 2) hx hb dX1_chooseDeed_43 (by decide) ?_
        exact ih2 x10 H locs ls w4 (show 0 ≤ x10.toInt by first | with_reducible assumption | omega) (show x10.toInt ≤ 12 by first | with_reducible assumption | omega) (show (12 - x10.toInt).toNat < n2 by first | exact tn_lt hm2 (by omega) (by omega) | omega) hw hT hF hM (lv_sub hl [1, 2, 3, 0] rfl)
      replace hM := hM.suc (fun _ => e_X1_chooseDeed_2)
      refine lv_iload_n hx hb dX1_chooseDeed_2 rfl (lv_at hl 3 rfl) ?_
      refine lv_aload_n hx hb dX1_chooseDeed_3 rfl (lv_at hl 2 rfl) ?_
      refine tk_geti hC hK hw hT hinX2 hkq2_ (by decide) rfl 4 (by decide) (List.mem_cons_of_mem _ uw_44_6) rfl rfl dX1_chooseDeed_4 (fun x11 c12 rx11 tx11 => ?_)
      replace hM := hM.rd (sL_at (kC_lt hkq2_) c12)
      refine lv_icmp_ge (tgt := 46) hx hb dX1_chooseDeed_7 (by decide) (fun c13 => ?_) (fun c13 => ?_)
      · have c13 : x11.toInt ≤ v2_3.toInt := wk_le.mp c13
        replace hM := hM.pos c13
        refine lv_iconst (v := 3) hx hb dX1_chooseDeed_46 (by decide) ?_
        exact tk_iret hC hr hlocks hK ⟨hT, hF, hM.ret (by decide), (Or.inr ⟨(by decide), (by decide)⟩)⟩ hw dX1_chooseDeed_47
      · have c13 : v2_3.toInt < x11.toInt := wk_leF c13
        replace hM := hM.neg (Int.not_le.mpr c13)
        refine lv_aload_n hx hb dX1_chooseDeed_10 rfl (lv_at hl 2 rfl) ?_
        refine lv_iload_n hx hb dX1_chooseDeed_11 rfl (lv_at hl 3 rfl) ?_
        refine tk_Vi hC hK hw hT hA hE hSR hkq2_ (by decide) rfl (ky_X2_deedOf_1 l adK adV dC dI cy ad B hB0 (Int.le_trans hB1 (by decide)) qr s1   q2_ hkq2_ v2_3 (show 0 ≤ v2_3.toInt from r2) (show v2_3.toInt ≤ 11 by first | with_reducible assumption | omega) w1 H.size hT ) (cwV 1 hC.2.2.2.2 uV_RX1_157 rfl rfl rfl (by decide +kernel) ⟨Nat.le_of_ble_eq_true rfl, Nat.le_of_ble_eq_true rfl⟩) rfl hl.1 rfl (Nat.le_of_ble_eq_true rfl) dX1_chooseDeed_12 (fun r14 w16 H locs hp15 hw => ?_)
        obtain ⟨hT, k17, hv19, hg18⟩ := hp15
        have hF := hF.tr k17 (by decide)
        have c20 := k17.gi hkq2_ (by decide) c12
        clear hg18
        replace hM := hM.call hv19 rfl
        refine lv_istore (lv' := [(4, .int r14), (0, .ref (ad 149)), (1, .ref (ad 152)), (2, .ref (ad q2_)), (3, .int v2_3)]) hx hb dX1_chooseDeed_15 hl (by decide) rfl (fun ls hl => ?_)
        refine lv_aload_n hx hb dX1_chooseDeed_17 rfl (lv_at hl 1 rfl) ?_
        refine lv_aload_n hx hb dX1_chooseDeed_18 rfl (lv_at hl 2 rfl) ?_
        refine lv_iload hx hb dX1_chooseDeed_19 (lv_at hl 0 rfl) ?_
        refine tk_Vi hC hK hw hT hA hE hSR kC_at149 (by decide) rfl (ky_X1_mayDo_1 l adK adV dC dI cy ad B hB0 (Int.le_trans hB1 (by decide)) qr s1   r14 w16 H.size hT ) (cwV 2 hC.2.2.2.2 uV_RX1_161 rfl rfl rfl (by decide +kernel) ⟨Nat.le_of_ble_eq_true rfl, Nat.le_of_ble_eq_true rfl⟩) rfl hl.1 rfl (Nat.le_of_ble_eq_true rfl) dX1_chooseDeed_21 (fun r21 w23 H locs hp22 hw => ?_)
        obtain ⟨hT, k24, hv30, hg29⟩ := hp22
        have hF := hF.tr k24 (by decide)
        have c31 := k24.gi hkq2_ (by decide) c20
        rcases hg29 with ⟨g25, g26, g27, g28⟩ | rfl | rfl
        · replace hM := hM.call hv30 rfl
          refine lv_if_eq (tgt := 40) hx hb dX1_chooseDeed_24 (by decide) (fun c32 => ?_) (fun c32 => ?_)
          · have c32 : r21.toInt = (0 : Int) := wk_eq.mp c32
            replace hM := hM.pos c32
            exact J40 r14 x11 H locs ls w23 (show 0 ≤ v2_3.toInt from r2) (show v2_3.toInt ≤ 11 by first | with_reducible assumption | omega) (show 1 ≤ x11.toInt by first | with_reducible assumption | omega) (show x11.toInt ≤ 12 by first | with_reducible assumption | omega)  hw hT hF c31 hM (lv_sub hl [1, 2, 3, 4, 0] rfl)
          · have c32 : ¬ r21.toInt = (0 : Int) := wk_eqF c32
            replace hM := hM.neg c32
            refine lv_aload_n hx hb dX1_chooseDeed_27 rfl (lv_at hl 1 rfl) ?_
            refine lv_aload_n hx hb dX1_chooseDeed_28 rfl (lv_at hl 2 rfl) ?_
            refine lv_aload_n hx hb dX1_chooseDeed_29 rfl (lv_at hl 3 rfl) ?_
            refine lv_iload_n hx hb dX1_chooseDeed_30 rfl (lv_at hl 4 rfl) ?_
            refine tk_Vi hC hK hw hT hA hE hSR kC_at149 (by decide) rfl (ky_X1_holds_1 l adK adV dC dI cy ad B hB0 (Int.le_trans hB1 (by decide)) qr s1   q2_ hkq2_ v2_3 (show 0 ≤ v2_3.toInt from r2) (show v2_3.toInt ≤ 11 by first | with_reducible assumption | omega) w23 H.size hT ) (cwV 3 hC.2.2.2.2 uV_RX1_164 rfl rfl rfl (by decide +kernel) ⟨Nat.le_of_ble_eq_true rfl, Nat.le_of_ble_eq_true rfl⟩) rfl hl.1 rfl (Nat.le_of_ble_eq_true rfl) dX1_chooseDeed_31 (fun r33 w35 H locs hp34 hw => ?_)
            obtain ⟨hT, k36, hv40, hg39⟩ := hp34
            have hF := hF.tr k36 (by decide)
            have c41 := k36.gi hkq2_ (by decide) c31
            rcases hg39 with ⟨rfl, ⟨x37, c38, rx37, tx37⟩⟩ | rfl
            · replace hM := hM.call (r' := 0) hv40 (by decide)
              refine lv_if_eq (tgt := 40) hx hb dX1_chooseDeed_34 (by decide) (fun _ => ?_) (fun c => absurd (by decide) c)
              replace hM := hM.pos (by decide)
              exact J40 r14 x11 H locs ls w35 (show 0 ≤ v2_3.toInt from r2) (show v2_3.toInt ≤ 11 by first | with_reducible assumption | omega) (show 1 ≤ x11.toInt by first | with_reducible assumption | omega) (show x11.toInt ≤ 12 by first | with_reducible assumption | omega)  hw hT hF c41 hM (lv_sub hl [1, 2, 3, 4, 0] rfl)
            · replace hM := hM.call (r' := 1) hv40 (by decide)
              refine lv_if_eq (tgt := 40) hx hb dX1_chooseDeed_34 (by decide) (fun c => absurd c (by decide)) (fun _ => ?_)
              replace hM := hM.neg (by decide)
              refine lv_iload hx hb dX1_chooseDeed_37 (lv_at hl 0 rfl) ?_
              exact tk_iret hC hr hlocks hK ⟨hT, hF, hM.ret rfl, (Or.inr ⟨(show 0 ≤ r14.toInt by first | with_reducible assumption | omega), (show r14.toInt ≤ 3 by first | with_reducible assumption | omega)⟩)⟩ hw dX1_chooseDeed_39
        · replace hM := hM.call (r' := 0) hv30 (by decide)
          refine lv_if_eq (tgt := 40) hx hb dX1_chooseDeed_24 (by decide) (fun _ => ?_) (fun c => absurd (by decide) c)
          replace hM := hM.pos (by decide)
          exact J40 r14 x11 H locs ls w23 (show 0 ≤ v2_3.toInt from r2) (show v2_3.toInt ≤ 11 by first | with_reducible assumption | omega) (show 1 ≤ x11.toInt by first | with_reducible assumption | omega) (show x11.toInt ≤ 12 by first | with_reducible assumption | omega)  hw hT hF c31 hM (lv_sub hl [1, 2, 3, 4, 0] rfl)
        · replace hM := hM.call (r' := 1) hv30 (by decide)
          refine lv_if_eq (tgt := 40) hx hb dX1_chooseDeed_24 (by decide) (fun c => absurd c (by decide)) (fun _ => ?_)
          replace hM := hM.neg (by decide)
          refine lv_aload_n hx hb dX1_chooseDeed_27 rfl (lv_at hl 1 rfl) ?_
          refine lv_aload_n hx hb dX1_chooseDeed_28 rfl (lv_at hl 2 rfl) ?_
          refine lv_aload_n hx hb dX1_chooseDeed_29 rfl (lv_at hl 3 rfl) ?_
          refine lv_iload_n hx hb dX1_chooseDeed_30 rfl (lv_at hl 4 rfl) ?_
          refine tk_Vi hC hK hw hT hA hE hSR kC_at149 (by decide) rfl (ky_X1_holds_1 l adK adV dC dI cy ad B hB0 (Int.le_trans hB1 (by decide)) qr s1   q2_ hkq2_ v2_3 (show 0 ≤ v2_3.toInt from r2) (show v2_3.toInt ≤ 11 by first | with_reducible assumption | omega) w23 H.size hT ) (cwV 3 hC.2.2.2.2 uV_RX1_164 rfl rfl rfl (by decide +kernel) ⟨Nat.le_of_ble_eq_true rfl, Nat.le_of_ble_eq_true rfl⟩) rfl hl.1 rfl (Nat.le_of_ble_eq_true rfl) dX1_chooseDeed_31 (fun r42 w44 H locs hp43 hw => ?_)
          obtain ⟨hT, k45, hv49, hg48⟩ := hp43
          have hF := hF.tr k45 (by decide)
          have c50 := k45.gi hkq2_ (by decide) c31
          rcases hg48 with ⟨rfl, ⟨x46, c47, rx46, tx46⟩⟩ | rfl
          · replace hM := hM.call (r' := 0) hv49 (by decide)
            refine lv_if_eq (tgt := 40) hx hb dX1_chooseDeed_34 (by decide) (fun _ => ?_) (fun c => absurd (by decide) c)
            replace hM := hM.pos (by decide)
            exact J40 r14 x11 H locs ls w44 (show 0 ≤ v2_3.toInt from r2) (show v2_3.toInt ≤ 11 by first | with_reducible assumption | omega) (show 1 ≤ x11.toInt by first | with_reducible assumption | omega) (show x11.toInt ≤ 12 by first | with_reducible assumption | omega)  hw hT hF c50 hM (lv_sub hl [1, 2, 3, 4, 0] rfl)
          · replace hM := hM.call (r' := 1) hv49 (by decide)
            refine lv_if_eq (tgt := 40) hx hb dX1_chooseDeed_34 (by decide) (fun c => absurd c (by decide)) (fun _ => ?_)
            replace hM := hM.neg (by decide)
            refine lv_iload hx hb dX1_chooseDeed_37 (lv_at hl 0 rfl) ?_
            exact tk_iret hC hr hlocks hK ⟨hT, hF, hM.ret rfl, (Or.inl ⟨x11, c50, (show 1 ≤ x11.toInt by first | with_reducible assumption | omega), (show x11.toInt ≤ 12 by first | with_reducible assumption | omega)⟩)⟩ hw dX1_chooseDeed_39
  have hM : TT (fun n => m_X1_chooseDeed n 149 152 q2_ (sL w0)) (fun n => m_X1_chooseDeed n 149 152 q2_ (sL w0)) := TT.rf
  refine lv_iconst (v := 0) hx hb dX1_chooseDeed_0 (by decide) ?_
  refine lv_istore_n (lv' := [(3, .int 0), (0, .ref (ad 149)), (1, .ref (ad 152)), (2, .ref (ad q2_))]) hx hb dX1_chooseDeed_1 rfl hl (by decide) rfl (fun ls hl => ?_)
  exact L2 ((12 - (0 : Int)).toNat + 1) 0 s.heap locs ls w0 (by decide) (by decide) (Nat.lt_succ_self _) hw hT hF hM (lv_sub hl [1, 2, 3, 0] rfl)
