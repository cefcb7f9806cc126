abbrev P_X12_mayDo_1 (ad : Nat → Nat) (cy : Nat → ClassId) (B : Int) (qr : Nat) (s1 : Int) (a1 : Int32) (a2 : Int32) (w0 : va_W) : Int32 → va_W → Prop := fun r u => w0 = u ∧ ((r = 0) ∨ (r = 0 ∧ 0 ≤ a2.toInt ∧ a2.toInt ≤ 0) ∨ (r = 0 ∧ 1 ≤ a2.toInt ∧ a2.toInt ≤ 1) ∨ (r = 1 ∧ a2.toInt ≤ (-1)) ∨ (r = 1 ∧ 0 ≤ a2.toInt ∧ a2.toInt ≤ 0 ∧ (∃ y : Int32, gi u 0 31 = y ∧ 0 ≤ y.toInt ∧ y.toInt ≤ 11)) ∨ (r = 1 ∧ 1 ≤ a2.toInt ∧ a2.toInt ≤ 1 ∧ (∃ y : Int32, gi u 12 1 = y ∧ 1 ≤ y.toInt ∧ y.toInt ≤ 12) ∧ (mAS u a1.toInt)) ∨ (r = 1 ∧ 2 ≤ a2.toInt ∧ a2.toInt ≤ 2 ∧ (∃ y : Int32, gi u 0 30 = y ∧ 0 ≤ y.toInt ∧ y.toInt ≤ 0)) ∨ (r = 1 ∧ 3 ≤ a2.toInt))
set_option maxHeartbeats 4000000 in
set_option maxRecDepth 100000 in
theorem k_X12_mayDo_1 (l : Launch) (adK adV : Nat → Nat) (dC : Nat → ClassId) (dI : Nat → Nat → Nat) (cy : Nat → ClassId) (ad : Nat → Nat) (B : Int) (hB0 : 100000 ≤ B) (hB1 : B ≤ 1073741824) (qr : Nat) (s1 : Int)  (a1 : Int32) (ra1 : 0 ≤ a1.toInt) (ta1 : a1.toInt ≤ 3) (a2 : Int32) (w0 : va_W) (sz : Nat) (hT : TW ksM ad cy B qr 12 w0)  : Met l yX12_mayDo (wu yX12_mayDo cX12_mayDo 3 (some .boolean)) ({ frames := 6, cells := 0, slots := 0, locals := 125 }) (va_Pc [.ref (ad 0), .int a1, .int a2] (wpreS adK adV dC dI cy sz w0)) (va_Qi (P_X12_mayDo_1 ad cy B qr s1 a1 a2 w0) (fun u : va_W => wpost dC dI cy (va_A w0 sz) u) (va_A w0 sz)) 0 0 (va_A w0 sz) := by
  refine Met.ofW (cc := cX12_mayDo) (maxL := 3) (ret := (some .boolean)) (by decide) rfl ?_
  intro p e s m args below meth c s₁ Bk hml hv
  obtain ⟨rfl, ⟨hsz, hP, hK, hD0⟩, hE, hSR⟩ := hv
  have hx := Bk.exec
  have hb := Bk.bytes
  have hr := Bk.returns
  have hlocks := Bk.notSynchronized
  have hC : CallFix p m c cX12_mayDo 3 s _ (wu yX12_mayDo cX12_mayDo 3 (some .boolean)) RX12 := ⟨hx, hb, hml, findClass_of_methodNamed Bk.named, atoms_spec (ws := (wu yX12_mayDo cX12_mayDo 3 (some .boolean))) Bk.pre⟩
  subst hsz
  have hD := hD0.self (sz := s.heap.size)
  generalize hAe : va_A w0 s.heap.size = A at hD hE ⊢
  have hA : ∀ q : Nat, s.heap.size ≤ q → A q := fun q h => by rw [← hAe]; exact Or.inr h
  have hw : Wd dC dI A s.heap s.heap [] w0 := ⟨hP, hD, va_S.rf⟩
  have hF : FE ksM ([] : List (Nat × Nat × Nat)) w0 w0 := FE.rf
  have hl := lv_entry ([.ref (ad 0), .int a1, .int a2]) (n := 3) (Nat.le_of_ble_eq_true rfl)
  rw [lg_entry_eq]
  generalize (lg_sl ([.ref (ad 0), .int a1, .int a2]) ++ List.replicate (3 - (lg_sl ([.ref (ad 0), .int a1, .int a2])).length) Slot.unset).toArray = ls at hl ⊢
  have hl : lv_has ls 3 [(0, .ref (ad 0)), (1, .int a1), (2, .int a2)] := hl
  generalize hloc : ([] : List Loc) = locs at hw ⊢
  have hinX12 : ∀ w ∈ u_ws RX12 TX12 42, w ∈ (wu yX12_mayDo cX12_mayDo 3 (some .boolean)) := fun _ h => List.mem_cons_of_mem _ (up_71 h)
  have J67 : ∀ (f67_0_30 : Int32) (H : Heap) (locs : List Loc) (ls : Array Slot), 0 ≤ a1.toInt → a1.toInt ≤ 3 → 0 ≤ f67_0_30.toInt → f67_0_30.toInt ≤ 1 → Wd dC dI A s.heap H locs w0 → gi w0 0 30 = f67_0_30 → lv_has ls 3 [(0, .ref (ad 0)), (1, .int a1), (2, .int 2)] → W p l e ({ frames := 6, cells := 0, slots := 0, locals := 125 }) s m (List.toArray [.ref (ad 0), .int a1, .int a2]) below meth c H locs 0 0 (MQ below (va_Qi (P_X12_mayDo_1 ad cy B qr s1 a1 a2 w0) (fun u : va_W => wpost dC dI cy A u) A) (List.toArray [.ref (ad 0), .int a1, .int a2]) s 0 0 A) (F0 m 67 ls []) := by
    intro f67_0_30 H locs ls r1 t2 r3 t4 hw c5 hl
    refine lv_iconst (v := 0) hx hb dX12_mayDo_67 (by decide) ?_
    exact tk_zret hC hr rfl hlocks hK ⟨rfl, (Or.inl rfl)⟩ hw dX12_mayDo_68
  refine lv_iload_n hx hb dX12_mayDo_0 rfl (lv_at hl 2 rfl) ?_
  rcases (show a2.toInt = 0 ∨ a2.toInt = 1 ∨ a2.toInt = 2 ∨ a2.toInt < 0 ∨ 2 < a2.toInt by omega) with c6 | c6 | c6 | c6 | c6
  · refine lv_tableIn (off := 27) (tgt := 28) hx hb dX12_mayDo_1 (by omega) (by omega) (by rw [c6]; rfl) (by decide) ?_
    refine lv_aload_n hx hb dX12_mayDo_28 rfl (lv_at hl 0 rfl) ?_
    refine lv_iload_n hx hb dX12_mayDo_29 rfl (lv_at hl 1 rfl) ?_
    refine tk_Vi hC hK hw hT hA hE hSR kM_at0 (by decide) rfl (k_X12_canGo_1 l adK adV dC dI cy ad B hB0 (Int.le_trans hB1 (by decide)) qr s1   a1 (show 0 ≤ a1.toInt from ra1) (show a1.toInt ≤ 3 from ta1) w0 s.heap.size hT ) (cwV 1 hC.2.2.2.2 uV_RX12_387 rfl rfl rfl (by decide +kernel) ⟨Nat.le_of_ble_eq_true rfl, Nat.le_of_ble_eq_true rfl⟩) rfl hl.1 rfl (Nat.le_of_ble_eq_true rfl) dX12_mayDo_30 (fun r7 w9 H locs hp8 hw => ?_)
    obtain ⟨rfl, hg13⟩ := hp8
    rcases hg13 with rfl | ⟨rfl, ⟨x11, c12, rx11, tx11⟩⟩
    · exact tk_zret hC hr rfl hlocks hK ⟨rfl, (Or.inr (Or.inl ⟨rfl, (show 0 ≤ a2.toInt by first | with_reducible assumption | omega), (show a2.toInt ≤ 0 by first | with_reducible assumption | omega)⟩))⟩ hw dX12_mayDo_33
    · exact tk_zret hC hr rfl hlocks hK ⟨rfl, (Or.inr (Or.inr (Or.inr (Or.inr (Or.inl ⟨rfl, (show 0 ≤ a2.toInt by first | with_reducible assumption | omega), (show a2.toInt ≤ 0 by first | with_reducible assumption | omega), ⟨x11, c12, (show 0 ≤ x11.toInt by first | with_reducible assumption | omega), (show x11.toInt ≤ 11 by first | with_reducible assumption | omega)⟩⟩)))))⟩ hw dX12_mayDo_33
  · refine lv_tableIn (off := 33) (tgt := 34) hx hb dX12_mayDo_1 (by omega) (by omega) (by rw [c6]; rfl) (by decide) ?_
    refine lv_aload_n hx hb dX12_mayDo_34 rfl (lv_at hl 0 rfl) ?_
    refine lv_iload_n hx hb dX12_mayDo_35 rfl (lv_at hl 1 rfl) ?_
    refine tk_Vi hC hK hw hT hA hE hSR kM_at0 (by decide) rfl (k_X12_asideOf_1 l adK adV dC dI cy ad B hB0 (Int.le_trans hB1 (by decide)) qr s1   a1 (show 0 ≤ a1.toInt from ra1) (show a1.toInt ≤ 3 from ta1) w0 s.heap.size hT ) (cwV 1 hC.2.2.2.2 uV_RX12_390 rfl rfl rfl (by decide +kernel) ⟨Nat.le_of_ble_eq_true rfl, Nat.le_of_ble_eq_true rfl⟩) rfl hl.1 rfl (Nat.le_of_ble_eq_true rfl) dX12_mayDo_36 (fun r14 w16 H locs hp15 hw => ?_)
    obtain ⟨rfl, hg24⟩ := hp15
    rcases hg24 with ⟨g18, g19, ⟨x20, c21, rx20, tx20⟩, hq22⟩ | ⟨rfl, hq23⟩
    · refine lv_if_lt (tgt := 46) hx hb dX12_mayDo_39 (by decide) (fun c => absurd c (fun h => absurd (show r14.toInt < (0 : Int) from wk_lt.mp h) (by omega))) (fun _ => ?_)
      refine lv_iconst (v := 1) hx hb dX12_mayDo_42 (by decide) ?_
      refine lv_goto (tgt := 47) hx hb dX12_mayDo_43 (by decide) ?_
      exact tk_zret hC hr rfl hlocks hK ⟨rfl, (Or.inr (Or.inr (Or.inr (Or.inr (Or.inr (Or.inl ⟨rfl, (show 1 ≤ a2.toInt by first | with_reducible assumption | omega), (show a2.toInt ≤ 1 by first | with_reducible assumption | omega), ⟨x20, c21, (show 1 ≤ x20.toInt by first | with_reducible assumption | omega), (show x20.toInt ≤ 12 by first | with_reducible assumption | omega)⟩, (by exact ⟨_, by omega, hq22.1, hq22.2⟩)⟩))))))⟩ hw dX12_mayDo_47
    · refine lv_if_lt (tgt := 46) hx hb dX12_mayDo_39 (by decide) (fun _ => ?_) (fun c => absurd (by decide) c)
      refine lv_iconst (v := 0) hx hb dX12_mayDo_46 (by decide) ?_
      exact tk_zret hC hr rfl hlocks hK ⟨rfl, (Or.inr (Or.inr (Or.inl ⟨rfl, (show 1 ≤ a2.toInt by first | with_reducible assumption | omega), (show a2.toInt ≤ 1 by first | with_reducible assumption | omega)⟩)))⟩ hw dX12_mayDo_47
  · refine lv_tableIn (off := 47) (tgt := 48) hx hb dX12_mayDo_1 (by omega) (by omega) (by rw [c6]; rfl) (by decide) ?_
    refine lv_aload_n hx hb dX12_mayDo_48 rfl (lv_at hl 0 rfl) ?_
    refine tk_geti hC hK hw hT hinX12 kM_at0 (by decide) rfl 30 (by decide) (List.mem_cons_of_mem _ uw_47_4) rfl rfl dX12_mayDo_49 (fun x25 c26 rx25 tx25 => ?_)
    refine lv_if_ne (tgt := 67) hx hb dX12_mayDo_52 (by decide) (fun c27 => ?_) (fun c27 => ?_)
    · have c27 : ¬ x25.toInt = (0 : Int) := wk_eqF c27
      obtain rfl : a2 = 2 := wk_eq.mpr (show a2.toInt = 2 by first | exact Int.le_antisymm (by omega) (by omega) | omega)
      exact J67 x25 s.heap locs ls  (show 0 ≤ a1.toInt from ra1) (show a1.toInt ≤ 3 from ta1) (show 0 ≤ x25.toInt from rx25) (show x25.toInt ≤ 1 from tx25)  hw  c26 (lv_sub hl [0, 1, 2] rfl)
    · have c27 : x25.toInt = (0 : Int) := wk_eq.mp c27
      refine lv_aload_n hx hb dX12_mayDo_55 rfl (lv_at hl 0 rfl) ?_
      refine lv_iload_n hx hb dX12_mayDo_56 rfl (lv_at hl 1 rfl) ?_
      refine tk_Vi hC hK hw hT hA hE hSR kM_at0 (by decide) rfl (k_X12_askedToday_1 l adK adV dC dI cy ad B hB0 (Int.le_trans hB1 (by decide)) qr s1   a1 (show 0 ≤ a1.toInt from ra1) (show a1.toInt ≤ 3 from ta1) w0 s.heap.size hT ) (cwV 1 hC.2.2.2.2 uV_RX12_375 rfl rfl rfl (by decide +kernel) ⟨Nat.le_of_ble_eq_true rfl, Nat.le_of_ble_eq_true rfl⟩) rfl hl.1 rfl (Nat.le_of_ble_eq_true rfl) dX12_mayDo_57 (fun r28 w30 H locs hp29 hw => ?_)
      obtain ⟨rfl, hg32⟩ := hp29
      rcases hg32 with rfl | rfl
      · refine lv_if_ne (tgt := 67) hx hb dX12_mayDo_60 (by decide) (fun c => absurd (by decide) c) (fun _ => ?_)
        refine lv_iconst (v := 1) hx hb dX12_mayDo_63 (by decide) ?_
        refine lv_goto (tgt := 68) hx hb dX12_mayDo_64 (by decide) ?_
        exact tk_zret hC hr rfl hlocks hK ⟨rfl, (Or.inr (Or.inr (Or.inr (Or.inr (Or.inr (Or.inr (Or.inl ⟨rfl, (show 2 ≤ a2.toInt by first | with_reducible assumption | omega), (show a2.toInt ≤ 2 by first | with_reducible assumption | omega), ⟨x25, c26, (show 0 ≤ x25.toInt from rx25), (show x25.toInt ≤ 0 by first | with_reducible assumption | omega)⟩⟩)))))))⟩ hw dX12_mayDo_68
      · refine lv_if_ne (tgt := 67) hx hb dX12_mayDo_60 (by decide) (fun _ => ?_) (fun c => absurd c (by decide))
        obtain rfl : a2 = 2 := wk_eq.mpr (show a2.toInt = 2 by first | exact Int.le_antisymm (by omega) (by omega) | omega)
        exact J67 x25 H locs ls  (show 0 ≤ a1.toInt from ra1) (show a1.toInt ≤ 3 from ta1) (show 0 ≤ x25.toInt from rx25) (show x25.toInt ≤ 1 from tx25)  hw  c26 (lv_sub hl [0, 1, 2] rfl)
  · refine lv_tableOut (tgt := 69) hx hb dX12_mayDo_1 (Or.inl c6) (by decide) ?_
    refine lv_iconst (v := 1) hx hb dX12_mayDo_69 (by decide) ?_
    exact tk_zret hC hr rfl hlocks hK ⟨rfl, (Or.inr (Or.inr (Or.inr (Or.inl ⟨rfl, (show a2.toInt ≤ (-1) by first | with_reducible assumption | omega)⟩))))⟩ hw dX12_mayDo_70
  · refine lv_tableOut (tgt := 69) hx hb dX12_mayDo_1 (Or.inr c6) (by decide) ?_
    refine lv_iconst (v := 1) hx hb dX12_mayDo_69 (by decide) ?_
    exact tk_zret hC hr rfl hlocks hK ⟨rfl, (Or.inr (Or.inr (Or.inr (Or.inr (Or.inr (Or.inr (Or.inr ⟨rfl, (show 3 ≤ a2.toInt by first | with_reducible assumption | omega)⟩)))))))⟩ hw dX12_mayDo_70
abbrev P_X12_one_1 (ad : Nat → Nat) (cy : Nat → ClassId) (B : Int) (qr : Nat) (s1 : Int) (a0 : Int32) (a1 : Int64) (a2 : Int64) (w0 : va_W) : Int64 → va_W → Prop := fun r u => w0 = u ∧ ((True))
set_option maxHeartbeats 4000000 in
set_option maxRecDepth 100000 in
theorem k_X12_one_1 (l : Launch) (adK adV : Nat → Nat) (dC : Nat → ClassId) (dI : Nat → Nat → Nat) (cy : Nat → ClassId) (ad : Nat → Nat) (B : Int) (hB0 : 100000 ≤ B) (hB1 : B ≤ 1073741824) (qr : Nat) (s1 : Int)  (a0 : Int32) (ra0 : 2 ≤ a0.toInt) (ta0 : a0.toInt ≤ 15) (a1 : Int64) (a2 : Int64) (w0 : va_W) (sz : Nat) (hT : TW ksM ad cy B qr 12 w0)  : Met l yX12_one (wu yX12_one cX12_one 5 (some .long)) ({ frames := 1, cells := 0, slots := 0, locals := 12 }) (va_Pc [.int a0, .long a1, .long a2] (wpreS adK adV dC dI cy sz w0)) (va_Ql (P_X12_one_1 ad cy B qr s1 a0 a1 a2 w0) (fun u : va_W => wpost dC dI cy (va_A w0 sz) u) (va_A w0 sz)) 0 0 (va_A w0 sz) := by
  refine Met.ofW (cc := cX12_one) (maxL := 5) (ret := (some .long)) (by decide) rfl ?_
  intro p e s m args below meth c s₁ Bk hml hv
  obtain ⟨rfl, ⟨hsz, hP, hK, hD0⟩, hE, hSR⟩ := hv
  have hx := Bk.exec
  have hb := Bk.bytes
  have hr := Bk.returns
  have hlocks := Bk.notSynchronized
  have hC : CallFix p m c cX12_one 5 s _ (wu yX12_one cX12_one 5 (some .long)) RX12 := ⟨hx, hb, hml, findClass_of_methodNamed Bk.named, atoms_spec (ws := (wu yX12_one cX12_one 5 (some .long))) Bk.pre⟩
  subst hsz
  have hD := hD0.self (sz := s.heap.size)
  generalize hAe : va_A w0 s.heap.size = A at hD hE ⊢
  have hA : ∀ q : Nat, s.heap.size ≤ q → A q := fun q h => by rw [← hAe]; exact Or.inr h
  have hw : Wd dC dI A s.heap s.heap [] w0 := ⟨hP, hD, va_S.rf⟩
  have hF : FE ksM ([] : List (Nat × Nat × Nat)) w0 w0 := FE.rf
  have hl := lv_entry ([.int a0, .long a1, .long a2]) (n := 5) (Nat.le_of_ble_eq_true rfl)
  rw [lg_entry_eq]
  generalize (lg_sl ([.int a0, .long a1, .long a2]) ++ List.replicate (5 - (lg_sl ([.int a0, .long a1, .long a2])).length) Slot.unset).toArray = ls at hl ⊢
  have hl : lv_has ls 5 [(0, .int a0), (1, .long a1), (3, .long a2)] := hl
  generalize hloc : ([] : List Loc) = locs at hw ⊢
  refine lv_iload_n hx hb dX12_one_0 rfl (lv_at hl 0 rfl) ?_
  rcases (show a0.toInt = 2 ∨ a0.toInt = 3 ∨ a0.toInt = 4 ∨ a0.toInt = 5 ∨ a0.toInt = 6 ∨ a0.toInt = 7 ∨ a0.toInt = 8 ∨ a0.toInt = 9 ∨ a0.toInt = 10 ∨ a0.toInt = 11 ∨ a0.toInt = 12 ∨ (a0.toInt < 2 ∨ 12 < a0.toInt) by omega) with c1 | c1 | c1 | c1 | c1 | c1 | c1 | c1 | c1 | c1 | c1 | c1
  · refine lv_tableIn (off := 59) (tgt := 60) hx hb dX12_one_1 (by omega) (by omega) (by rw [c1]; rfl) (by decide) ?_
    refine lv_lload_n hx hb dX12_one_60 rfl (lv_at hl 1 rfl) ?_
    refine lv_lload_n hx hb dX12_one_61 rfl (lv_at hl 2 rfl) ?_
    refine lv_ladd hx hb dX12_one_62 ?_
    have nx2 := wk_i64 a1
    have nx3 := wk_i64 a2
    refine lv_topl (fun x4 ex4 => ?_)
    exact tk_lret hC hr hlocks hK ⟨rfl, trivial⟩ hw dX12_one_63
  · refine lv_tableIn (off := 63) (tgt := 64) hx hb dX12_one_1 (by omega) (by omega) (by rw [c1]; rfl) (by decide) ?_
    refine lv_lload_n hx hb dX12_one_64 rfl (lv_at hl 1 rfl) ?_
    refine lv_lload_n hx hb dX12_one_65 rfl (lv_at hl 2 rfl) ?_
    refine lv_lsub hx hb dX12_one_66 ?_
    have nx5 := wk_i64 a1
    have nx6 := wk_i64 a2
    refine lv_topl (fun x7 ex7 => ?_)
    exact tk_lret hC hr hlocks hK ⟨rfl, trivial⟩ hw dX12_one_67
  · refine lv_tableIn (off := 67) (tgt := 68) hx hb dX12_one_1 (by omega) (by omega) (by rw [c1]; rfl) (by decide) ?_
    refine lv_lload_n hx hb dX12_one_68 rfl (lv_at hl 1 rfl) ?_
    refine lv_lload_n hx hb dX12_one_69 rfl (lv_at hl 2 rfl) ?_
    refine lv_lmul hx hb dX12_one_70 ?_
    have nx8 := wk_i64 a1
    have nx9 := wk_i64 a2
    refine lv_topl (fun x10 ex10 => ?_)
    exact tk_lret hC hr hlocks hK ⟨rfl, trivial⟩ hw dX12_one_71
  · refine lv_tableIn (off := 71) (tgt := 72) hx hb dX12_one_1 (by omega) (by omega) (by rw [c1]; rfl) (by decide) ?_
    refine lv_lload_n hx hb dX12_one_72 rfl (lv_at hl 2 rfl) ?_
    refine lv_lconst (v := 0) hx hb dX12_one_73 (by decide) ?_
    refine W.lcmp hx hb dX12_one_74 ?_
    refine lv_if_ne (tgt := 82) hx hb dX12_one_75 (by decide) (fun c11 => ?_) (fun c11 => ?_)
    · have c11 : ¬ a2.toInt = (0 : Int) := wk_ceF c11
      refine lv_lload_n hx hb dX12_one_82 rfl (lv_at hl 1 rfl) ?_
      refine lv_lload_n hx hb dX12_one_83 rfl (lv_at hl 2 rfl) ?_
      refine lv_ldiv hx hb dX12_one_84 (fun h => absurd (show a2.toInt = 0 from wk_eql.mp h) c11) ?_
      refine lv_topl (fun x12 ex12 => ?_)
      exact tk_lret hC hr hlocks hK ⟨rfl, trivial⟩ hw dX12_one_85
    · have c11 : a2.toInt = (0 : Int) := wk_ceT c11
      refine lv_lconst (v := 0) hx hb dX12_one_78 (by decide) ?_
      refine lv_goto (tgt := 85) hx hb dX12_one_79 (by decide) ?_
      exact tk_lret hC hr hlocks hK ⟨rfl, trivial⟩ hw dX12_one_85
  · refine lv_tableIn (off := 85) (tgt := 86) hx hb dX12_one_1 (by omega) (by omega) (by rw [c1]; rfl) (by decide) ?_
    refine lv_lload_n hx hb dX12_one_86 rfl (lv_at hl 1 rfl) ?_
    refine lv_lload_n hx hb dX12_one_87 rfl (lv_at hl 2 rfl) ?_
    refine W.lcmp hx hb dX12_one_88 ?_
    refine lv_if_ge (tgt := 96) hx hb dX12_one_89 (by decide) (fun c13 => ?_) (fun c13 => ?_)
    · refine lv_lconst (v := 0) hx hb dX12_one_96 (by decide) ?_
      exact tk_lret hC hr hlocks hK ⟨rfl, trivial⟩ hw dX12_one_97
    · refine lv_lconst (v := 1) hx hb dX12_one_92 (by decide) ?_
      refine lv_goto (tgt := 97) hx hb dX12_one_93 (by decide) ?_
      exact tk_lret hC hr hlocks hK ⟨rfl, trivial⟩ hw dX12_one_97
  · refine lv_tableIn (off := 97) (tgt := 98) hx hb dX12_one_1 (by omega) (by omega) (by rw [c1]; rfl) (by decide) ?_
    refine lv_lload_n hx hb dX12_one_98 rfl (lv_at hl 1 rfl) ?_
    refine lv_lload_n hx hb dX12_one_99 rfl (lv_at hl 2 rfl) ?_
    refine W.lcmp hx hb dX12_one_100 ?_
    refine lv_if_gt (tgt := 108) hx hb dX12_one_101 (by decide) (fun c14 => ?_) (fun c14 => ?_)
    · have c14 : a2.toInt < a1.toInt := wk_cgtT c14
      refine lv_lconst (v := 0) hx hb dX12_one_108 (by decide) ?_
      exact tk_lret hC hr hlocks hK ⟨rfl, trivial⟩ hw dX12_one_109
    · have c14 : a1.toInt ≤ a2.toInt := wk_cgtF c14
      refine lv_lconst (v := 1) hx hb dX12_one_104 (by decide) ?_
      refine lv_goto (tgt := 109) hx hb dX12_one_105 (by decide) ?_
      exact tk_lret hC hr hlocks hK ⟨rfl, trivial⟩ hw dX12_one_109
  · refine lv_tableIn (off := 109) (tgt := 110) hx hb dX12_one_1 (by omega) (by omega) (by rw [c1]; rfl) (by decide) ?_
    refine lv_lload_n hx hb dX12_one_110 rfl (lv_at hl 1 rfl) ?_
    refine lv_lload_n hx hb dX12_one_111 rfl (lv_at hl 2 rfl) ?_
    refine W.lcmp hx hb dX12_one_112 ?_
    refine lv_if_ne (tgt := 120) hx hb dX12_one_113 (by decide) (fun c15 => ?_) (fun c15 => ?_)
    · have c15 : ¬ a1.toInt = a2.toInt := wk_ceF c15
      refine lv_lconst (v := 0) hx hb dX12_one_120 (by decide) ?_
      exact tk_lret hC hr hlocks hK ⟨rfl, trivial⟩ hw dX12_one_121
    · have c15 : a1.toInt = a2.toInt := wk_ceT c15
      refine lv_lconst (v := 1) hx hb dX12_one_116 (by decide) ?_
      refine lv_goto (tgt := 121) hx hb dX12_one_117 (by decide) ?_
      exact tk_lret hC hr hlocks hK ⟨rfl, trivial⟩ hw dX12_one_121
  · refine lv_tableIn (off := 121) (tgt := 122) hx hb dX12_one_1 (by omega) (by omega) (by rw [c1]; rfl) (by decide) ?_
    refine lv_lload_n hx hb dX12_one_122 rfl (lv_at hl 1 rfl) ?_
    refine lv_lload_n hx hb dX12_one_123 rfl (lv_at hl 2 rfl) ?_
    refine W.lcmp hx hb dX12_one_124 ?_
    refine lv_if_lt (tgt := 132) hx hb dX12_one_125 (by decide) (fun c16 => ?_) (fun c16 => ?_)
    · have c16 : a1.toInt < a2.toInt := wk_cltT c16
      refine lv_lconst (v := 0) hx hb dX12_one_132 (by decide) ?_
      exact tk_lret hC hr hlocks hK ⟨rfl, trivial⟩ hw dX12_one_133
    · have c16 : a2.toInt ≤ a1.toInt := wk_cltF c16
      refine lv_lconst (v := 1) hx hb dX12_one_128 (by decide) ?_
      refine lv_goto (tgt := 133) hx hb dX12_one_129 (by decide) ?_
      exact tk_lret hC hr hlocks hK ⟨rfl, trivial⟩ hw dX12_one_133
  · refine lv_tableIn (off := 133) (tgt := 134) hx hb dX12_one_1 (by omega) (by omega) (by rw [c1]; rfl) (by decide) ?_
    refine lv_lload_n hx hb dX12_one_134 rfl (lv_at hl 1 rfl) ?_
    refine lv_lload_n hx hb dX12_one_135 rfl (lv_at hl 2 rfl) ?_
    refine W.lcmp hx hb dX12_one_136 ?_
    refine lv_if_le (tgt := 144) hx hb dX12_one_137 (by decide) (fun c17 => ?_) (fun c17 => ?_)
    · refine lv_lconst (v := 0) hx hb dX12_one_144 (by decide) ?_
      exact tk_lret hC hr hlocks hK ⟨rfl, trivial⟩ hw dX12_one_145
    · refine lv_lconst (v := 1) hx hb dX12_one_140 (by decide) ?_
      refine lv_goto (tgt := 145) hx hb dX12_one_141 (by decide) ?_
      exact tk_lret hC hr hlocks hK ⟨rfl, trivial⟩ hw dX12_one_145
  · refine lv_tableIn (off := 149) (tgt := 150) hx hb dX12_one_1 (by omega) (by omega) (by rw [c1]; rfl) (by decide) ?_
    refine lv_lload_n hx hb dX12_one_150 rfl (lv_at hl 1 rfl) ?_
    refine lv_lload_n hx hb dX12_one_151 rfl (lv_at hl 2 rfl) ?_
    refine lv_lor hx hb dX12_one_152 ?_
    refine lv_topl (fun x18 ex18 => ?_)
    exact tk_lret hC hr hlocks hK ⟨rfl, trivial⟩ hw dX12_one_153
  · refine lv_tableIn (off := 145) (tgt := 146) hx hb dX12_one_1 (by omega) (by omega) (by rw [c1]; rfl) (by decide) ?_
    refine lv_lload_n hx hb dX12_one_146 rfl (lv_at hl 1 rfl) ?_
    refine lv_lload_n hx hb dX12_one_147 rfl (lv_at hl 2 rfl) ?_
    refine lv_land hx hb dX12_one_148 ?_
    refine lv_topl (fun x19 ex19 => ?_)
    exact tk_lret hC hr hlocks hK ⟨rfl, trivial⟩ hw dX12_one_149
  · refine lv_tableOut (tgt := 150) hx hb dX12_one_1 c1 (by decide) ?_
    refine lv_lload_n hx hb dX12_one_150 rfl (lv_at hl 1 rfl) ?_
    refine lv_lload_n hx hb dX12_one_151 rfl (lv_at hl 2 rfl) ?_
    refine lv_lor hx hb dX12_one_152 ?_
    refine lv_topl (fun x20 ex20 => ?_)
    exact tk_lret hC hr hlocks hK ⟨rfl, trivial⟩ hw dX12_one_153
abbrev P_X12_pop_1 (ad : Nat → Nat) (cy : Nat → ClassId) (B : Int) (qr : Nat) (s1 : Int)  (w0 : va_W) : Int64 → va_W → Prop := fun r u => TW ksM ad cy B qr 12 u ∧ FE ksM [(12, 24, 24)] w0 u ∧ (((∃ y : Int32, gi u 0 24 = y ∧ 0 ≤ y.toInt ∧ y.toInt ≤ 63) ∧ ((gi u 0 24).toInt = (gi w0 0 24).toInt - 1)))
set_option maxHeartbeats 4000000 in
set_option maxRecDepth 100000 in
theorem k_X12_pop_1 (l : Launch) (adK adV : Nat → Nat) (dC : Nat → ClassId) (dI : Nat → Nat → Nat) (cy : Nat → ClassId) (ad : Nat → Nat) (B : Int) (hB0 : 100000 ≤ B) (hB1 : B ≤ 1073741824) (qr : Nat) (s1 : Int)   (w0 : va_W) (sz : Nat) (hT : TW ksM ad cy B qr 12 w0) (f0_ : Int32) (cf0_ : gi w0 0 24 = f0_) (rf0_ : 0 ≤ f0_.toInt) (tf0_ : f0_.toInt ≤ 64) (pr0_ : 1 ≤ f0_.toInt) : Met l yX12_pop (wu yX12_pop cX12_pop 1 (some .long)) ({ frames := 1, cells := 0, slots := 0, locals := 12 }) (va_Pc [.ref (ad 0)] (wpreS adK adV dC dI cy sz w0)) (va_Ql (P_X12_pop_1 ad cy B qr s1  w0) (fun u : va_W => wpost dC dI cy (va_A w0 sz) u) (va_A w0 sz)) 0 0 (va_A w0 sz) := by
  refine Met.ofW (cc := cX12_pop) (maxL := 1) (ret := (some .long)) (by decide) rfl ?_
  intro p e s m args below meth c s₁ Bk hml hv
  obtain ⟨rfl, ⟨hsz, hP, hK, hD0⟩, hE, hSR⟩ := hv
  have hx := Bk.exec
  have hb := Bk.bytes
  have hr := Bk.returns
  have hlocks := Bk.notSynchronized
  have hC : CallFix p m c cX12_pop 1 s _ (wu yX12_pop cX12_pop 1 (some .long)) RX12 := ⟨hx, hb, hml, findClass_of_methodNamed Bk.named, atoms_spec (ws := (wu yX12_pop cX12_pop 1 (some .long))) Bk.pre⟩
  subst hsz
  have hD := hD0.self (sz := s.heap.size)
  generalize hAe : va_A w0 s.heap.size = A at hD hE ⊢
  have hA : ∀ q : Nat, s.heap.size ≤ q → A q := fun q h => by rw [← hAe]; exact Or.inr h
  have hw : Wd dC dI A s.heap s.heap [] w0 := ⟨hP, hD, va_S.rf⟩
  have hF : FE ksM [(12, 24, 24)] w0 w0 := FE.rf
  have hl := lv_entry ([.ref (ad 0)]) (n := 1) (Nat.le_of_ble_eq_true rfl)
  rw [lg_entry_eq]
  generalize (lg_sl ([.ref (ad 0)]) ++ List.replicate (1 - (lg_sl ([.ref (ad 0)])).length) Slot.unset).toArray = ls at hl ⊢
  have hl : lv_has ls 1 [(0, .ref (ad 0))] := hl
  generalize hloc : ([] : List Loc) = locs at hw ⊢
  have hinX12 : ∀ w ∈ u_ws RX12 TX12 42, w ∈ (wu yX12_pop cX12_pop 1 (some .long)) := fun _ h => List.mem_cons_of_mem _ (up_71 h)
  refine lv_aload_n hx hb dX12_pop_0 rfl (lv_at hl 0 rfl) ?_
  refine lv_dup hx hb dX12_pop_1 rfl ?_
  refine tk_geti hC hK hw hT hinX12 kM_at0 (by decide) rfl 24 (by decide) (List.mem_cons_of_mem _ uw_48_14) rfl rfl dX12_pop_2 (fun x1 c2 rx1 tx1 => ?_)
  refine wk_top f0_ (c2.symm.trans cf0_) ?_
  refine lv_iconst (v := 1) hx hb dX12_pop_5 (by decide) ?_
  refine lv_isub hx hb dX12_pop_6 ?_
  refine lv_topi (fun x3 ex3 => ?_)
  have ex3 : x3.toInt = f0_.toInt - (1 : Int) := by rw [ex3]; exact wk_sub (show (-2147483648) ≤ f0_.toInt - (1 : Int) by omega) (show f0_.toInt - (1 : Int) ≤ 2147483647 by omega)
  refine tk_puti hC hK hw hT hinX12 tyX12_ok nmX12 kM_at0 (by decide) rfl rfl 24 (by decide) (List.mem_cons_of_mem _ uw_48_14) rfl rfl rfl rfl (show 0 ≤ x3.toInt by first | with_reducible assumption | omega) (show x3.toInt ≤ 64 by first | with_reducible assumption | omega) dX12_pop_7 (fun H locs w4 hw hT k6 c5 => ?_)
  have hF := hF.put kM_at0 (k := 24) (by decide) k6
  refine lv_aload_n hx hb dX12_pop_10 rfl (lv_at hl 0 rfl) ?_
  refine tk_getA hC hK hw hT hinX12 kM_at0 (by decide) rfl 23 (by decide) (List.mem_cons_of_mem _ uw_6_23) rfl rfl dX12_pop_11 ?_
  refine lv_aload_n hx hb dX12_pop_14 rfl (lv_at hl 0 rfl) ?_
  refine tk_geti hC hK hw hT hinX12 kM_at0 (by decide) rfl 24 (by decide) (List.mem_cons_of_mem _ uw_48_14) rfl rfl dX12_pop_15 (fun x7 c8 rx7 tx7 => ?_)
  refine wk_top x3 (c8.symm.trans c5) ?_
  refine tk_lald hC hK hw hT kM_at10 rfl (show 0 ≤ x3.toInt by first | with_reducible assumption | omega) (show x3.toInt < 64 by first | with_reducible assumption | omega) dX12_pop_18 (fun x9 => ?_)
  exact tk_lret hC hr hlocks hK ⟨hT, hF, ⟨⟨x3, c5, (show 0 ≤ x3.toInt by first | with_reducible assumption | omega), (show x3.toInt ≤ 63 by first | with_reducible assumption | omega)⟩, (by simp only [cf0_, c5]; omega)⟩⟩ hw dX12_pop_19
abbrev P_X12_push_1 (ad : Nat → Nat) (cy : Nat → ClassId) (B : Int) (qr : Nat) (s1 : Int) (a1 : Int64) (w0 : va_W) : va_W → Prop := fun u => TW ksM ad cy B qr 12 u ∧ FE ksM [(12, 24, 24), (69, 0, 64)] w0 u ∧ (((∃ y : Int32, gi u 0 24 = y ∧ 1 ≤ y.toInt ∧ y.toInt ≤ 64) ∧ ((gi u 0 24).toInt = (gi w0 0 24).toInt + 1)))
set_option maxHeartbeats 4000000 in
set_option maxRecDepth 100000 in
theorem k_X12_push_1 (l : Launch) (adK adV : Nat → Nat) (dC : Nat → ClassId) (dI : Nat → Nat → Nat) (cy : Nat → ClassId) (ad : Nat → Nat) (B : Int) (hB0 : 100000 ≤ B) (hB1 : B ≤ 1073741824) (qr : Nat) (s1 : Int)  (a1 : Int64) (ra1 : (-2147483648) ≤ a1.toInt) (ta1 : a1.toInt ≤ 2147483647) (w0 : va_W) (sz : Nat) (hT : TW ksM ad cy B qr 12 w0) (f0_ : Int32) (cf0_ : gi w0 0 24 = f0_) (rf0_ : 0 ≤ f0_.toInt) (tf0_ : f0_.toInt ≤ 64) (pr0_ : f0_.toInt ≤ 63) : Met l yX12_push (wu yX12_push cX12_push 3 none) ({ frames := 1, cells := 0, slots := 0, locals := 12 }) (va_Pc [.ref (ad 0), .long a1] (wpreS adK adV dC dI cy sz w0)) (va_Qv (P_X12_push_1 ad cy B qr s1 a1 w0) (fun u : va_W => wpost dC dI cy (va_A w0 sz) u) (va_A w0 sz)) 0 0 (va_A w0 sz) := by
  refine Met.ofW (cc := cX12_push) (maxL := 3) (ret := none) (by decide) rfl ?_
  intro p e s m args below meth c s₁ Bk hml hv
  obtain ⟨rfl, ⟨hsz, hP, hK, hD0⟩, hE, hSR⟩ := hv
  have hx := Bk.exec
  have hb := Bk.bytes
  have hr := Bk.returns
  have hlocks := Bk.notSynchronized
  have hC : CallFix p m c cX12_push 3 s _ (wu yX12_push cX12_push 3 none) RX12 := ⟨hx, hb, hml, findClass_of_methodNamed Bk.named, atoms_spec (ws := (wu yX12_push cX12_push 3 none)) Bk.pre⟩
  subst hsz
  have hD := hD0.self (sz := s.heap.size)
  generalize hAe : va_A w0 s.heap.size = A at hD hE ⊢
  have hA : ∀ q : Nat, s.heap.size ≤ q → A q := fun q h => by rw [← hAe]; exact Or.inr h
  have hw : Wd dC dI A s.heap s.heap [] w0 := ⟨hP, hD, va_S.rf⟩
  have hF : FE ksM [(12, 24, 24), (69, 0, 64)] w0 w0 := FE.rf
  have hl := lv_entry ([.ref (ad 0), .long a1]) (n := 3) (Nat.le_of_ble_eq_true rfl)
  rw [lg_entry_eq]
  generalize (lg_sl ([.ref (ad 0), .long a1]) ++ List.replicate (3 - (lg_sl ([.ref (ad 0), .long a1])).length) Slot.unset).toArray = ls at hl ⊢
  have hl : lv_has ls 3 [(0, .ref (ad 0)), (1, .long a1)] := hl
  generalize hloc : ([] : List Loc) = locs at hw ⊢
  have hinX12 : ∀ w ∈ u_ws RX12 TX12 42, w ∈ (wu yX12_push cX12_push 3 none) := fun _ h => List.mem_cons_of_mem _ (up_71 h)
  refine lv_aload_n hx hb dX12_push_0 rfl (lv_at hl 0 rfl) ?_
  refine tk_getA hC hK hw hT hinX12 kM_at0 (by decide) rfl 23 (by decide) (List.mem_cons_of_mem _ uw_6_23) rfl rfl dX12_push_1 ?_
  refine lv_aload_n hx hb dX12_push_4 rfl (lv_at hl 0 rfl) ?_
  refine tk_geti hC hK hw hT hinX12 kM_at0 (by decide) rfl 24 (by decide) (List.mem_cons_of_mem _ uw_48_14) rfl rfl dX12_push_5 (fun x1 c2 rx1 tx1 => ?_)
  refine wk_top f0_ (c2.symm.trans cf0_) ?_
  refine lv_lload_n hx hb dX12_push_8 rfl (lv_at hl 1 rfl) ?_
  refine tk_last hC hK hw hT kM_at10 (by decide) rfl (show 0 ≤ f0_.toInt from rf0_) (show f0_.toInt < 64 from Int.lt_of_le_of_lt pr0_ (by decide)) dX12_push_9 (fun H locs w3 hw hT k5 => ?_)
  have hF := hF.put kM_at10 (inE_of (a := 0) (b := 64) (by decide) (show 0 ≤ f0_.toInt.toNat by omega) (show f0_.toInt.toNat ≤ 64 by omega)) k5
  have c6 := k5.gi (Or.inl (tk_ne kM_at0 kM_at10 (by decide))) cf0_
  refine lv_aload_n hx hb dX12_push_10 rfl (lv_at hl 0 rfl) ?_
  refine lv_dup hx hb dX12_push_11 rfl ?_
  refine tk_geti hC hK hw hT hinX12 kM_at0 (by decide) rfl 24 (by decide) (List.mem_cons_of_mem _ uw_48_14) rfl rfl dX12_push_12 (fun x7 c8 rx7 tx7 => ?_)
  refine wk_top f0_ (c8.symm.trans c6) ?_
  refine lv_iconst (v := 1) hx hb dX12_push_15 (by decide) ?_
  refine lv_iadd hx hb dX12_push_16 ?_
  refine lv_topi (fun x9 ex9 => ?_)
  have ex9 : x9.toInt = f0_.toInt + (1 : Int) := by rw [ex9]; exact wk_add (show (-2147483648) ≤ f0_.toInt + (1 : Int) by omega) (show f0_.toInt + (1 : Int) ≤ 2147483647 by omega)
  refine tk_puti hC hK hw hT hinX12 tyX12_ok nmX12 kM_at0 (by decide) rfl rfl 24 (by decide) (List.mem_cons_of_mem _ uw_48_14) rfl rfl rfl rfl (show 0 ≤ x9.toInt by first | with_reducible assumption | omega) (show x9.toInt ≤ 64 by first | with_reducible assumption | omega) dX12_push_17 (fun H locs w10 hw hT k12 c11 => ?_)
  have hF := hF.put kM_at0 (k := 24) (by decide) k12
  exact tk_vret hC hr hlocks hK ⟨hT, hF, ⟨⟨x9, c11, (show 1 ≤ x9.toInt by first | with_reducible assumption | omega), (show x9.toInt ≤ 64 by first | with_reducible assumption | omega)⟩, (by simp only [cf0_, c11]; omega)⟩⟩ hw dX12_push_20
abbrev P_X12_push_2 (ad : Nat → Nat) (cy : Nat → ClassId) (B : Int) (qr : Nat) (s1 : Int) (a1 : Int64) (w0 : va_W) : va_W → Prop := fun u => TW ksM ad cy B qr 12 u ∧ FE ksM [(12, 24, 24), (69, 0, 64)] w0 u ∧ (((∃ y : Int32, gi u 0 24 = y ∧ 1 ≤ y.toInt ∧ y.toInt ≤ 64) ∧ ((gi u 0 24).toInt = (gi w0 0 24).toInt + 1)))
set_option maxHeartbeats 4000000 in
set_option maxRecDepth 100000 in
theorem k_X12_push_2 (l : Launch) (adK adV : Nat → Nat) (dC : Nat → ClassId) (dI : Nat → Nat → Nat) (cy : Nat → ClassId) (ad : Nat → Nat) (B : Int) (hB0 : 100000 ≤ B) (hB1 : B ≤ 1073741824) (qr : Nat) (s1 : Int)  (a1 : Int64) (w0 : va_W) (sz : Nat) (hT : TW ksM ad cy B qr 12 w0) (f0_ : Int32) (cf0_ : gi w0 0 24 = f0_) (rf0_ : 0 ≤ f0_.toInt) (tf0_ : f0_.toInt ≤ 64) (pr0_ : f0_.toInt ≤ 63) : Met l yX12_push (wu yX12_push cX12_push 3 none) ({ frames := 1, cells := 0, slots := 0, locals := 12 }) (va_Pc [.ref (ad 0), .long a1] (wpreS adK adV dC dI cy sz w0)) (va_Qv (P_X12_push_2 ad cy B qr s1 a1 w0) (fun u : va_W => wpost dC dI cy (va_A w0 sz) u) (va_A w0 sz)) 0 0 (va_A w0 sz) := by
  refine Met.ofW (cc := cX12_push) (maxL := 3) (ret := none) (by decide) rfl ?_
  intro p e s m args below meth c s₁ Bk hml hv
  obtain ⟨rfl, ⟨hsz, hP, hK, hD0⟩, hE, hSR⟩ := hv
  have hx := Bk.exec
  have hb := Bk.bytes
  have hr := Bk.returns
  have hlocks := Bk.notSynchronized
  have hC : CallFix p m c cX12_push 3 s _ (wu yX12_push cX12_push 3 none) RX12 := ⟨hx, hb, hml, findClass_of_methodNamed Bk.named, atoms_spec (ws := (wu yX12_push cX12_push 3 none)) Bk.pre⟩
  subst hsz
  have hD := hD0.self (sz := s.heap.size)
  generalize hAe : va_A w0 s.heap.size = A at hD hE ⊢
  have hA : ∀ q : Nat, s.heap.size ≤ q → A q := fun q h => by rw [← hAe]; exact Or.inr h
  have hw : Wd dC dI A s.heap s.heap [] w0 := ⟨hP, hD, va_S.rf⟩
  have hF : FE ksM [(12, 24, 24), (69, 0, 64)] w0 w0 := FE.rf
  have hl := lv_entry ([.ref (ad 0), .long a1]) (n := 3) (Nat.le_of_ble_eq_true rfl)
  rw [lg_entry_eq]
  generalize (lg_sl ([.ref (ad 0), .long a1]) ++ List.replicate (3 - (lg_sl ([.ref (ad 0), .long a1])).length) Slot.unset).toArray = ls at hl ⊢
  have hl : lv_has ls 3 [(0, .ref (ad 0)), (1, .long a1)] := hl
  generalize hloc : ([] : List Loc) = locs at hw ⊢
  have hinX12 : ∀ w ∈ u_ws RX12 TX12 42, w ∈ (wu yX12_push cX12_push 3 none) := fun _ h => List.mem_cons_of_mem _ (up_71 h)
  refine lv_aload_n hx hb dX12_push_0 rfl (lv_at hl 0 rfl) ?_
  refine tk_getA hC hK hw hT hinX12 kM_at0 (by decide) rfl 23 (by decide) (List.mem_cons_of_mem _ uw_6_23) rfl rfl dX12_push_1 ?_
  refine lv_aload_n hx hb dX12_push_4 rfl (lv_at hl 0 rfl) ?_
  refine tk_geti hC hK hw hT hinX12 kM_at0 (by decide) rfl 24 (by decide) (List.mem_cons_of_mem _ uw_48_14) rfl rfl dX12_push_5 (fun x1 c2 rx1 tx1 => ?_)
  refine wk_top f0_ (c2.symm.trans cf0_) ?_
  refine lv_lload_n hx hb dX12_push_8 rfl (lv_at hl 1 rfl) ?_
  refine tk_last hC hK hw hT kM_at10 (by decide) rfl (show 0 ≤ f0_.toInt from rf0_) (show f0_.toInt < 64 from Int.lt_of_le_of_lt pr0_ (by decide)) dX12_push_9 (fun H locs w3 hw hT k5 => ?_)
  have hF := hF.put kM_at10 (inE_of (a := 0) (b := 64) (by decide) (show 0 ≤ f0_.toInt.toNat by omega) (show f0_.toInt.toNat ≤ 64 by omega)) k5
  have c6 := k5.gi (Or.inl (tk_ne kM_at0 kM_at10 (by decide))) cf0_
  refine lv_aload_n hx hb dX12_push_10 rfl (lv_at hl 0 rfl) ?_
  refine lv_dup hx hb dX12_push_11 rfl ?_
  refine tk_geti hC hK hw hT hinX12 kM_at0 (by decide) rfl 24 (by decide) (List.mem_cons_of_mem _ uw_48_14) rfl rfl dX12_push_12 (fun x7 c8 rx7 tx7 => ?_)
  refine wk_top f0_ (c8.symm.trans c6) ?_
  refine lv_iconst (v := 1) hx hb dX12_push_15 (by decide) ?_
  refine lv_iadd hx hb dX12_push_16 ?_
  refine lv_topi (fun x9 ex9 => ?_)
  have ex9 : x9.toInt = f0_.toInt + (1 : Int) := by rw [ex9]; exact wk_add (show (-2147483648) ≤ f0_.toInt + (1 : Int) by omega) (show f0_.toInt + (1 : Int) ≤ 2147483647 by omega)
  refine tk_puti hC hK hw hT hinX12 tyX12_ok nmX12 kM_at0 (by decide) rfl rfl 24 (by decide) (List.mem_cons_of_mem _ uw_48_14) rfl rfl rfl rfl (show 0 ≤ x9.toInt by first | with_reducible assumption | omega) (show x9.toInt ≤ 64 by first | with_reducible assumption | omega) dX12_push_17 (fun H locs w10 hw hT k12 c11 => ?_)
  have hF := hF.put kM_at0 (k := 24) (by decide) k12
  exact tk_vret hC hr hlocks hK ⟨hT, hF, ⟨⟨x9, c11, (show 1 ≤ x9.toInt by first | with_reducible assumption | omega), (show x9.toInt ≤ 64 by first | with_reducible assumption | omega)⟩, (by simp only [cf0_, c11]; omega)⟩⟩ hw dX12_push_20
abbrev P_X12_reckons_1 (ad : Nat → Nat) (cy : Nat → ClassId) (B : Int) (qr : Nat) (s1 : Int) (a1 : Int32) (a2 : Int32) (a3 : Int32) (w0 : va_W) : Int64 → va_W → Prop := fun r u => TW ksM ad cy B qr 12 u ∧ FE ksM [(12, 24, 24), (69, 0, 64)] w0 u ∧ (((∃ y : Int32, gi u 0 24 = y ∧ 0 ≤ y.toInt ∧ y.toInt ≤ 63)))
set_option maxHeartbeats 4000000 in
set_option maxRecDepth 100000 in
theorem k_X12_reckons_1 (l : Launch) (adK adV : Nat → Nat) (dC : Nat → ClassId) (dI : Nat → Nat → Nat) (cy : Nat → ClassId) (ad : Nat → Nat) (B : Int) (hB0 : 100000 ≤ B) (hB1 : B ≤ 1073741824) (qr : Nat) (s1 : Int)  (a1 : Int32) (ra1 : 0 ≤ a1.toInt) (ta1 : a1.toInt ≤ 5) (a2 : Int32) (ra2 : 0 ≤ a2.toInt) (ta2 : a2.toInt ≤ 400) (a3 : Int32) (ra3 : 0 ≤ a3.toInt) (ta3 : a3.toInt ≤ 400) (w0 : va_W) (sz : Nat) (hT : TW ksM ad cy B qr 12 w0) (f0_ : Int32) (cf0_ : gi w0 0 24 = f0_) (rf0_ : 0 ≤ f0_.toInt) (tf0_ : f0_.toInt ≤ 64) (hok : a2.toInt ≤ a3.toInt ∧ okC w0 a1.toInt a2.toInt a3.toInt) : Met l yX12_reckons (wu yX12_reckons cX12_reckons 11 (some .long)) ({ frames := 2, cells := 0, slots := 0, locals := 36 }) (va_Pc [.ref (ad 0), .int a1, .int a2, .int a3] (wpreS adK adV dC dI cy sz w0)) (va_Ql (P_X12_reckons_1 ad cy B qr s1 a1 a2 a3 w0) (fun u : va_W => wpost dC dI cy (va_A w0 sz) u) (va_A w0 sz)) 0 0 (va_A w0 sz) := by
  refine Met.ofW (cc := cX12_reckons) (maxL := 11) (ret := (some .long)) (by decide) rfl ?_
  intro p e s m args below meth c s₁ Bk hml hv
  obtain ⟨rfl, ⟨hsz, hP, hK, hD0⟩, hE, hSR⟩ := hv
  have hx := Bk.exec
  have hb := Bk.bytes
  have hr := Bk.returns
  have hlocks := Bk.notSynchronized
  have hC : CallFix p m c cX12_reckons 11 s _ (wu yX12_reckons cX12_reckons 11 (some .long)) RX12 := ⟨hx, hb, hml, findClass_of_methodNamed Bk.named, atoms_spec (ws := (wu yX12_reckons cX12_reckons 11 (some .long))) Bk.pre⟩
  subst hsz
  have hD := hD0.self (sz := s.heap.size)
  generalize hAe : va_A w0 s.heap.size = A at hD hE ⊢
  have hA : ∀ q : Nat, s.heap.size ≤ q → A q := fun q h => by rw [← hAe]; exact Or.inr h
  have hw : Wd dC dI A s.heap s.heap [] w0 := ⟨hP, hD, va_S.rf⟩
  have hF : FE ksM [(12, 24, 24), (69, 0, 64)] w0 w0 := FE.rf
  have hl := lv_entry ([.ref (ad 0), .int a1, .int a2, .int a3]) (n := 11) (Nat.le_of_ble_eq_true rfl)
  rw [lg_entry_eq]
  generalize (lg_sl ([.ref (ad 0), .int a1, .int a2, .int a3]) ++ List.replicate (11 - (lg_sl ([.ref (ad 0), .int a1, .int a2, .int a3])).length) Slot.unset).toArray = ls at hl ⊢
  have hl : lv_has ls 11 [(0, .ref (ad 0)), (1, .int a1), (2, .int a2), (3, .int a3)] := hl
  generalize hloc : ([] : List Loc) = locs at hw ⊢
  have hinX12 : ∀ w ∈ u_ws RX12 TX12 42, w ∈ (wu yX12_reckons cX12_reckons 11 (some .long)) := fun _ h => List.mem_cons_of_mem _ (up_71 h)
  obtain ⟨hle, D, hD0, hD1, hDs⟩ := hok
  have L8 : ∀ (n8 : Nat) (v8_4 : Int32) (f8_0_24 : Int32) (H : Heap) (locs : List Loc) (ls : Array Slot) (w1 : va_W), 0 ≤ a1.toInt → a1.toInt ≤ 5 → 0 ≤ a2.toInt → a2.toInt ≤ 400 → 0 ≤ a3.toInt → a3.toInt ≤ 400 → 0 ≤ v8_4.toInt → v8_4.toInt ≤ 400 → 0 ≤ f8_0_24.toInt → f8_0_24.toInt ≤ 64 → (f8_0_24.toInt = D (v8_4.toInt)) → (a2.toInt ≤ v8_4.toInt) → (v8_4.toInt ≤ a3.toInt) → (400 - v8_4.toInt).toNat < n8 → Wd dC dI A s.heap H locs w1 → TW ksM ad cy B qr 12 w1 → FE ksM [(12, 24, 24), (69, 0, 64)] w0 w1 → gi w1 0 24 = f8_0_24 → lv_has ls 11 [(0, .ref (ad 0)), (1, .int a1), (2, .int a2), (3, .int a3), (4, .int v8_4)] → W p l e ({ frames := 2, cells := 0, slots := 0, locals := 36 }) s m (List.toArray [.ref (ad 0), .int a1, .int a2, .int a3]) below meth c H locs 0 0 (MQ below (va_Ql (P_X12_reckons_1 ad cy B qr s1 a1 a2 a3 w0) (fun u : va_W => wpost dC dI cy A u) A) (List.toArray [.ref (ad 0), .int a1, .int a2, .int a3]) s 0 0 A) (F0 m 8 ls []) := by
    intro n8
    induction n8 with
    | zero => intro v8_4 f8_0_24 H locs ls w1 r2 t3 r4 t5 r6 t7 r8 t9 r10 t11 hcr8_0 hcr8_1 hcr8_2 hm8 hw hT hF c12 hl; omega
    | succ n8 ih8 =>
      intro v8_4 f8_0_24 H locs ls w1 r2 t3 r4 t5 r6 t7 r8 t9 r10 t11 hcr8_0 hcr8_1 hcr8_2 hm8 hw hT hF c12 hl
      have J129 : ∀ (v129_5 : Int32) (v129_6 : Int32) (f129_0_24 : Int32) (f129_2__400_a1_toInt_1_v8_4_toInt_0_toNat : Int32) (H : Heap) (locs : List Loc) (ls : Array Slot) (w13 : va_W), 0 ≤ a1.toInt → a1.toInt ≤ 5 → 0 ≤ a2.toInt → a2.toInt ≤ 400 → 1 ≤ a3.toInt → a3.toInt ≤ 400 → 0 ≤ v8_4.toInt → v8_4.toInt ≤ 399 → 0 ≤ v129_5.toInt → v129_5.toInt ≤ 15 → 1 ≤ f129_0_24.toInt → f129_0_24.toInt ≤ 64 → (f129_0_24.toInt = D (v8_4.toInt + 1)) → (a2.toInt ≤ v8_4.toInt) → (v8_4.toInt < a3.toInt) → Wd dC dI A s.heap H locs w13 → TW ksM ad cy B qr 12 w13 → FE ksM [(12, 24, 24), (69, 0, 64)] w0 w13 → gi w13 0 24 = f129_0_24 → gi w13 2 (400 * a1.toInt + 1 * v8_4.toInt + 0).toNat = f129_2__400_a1_toInt_1_v8_4_toInt_0_toNat → lv_has ls 11 [(0, .ref (ad 0)), (1, .int a1), (2, .int a2), (3, .int a3), (4, .int v8_4), (5, .int v129_5), (6, .int v129_6)] → W p l e ({ frames := 2, cells := 0, slots := 0, locals := 36 }) s m (List.toArray [.ref (ad 0), .int a1, .int a2, .int a3]) below meth c H locs 0 0 (MQ below (va_Ql (P_X12_reckons_1 ad cy B qr s1 a1 a2 a3 w0) (fun u : va_W => wpost dC dI cy A u) A) (List.toArray [.ref (ad 0), .int a1, .int a2, .int a3]) s 0 0 A) (F0 m 129 ls []) := by
        intro v129_5 v129_6 f129_0_24 f129_2__400_a1_toInt_1_v8_4_toInt_0_toNat H locs ls w13 r14 t15 r16 t17 r18 t19 r20 t21 r22 t23 r24 t25 hcr129_0 hcr129_1 hcr129_2 hw hT hF c26 c27 hl
        obtain ⟨x28, ex28⟩ : ∃ y : Int32, y = v8_4 + Int32.ofInt 1 := ⟨_, rfl⟩
        refine lv_iinc (v := x28) (lv' := [(4, .int x28), (0, .ref (ad 0)), (1, .int a1), (2, .int a2), (3, .int a3), (5, .int v129_5), (6, .int v129_6)]) hx hb dX12_reckons_129 hl (k := 4) rfl ex28.symm (by decide) rfl (fun ls hl => ?_)
        have ex28 : x28.toInt = v8_4.toInt + 1 := by rw [ex28]; exact wk_add (y := 1) (show -2147483648 ≤ v8_4.toInt + 1 by omega) (show v8_4.toInt + 1 ≤ 2147483647 by omega)
        refine lv_goto (tgt := 8) hx hb dX12_reckons_132 (by decide) ?_
        exact ih8 x28 f129_0_24 H locs ls w13 (show 0 ≤ a1.toInt from r14) (show a1.toInt ≤ 5 from t15) (show 0 ≤ a2.toInt from r16) (show a2.toInt ≤ 400 from t17) (show 0 ≤ a3.toInt from r6) (show a3.toInt ≤ 400 from t19) (show 0 ≤ x28.toInt by first | with_reducible assumption | omega) (show x28.toInt ≤ 400 by first | with_reducible assumption | omega) (show 0 ≤ f129_0_24.toInt from Int.le_trans (by decide) r24) (show f129_0_24.toInt ≤ 64 from t25) (show f129_0_24.toInt = D (x28.toInt) from hcr129_0.trans (congrArg D (show v8_4.toInt + 1 = x28.toInt by first | exact Int.le_antisymm (by omega) (by omega) | omega))) (show a2.toInt ≤ x28.toInt by omega) (show x28.toInt ≤ a3.toInt by omega) (show (400 - x28.toInt).toNat < n8 by first | exact tn_lt hm8 (by omega) (by omega) | omega) hw hT hF c26 (lv_sub hl [1, 2, 3, 4, 0] rfl)
      refine lv_iload hx hb dX12_reckons_8 (lv_at hl 4 rfl) ?_
      refine lv_iload_n hx hb dX12_reckons_10 rfl (lv_at hl 3 rfl) ?_
      refine lv_icmp_ge (tgt := 135) hx hb dX12_reckons_11 (by decide) (fun c29 => ?_) (fun c29 => ?_)
      · have c29 : a3.toInt ≤ v8_4.toInt := wk_le.mp c29
        have hDe : D v8_4.toInt = 1 := by rw [show v8_4.toInt = a3.toInt by omega]; exact hD1
        refine lv_aload_n hx hb dX12_reckons_135 rfl (lv_at hl 0 rfl) ?_
        refine tk_Vl hC hK hw hT hA hE hSR kM_at0 (by decide) rfl (k_X12_pop_1 l adK adV dC dI cy ad B hB0 (Int.le_trans hB1 (by decide)) qr s1    w1 H.size hT f8_0_24 c12 (show 0 ≤ f8_0_24.toInt from r10) (show f8_0_24.toInt ≤ 64 from t11) (show 1 ≤ f8_0_24.toInt by first | with_reducible assumption | omega)) (cwV 0 hC.2.2.2.2 uV_RX12_292 rfl rfl rfl (by decide +kernel) ⟨Nat.le_of_ble_eq_true rfl, Nat.le_of_ble_eq_true rfl⟩) rfl hl.1 rfl (Nat.le_of_ble_eq_true rfl) dX12_reckons_136 (fun r30 w32 H locs hp31 hw => ?_)
        obtain ⟨hT, k33, hg37⟩ := hp31
        have hF := hF.tr k33 (by decide)
        obtain ⟨⟨x34, c35, rx34, tx34⟩, g36⟩ := hg37
        have g36 : x34.toInt = f8_0_24.toInt - 1 := by have q := g36; simp only [c12, c35] at q; first | with_reducible exact q | omega
        exact tk_lret hC hr hlocks hK ⟨hT, hF, ⟨x34, c35, (show 0 ≤ x34.toInt by first | with_reducible assumption | omega), (show x34.toInt ≤ 63 by first | with_reducible assumption | omega)⟩⟩ hw dX12_reckons_139
      · have c29 : v8_4.toInt < a3.toInt := wk_leF c29
        refine lv_aload_n hx hb dX12_reckons_14 rfl (lv_at hl 0 rfl) ?_
        refine tk_getA hC hK hw hT hinX12 kM_at0 (by decide) rfl 3 (by decide) (List.mem_cons_of_mem _ uw_6_15) rfl rfl dX12_reckons_15 ?_
        refine lv_sipush (v := 400) hx hb dX12_reckons_18 (by decide) ?_
        refine lv_iload_n hx hb dX12_reckons_21 rfl (lv_at hl 1 rfl) ?_
        refine lv_imul hx hb dX12_reckons_22 ?_
        refine lv_topi (fun x38 ex38 => ?_)
        have ex38 : x38.toInt = (400 : Int) * a1.toInt := by rw [ex38]; exact wk_mul (show (-2147483648) ≤ (400 : Int) * a1.toInt by omega) (show (400 : Int) * a1.toInt ≤ 2147483647 by omega)
        refine lv_iload hx hb dX12_reckons_23 (lv_at hl 4 rfl) ?_
        refine lv_iadd hx hb dX12_reckons_25 ?_
        refine lv_topi (fun x39 ex39 => ?_)
        have ex39 : x39.toInt = x38.toInt + v8_4.toInt := by rw [ex39]; exact wk_add (show (-2147483648) ≤ x38.toInt + v8_4.toInt by omega) (show x38.toInt + v8_4.toInt ≤ 2147483647 by omega)
        refine tk_iald hC hK hw hT kM_at2 rfl rfl (show 0 ≤ x39.toInt by first | with_reducible assumption | omega) (show x39.toInt < 2400 by first | with_reducible assumption | omega) dX12_reckons_26 (fun x40 c41 rx40 tx40 => ?_)
        have c41 : gi w1 2 (400 * a1.toInt + 1 * v8_4.toInt + 0).toNat = x40 := (congrArg (gi w1 2) (congrArg Int.toNat (show 400 * a1.toInt + 1 * v8_4.toInt + 0 = x39.toInt by first | exact Int.le_antisymm (by omega) (by omega) | omega))).trans c41
        refine lv_bipush (v := 15) hx hb dX12_reckons_27 (by decide) ?_
        refine lv_iand hx hb dX12_reckons_29 ?_
        refine lv_topi (fun x42 ex42 => ?_)
        have bx42 : 0 ≤ x42.toInt ∧ x42.toInt ≤ (15 : Int) := by rw [ex42]; exact wk_and (by decide)
        obtain ⟨hk, hk1, hk2⟩ := hDs v8_4.toInt (by omega) (by omega)
        rw [← hF.gi kM_at2 rfl rfl, c41] at hk
        unfold okT at hk
        rw [← ex42] at hk
        refine lv_istore (lv' := [(5, .int x42), (0, .ref (ad 0)), (1, .int a1), (2, .int a2), (3, .int a3), (4, .int v8_4)]) hx hb dX12_reckons_30 hl (by decide) rfl (fun ls hl => ?_)
        refine lv_aload_n hx hb dX12_reckons_32 rfl (lv_at hl 1 rfl) ?_
        refine tk_getA hC hK hw hT hinX12 kM_at0 (by decide) rfl 3 (by decide) (List.mem_cons_of_mem _ uw_6_15) rfl rfl dX12_reckons_33 ?_
        refine lv_sipush (v := 400) hx hb dX12_reckons_36 (by decide) ?_
        refine lv_iload_n hx hb dX12_reckons_39 rfl (lv_at hl 2 rfl) ?_
        refine lv_imul hx hb dX12_reckons_40 ?_
        refine lv_topi (fun x43 ex43 => ?_)
        have ex43 : x43.toInt = (400 : Int) * a1.toInt := by rw [ex43]; exact wk_mul (show (-2147483648) ≤ (400 : Int) * a1.toInt by omega) (show (400 : Int) * a1.toInt ≤ 2147483647 by omega)
        refine lv_iload hx hb dX12_reckons_41 (lv_at hl 5 rfl) ?_
        refine lv_iadd hx hb dX12_reckons_43 ?_
        refine lv_topi (fun x44 ex44 => ?_)
        have ex44 : x44.toInt = x43.toInt + v8_4.toInt := by rw [ex44]; exact wk_add (show (-2147483648) ≤ x43.toInt + v8_4.toInt by omega) (show x43.toInt + v8_4.toInt ≤ 2147483647 by omega)
        refine tk_iald hC hK hw hT kM_at2 rfl rfl (show 0 ≤ x44.toInt by first | with_reducible assumption | omega) (show x44.toInt < 2400 by first | with_reducible assumption | omega) dX12_reckons_44 (fun x45 c46 rx45 tx45 => ?_)
        have c46 : gi w1 2 (400 * a1.toInt + 1 * v8_4.toInt + 0).toNat = x45 := (congrArg (gi w1 2) (congrArg Int.toNat (show 400 * a1.toInt + 1 * v8_4.toInt + 0 = x44.toInt by first | exact Int.le_antisymm (by omega) (by omega) | omega))).trans c46
        refine wk_top x40 (c46.symm.trans c41) ?_
        refine lv_iconst (v := 4) hx hb dX12_reckons_45 (by decide) ?_
        refine lv_ishr hx hb dX12_reckons_46 ?_
        refine lv_topi (fun x47 ex47 => ?_)
        rw [← ex47] at hk
        refine lv_istore (lv' := [(6, .int x47), (5, .int x42), (0, .ref (ad 0)), (1, .int a1), (2, .int a2), (3, .int a3), (4, .int v8_4)]) hx hb dX12_reckons_47 hl (by decide) rfl (fun ls hl => ?_)
        refine lv_iload hx hb dX12_reckons_49 (lv_at hl 1 rfl) ?_
        refine lv_if_ne (tgt := 64) hx hb dX12_reckons_51 (by decide) (fun c48 => ?_) (fun c48 => ?_)
        · have c48 : ¬ x42.toInt = (0 : Int) := wk_eqF c48
          refine lv_iload hx hb dX12_reckons_64 (lv_at hl 1 rfl) ?_
          refine lv_iconst (v := 1) hx hb dX12_reckons_66 (by decide) ?_
          refine lv_icmp_ne (tgt := 84) hx hb dX12_reckons_67 (by decide) (fun c49 => ?_) (fun c49 => ?_)
          · have c49 : ¬ x42.toInt = (1 : Int) := wk_eqF c49
            refine lv_iload hx hb dX12_reckons_84 (lv_at hl 1 rfl) ?_
            refine lv_bipush (v := 11) hx hb dX12_reckons_86 (by decide) ?_
            refine lv_icmp_ne (tgt := 104) hx hb dX12_reckons_88 (by decide) (fun c50 => ?_) (fun c50 => ?_)
            · have c50 : ¬ x42.toInt = (11 : Int) := wk_eqF c50
              refine lv_aload_n hx hb dX12_reckons_104 rfl (lv_at hl 2 rfl) ?_
              refine tk_Vl hC hK hw hT hA hE hSR kM_at0 (by decide) rfl (k_X12_pop_1 l adK adV dC dI cy ad B hB0 (Int.le_trans hB1 (by decide)) qr s1    w1 H.size hT f8_0_24 c12 (show 0 ≤ f8_0_24.toInt from r10) (show f8_0_24.toInt ≤ 64 from t11) (show 1 ≤ f8_0_24.toInt by first | with_reducible assumption | omega)) (cwV 0 hC.2.2.2.2 uV_RX12_292 rfl rfl rfl (by decide +kernel) ⟨Nat.le_of_ble_eq_true rfl, Nat.le_of_ble_eq_true rfl⟩) rfl hl.1 rfl (Nat.le_of_ble_eq_true rfl) dX12_reckons_105 (fun r51 w53 H locs hp52 hw => ?_)
              obtain ⟨hT, k54, hg58⟩ := hp52
              have hF := hF.tr k54 (by decide)
              have c59 := k54.gi kM_at2 rfl c41
              obtain ⟨⟨x55, c56, rx55, tx55⟩, g57⟩ := hg58
              have g57 : x55.toInt = f8_0_24.toInt - 1 := by have q := g57; simp only [c12, c56] at q; first | with_reducible exact q | omega
              refine lv_lstore (lv' := [(7, .long r51), (6, .int x47), (5, .int x42), (0, .ref (ad 0)), (1, .int a1), (2, .int a2), (3, .int a3), (4, .int v8_4)]) hx hb dX12_reckons_108 hl (by decide) rfl (fun ls hl => ?_)
              refine lv_aload_n hx hb dX12_reckons_110 rfl (lv_at hl 3 rfl) ?_
              refine tk_Vl hC hK hw hT hA hE hSR kM_at0 (by decide) rfl (k_X12_pop_1 l adK adV dC dI cy ad B hB0 (Int.le_trans hB1 (by decide)) qr s1    w53 H.size hT x55 c56 (show 0 ≤ x55.toInt by first | with_reducible assumption | omega) (show x55.toInt ≤ 64 by first | with_reducible assumption | omega) (show 1 ≤ x55.toInt by first | with_reducible assumption | omega)) (cwV 0 hC.2.2.2.2 uV_RX12_292 rfl rfl rfl (by decide +kernel) ⟨Nat.le_of_ble_eq_true rfl, Nat.le_of_ble_eq_true rfl⟩) rfl hl.1 rfl (Nat.le_of_ble_eq_true rfl) dX12_reckons_111 (fun r60 w62 H locs hp61 hw => ?_)
              obtain ⟨hT, k63, hg67⟩ := hp61
              have hF := hF.tr k63 (by decide)
              have c68 := k63.gi kM_at2 rfl c59
              obtain ⟨⟨x64, c65, rx64, tx64⟩, g66⟩ := hg67
              have g66 : x64.toInt = x55.toInt - 1 := by have q := g66; simp only [c56, c65] at q; first | with_reducible exact q | omega
              refine lv_lstore (lv' := [(9, .long r60), (7, .long r51), (6, .int x47), (5, .int x42), (0, .ref (ad 0)), (1, .int a1), (2, .int a2), (3, .int a3), (4, .int v8_4)]) hx hb dX12_reckons_114 hl (by decide) rfl (fun ls hl => ?_)
              refine lv_aload_n hx hb dX12_reckons_116 rfl (lv_at hl 4 rfl) ?_
              refine lv_iload hx hb dX12_reckons_117 (lv_at hl 3 rfl) ?_
              refine lv_lload hx hb dX12_reckons_119 (lv_at hl 0 rfl) ?_
              refine lv_lload hx hb dX12_reckons_121 (lv_at hl 1 rfl) ?_
              refine tk_Sl hC hK hw hT hA hE hSR (k_X12_one_1 l adK adV dC dI cy ad B hB0 (Int.le_trans hB1 (by decide)) qr s1   x42 (show 2 ≤ x42.toInt by first | with_reducible assumption | omega) (show x42.toInt ≤ 15 by first | with_reducible assumption | omega) r60 r51 w62 H.size hT ) (va_cwS 3 hC.2.2.2.2 uS_RX12_296 rfl rfl rfl (by decide +kernel) ⟨Nat.le_of_ble_eq_true rfl, Nat.le_of_ble_eq_true rfl⟩) rfl hl.1 rfl (Nat.le_of_ble_eq_true rfl) dX12_reckons_123 (fun r69 w71 H locs hp70 hw => ?_)
              obtain ⟨rfl, hg73⟩ := hp70
              clear hg73
              refine tk_Vv hC hK hw hT hA hE hSR kM_at0 (by decide) rfl (k_X12_push_2 l adK adV dC dI cy ad B hB0 (Int.le_trans hB1 (by decide)) qr s1   r69 w62 H.size hT x64 c65 (show 0 ≤ x64.toInt by first | with_reducible assumption | omega) (show x64.toInt ≤ 64 by first | with_reducible assumption | omega) (show x64.toInt ≤ 63 by first | with_reducible assumption | omega)) (cwV 1 hC.2.2.2.2 uV_RX12_288 rfl rfl rfl (by decide +kernel) ⟨Nat.le_of_ble_eq_true rfl, Nat.le_of_ble_eq_true rfl⟩) rfl hl.1 rfl (Nat.le_of_ble_eq_true rfl) dX12_reckons_126 (fun w76 H locs hp75 hw => ?_)
              obtain ⟨hT, k77, hg81⟩ := hp75
              have hF := hF.tr k77 (by decide)
              have c82 := k77.gi kM_at2 rfl c68
              obtain ⟨⟨x78, c79, rx78, tx78⟩, g80⟩ := hg81
              have g80 : x78.toInt = x64.toInt + 1 := by have q := g80; simp only [c65, c79] at q; first | with_reducible exact q | omega
              exact J129 x42 x47 x78 x40 H locs ls w76 (show 0 ≤ a1.toInt from r2) (show a1.toInt ≤ 5 from t3) (show 0 ≤ a2.toInt from r4) (show a2.toInt ≤ 400 from t5) (show 1 ≤ a3.toInt by first | with_reducible assumption | omega) (show a3.toInt ≤ 400 from t7) (show 0 ≤ v8_4.toInt from r8) (show v8_4.toInt ≤ 399 by first | with_reducible assumption | omega) (show 0 ≤ x42.toInt by first | with_reducible assumption | omega) (show x42.toInt ≤ 15 by first | with_reducible assumption | omega) (show 1 ≤ x78.toInt by first | with_reducible assumption | omega) (show x78.toInt ≤ 64 by first | with_reducible assumption | omega) (show x78.toInt = D (v8_4.toInt + 1) by first | exact Int.le_antisymm (by omega) (by omega) | omega) (show a2.toInt ≤ v8_4.toInt by omega) (show v8_4.toInt < a3.toInt from c29)  hw hT hF c79 c82 (lv_sub hl [4, 5, 6, 7, 8, 3, 2] rfl)
            · have c50 : x42.toInt = (11 : Int) := wk_eq.mp c50
              refine lv_aload_n hx hb dX12_reckons_91 rfl (lv_at hl 2 rfl) ?_
              refine lv_lconst (v := 1) hx hb dX12_reckons_92 (by decide) ?_
              refine lv_aload_n hx hb dX12_reckons_93 rfl (lv_at hl 2 rfl) ?_
              refine tk_Vl hC hK hw hT hA hE hSR kM_at0 (by decide) rfl (k_X12_pop_1 l adK adV dC dI cy ad B hB0 (Int.le_trans hB1 (by decide)) qr s1    w1 H.size hT f8_0_24 c12 (show 0 ≤ f8_0_24.toInt from r10) (show f8_0_24.toInt ≤ 64 from t11) (show 1 ≤ f8_0_24.toInt by first | with_reducible assumption | omega)) (cwV 0 hC.2.2.2.2 uV_RX12_292 rfl rfl rfl (by decide +kernel) ⟨Nat.le_of_ble_eq_true rfl, Nat.le_of_ble_eq_true rfl⟩) rfl hl.1 rfl (Nat.le_of_ble_eq_true rfl) dX12_reckons_94 (fun r83 w85 H locs hp84 hw => ?_)
              obtain ⟨hT, k86, hg90⟩ := hp84
              have hF := hF.tr k86 (by decide)
              have c91 := k86.gi kM_at2 rfl c41
              obtain ⟨⟨x87, c88, rx87, tx87⟩, g89⟩ := hg90
              have g89 : x87.toInt = f8_0_24.toInt - 1 := by have q := g89; simp only [c12, c88] at q; first | with_reducible exact q | omega
              refine lv_lsub hx hb dX12_reckons_97 ?_
              have nx92 := wk_i64 r83
              refine lv_topl (fun x93 ex93 => ?_)
              refine tk_Vv hC hK hw hT hA hE hSR kM_at0 (by decide) rfl (k_X12_push_2 l adK adV dC dI cy ad B hB0 (Int.le_trans hB1 (by decide)) qr s1   x93 w85 H.size hT x87 c88 (show 0 ≤ x87.toInt by first | with_reducible assumption | omega) (show x87.toInt ≤ 64 by first | with_reducible assumption | omega) (show x87.toInt ≤ 63 by first | with_reducible assumption | omega)) (cwV 1 hC.2.2.2.2 uV_RX12_288 rfl rfl rfl (by decide +kernel) ⟨Nat.le_of_ble_eq_true rfl, Nat.le_of_ble_eq_true rfl⟩) rfl hl.1 rfl (Nat.le_of_ble_eq_true rfl) dX12_reckons_98 (fun w96 H locs hp95 hw => ?_)
              obtain ⟨hT, k97, hg101⟩ := hp95
              have hF := hF.tr k97 (by decide)
              have c102 := k97.gi kM_at2 rfl c91
              obtain ⟨⟨x98, c99, rx98, tx98⟩, g100⟩ := hg101
              have g100 : x98.toInt = x87.toInt + 1 := by have q := g100; simp only [c88, c99] at q; first | with_reducible exact q | omega
              refine lv_goto (tgt := 129) hx hb dX12_reckons_101 (by decide) ?_
              exact J129 x42 x47 x98 x40 H locs ls w96 (show 0 ≤ a1.toInt from r2) (show a1.toInt ≤ 5 from t3) (show 0 ≤ a2.toInt from r4) (show a2.toInt ≤ 400 from t5) (show 1 ≤ a3.toInt by first | with_reducible assumption | omega) (show a3.toInt ≤ 400 from t7) (show 0 ≤ v8_4.toInt from r8) (show v8_4.toInt ≤ 399 by first | with_reducible assumption | omega) (show 0 ≤ x42.toInt by first | with_reducible assumption | omega) (show x42.toInt ≤ 15 by first | with_reducible assumption | omega) (show 1 ≤ x98.toInt by first | with_reducible assumption | omega) (show x98.toInt ≤ 64 by first | with_reducible assumption | omega) (show x98.toInt = D (v8_4.toInt + 1) by first | exact Int.le_antisymm (by omega) (by omega) | omega) (show a2.toInt ≤ v8_4.toInt by omega) (show v8_4.toInt < a3.toInt from c29)  hw hT hF c99 c102 (lv_sub hl [2, 3, 4, 5, 6, 1, 0] rfl)
          · have c49 : x42.toInt = (1 : Int) := wk_eq.mp c49
            refine lv_aload_n hx hb dX12_reckons_70 rfl (lv_at hl 2 rfl) ?_
            refine lv_aload_n hx hb dX12_reckons_71 rfl (lv_at hl 2 rfl) ?_
            refine tk_getA hC hK hw hT hinX12 kM_at0 (by decide) rfl 25 (by decide) (List.mem_cons_of_mem _ uw_7_0) rfl rfl dX12_reckons_72 ?_
            refine lv_iload hx hb dX12_reckons_75 (lv_at hl 0 rfl) ?_
            have g103 : 0 ≤ x47.toInt ∧ x47.toInt ≤ 9 := by omega
            refine tk_lald hC hK hw hT kM_at11 rfl (show 0 ≤ x47.toInt by first | with_reducible assumption | omega) (show x47.toInt < 10 by first | with_reducible assumption | omega) dX12_reckons_77 (fun x104 => ?_)
            refine tk_Vv hC hK hw hT hA hE hSR kM_at0 (by decide) rfl (k_X12_push_2 l adK adV dC dI cy ad B hB0 (Int.le_trans hB1 (by decide)) qr s1   x104 w1 H.size hT f8_0_24 c12 (show 0 ≤ f8_0_24.toInt from r10) (show f8_0_24.toInt ≤ 64 from t11) (show f8_0_24.toInt ≤ 63 by first | with_reducible assumption | omega)) (cwV 1 hC.2.2.2.2 uV_RX12_288 rfl rfl rfl (by decide +kernel) ⟨Nat.le_of_ble_eq_true rfl, Nat.le_of_ble_eq_true rfl⟩) rfl hl.1 rfl (Nat.le_of_ble_eq_true rfl) dX12_reckons_78 (fun w107 H locs hp106 hw => ?_)
            obtain ⟨hT, k108, hg112⟩ := hp106
            have hF := hF.tr k108 (by decide)
            have c113 := k108.gi kM_at2 rfl c41
            obtain ⟨⟨x109, c110, rx109, tx109⟩, g111⟩ := hg112
            have g111 : x109.toInt = f8_0_24.toInt + 1 := by have q := g111; simp only [c12, c110] at q; first | with_reducible exact q | omega
            refine lv_goto (tgt := 129) hx hb dX12_reckons_81 (by decide) ?_
            exact J129 x42 x47 x109 x40 H locs ls w107 (show 0 ≤ a1.toInt from r2) (show a1.toInt ≤ 5 from t3) (show 0 ≤ a2.toInt from r4) (show a2.toInt ≤ 400 from t5) (show 1 ≤ a3.toInt by first | with_reducible assumption | omega) (show a3.toInt ≤ 400 from t7) (show 0 ≤ v8_4.toInt from r8) (show v8_4.toInt ≤ 399 by first | with_reducible assumption | omega) (show 0 ≤ x42.toInt by first | with_reducible assumption | omega) (show x42.toInt ≤ 15 by first | with_reducible assumption | omega) (show 1 ≤ x109.toInt by first | with_reducible assumption | omega) (show x109.toInt ≤ 64 by first | with_reducible assumption | omega) (show x109.toInt = D (v8_4.toInt + 1) by first | exact Int.le_antisymm (by omega) (by omega) | omega) (show a2.toInt ≤ v8_4.toInt by omega) (show v8_4.toInt < a3.toInt from c29)  hw hT hF c110 c113 (lv_sub hl [2, 3, 4, 5, 6, 1, 0] rfl)
        · have c48 : x42.toInt = (0 : Int) := wk_eq.mp c48
          refine lv_aload_n hx hb dX12_reckons_54 rfl (lv_at hl 2 rfl) ?_
          refine lv_iload hx hb dX12_reckons_55 (lv_at hl 0 rfl) ?_
          refine lv_i2l hx hb dX12_reckons_57 rfl ?_
          refine lv_topl (fun x114 ex114 => ?_)
          have ex114 : x114.toInt = x47.toInt := by rw [ex114]; exact wk_i2l _
          have bx114 := wk_i32 x47
          refine tk_Vv hC hK hw hT hA hE hSR kM_at0 (by decide) rfl (k_X12_push_1 l adK adV dC dI cy ad B hB0 (Int.le_trans hB1 (by decide)) qr s1   x114 (show (-2147483648) ≤ x114.toInt by first | with_reducible assumption | omega) (show x114.toInt ≤ 2147483647 by first | with_reducible assumption | omega) w1 H.size hT f8_0_24 c12 (show 0 ≤ f8_0_24.toInt from r10) (show f8_0_24.toInt ≤ 64 from t11) (show f8_0_24.toInt ≤ 63 by first | with_reducible assumption | omega)) (cwV 1 hC.2.2.2.2 uV_RX12_288 rfl rfl rfl (by decide +kernel) ⟨Nat.le_of_ble_eq_true rfl, Nat.le_of_ble_eq_true rfl⟩) rfl hl.1 rfl (Nat.le_of_ble_eq_true rfl) dX12_reckons_58 (fun w117 H locs hp116 hw => ?_)
          obtain ⟨hT, k118, hg122⟩ := hp116
          have hF := hF.tr k118 (by decide)
          have c123 := k118.gi kM_at2 rfl c41
          obtain ⟨⟨x119, c120, rx119, tx119⟩, g121⟩ := hg122
          have g121 : x119.toInt = f8_0_24.toInt + 1 := by have q := g121; simp only [c12, c120] at q; first | with_reducible exact q | omega
          refine lv_goto (tgt := 129) hx hb dX12_reckons_61 (by decide) ?_
          exact J129 x42 x47 x119 x40 H locs ls w117 (show 0 ≤ a1.toInt from r2) (show a1.toInt ≤ 5 from t3) (show 0 ≤ a2.toInt from r4) (show a2.toInt ≤ 400 from t5) (show 1 ≤ a3.toInt by first | with_reducible assumption | omega) (show a3.toInt ≤ 400 from t7) (show 0 ≤ v8_4.toInt from r8) (show v8_4.toInt ≤ 399 by first | with_reducible assumption | omega) (show 0 ≤ x42.toInt by first | with_reducible assumption | omega) (show x42.toInt ≤ 15 by first | with_reducible assumption | omega) (show 1 ≤ x119.toInt by first | with_reducible assumption | omega) (show x119.toInt ≤ 64 by first | with_reducible assumption | omega) (show x119.toInt = D (v8_4.toInt + 1) by first | exact Int.le_antisymm (by omega) (by omega) | omega) (show a2.toInt ≤ v8_4.toInt by omega) (show v8_4.toInt < a3.toInt from c29)  hw hT hF c120 c123 (lv_sub hl [2, 3, 4, 5, 6, 1, 0] rfl)
  refine lv_aload_n hx hb dX12_reckons_0 rfl (lv_at hl 0 rfl) ?_
  refine lv_iconst (v := 0) hx hb dX12_reckons_1 (by decide) ?_
  refine tk_puti hC hK hw hT hinX12 tyX12_ok nmX12 kM_at0 (by decide) rfl rfl 24 (by decide) (List.mem_cons_of_mem _ uw_48_14) rfl rfl rfl rfl (by decide) (by decide) dX12_reckons_2 (fun H locs w124 hw hT k126 c125 => ?_)
  have hF := hF.put kM_at0 (k := 24) (by decide) k126
  refine lv_iload_n hx hb dX12_reckons_5 rfl (lv_at hl 2 rfl) ?_
  refine lv_istore (lv' := [(4, .int a2), (0, .ref (ad 0)), (1, .int a1), (2, .int a2), (3, .int a3)]) hx hb dX12_reckons_6 hl (by decide) rfl (fun ls hl => ?_)
  exact L8 ((400 - a2.toInt).toNat + 1) a2 0 H locs ls w124 (show 0 ≤ a1.toInt from ra1) (show a1.toInt ≤ 5 from ta1) (show 0 ≤ a2.toInt from ra2) (show a2.toInt ≤ 400 from ta2) (show 0 ≤ a3.toInt from ra3) (show a3.toInt ≤ 400 from ta3) (show 0 ≤ a2.toInt from ra2) (show a2.toInt ≤ 400 from ta2) (by decide) (by decide) (show (0 : Int) = D (a2.toInt) from hD0.symm) (show a2.toInt ≤ a2.toInt from Int.le_refl _) (show a2.toInt ≤ a3.toInt by omega) (Nat.lt_succ_self _) hw hT hF c125 (lv_sub hl [1, 2, 3, 4, 0] rfl)
abbrev P_X12_walkerOf_6 (ad : Nat → Nat) (cy : Nat → ClassId) (B : Int) (qr : Nat) (s1 : Int) (a1 : Int32) (w0 : va_W) : Int32 → va_W → Prop := fun r u => w0 = u ∧ (((-1) ≤ r.toInt ∧ r.toInt ≤ 5 ∧ gi u 12 (9 * a1.toInt + 219).toNat = r))
set_option maxHeartbeats 4000000 in
set_option maxRecDepth 100000 in
theorem k_X12_walkerOf_6 (l : Launch) (adK adV : Nat → Nat) (dC : Nat → ClassId) (dI : Nat → Nat → Nat) (cy : Nat → ClassId) (ad : Nat → Nat) (B : Int) (hB0 : 100000 ≤ B) (hB1 : B ≤ 1073741824) (qr : Nat) (s1 : Int)  (a1 : Int32) (ra1 : 0 ≤ a1.toInt) (ta1 : a1.toInt ≤ 3) (w0 : va_W) (sz : Nat) (hT : TW ksM ad cy B qr 12 w0)  : Met l yX12_walkerOf (wu yX12_walkerOf cX12_walkerOf 3 (some .int)) ({ frames := 1, cells := 0, slots := 0, locals := 12 }) (va_Pc [.ref (ad 0), .int a1, .int 3] (wpreS adK adV dC dI cy sz w0)) (va_Qi (P_X12_walkerOf_6 ad cy B qr s1 a1 w0) (fun u : va_W => wpost dC dI cy (va_A w0 sz) u) (va_A w0 sz)) 0 0 (va_A w0 sz) := by
  refine Met.ofW (cc := cX12_walkerOf) (maxL := 3) (ret := (some .int)) (by decide) rfl ?_
  intro p e s m args below meth c s₁ Bk hml hv
  obtain ⟨rfl, ⟨hsz, hP, hK, hD0⟩, hE, hSR⟩ := hv
  have hx := Bk.exec
  have hb := Bk.bytes
  have hr := Bk.returns
  have hlocks := Bk.notSynchronized
  have hC : CallFix p m c cX12_walkerOf 3 s _ (wu yX12_walkerOf cX12_walkerOf 3 (some .int)) RX12 := ⟨hx, hb, hml, findClass_of_methodNamed Bk.named, atoms_spec (ws := (wu yX12_walkerOf cX12_walkerOf 3 (some .int))) Bk.pre⟩
  subst hsz
  have hD := hD0.self (sz := s.heap.size)
  generalize hAe : va_A w0 s.heap.size = A at hD hE ⊢
  have hA : ∀ q : Nat, s.heap.size ≤ q → A q := fun q h => by rw [← hAe]; exact Or.inr h
  have hw : Wd dC dI A s.heap s.heap [] w0 := ⟨hP, hD, va_S.rf⟩
  have hF : FE ksM ([] : List (Nat × Nat × Nat)) w0 w0 := FE.rf
  have hl := lv_entry ([.ref (ad 0), .int a1, .int 3]) (n := 3) (Nat.le_of_ble_eq_true rfl)
  rw [lg_entry_eq]
  generalize (lg_sl ([.ref (ad 0), .int a1, .int 3]) ++ List.replicate (3 - (lg_sl ([.ref (ad 0), .int a1, .int 3])).length) Slot.unset).toArray = ls at hl ⊢
  have hl : lv_has ls 3 [(0, .ref (ad 0)), (1, .int a1), (2, .int 3)] := hl
  generalize hloc : ([] : List Loc) = locs at hw ⊢
  have hinX12 : ∀ w ∈ u_ws RX12 TX12 42, w ∈ (wu yX12_walkerOf cX12_walkerOf 3 (some .int)) := fun _ h => List.mem_cons_of_mem _ (up_71 h)
  refine lv_aload_n hx hb dX12_walkerOf_0 rfl (lv_at hl 0 rfl) ?_
  refine tk_getA hC hK hw hT hinX12 kM_at0 (by decide) rfl 26 (by decide) (List.mem_cons_of_mem _ uw_7_1) rfl rfl dX12_walkerOf_1 ?_
  refine lv_sipush (v := 216) hx hb dX12_walkerOf_4 (by decide) ?_
  refine lv_bipush (v := 9) hx hb dX12_walkerOf_7 (by decide) ?_
  refine lv_iload_n hx hb dX12_walkerOf_9 rfl (lv_at hl 1 rfl) ?_
  refine lv_imul hx hb dX12_walkerOf_10 ?_
  refine lv_topi (fun x1 ex1 => ?_)
  have ex1 : x1.toInt = (9 : Int) * a1.toInt := by rw [ex1]; exact wk_mul (show (-2147483648) ≤ (9 : Int) * a1.toInt by omega) (show (9 : Int) * a1.toInt ≤ 2147483647 by omega)
  refine lv_iadd hx hb dX12_walkerOf_11 ?_
  refine lv_topi (fun x2 ex2 => ?_)
  have ex2 : x2.toInt = (216 : Int) + x1.toInt := by rw [ex2]; exact wk_add (show (-2147483648) ≤ (216 : Int) + x1.toInt by omega) (show (216 : Int) + x1.toInt ≤ 2147483647 by omega)
  refine lv_iload_n hx hb dX12_walkerOf_12 rfl (lv_at hl 2 rfl) ?_
  refine lv_iadd hx hb dX12_walkerOf_13 ?_
  refine lv_topi (fun x3 ex3 => ?_)
  have ex3 : x3.toInt = x2.toInt + (3 : Int) := by rw [ex3]; exact wk_add (show (-2147483648) ≤ x2.toInt + (3 : Int) by omega) (show x2.toInt + (3 : Int) ≤ 2147483647 by omega)
  refine tk_ialdR hC hK hw hT kM_at12 rfl (show 0 ≤ x3.toInt by first | with_reducible assumption | omega) (show x3.toInt < 296 by first | with_reducible assumption | omega) dX12_walkerOf_14 (fun x4 c5 Ex4 => ?_)
  have c5 : gi w0 12 (9 * a1.toInt + 219).toNat = x4 := (congrArg (gi w0 12) (congrArg Int.toNat (show 9 * a1.toInt + 219 = x3.toInt by first | exact Int.le_antisymm (by omega) (by omega) | omega))).trans c5
  have bx4 := tk_rgI rfl 219 9 4 (-1) 5 (by decide +kernel) ⟨(a1.toInt - 0).toNat, by omega, show x3.toInt.toNat = 219 + 9 * (a1.toInt - 0).toNat by omega⟩ Ex4
  exact tk_iret hC hr hlocks hK ⟨rfl, ⟨(show (-1) ≤ x4.toInt by first | with_reducible assumption | omega), (show x4.toInt ≤ 5 by first | with_reducible assumption | omega), c5⟩⟩ hw dX12_walkerOf_15
abbrev P_X12_walkerOf_7 (ad : Nat → Nat) (cy : Nat → ClassId) (B : Int) (qr : Nat) (s1 : Int) (a1 : Int32) (w0 : va_W) : Int32 → va_W → Prop := fun r u => w0 = u ∧ ((gi u 12 (9 * a1.toInt + 221).toNat = r))
set_option maxHeartbeats 4000000 in
set_option maxRecDepth 100000 in
theorem k_X12_walkerOf_7 (l : Launch) (adK adV : Nat → Nat) (dC : Nat → ClassId) (dI : Nat → Nat → Nat) (cy : Nat → ClassId) (ad : Nat → Nat) (B : Int) (hB0 : 100000 ≤ B) (hB1 : B ≤ 1073741824) (qr : Nat) (s1 : Int)  (a1 : Int32) (ra1 : 0 ≤ a1.toInt) (ta1 : a1.toInt ≤ 3) (w0 : va_W) (sz : Nat) (hT : TW ksM ad cy B qr 12 w0)  : Met l yX12_walkerOf (wu yX12_walkerOf cX12_walkerOf 3 (some .int)) ({ frames := 1, cells := 0, slots := 0, locals := 12 }) (va_Pc [.ref (ad 0), .int a1, .int 5] (wpreS adK adV dC dI cy sz w0)) (va_Qi (P_X12_walkerOf_7 ad cy B qr s1 a1 w0) (fun u : va_W => wpost dC dI cy (va_A w0 sz) u) (va_A w0 sz)) 0 0 (va_A w0 sz) := by
  refine Met.ofW (cc := cX12_walkerOf) (maxL := 3) (ret := (some .int)) (by decide) rfl ?_
  intro p e s m args below meth c s₁ Bk hml hv
  obtain ⟨rfl, ⟨hsz, hP, hK, hD0⟩, hE, hSR⟩ := hv
  have hx := Bk.exec
  have hb := Bk.bytes
  have hr := Bk.returns
  have hlocks := Bk.notSynchronized
  have hC : CallFix p m c cX12_walkerOf 3 s _ (wu yX12_walkerOf cX12_walkerOf 3 (some .int)) RX12 := ⟨hx, hb, hml, findClass_of_methodNamed Bk.named, atoms_spec (ws := (wu yX12_walkerOf cX12_walkerOf 3 (some .int))) Bk.pre⟩
  subst hsz
  have hD := hD0.self (sz := s.heap.size)
  generalize hAe : va_A w0 s.heap.size = A at hD hE ⊢
  have hA : ∀ q : Nat, s.heap.size ≤ q → A q := fun q h => by rw [← hAe]; exact Or.inr h
  have hw : Wd dC dI A s.heap s.heap [] w0 := ⟨hP, hD, va_S.rf⟩
  have hF : FE ksM ([] : List (Nat × Nat × Nat)) w0 w0 := FE.rf
  have hl := lv_entry ([.ref (ad 0), .int a1, .int 5]) (n := 3) (Nat.le_of_ble_eq_true rfl)
  rw [lg_entry_eq]
  generalize (lg_sl ([.ref (ad 0), .int a1, .int 5]) ++ List.replicate (3 - (lg_sl ([.ref (ad 0), .int a1, .int 5])).length) Slot.unset).toArray = ls at hl ⊢
  have hl : lv_has ls 3 [(0, .ref (ad 0)), (1, .int a1), (2, .int 5)] := hl
  generalize hloc : ([] : List Loc) = locs at hw ⊢
  have hinX12 : ∀ w ∈ u_ws RX12 TX12 42, w ∈ (wu yX12_walkerOf cX12_walkerOf 3 (some .int)) := fun _ h => List.mem_cons_of_mem _ (up_71 h)
  refine lv_aload_n hx hb dX12_walkerOf_0 rfl (lv_at hl 0 rfl) ?_
  refine tk_getA hC hK hw hT hinX12 kM_at0 (by decide) rfl 26 (by decide) (List.mem_cons_of_mem _ uw_7_1) rfl rfl dX12_walkerOf_1 ?_
  refine lv_sipush (v := 216) hx hb dX12_walkerOf_4 (by decide) ?_
  refine lv_bipush (v := 9) hx hb dX12_walkerOf_7 (by decide) ?_
  refine lv_iload_n hx hb dX12_walkerOf_9 rfl (lv_at hl 1 rfl) ?_
  refine lv_imul hx hb dX12_walkerOf_10 ?_
  refine lv_topi (fun x1 ex1 => ?_)
  have ex1 : x1.toInt = (9 : Int) * a1.toInt := by rw [ex1]; exact wk_mul (show (-2147483648) ≤ (9 : Int) * a1.toInt by omega) (show (9 : Int) * a1.toInt ≤ 2147483647 by omega)
  refine lv_iadd hx hb dX12_walkerOf_11 ?_
  refine lv_topi (fun x2 ex2 => ?_)
  have ex2 : x2.toInt = (216 : Int) + x1.toInt := by rw [ex2]; exact wk_add (show (-2147483648) ≤ (216 : Int) + x1.toInt by omega) (show (216 : Int) + x1.toInt ≤ 2147483647 by omega)
  refine lv_iload_n hx hb dX12_walkerOf_12 rfl (lv_at hl 2 rfl) ?_
  refine lv_iadd hx hb dX12_walkerOf_13 ?_
  refine lv_topi (fun x3 ex3 => ?_)
  have ex3 : x3.toInt = x2.toInt + (5 : Int) := by rw [ex3]; exact wk_add (show (-2147483648) ≤ x2.toInt + (5 : Int) by omega) (show x2.toInt + (5 : Int) ≤ 2147483647 by omega)
  refine tk_ialdR hC hK hw hT kM_at12 rfl (show 0 ≤ x3.toInt by first | with_reducible assumption | omega) (show x3.toInt < 296 by first | with_reducible assumption | omega) dX12_walkerOf_14 (fun x4 c5 Ex4 => ?_)
  have c5 : gi w0 12 (9 * a1.toInt + 221).toNat = x4 := (congrArg (gi w0 12) (congrArg Int.toNat (show 9 * a1.toInt + 221 = x3.toInt by first | exact Int.le_antisymm (by omega) (by omega) | omega))).trans c5
  exact tk_iret hC hr hlocks hK ⟨rfl, c5⟩ hw dX12_walkerOf_15
abbrev P_X12_walkerOf_8 (ad : Nat → Nat) (cy : Nat → ClassId) (B : Int) (qr : Nat) (s1 : Int) (a1 : Int32) (w0 : va_W) : Int32 → va_W → Prop := fun r u => w0 = u ∧ ((gi u 12 (9 * a1.toInt + 222).toNat = r))
set_option maxHeartbeats 4000000 in
set_option maxRecDepth 100000 in
theorem k_X12_walkerOf_8 (l : Launch) (adK adV : Nat → Nat) (dC : Nat → ClassId) (dI : Nat → Nat → Nat) (cy : Nat → ClassId) (ad : Nat → Nat) (B : Int) (hB0 : 100000 ≤ B) (hB1 : B ≤ 1073741824) (qr : Nat) (s1 : Int)  (a1 : Int32) (ra1 : 0 ≤ a1.toInt) (ta1 : a1.toInt ≤ 3) (w0 : va_W) (sz : Nat) (hT : TW ksM ad cy B qr 12 w0)  : Met l yX12_walkerOf (wu yX12_walkerOf cX12_walkerOf 3 (some .int)) ({ frames := 1, cells := 0, slots := 0, locals := 12 }) (va_Pc [.ref (ad 0), .int a1, .int 6] (wpreS adK adV dC dI cy sz w0)) (va_Qi (P_X12_walkerOf_8 ad cy B qr s1 a1 w0) (fun u : va_W => wpost dC dI cy (va_A w0 sz) u) (va_A w0 sz)) 0 0 (va_A w0 sz) := by
  refine Met.ofW (cc := cX12_walkerOf) (maxL := 3) (ret := (some .int)) (by decide) rfl ?_
  intro p e s m args below meth c s₁ Bk hml hv
  obtain ⟨rfl, ⟨hsz, hP, hK, hD0⟩, hE, hSR⟩ := hv
  have hx := Bk.exec
  have hb := Bk.bytes
  have hr := Bk.returns
  have hlocks := Bk.notSynchronized
  have hC : CallFix p m c cX12_walkerOf 3 s _ (wu yX12_walkerOf cX12_walkerOf 3 (some .int)) RX12 := ⟨hx, hb, hml, findClass_of_methodNamed Bk.named, atoms_spec (ws := (wu yX12_walkerOf cX12_walkerOf 3 (some .int))) Bk.pre⟩
  subst hsz
  have hD := hD0.self (sz := s.heap.size)
  generalize hAe : va_A w0 s.heap.size = A at hD hE ⊢
  have hA : ∀ q : Nat, s.heap.size ≤ q → A q := fun q h => by rw [← hAe]; exact Or.inr h
  have hw : Wd dC dI A s.heap s.heap [] w0 := ⟨hP, hD, va_S.rf⟩
  have hF : FE ksM ([] : List (Nat × Nat × Nat)) w0 w0 := FE.rf
  have hl := lv_entry ([.ref (ad 0), .int a1, .int 6]) (n := 3) (Nat.le_of_ble_eq_true rfl)
  rw [lg_entry_eq]
  generalize (lg_sl ([.ref (ad 0), .int a1, .int 6]) ++ List.replicate (3 - (lg_sl ([.ref (ad 0), .int a1, .int 6])).length) Slot.unset).toArray = ls at hl ⊢
  have hl : lv_has ls 3 [(0, .ref (ad 0)), (1, .int a1), (2, .int 6)] := hl
  generalize hloc : ([] : List Loc) = locs at hw ⊢
  have hinX12 : ∀ w ∈ u_ws RX12 TX12 42, w ∈ (wu yX12_walkerOf cX12_walkerOf 3 (some .int)) := fun _ h => List.mem_cons_of_mem _ (up_71 h)
  refine lv_aload_n hx hb dX12_walkerOf_0 rfl (lv_at hl 0 rfl) ?_
  refine tk_getA hC hK hw hT hinX12 kM_at0 (by decide) rfl 26 (by decide) (List.mem_cons_of_mem _ uw_7_1) rfl rfl dX12_walkerOf_1 ?_
  refine lv_sipush (v := 216) hx hb dX12_walkerOf_4 (by decide) ?_
  refine lv_bipush (v := 9) hx hb dX12_walkerOf_7 (by decide) ?_
  refine lv_iload_n hx hb dX12_walkerOf_9 rfl (lv_at hl 1 rfl) ?_
  refine lv_imul hx hb dX12_walkerOf_10 ?_
  refine lv_topi (fun x1 ex1 => ?_)
  have ex1 : x1.toInt = (9 : Int) * a1.toInt := by rw [ex1]; exact wk_mul (show (-2147483648) ≤ (9 : Int) * a1.toInt by omega) (show (9 : Int) * a1.toInt ≤ 2147483647 by omega)
  refine lv_iadd hx hb dX12_walkerOf_11 ?_
  refine lv_topi (fun x2 ex2 => ?_)
  have ex2 : x2.toInt = (216 : Int) + x1.toInt := by rw [ex2]; exact wk_add (show (-2147483648) ≤ (216 : Int) + x1.toInt by omega) (show (216 : Int) + x1.toInt ≤ 2147483647 by omega)
  refine lv_iload_n hx hb dX12_walkerOf_12 rfl (lv_at hl 2 rfl) ?_
  refine lv_iadd hx hb dX12_walkerOf_13 ?_
  refine lv_topi (fun x3 ex3 => ?_)
  have ex3 : x3.toInt = x2.toInt + (6 : Int) := by rw [ex3]; exact wk_add (show (-2147483648) ≤ x2.toInt + (6 : Int) by omega) (show x2.toInt + (6 : Int) ≤ 2147483647 by omega)
  refine tk_ialdR hC hK hw hT kM_at12 rfl (show 0 ≤ x3.toInt by first | with_reducible assumption | omega) (show x3.toInt < 296 by first | with_reducible assumption | omega) dX12_walkerOf_14 (fun x4 c5 Ex4 => ?_)
  have c5 : gi w0 12 (9 * a1.toInt + 222).toNat = x4 := (congrArg (gi w0 12) (congrArg Int.toNat (show 9 * a1.toInt + 222 = x3.toInt by first | exact Int.le_antisymm (by omega) (by omega) | omega))).trans c5
  exact tk_iret hC hr hlocks hK ⟨rfl, c5⟩ hw dX12_walkerOf_15
abbrev P_X12_walkerOf_9 (ad : Nat → Nat) (cy : Nat → ClassId) (B : Int) (qr : Nat) (s1 : Int) (a1 : Int32) (w0 : va_W) : Int32 → va_W → Prop := fun r u => w0 = u ∧ (((-1) ≤ r.toInt ∧ r.toInt ≤ 9 ∧ gi u 12 (9 * a1.toInt + 223).toNat = r))
set_option maxHeartbeats 4000000 in
set_option maxRecDepth 100000 in
theorem k_X12_walkerOf_9 (l : Launch) (adK adV : Nat → Nat) (dC : Nat → ClassId) (dI : Nat → Nat → Nat) (cy : Nat → ClassId) (ad : Nat → Nat) (B : Int) (hB0 : 100000 ≤ B) (hB1 : B ≤ 1073741824) (qr : Nat) (s1 : Int)  (a1 : Int32) (ra1 : 0 ≤ a1.toInt) (ta1 : a1.toInt ≤ 3) (w0 : va_W) (sz : Nat) (hT : TW ksM ad cy B qr 12 w0)  : Met l yX12_walkerOf (wu yX12_walkerOf cX12_walkerOf 3 (some .int)) ({ frames := 1, cells := 0, slots := 0, locals := 12 }) (va_Pc [.ref (ad 0), .int a1, .int 7] (wpreS adK adV dC dI cy sz w0)) (va_Qi (P_X12_walkerOf_9 ad cy B qr s1 a1 w0) (fun u : va_W => wpost dC dI cy (va_A w0 sz) u) (va_A w0 sz)) 0 0 (va_A w0 sz) := by
  refine Met.ofW (cc := cX12_walkerOf) (maxL := 3) (ret := (some .int)) (by decide) rfl ?_
  intro p e s m args below meth c s₁ Bk hml hv
  obtain ⟨rfl, ⟨hsz, hP, hK, hD0⟩, hE, hSR⟩ := hv
  have hx := Bk.exec
  have hb := Bk.bytes
  have hr := Bk.returns
  have hlocks := Bk.notSynchronized
  have hC : CallFix p m c cX12_walkerOf 3 s _ (wu yX12_walkerOf cX12_walkerOf 3 (some .int)) RX12 := ⟨hx, hb, hml, findClass_of_methodNamed Bk.named, atoms_spec (ws := (wu yX12_walkerOf cX12_walkerOf 3 (some .int))) Bk.pre⟩
  subst hsz
  have hD := hD0.self (sz := s.heap.size)
  generalize hAe : va_A w0 s.heap.size = A at hD hE ⊢
  have hA : ∀ q : Nat, s.heap.size ≤ q → A q := fun q h => by rw [← hAe]; exact Or.inr h
  have hw : Wd dC dI A s.heap s.heap [] w0 := ⟨hP, hD, va_S.rf⟩
  have hF : FE ksM ([] : List (Nat × Nat × Nat)) w0 w0 := FE.rf
  have hl := lv_entry ([.ref (ad 0), .int a1, .int 7]) (n := 3) (Nat.le_of_ble_eq_true rfl)
  rw [lg_entry_eq]
  generalize (lg_sl ([.ref (ad 0), .int a1, .int 7]) ++ List.replicate (3 - (lg_sl ([.ref (ad 0), .int a1, .int 7])).length) Slot.unset).toArray = ls at hl ⊢
  have hl : lv_has ls 3 [(0, .ref (ad 0)), (1, .int a1), (2, .int 7)] := hl
  generalize hloc : ([] : List Loc) = locs at hw ⊢
  have hinX12 : ∀ w ∈ u_ws RX12 TX12 42, w ∈ (wu yX12_walkerOf cX12_walkerOf 3 (some .int)) := fun _ h => List.mem_cons_of_mem _ (up_71 h)
  refine lv_aload_n hx hb dX12_walkerOf_0 rfl (lv_at hl 0 rfl) ?_
  refine tk_getA hC hK hw hT hinX12 kM_at0 (by decide) rfl 26 (by decide) (List.mem_cons_of_mem _ uw_7_1) rfl rfl dX12_walkerOf_1 ?_
  refine lv_sipush (v := 216) hx hb dX12_walkerOf_4 (by decide) ?_
  refine lv_bipush (v := 9) hx hb dX12_walkerOf_7 (by decide) ?_
  refine lv_iload_n hx hb dX12_walkerOf_9 rfl (lv_at hl 1 rfl) ?_
  refine lv_imul hx hb dX12_walkerOf_10 ?_
  refine lv_topi (fun x1 ex1 => ?_)
  have ex1 : x1.toInt = (9 : Int) * a1.toInt := by rw [ex1]; exact wk_mul (show (-2147483648) ≤ (9 : Int) * a1.toInt by omega) (show (9 : Int) * a1.toInt ≤ 2147483647 by omega)
  refine lv_iadd hx hb dX12_walkerOf_11 ?_
  refine lv_topi (fun x2 ex2 => ?_)
  have ex2 : x2.toInt = (216 : Int) + x1.toInt := by rw [ex2]; exact wk_add (show (-2147483648) ≤ (216 : Int) + x1.toInt by omega) (show (216 : Int) + x1.toInt ≤ 2147483647 by omega)
  refine lv_iload_n hx hb dX12_walkerOf_12 rfl (lv_at hl 2 rfl) ?_
  refine lv_iadd hx hb dX12_walkerOf_13 ?_
  refine lv_topi (fun x3 ex3 => ?_)
  have ex3 : x3.toInt = x2.toInt + (7 : Int) := by rw [ex3]; exact wk_add (show (-2147483648) ≤ x2.toInt + (7 : Int) by omega) (show x2.toInt + (7 : Int) ≤ 2147483647 by omega)
  refine tk_ialdR hC hK hw hT kM_at12 rfl (show 0 ≤ x3.toInt by first | with_reducible assumption | omega) (show x3.toInt < 296 by first | with_reducible assumption | omega) dX12_walkerOf_14 (fun x4 c5 Ex4 => ?_)
  have c5 : gi w0 12 (9 * a1.toInt + 223).toNat = x4 := (congrArg (gi w0 12) (congrArg Int.toNat (show 9 * a1.toInt + 223 = x3.toInt by first | exact Int.le_antisymm (by omega) (by omega) | omega))).trans c5
  have bx4 := tk_rgI rfl 223 9 4 (-1) 9 (by decide +kernel) ⟨(a1.toInt - 0).toNat, by omega, show x3.toInt.toNat = 223 + 9 * (a1.toInt - 0).toNat by omega⟩ Ex4
  exact tk_iret hC hr hlocks hK ⟨rfl, ⟨(show (-1) ≤ x4.toInt by first | with_reducible assumption | omega), (show x4.toInt ≤ 9 by first | with_reducible assumption | omega), c5⟩⟩ hw dX12_walkerOf_15
abbrev P_X12_words_1 (ad : Nat → Nat) (cy : Nat → ClassId) (B : Int) (qr : Nat) (s1 : Int) (a1 : Int32) (w0 : va_W) : va_W → Prop := fun u => TW ksM ad cy B qr 12 u ∧ FE ksM [(70, 0, 10)] w0 u ∧ (((∃ y : Int32, gi u 0 30 = y ∧ 0 ≤ y.toInt ∧ y.toInt ≤ 1)))
set_option maxHeartbeats 4000000 in
set_option maxRecDepth 100000 in
theorem k_X12_words_1 (l : Launch) (adK adV : Nat → Nat) (dC : Nat → ClassId) (dI : Nat → Nat → Nat) (cy : Nat → ClassId) (ad : Nat → Nat) (B : Int) (hB0 : 100000 ≤ B) (hB1 : B ≤ 1073741824) (qr : Nat) (s1 : Int)  (a1 : Int32) (ra1 : 0 ≤ a1.toInt) (ta1 : a1.toInt ≤ 3) (w0 : va_W) (sz : Nat) (hT : TW ksM ad cy B qr 12 w0)  : Met l yX12_words (wu yX12_words cX12_words 4 none) ({ frames := 6, cells := 0, slots := 0, locals := 124 }) (va_Pc [.ref (ad 0), .int a1] (wpreS adK adV dC dI cy sz w0)) (va_Qv (P_X12_words_1 ad cy B qr s1 a1 w0) (fun u : va_W => wpost dC dI cy (va_A w0 sz) u) (va_A w0 sz)) 0 0 (va_A w0 sz) := by
  refine Met.ofW (cc := cX12_words) (maxL := 4) (ret := none) (by decide) rfl ?_
  intro p e s m args below meth c s₁ Bk hml hv
  obtain ⟨rfl, ⟨hsz, hP, hK, hD0⟩, hE, hSR⟩ := hv
  have hx := Bk.exec
  have hb := Bk.bytes
  have hr := Bk.returns
  have hlocks := Bk.notSynchronized
  have hC : CallFix p m c cX12_words 4 s _ (wu yX12_words cX12_words 4 none) RX12 := ⟨hx, hb, hml, findClass_of_methodNamed Bk.named, atoms_spec (ws := (wu yX12_words cX12_words 4 none)) Bk.pre⟩
  subst hsz
  have hD := hD0.self (sz := s.heap.size)
  generalize hAe : va_A w0 s.heap.size = A at hD hE ⊢
  have hA : ∀ q : Nat, s.heap.size ≤ q → A q := fun q h => by rw [← hAe]; exact Or.inr h
  have hw : Wd dC dI A s.heap s.heap [] w0 := ⟨hP, hD, va_S.rf⟩
  have hF : FE ksM [(70, 0, 10)] w0 w0 := FE.rf
  have hl := lv_entry ([.ref (ad 0), .int a1]) (n := 4) (Nat.le_of_ble_eq_true rfl)
  rw [lg_entry_eq]
  generalize (lg_sl ([.ref (ad 0), .int a1]) ++ List.replicate (4 - (lg_sl ([.ref (ad 0), .int a1])).length) Slot.unset).toArray = ls at hl ⊢
  have hl : lv_has ls 4 [(0, .ref (ad 0)), (1, .int a1)] := hl
  generalize hloc : ([] : List Loc) = locs at hw ⊢
  have hinX12 : ∀ w ∈ u_ws RX12 TX12 42, w ∈ (wu yX12_words cX12_words 4 none) := fun _ h => List.mem_cons_of_mem _ (up_71 h)
  refine lv_aload_n hx hb dX12_words_0 rfl (lv_at hl 0 rfl) ?_
  refine lv_iload_n hx hb dX12_words_1 rfl (lv_at hl 1 rfl) ?_
  refine lv_iconst (v := 4) hx hb dX12_words_2 (by decide) ?_
  refine tk_Vi hC hK hw hT hA hE hSR kM_at0 (by decide) rfl (k_X12_walkerOf_4 l adK adV dC dI cy ad B hB0 (Int.le_trans hB1 (by decide)) qr s1   a1 (show 0 ≤ a1.toInt from ra1) (show a1.toInt ≤ 3 from ta1) w0 s.heap.size hT ) (cwV 2 hC.2.2.2.2 uV_RX12_372 rfl rfl rfl (by decide +kernel) ⟨Nat.le_of_ble_eq_true rfl, Nat.le_of_ble_eq_true rfl⟩) rfl hl.1 rfl (Nat.le_of_ble_eq_true rfl) dX12_words_3 (fun r1 w3 H locs hp2 hw => ?_)
  obtain ⟨rfl, hg8⟩ := hp2
  obtain ⟨g5, g6, c7⟩ := hg8
  refine lv_istore_n (lv' := [(2, .int r1), (0, .ref (ad 0)), (1, .int a1)]) hx hb dX12_words_6 rfl hl (by decide) rfl (fun ls hl => ?_)
  refine lv_aload_n hx hb dX12_words_7 rfl (lv_at hl 1 rfl) ?_
  refine lv_iload_n hx hb dX12_words_8 rfl (lv_at hl 2 rfl) ?_
  refine lv_iconst (v := 0) hx hb dX12_words_9 (by decide) ?_
  refine tk_Vi hC hK hw hT hA hE hSR kM_at0 (by decide) rfl (k_X12_walkerOf_2 l adK adV dC dI cy ad B hB0 (Int.le_trans hB1 (by decide)) qr s1   a1 (show 0 ≤ a1.toInt from ra1) (show a1.toInt ≤ 3 from ta1) w0 H.size hT ) (cwV 2 hC.2.2.2.2 uV_RX12_372 rfl rfl rfl (by decide +kernel) ⟨Nat.le_of_ble_eq_true rfl, Nat.le_of_ble_eq_true rfl⟩) rfl hl.1 rfl (Nat.le_of_ble_eq_true rfl) dX12_words_10 (fun r9 w11 H locs hp10 hw => ?_)
  obtain ⟨rfl, hg16⟩ := hp10
  obtain ⟨g13, g14, c15⟩ := hg16
  refine lv_istore_n (lv' := [(3, .int r9), (2, .int r1), (0, .ref (ad 0)), (1, .int a1)]) hx hb dX12_words_13 rfl hl (by decide) rfl (fun ls hl => ?_)
  refine lv_aload_n hx hb dX12_words_14 rfl (lv_at hl 2 rfl) ?_
  refine tk_getA hC hK hw hT hinX12 kM_at0 (by decide) rfl 25 (by decide) (List.mem_cons_of_mem _ uw_7_0) rfl rfl dX12_words_15 ?_
  refine lv_iconst (v := 0) hx hb dX12_words_18 (by decide) ?_
  refine lv_iload_n hx hb dX12_words_19 rfl (lv_at hl 1 rfl) ?_
  refine lv_bipush (v := 24) hx hb dX12_words_20 (by decide) ?_
  refine lv_irem hx hb dX12_words_22 (by decide) ?_
  refine lv_topi (fun x17 ex17 => ?_)
  have ex17 : x17.toInt = r1.toInt % (24 : Int) := by rw [ex17]; exact wk_rem (show 0 ≤ r1.toInt by first | with_reducible assumption | omega) (show 0 < (24 : Int) by decide)
  refine lv_i2l hx hb dX12_words_23 rfl ?_
  refine lv_topl (fun x18 ex18 => ?_)
  have ex18 : x18.toInt = x17.toInt := by rw [ex18]; exact wk_i2l _
  have bx18 := wk_i32 x17
  refine tk_last hC hK hw hT kM_at11 (by decide) rfl (by decide) (by decide) dX12_words_24 (fun H locs w19 hw hT k21 => ?_)
  have hF := hF.put kM_at11 (inE_of (a := 0) (b := 10) (by decide) (by decide) (by decide)) k21
  have c22 := k21.gi (Or.inl (tk_ne kM_at12 kM_at11 (by decide))) c15
  refine lv_aload_n hx hb dX12_words_25 rfl (lv_at hl 2 rfl) ?_
  refine tk_getA hC hK hw hT hinX12 kM_at0 (by decide) rfl 25 (by decide) (List.mem_cons_of_mem _ uw_7_0) rfl rfl dX12_words_26 ?_
  refine lv_iconst (v := 1) hx hb dX12_words_29 (by decide) ?_
  refine lv_iload_n hx hb dX12_words_30 rfl (lv_at hl 1 rfl) ?_
  refine lv_bipush (v := 24) hx hb dX12_words_31 (by decide) ?_
  refine lv_idiv hx hb dX12_words_33 (by decide) ?_
  refine lv_topi (fun x23 ex23 => ?_)
  have ex23 : x23.toInt = r1.toInt / (24 : Int) := by rw [ex23]; exact wk_div (show 0 ≤ r1.toInt by first | with_reducible assumption | omega) (show 0 < (24 : Int) by decide)
  refine lv_bipush (v := 7) hx hb dX12_words_34 (by decide) ?_
  refine lv_irem hx hb dX12_words_36 (by decide) ?_
  refine lv_topi (fun x24 ex24 => ?_)
  have ex24 : x24.toInt = x23.toInt % (7 : Int) := by rw [ex24]; exact wk_rem (show 0 ≤ x23.toInt by first | with_reducible assumption | omega) (show 0 < (7 : Int) by decide)
  refine lv_i2l hx hb dX12_words_37 rfl ?_
  refine lv_topl (fun x25 ex25 => ?_)
  have ex25 : x25.toInt = x24.toInt := by rw [ex25]; exact wk_i2l _
  have bx25 := wk_i32 x24
  refine tk_last hC hK hw hT kM_at11 (by decide) rfl (by decide) (by decide) dX12_words_38 (fun H locs w26 hw hT k28 => ?_)
  have hF := hF.put kM_at11 (inE_of (a := 0) (b := 10) (by decide) (by decide) (by decide)) k28
  have c29 := k28.gi (Or.inl (tk_ne kM_at12 kM_at11 (by decide))) c22
  refine lv_aload_n hx hb dX12_words_39 rfl (lv_at hl 2 rfl) ?_
  refine tk_getA hC hK hw hT hinX12 kM_at0 (by decide) rfl 25 (by decide) (List.mem_cons_of_mem _ uw_7_0) rfl rfl dX12_words_40 ?_
  refine lv_iconst (v := 2) hx hb dX12_words_43 (by decide) ?_
  refine lv_aload_n hx hb dX12_words_44 rfl (lv_at hl 2 rfl) ?_
  refine tk_geti hC hK hw hT hinX12 kM_at0 (by decide) rfl 30 (by decide) (List.mem_cons_of_mem _ uw_47_4) rfl rfl dX12_words_45 (fun x30 c31 rx30 tx30 => ?_)
  refine lv_if_eq (tgt := 55) hx hb dX12_words_48 (by decide) (fun c32 => ?_) (fun c32 => ?_)
  · have c32 : x30.toInt = (0 : Int) := wk_eq.mp c32
    refine lv_iload_n hx hb dX12_words_55 rfl (lv_at hl 1 rfl) ?_
    refine lv_bipush (v := 24) hx hb dX12_words_56 (by decide) ?_
    refine lv_idiv hx hb dX12_words_58 (by decide) ?_
    refine lv_topi (fun x33 ex33 => ?_)
    have ex33 : x33.toInt = r1.toInt / (24 : Int) := by rw [ex33]; exact wk_div (show 0 ≤ r1.toInt by first | with_reducible assumption | omega) (show 0 < (24 : Int) by decide)
    refine lv_sipush (v := 360) hx hb dX12_words_59 (by decide) ?_
    refine lv_irem hx hb dX12_words_62 (by decide) ?_
    refine lv_topi (fun x34 ex34 => ?_)
    have ex34 : x34.toInt = x33.toInt % (360 : Int) := by rw [ex34]; exact wk_rem (show 0 ≤ x33.toInt by first | with_reducible assumption | omega) (show 0 < (360 : Int) by decide)
    refine lv_i2l hx hb dX12_words_63 rfl ?_
    refine lv_topl (fun x35 ex35 => ?_)
    have ex35 : x35.toInt = x34.toInt := by rw [ex35]; exact wk_i2l _
    have bx35 := wk_i32 x34
    refine tk_last hC hK hw hT kM_at11 (by decide) rfl (by decide) (by decide) dX12_words_64 (fun H locs w36 hw hT k38 => ?_)
    have hF := hF.put kM_at11 (inE_of (a := 0) (b := 10) (by decide) (by decide) (by decide)) k38
    have c39 := k38.gi (Or.inl (tk_ne kM_at12 kM_at11 (by decide))) c29
    have c40 := k38.gi (Or.inl (tk_ne kM_at0 kM_at11 (by decide))) c31
    refine lv_aload_n hx hb dX12_words_65 rfl (lv_at hl 2 rfl) ?_
    refine tk_getA hC hK hw hT hinX12 kM_at0 (by decide) rfl 25 (by decide) (List.mem_cons_of_mem _ uw_7_0) rfl rfl dX12_words_66 ?_
    refine lv_iconst (v := 3) hx hb dX12_words_69 (by decide) ?_
    refine lv_iload_n hx hb dX12_words_70 rfl (lv_at hl 0 rfl) ?_
    refine lv_i2l hx hb dX12_words_71 rfl ?_
    refine lv_topl (fun x41 ex41 => ?_)
    have ex41 : x41.toInt = r9.toInt := by rw [ex41]; exact wk_i2l _
    have bx41 := wk_i32 r9
    refine tk_last hC hK hw hT kM_at11 (by decide) rfl (by decide) (by decide) dX12_words_72 (fun H locs w42 hw hT k44 => ?_)
    have hF := hF.put kM_at11 (inE_of (a := 0) (b := 10) (by decide) (by decide) (by decide)) k44
    have c45 := k44.gi (Or.inl (tk_ne kM_at12 kM_at11 (by decide))) c39
    have c46 := k44.gi (Or.inl (tk_ne kM_at0 kM_at11 (by decide))) c40
    refine lv_aload_n hx hb dX12_words_73 rfl (lv_at hl 2 rfl) ?_
    refine tk_getA hC hK hw hT hinX12 kM_at0 (by decide) rfl 25 (by decide) (List.mem_cons_of_mem _ uw_7_0) rfl rfl dX12_words_74 ?_
    refine lv_iconst (v := 4) hx hb dX12_words_77 (by decide) ?_
    refine lv_aload_n hx hb dX12_words_78 rfl (lv_at hl 2 rfl) ?_
    refine lv_iload_n hx hb dX12_words_79 rfl (lv_at hl 3 rfl) ?_
    refine lv_iconst (v := 1) hx hb dX12_words_80 (by decide) ?_
    refine tk_Vi hC hK hw hT hA hE hSR kM_at0 (by decide) rfl (k_X12_walkerOf_3 l adK adV dC dI cy ad B hB0 (Int.le_trans hB1 (by decide)) qr s1   a1 (show 0 ≤ a1.toInt from ra1) (show a1.toInt ≤ 3 from ta1) w42 H.size hT ) (cwV 2 hC.2.2.2.2 uV_RX12_372 rfl rfl rfl (by decide +kernel) ⟨Nat.le_of_ble_eq_true rfl, Nat.le_of_ble_eq_true rfl⟩) rfl hl.1 rfl (Nat.le_of_ble_eq_true rfl) dX12_words_81 (fun r47 w49 H locs hp48 hw => ?_)
    obtain ⟨rfl, hg54⟩ := hp48
    obtain ⟨g51, g52, c53⟩ := hg54
    refine lv_i2l hx hb dX12_words_84 rfl ?_
    refine lv_topl (fun x55 ex55 => ?_)
    have ex55 : x55.toInt = r47.toInt := by rw [ex55]; exact wk_i2l _
    have bx55 := wk_i32 r47
    refine tk_last hC hK hw hT kM_at11 (by decide) rfl (by decide) (by decide) dX12_words_85 (fun H locs w56 hw hT k58 => ?_)
    have hF := hF.put kM_at11 (inE_of (a := 0) (b := 10) (by decide) (by decide) (by decide)) k58
    have c59 := k58.gi (Or.inl (tk_ne kM_at12 kM_at11 (by decide))) c45
    have c60 := k58.gi (Or.inl (tk_ne kM_at0 kM_at11 (by decide))) c46
    have c61 := k58.gi (Or.inl (tk_ne kM_at12 kM_at11 (by decide))) c53
    refine lv_aload_n hx hb dX12_words_86 rfl (lv_at hl 2 rfl) ?_
    refine tk_getA hC hK hw hT hinX12 kM_at0 (by decide) rfl 25 (by decide) (List.mem_cons_of_mem _ uw_7_0) rfl rfl dX12_words_87 ?_
    refine lv_iconst (v := 5) hx hb dX12_words_90 (by decide) ?_
    refine lv_aload_n hx hb dX12_words_91 rfl (lv_at hl 2 rfl) ?_
    refine lv_iload_n hx hb dX12_words_92 rfl (lv_at hl 3 rfl) ?_
    refine tk_Vi hC hK hw hT hA hE hSR kM_at0 (by decide) rfl (k_X12_canGo_1 l adK adV dC dI cy ad B hB0 (Int.le_trans hB1 (by decide)) qr s1   a1 (show 0 ≤ a1.toInt from ra1) (show a1.toInt ≤ 3 from ta1) w56 H.size hT ) (cwV 1 hC.2.2.2.2 uV_RX12_387 rfl rfl rfl (by decide +kernel) ⟨Nat.le_of_ble_eq_true rfl, Nat.le_of_ble_eq_true rfl⟩) rfl hl.1 rfl (Nat.le_of_ble_eq_true rfl) dX12_words_93 (fun r62 w64 H locs hp63 hw => ?_)
    obtain ⟨rfl, hg68⟩ := hp63
    rcases hg68 with rfl | ⟨rfl, ⟨x66, c67, rx66, tx66⟩⟩
    · refine lv_if_eq (tgt := 103) hx hb dX12_words_96 (by decide) (fun _ => ?_) (fun c => absurd (by decide) c)
      refine lv_lconst (v := 1) hx hb dX12_words_103 (by decide) ?_
      refine tk_last hC hK hw hT kM_at11 (by decide) rfl (by decide) (by decide) dX12_words_104 (fun H locs w69 hw hT k71 => ?_)
      have hF := hF.put kM_at11 (inE_of (a := 0) (b := 10) (by decide) (by decide) (by decide)) k71
      have c72 := k71.gi (Or.inl (tk_ne kM_at12 kM_at11 (by decide))) c59
      have c73 := k71.gi (Or.inl (tk_ne kM_at0 kM_at11 (by decide))) c60
      have c74 := k71.gi (Or.inl (tk_ne kM_at12 kM_at11 (by decide))) c61
      refine lv_aload_n hx hb dX12_words_105 rfl (lv_at hl 2 rfl) ?_
      refine tk_getA hC hK hw hT hinX12 kM_at0 (by decide) rfl 25 (by decide) (List.mem_cons_of_mem _ uw_7_0) rfl rfl dX12_words_106 ?_
      refine lv_bipush (v := 6) hx hb dX12_words_109 (by decide) ?_
      refine lv_aload_n hx hb dX12_words_111 rfl (lv_at hl 2 rfl) ?_
      refine tk_getA hC hK hw hT hinX12 kM_at0 (by decide) rfl 29 (by decide) (List.mem_cons_of_mem _ uw_7_4) rfl rfl dX12_words_112 ?_
      refine lv_iload_n hx hb dX12_words_115 rfl (lv_at hl 0 rfl) ?_
      refine tk_iald hC hK hw hT kM_at14 rfl rfl (show 0 ≤ r9.toInt by first | with_reducible assumption | omega) (show r9.toInt < 10 by first | with_reducible assumption | omega) dX12_words_116 (fun x75 c76 rx75 tx75 => ?_)
      have c76 : gi w69 14 (r9.toInt).toNat = x75 := (congrArg (gi w69 14) (congrArg Int.toNat (show r9.toInt = r9.toInt from rfl))).trans c76
      refine lv_ldcw (v := 100000000) hx hb hC.2.2.2.1 (hC.2.2.2.2 _ (List.mem_cons_of_mem _ uw_38_2)) dX12_words_117 ?_
      refine lv_icmp_ne (tgt := 127) hx hb dX12_words_120 (by decide) (fun c77 => ?_) (fun c77 => ?_)
      · have c77 : ¬ x75.toInt = (100000000 : Int) := wk_eqF c77
        refine lv_aload_n hx hb dX12_words_127 rfl (lv_at hl 2 rfl) ?_
        refine tk_getA hC hK hw hT hinX12 kM_at0 (by decide) rfl 29 (by decide) (List.mem_cons_of_mem _ uw_7_4) rfl rfl dX12_words_128 ?_
        refine lv_iload_n hx hb dX12_words_131 rfl (lv_at hl 0 rfl) ?_
        refine tk_iald hC hK hw hT kM_at14 rfl rfl (show 0 ≤ r9.toInt by first | with_reducible assumption | omega) (show r9.toInt < 10 by first | with_reducible assumption | omega) dX12_words_132 (fun x78 c79 rx78 tx78 => ?_)
        have c79 : gi w69 14 (r9.toInt).toNat = x78 := (congrArg (gi w69 14) (congrArg Int.toNat (show r9.toInt = r9.toInt from rfl))).trans c79
        refine wk_top x75 (c79.symm.trans c76) ?_
        refine lv_i2l hx hb dX12_words_133 rfl ?_
        refine lv_topl (fun x80 ex80 => ?_)
        have ex80 : x80.toInt = x75.toInt := by rw [ex80]; exact wk_i2l _
        have bx80 := wk_i32 x75
        refine tk_last hC hK hw hT kM_at11 (by decide) rfl (by decide) (by decide) dX12_words_134 (fun H locs w81 hw hT k83 => ?_)
        have hF := hF.put kM_at11 (inE_of (a := 0) (b := 10) (by decide) (by decide) (by decide)) k83
        have c84 := k83.gi (Or.inl (tk_ne kM_at12 kM_at11 (by decide))) c72
        have c85 := k83.gi (Or.inl (tk_ne kM_at0 kM_at11 (by decide))) c73
        have c86 := k83.gi (Or.inl (tk_ne kM_at12 kM_at11 (by decide))) c74
        have c87 := k83.gi (Or.inl (tk_ne kM_at14 kM_at11 (by decide))) c76
        refine lv_aload_n hx hb dX12_words_135 rfl (lv_at hl 2 rfl) ?_
        refine tk_getA hC hK hw hT hinX12 kM_at0 (by decide) rfl 25 (by decide) (List.mem_cons_of_mem _ uw_7_0) rfl rfl dX12_words_136 ?_
        refine lv_bipush (v := 7) hx hb dX12_words_139 (by decide) ?_
        refine lv_aload_n hx hb dX12_words_141 rfl (lv_at hl 2 rfl) ?_
        refine tk_geti hC hK hw hT hinX12 kM_at0 (by decide) rfl 30 (by decide) (List.mem_cons_of_mem _ uw_47_4) rfl rfl dX12_words_142 (fun x88 c89 rx88 tx88 => ?_)
        refine wk_top x30 (c89.symm.trans c85) ?_
        refine lv_if_eq (tgt := 152) hx hb dX12_words_145 (by decide) (fun _ => ?_) (fun c => (c (wk_eq.mpr (show x30.toInt = (0 : Int) by first | exact Int.le_antisymm (by omega) (by omega) | omega))).elim)
        refine lv_aload_n hx hb dX12_words_152 rfl (lv_at hl 2 rfl) ?_
        refine lv_iload_n hx hb dX12_words_153 rfl (lv_at hl 3 rfl) ?_
        refine lv_iconst (v := 5) hx hb dX12_words_154 (by decide) ?_
        refine tk_Vi hC hK hw hT hA hE hSR kM_at0 (by decide) rfl (k_X12_walkerOf_7 l adK adV dC dI cy ad B hB0 (Int.le_trans hB1 (by decide)) qr s1   a1 (show 0 ≤ a1.toInt from ra1) (show a1.toInt ≤ 3 from ta1) w81 H.size hT ) (cwV 2 hC.2.2.2.2 uV_RX12_372 rfl rfl rfl (by decide +kernel) ⟨Nat.le_of_ble_eq_true rfl, Nat.le_of_ble_eq_true rfl⟩) rfl hl.1 rfl (Nat.le_of_ble_eq_true rfl) dX12_words_155 (fun r90 w92 H locs hp91 hw => ?_)
        obtain ⟨rfl, hg95⟩ := hp91
        have c94 := hg95
        refine lv_i2l hx hb dX12_words_158 rfl ?_
        refine lv_topl (fun x96 ex96 => ?_)
        have ex96 : x96.toInt = r90.toInt := by rw [ex96]; exact wk_i2l _
        have bx96 := wk_i32 r90
        refine tk_last hC hK hw hT kM_at11 (by decide) rfl (by decide) (by decide) dX12_words_159 (fun H locs w97 hw hT k99 => ?_)
        have hF := hF.put kM_at11 (inE_of (a := 0) (b := 10) (by decide) (by decide) (by decide)) k99
        have c100 := k99.gi (Or.inl (tk_ne kM_at12 kM_at11 (by decide))) c84
        have c101 := k99.gi (Or.inl (tk_ne kM_at0 kM_at11 (by decide))) c85
        have c102 := k99.gi (Or.inl (tk_ne kM_at12 kM_at11 (by decide))) c86
        have c103 := k99.gi (Or.inl (tk_ne kM_at14 kM_at11 (by decide))) c87
        have c104 := k99.gi (Or.inl (tk_ne kM_at12 kM_at11 (by decide))) c94
        refine lv_aload_n hx hb dX12_words_160 rfl (lv_at hl 2 rfl) ?_
        refine tk_getA hC hK hw hT hinX12 kM_at0 (by decide) rfl 25 (by decide) (List.mem_cons_of_mem _ uw_7_0) rfl rfl dX12_words_161 ?_
        refine lv_bipush (v := 8) hx hb dX12_words_164 (by decide) ?_
        refine lv_aload_n hx hb dX12_words_166 rfl (lv_at hl 2 rfl) ?_
        refine lv_iload_n hx hb dX12_words_167 rfl (lv_at hl 3 rfl) ?_
        refine lv_bipush (v := 6) hx hb dX12_words_168 (by decide) ?_
        refine tk_Vi hC hK hw hT hA hE hSR kM_at0 (by decide) rfl (k_X12_walkerOf_8 l adK adV dC dI cy ad B hB0 (Int.le_trans hB1 (by decide)) qr s1   a1 (show 0 ≤ a1.toInt from ra1) (show a1.toInt ≤ 3 from ta1) w97 H.size hT ) (cwV 2 hC.2.2.2.2 uV_RX12_372 rfl rfl rfl (by decide +kernel) ⟨Nat.le_of_ble_eq_true rfl, Nat.le_of_ble_eq_true rfl⟩) rfl hl.1 rfl (Nat.le_of_ble_eq_true rfl) dX12_words_170 (fun r105 w107 H locs hp106 hw => ?_)
        obtain ⟨rfl, hg110⟩ := hp106
        have c109 := hg110
        refine lv_i2l hx hb dX12_words_173 rfl ?_
        refine lv_topl (fun x111 ex111 => ?_)
        have ex111 : x111.toInt = r105.toInt := by rw [ex111]; exact wk_i2l _
        have bx111 := wk_i32 r105
        refine tk_last hC hK hw hT kM_at11 (by decide) rfl (by decide) (by decide) dX12_words_174 (fun H locs w112 hw hT k114 => ?_)
        have hF := hF.put kM_at11 (inE_of (a := 0) (b := 10) (by decide) (by decide) (by decide)) k114
        have c115 := k114.gi (Or.inl (tk_ne kM_at12 kM_at11 (by decide))) c100
        have c116 := k114.gi (Or.inl (tk_ne kM_at0 kM_at11 (by decide))) c101
        have c117 := k114.gi (Or.inl (tk_ne kM_at12 kM_at11 (by decide))) c102
        have c118 := k114.gi (Or.inl (tk_ne kM_at14 kM_at11 (by decide))) c103
        have c119 := k114.gi (Or.inl (tk_ne kM_at12 kM_at11 (by decide))) c104
        have c120 := k114.gi (Or.inl (tk_ne kM_at12 kM_at11 (by decide))) c109
        refine lv_aload_n hx hb dX12_words_175 rfl (lv_at hl 2 rfl) ?_
        refine tk_getA hC hK hw hT hinX12 kM_at0 (by decide) rfl 25 (by decide) (List.mem_cons_of_mem _ uw_7_0) rfl rfl dX12_words_176 ?_
        refine lv_bipush (v := 9) hx hb dX12_words_179 (by decide) ?_
        refine lv_aload_n hx hb dX12_words_181 rfl (lv_at hl 2 rfl) ?_
        refine lv_iload_n hx hb dX12_words_182 rfl (lv_at hl 3 rfl) ?_
        refine lv_bipush (v := 7) hx hb dX12_words_183 (by decide) ?_
        refine tk_Vi hC hK hw hT hA hE hSR kM_at0 (by decide) rfl (k_X12_walkerOf_9 l adK adV dC dI cy ad B hB0 (Int.le_trans hB1 (by decide)) qr s1   a1 (show 0 ≤ a1.toInt from ra1) (show a1.toInt ≤ 3 from ta1) w112 H.size hT ) (cwV 2 hC.2.2.2.2 uV_RX12_372 rfl rfl rfl (by decide +kernel) ⟨Nat.le_of_ble_eq_true rfl, Nat.le_of_ble_eq_true rfl⟩) rfl hl.1 rfl (Nat.le_of_ble_eq_true rfl) dX12_words_185 (fun r121 w123 H locs hp122 hw => ?_)
        obtain ⟨rfl, hg128⟩ := hp122
        obtain ⟨g125, g126, c127⟩ := hg128
        refine lv_if_ge (tgt := 197) hx hb dX12_words_188 (by decide) (fun c129 => ?_) (fun c129 => ?_)
        · have c129 : (0 : Int) ≤ r121.toInt := wk_le.mp c129
          refine lv_aload_n hx hb dX12_words_197 rfl (lv_at hl 2 rfl) ?_
          refine lv_iload_n hx hb dX12_words_198 rfl (lv_at hl 3 rfl) ?_
          refine lv_bipush (v := 7) hx hb dX12_words_199 (by decide) ?_
          refine tk_Vi hC hK hw hT hA hE hSR kM_at0 (by decide) rfl (k_X12_walkerOf_9 l adK adV dC dI cy ad B hB0 (Int.le_trans hB1 (by decide)) qr s1   a1 (show 0 ≤ a1.toInt from ra1) (show a1.toInt ≤ 3 from ta1) w112 H.size hT ) (cwV 2 hC.2.2.2.2 uV_RX12_372 rfl rfl rfl (by decide +kernel) ⟨Nat.le_of_ble_eq_true rfl, Nat.le_of_ble_eq_true rfl⟩) rfl hl.1 rfl (Nat.le_of_ble_eq_true rfl) dX12_words_201 (fun r130 w132 H locs hp131 hw => ?_)
          obtain ⟨rfl, hg137⟩ := hp131
          obtain ⟨g134, g135, c136⟩ := hg137
          obtain rfl : r121 = r130 := c127.symm.trans c136
          refine lv_i2l hx hb dX12_words_204 rfl ?_
          refine lv_topl (fun x138 ex138 => ?_)
          have ex138 : x138.toInt = r121.toInt := by rw [ex138]; exact wk_i2l _
          have bx138 := wk_i32 r121
          refine tk_last hC hK hw hT kM_at11 (by decide) rfl (by decide) (by decide) dX12_words_205 (fun H locs w139 hw hT k141 => ?_)
          have hF := hF.put kM_at11 (inE_of (a := 0) (b := 10) (by decide) (by decide) (by decide)) k141
          have c142 := k141.gi (Or.inl (tk_ne kM_at12 kM_at11 (by decide))) c115
          have c143 := k141.gi (Or.inl (tk_ne kM_at0 kM_at11 (by decide))) c116
          have c144 := k141.gi (Or.inl (tk_ne kM_at12 kM_at11 (by decide))) c117
          have c145 := k141.gi (Or.inl (tk_ne kM_at14 kM_at11 (by decide))) c118
          have c146 := k141.gi (Or.inl (tk_ne kM_at12 kM_at11 (by decide))) c119
          have c147 := k141.gi (Or.inl (tk_ne kM_at12 kM_at11 (by decide))) c120
          have c148 := k141.gi (Or.inl (tk_ne kM_at12 kM_at11 (by decide))) c127
          exact tk_vret hC hr hlocks hK ⟨hT, hF, ⟨x30, c143, (show 0 ≤ x30.toInt from rx30), (show x30.toInt ≤ 1 from tx30)⟩⟩ hw dX12_words_206
        · have c129 : r121.toInt < (0 : Int) := wk_leF c129
          refine lv_ldc2 (v := 99) hx hb hC.2.2.2.1 (hC.2.2.2.2 _ (List.mem_cons_of_mem _ uw_48_1)) dX12_words_191 ?_
          refine lv_goto (tgt := 205) hx hb dX12_words_194 (by decide) ?_
          refine tk_last hC hK hw hT kM_at11 (by decide) rfl (by decide) (by decide) dX12_words_205 (fun H locs w149 hw hT k151 => ?_)
          have hF := hF.put kM_at11 (inE_of (a := 0) (b := 10) (by decide) (by decide) (by decide)) k151
          have c152 := k151.gi (Or.inl (tk_ne kM_at12 kM_at11 (by decide))) c115
          have c153 := k151.gi (Or.inl (tk_ne kM_at0 kM_at11 (by decide))) c116
          have c154 := k151.gi (Or.inl (tk_ne kM_at12 kM_at11 (by decide))) c117
          have c155 := k151.gi (Or.inl (tk_ne kM_at14 kM_at11 (by decide))) c118
          have c156 := k151.gi (Or.inl (tk_ne kM_at12 kM_at11 (by decide))) c119
          have c157 := k151.gi (Or.inl (tk_ne kM_at12 kM_at11 (by decide))) c120
          have c158 := k151.gi (Or.inl (tk_ne kM_at12 kM_at11 (by decide))) c127
          exact tk_vret hC hr hlocks hK ⟨hT, hF, ⟨x30, c153, (show 0 ≤ x30.toInt from rx30), (show x30.toInt ≤ 1 from tx30)⟩⟩ hw dX12_words_206
      · have c77 : x75.toInt = (100000000 : Int) := wk_eq.mp c77
        refine lv_lconst (v := 0) hx hb dX12_words_123 (by decide) ?_
        refine lv_goto (tgt := 134) hx hb dX12_words_124 (by decide) ?_
        refine tk_last hC hK hw hT kM_at11 (by decide) rfl (by decide) (by decide) dX12_words_134 (fun H locs w159 hw hT k161 => ?_)
        have hF := hF.put kM_at11 (inE_of (a := 0) (b := 10) (by decide) (by decide) (by decide)) k161
        have c162 := k161.gi (Or.inl (tk_ne kM_at12 kM_at11 (by decide))) c72
        have c163 := k161.gi (Or.inl (tk_ne kM_at0 kM_at11 (by decide))) c73
        have c164 := k161.gi (Or.inl (tk_ne kM_at12 kM_at11 (by decide))) c74
        have c165 := k161.gi (Or.inl (tk_ne kM_at14 kM_at11 (by decide))) c76
        refine lv_aload_n hx hb dX12_words_135 rfl (lv_at hl 2 rfl) ?_
        refine tk_getA hC hK hw hT hinX12 kM_at0 (by decide) rfl 25 (by decide) (List.mem_cons_of_mem _ uw_7_0) rfl rfl dX12_words_136 ?_
        refine lv_bipush (v := 7) hx hb dX12_words_139 (by decide) ?_
        refine lv_aload_n hx hb dX12_words_141 rfl (lv_at hl 2 rfl) ?_
        refine tk_geti hC hK hw hT hinX12 kM_at0 (by decide) rfl 30 (by decide) (List.mem_cons_of_mem _ uw_47_4) rfl rfl dX12_words_142 (fun x166 c167 rx166 tx166 => ?_)
        refine wk_top x30 (c167.symm.trans c163) ?_
        refine lv_if_eq (tgt := 152) hx hb dX12_words_145 (by decide) (fun _ => ?_) (fun c => (c (wk_eq.mpr (show x30.toInt = (0 : Int) by first | exact Int.le_antisymm (by omega) (by omega) | omega))).elim)
        refine lv_aload_n hx hb dX12_words_152 rfl (lv_at hl 2 rfl) ?_
        refine lv_iload_n hx hb dX12_words_153 rfl (lv_at hl 3 rfl) ?_
        refine lv_iconst (v := 5) hx hb dX12_words_154 (by decide) ?_
        refine tk_Vi hC hK hw hT hA hE hSR kM_at0 (by decide) rfl (k_X12_walkerOf_7 l adK adV dC dI cy ad B hB0 (Int.le_trans hB1 (by decide)) qr s1   a1 (show 0 ≤ a1.toInt from ra1) (show a1.toInt ≤ 3 from ta1) w159 H.size hT ) (cwV 2 hC.2.2.2.2 uV_RX12_372 rfl rfl rfl (by decide +kernel) ⟨Nat.le_of_ble_eq_true rfl, Nat.le_of_ble_eq_true rfl⟩) rfl hl.1 rfl (Nat.le_of_ble_eq_true rfl) dX12_words_155 (fun r168 w170 H locs hp169 hw => ?_)
        obtain ⟨rfl, hg173⟩ := hp169
        have c172 := hg173
        refine lv_i2l hx hb dX12_words_158 rfl ?_
        refine lv_topl (fun x174 ex174 => ?_)
        have ex174 : x174.toInt = r168.toInt := by rw [ex174]; exact wk_i2l _
        have bx174 := wk_i32 r168
        refine tk_last hC hK hw hT kM_at11 (by decide) rfl (by decide) (by decide) dX12_words_159 (fun H locs w175 hw hT k177 => ?_)
        have hF := hF.put kM_at11 (inE_of (a := 0) (b := 10) (by decide) (by decide) (by decide)) k177
        have c178 := k177.gi (Or.inl (tk_ne kM_at12 kM_at11 (by decide))) c162
        have c179 := k177.gi (Or.inl (tk_ne kM_at0 kM_at11 (by decide))) c163
        have c180 := k177.gi (Or.inl (tk_ne kM_at12 kM_at11 (by decide))) c164
        have c181 := k177.gi (Or.inl (tk_ne kM_at14 kM_at11 (by decide))) c165
        have c182 := k177.gi (Or.inl (tk_ne kM_at12 kM_at11 (by decide))) c172
        refine lv_aload_n hx hb dX12_words_160 rfl (lv_at hl 2 rfl) ?_
        refine tk_getA hC hK hw hT hinX12 kM_at0 (by decide) rfl 25 (by decide) (List.mem_cons_of_mem _ uw_7_0) rfl rfl dX12_words_161 ?_
        refine lv_bipush (v := 8) hx hb dX12_words_164 (by decide) ?_
        refine lv_aload_n hx hb dX12_words_166 rfl (lv_at hl 2 rfl) ?_
        refine lv_iload_n hx hb dX12_words_167 rfl (lv_at hl 3 rfl) ?_
        refine lv_bipush (v := 6) hx hb dX12_words_168 (by decide) ?_
        refine tk_Vi hC hK hw hT hA hE hSR kM_at0 (by decide) rfl (k_X12_walkerOf_8 l adK adV dC dI cy ad B hB0 (Int.le_trans hB1 (by decide)) qr s1   a1 (show 0 ≤ a1.toInt from ra1) (show a1.toInt ≤ 3 from ta1) w175 H.size hT ) (cwV 2 hC.2.2.2.2 uV_RX12_372 rfl rfl rfl (by decide +kernel) ⟨Nat.le_of_ble_eq_true rfl, Nat.le_of_ble_eq_true rfl⟩) rfl hl.1 rfl (Nat.le_of_ble_eq_true rfl) dX12_words_170 (fun r183 w185 H locs hp184 hw => ?_)
        obtain ⟨rfl, hg188⟩ := hp184
        have c187 := hg188
        refine lv_i2l hx hb dX12_words_173 rfl ?_
        refine lv_topl (fun x189 ex189 => ?_)
        have ex189 : x189.toInt = r183.toInt := by rw [ex189]; exact wk_i2l _
        have bx189 := wk_i32 r183
        refine tk_last hC hK hw hT kM_at11 (by decide) rfl (by decide) (by decide) dX12_words_174 (fun H locs w190 hw hT k192 => ?_)
        have hF := hF.put kM_at11 (inE_of (a := 0) (b := 10) (by decide) (by decide) (by decide)) k192
        have c193 := k192.gi (Or.inl (tk_ne kM_at12 kM_at11 (by decide))) c178
        have c194 := k192.gi (Or.inl (tk_ne kM_at0 kM_at11 (by decide))) c179
        have c195 := k192.gi (Or.inl (tk_ne kM_at12 kM_at11 (by decide))) c180
        have c196 := k192.gi (Or.inl (tk_ne kM_at14 kM_at11 (by decide))) c181
        have c197 := k192.gi (Or.inl (tk_ne kM_at12 kM_at11 (by decide))) c182
        have c198 := k192.gi (Or.inl (tk_ne kM_at12 kM_at11 (by decide))) c187
        refine lv_aload_n hx hb dX12_words_175 rfl (lv_at hl 2 rfl) ?_
        refine tk_getA hC hK hw hT hinX12 kM_at0 (by decide) rfl 25 (by decide) (List.mem_cons_of_mem _ uw_7_0) rfl rfl dX12_words_176 ?_
        refine lv_bipush (v := 9) hx hb dX12_words_179 (by decide) ?_
        refine lv_aload_n hx hb dX12_words_181 rfl (lv_at hl 2 rfl) ?_
        refine lv_iload_n hx hb dX12_words_182 rfl (lv_at hl 3 rfl) ?_
        refine lv_bipush (v := 7) hx hb dX12_words_183 (by decide) ?_
        refine tk_Vi hC hK hw hT hA hE hSR kM_at0 (by decide) rfl (k_X12_walkerOf_9 l adK adV dC dI cy ad B hB0 (Int.le_trans hB1 (by decide)) qr s1   a1 (show 0 ≤ a1.toInt from ra1) (show a1.toInt ≤ 3 from ta1) w190 H.size hT ) (cwV 2 hC.2.2.2.2 uV_RX12_372 rfl rfl rfl (by decide +kernel) ⟨Nat.le_of_ble_eq_true rfl, Nat.le_of_ble_eq_true rfl⟩) rfl hl.1 rfl (Nat.le_of_ble_eq_true rfl) dX12_words_185 (fun r199 w201 H locs hp200 hw => ?_)
        obtain ⟨rfl, hg206⟩ := hp200
        obtain ⟨g203, g204, c205⟩ := hg206
        refine lv_if_ge (tgt := 197) hx hb dX12_words_188 (by decide) (fun c207 => ?_) (fun c207 => ?_)
        · have c207 : (0 : Int) ≤ r199.toInt := wk_le.mp c207
          refine lv_aload_n hx hb dX12_words_197 rfl (lv_at hl 2 rfl) ?_
          refine lv_iload_n hx hb dX12_words_198 rfl (lv_at hl 3 rfl) ?_
          refine lv_bipush (v := 7) hx hb dX12_words_199 (by decide) ?_
          refine tk_Vi hC hK hw hT hA hE hSR kM_at0 (by decide) rfl (k_X12_walkerOf_9 l adK adV dC dI cy ad B hB0 (Int.le_trans hB1 (by decide)) qr s1   a1 (show 0 ≤ a1.toInt from ra1) (show a1.toInt ≤ 3 from ta1) w190 H.size hT ) (cwV 2 hC.2.2.2.2 uV_RX12_372 rfl rfl rfl (by decide +kernel) ⟨Nat.le_of_ble_eq_true rfl, Nat.le_of_ble_eq_true rfl⟩) rfl hl.1 rfl (Nat.le_of_ble_eq_true rfl) dX12_words_201 (fun r208 w210 H locs hp209 hw => ?_)
          obtain ⟨rfl, hg215⟩ := hp209
          obtain ⟨g212, g213, c214⟩ := hg215
          obtain rfl : r199 = r208 := c205.symm.trans c214
          refine lv_i2l hx hb dX12_words_204 rfl ?_
          refine lv_topl (fun x216 ex216 => ?_)
          have ex216 : x216.toInt = r199.toInt := by rw [ex216]; exact wk_i2l _
          have bx216 := wk_i32 r199
          refine tk_last hC hK hw hT kM_at11 (by decide) rfl (by decide) (by decide) dX12_words_205 (fun H locs w217 hw hT k219 => ?_)
          have hF := hF.put kM_at11 (inE_of (a := 0) (b := 10) (by decide) (by decide) (by decide)) k219
          have c220 := k219.gi (Or.inl (tk_ne kM_at12 kM_at11 (by decide))) c193
          have c221 := k219.gi (Or.inl (tk_ne kM_at0 kM_at11 (by decide))) c194
          have c222 := k219.gi (Or.inl (tk_ne kM_at12 kM_at11 (by decide))) c195
          have c223 := k219.gi (Or.inl (tk_ne kM_at14 kM_at11 (by decide))) c196
          have c224 := k219.gi (Or.inl (tk_ne kM_at12 kM_at11 (by decide))) c197
          have c225 := k219.gi (Or.inl (tk_ne kM_at12 kM_at11 (by decide))) c198
          have c226 := k219.gi (Or.inl (tk_ne kM_at12 kM_at11 (by decide))) c205
          exact tk_vret hC hr hlocks hK ⟨hT, hF, ⟨x30, c221, (show 0 ≤ x30.toInt from rx30), (show x30.toInt ≤ 1 from tx30)⟩⟩ hw dX12_words_206
        · have c207 : r199.toInt < (0 : Int) := wk_leF c207
          refine lv_ldc2 (v := 99) hx hb hC.2.2.2.1 (hC.2.2.2.2 _ (List.mem_cons_of_mem _ uw_48_1)) dX12_words_191 ?_
          refine lv_goto (tgt := 205) hx hb dX12_words_194 (by decide) ?_
          refine tk_last hC hK hw hT kM_at11 (by decide) rfl (by decide) (by decide) dX12_words_205 (fun H locs w227 hw hT k229 => ?_)
          have hF := hF.put kM_at11 (inE_of (a := 0) (b := 10) (by decide) (by decide) (by decide)) k229
          have c230 := k229.gi (Or.inl (tk_ne kM_at12 kM_at11 (by decide))) c193
          have c231 := k229.gi (Or.inl (tk_ne kM_at0 kM_at11 (by decide))) c194
          have c232 := k229.gi (Or.inl (tk_ne kM_at12 kM_at11 (by decide))) c195
          have c233 := k229.gi (Or.inl (tk_ne kM_at14 kM_at11 (by decide))) c196
          have c234 := k229.gi (Or.inl (tk_ne kM_at12 kM_at11 (by decide))) c197
          have c235 := k229.gi (Or.inl (tk_ne kM_at12 kM_at11 (by decide))) c198
          have c236 := k229.gi (Or.inl (tk_ne kM_at12 kM_at11 (by decide))) c205
          exact tk_vret hC hr hlocks hK ⟨hT, hF, ⟨x30, c231, (show 0 ≤ x30.toInt from rx30), (show x30.toInt ≤ 1 from tx30)⟩⟩ hw dX12_words_206
    · refine lv_if_eq (tgt := 103) hx hb dX12_words_96 (by decide) (fun c => absurd c (by decide)) (fun _ => ?_)
      refine lv_lconst (v := 0) hx hb dX12_words_99 (by decide) ?_
      refine lv_goto (tgt := 104) hx hb dX12_words_100 (by decide) ?_
      refine tk_last hC hK hw hT kM_at11 (by decide) rfl (by decide) (by decide) dX12_words_104 (fun H locs w237 hw hT k239 => ?_)
      have hF := hF.put kM_at11 (inE_of (a := 0) (b := 10) (by decide) (by decide) (by decide)) k239
      have c240 := k239.gi (Or.inl (tk_ne kM_at12 kM_at11 (by decide))) c59
      have c241 := k239.gi (Or.inl (tk_ne kM_at0 kM_at11 (by decide))) c60
      have c242 := k239.gi (Or.inl (tk_ne kM_at12 kM_at11 (by decide))) c61
      have c243 := k239.gi (Or.inl (tk_ne kM_at0 kM_at11 (by decide))) c67
      refine lv_aload_n hx hb dX12_words_105 rfl (lv_at hl 2 rfl) ?_
      refine tk_getA hC hK hw hT hinX12 kM_at0 (by decide) rfl 25 (by decide) (List.mem_cons_of_mem _ uw_7_0) rfl rfl dX12_words_106 ?_
      refine lv_bipush (v := 6) hx hb dX12_words_109 (by decide) ?_
      refine lv_aload_n hx hb dX12_words_111 rfl (lv_at hl 2 rfl) ?_
      refine tk_getA hC hK hw hT hinX12 kM_at0 (by decide) rfl 29 (by decide) (List.mem_cons_of_mem _ uw_7_4) rfl rfl dX12_words_112 ?_
      refine lv_iload_n hx hb dX12_words_115 rfl (lv_at hl 0 rfl) ?_
      refine tk_iald hC hK hw hT kM_at14 rfl rfl (show 0 ≤ r9.toInt by first | with_reducible assumption | omega) (show r9.toInt < 10 by first | with_reducible assumption | omega) dX12_words_116 (fun x244 c245 rx244 tx244 => ?_)
      have c245 : gi w237 14 (r9.toInt).toNat = x244 := (congrArg (gi w237 14) (congrArg Int.toNat (show r9.toInt = r9.toInt from rfl))).trans c245
      refine lv_ldcw (v := 100000000) hx hb hC.2.2.2.1 (hC.2.2.2.2 _ (List.mem_cons_of_mem _ uw_38_2)) dX12_words_117 ?_
      refine lv_icmp_ne (tgt := 127) hx hb dX12_words_120 (by decide) (fun c246 => ?_) (fun c246 => ?_)
      · have c246 : ¬ x244.toInt = (100000000 : Int) := wk_eqF c246
        refine lv_aload_n hx hb dX12_words_127 rfl (lv_at hl 2 rfl) ?_
        refine tk_getA hC hK hw hT hinX12 kM_at0 (by decide) rfl 29 (by decide) (List.mem_cons_of_mem _ uw_7_4) rfl rfl dX12_words_128 ?_
        refine lv_iload_n hx hb dX12_words_131 rfl (lv_at hl 0 rfl) ?_
        refine tk_iald hC hK hw hT kM_at14 rfl rfl (show 0 ≤ r9.toInt by first | with_reducible assumption | omega) (show r9.toInt < 10 by first | with_reducible assumption | omega) dX12_words_132 (fun x247 c248 rx247 tx247 => ?_)
        have c248 : gi w237 14 (r9.toInt).toNat = x247 := (congrArg (gi w237 14) (congrArg Int.toNat (show r9.toInt = r9.toInt from rfl))).trans c248
        refine wk_top x244 (c248.symm.trans c245) ?_
        refine lv_i2l hx hb dX12_words_133 rfl ?_
        refine lv_topl (fun x249 ex249 => ?_)
        have ex249 : x249.toInt = x244.toInt := by rw [ex249]; exact wk_i2l _
        have bx249 := wk_i32 x244
        refine tk_last hC hK hw hT kM_at11 (by decide) rfl (by decide) (by decide) dX12_words_134 (fun H locs w250 hw hT k252 => ?_)
        have hF := hF.put kM_at11 (inE_of (a := 0) (b := 10) (by decide) (by decide) (by decide)) k252
        have c253 := k252.gi (Or.inl (tk_ne kM_at12 kM_at11 (by decide))) c240
        have c254 := k252.gi (Or.inl (tk_ne kM_at0 kM_at11 (by decide))) c241
        have c255 := k252.gi (Or.inl (tk_ne kM_at12 kM_at11 (by decide))) c242
        have c256 := k252.gi (Or.inl (tk_ne kM_at0 kM_at11 (by decide))) c243
        have c257 := k252.gi (Or.inl (tk_ne kM_at14 kM_at11 (by decide))) c245
        refine lv_aload_n hx hb dX12_words_135 rfl (lv_at hl 2 rfl) ?_
        refine tk_getA hC hK hw hT hinX12 kM_at0 (by decide) rfl 25 (by decide) (List.mem_cons_of_mem _ uw_7_0) rfl rfl dX12_words_136 ?_
        refine lv_bipush (v := 7) hx hb dX12_words_139 (by decide) ?_
        refine lv_aload_n hx hb dX12_words_141 rfl (lv_at hl 2 rfl) ?_
        refine tk_geti hC hK hw hT hinX12 kM_at0 (by decide) rfl 30 (by decide) (List.mem_cons_of_mem _ uw_47_4) rfl rfl dX12_words_142 (fun x258 c259 rx258 tx258 => ?_)
        refine wk_top x30 (c259.symm.trans c254) ?_
        refine lv_if_eq (tgt := 152) hx hb dX12_words_145 (by decide) (fun _ => ?_) (fun c => (c (wk_eq.mpr (show x30.toInt = (0 : Int) by first | exact Int.le_antisymm (by omega) (by omega) | omega))).elim)
        refine lv_aload_n hx hb dX12_words_152 rfl (lv_at hl 2 rfl) ?_
        refine lv_iload_n hx hb dX12_words_153 rfl (lv_at hl 3 rfl) ?_
        refine lv_iconst (v := 5) hx hb dX12_words_154 (by decide) ?_
        refine tk_Vi hC hK hw hT hA hE hSR kM_at0 (by decide) rfl (k_X12_walkerOf_7 l adK adV dC dI cy ad B hB0 (Int.le_trans hB1 (by decide)) qr s1   a1 (show 0 ≤ a1.toInt from ra1) (show a1.toInt ≤ 3 from ta1) w250 H.size hT ) (cwV 2 hC.2.2.2.2 uV_RX12_372 rfl rfl rfl (by decide +kernel) ⟨Nat.le_of_ble_eq_true rfl, Nat.le_of_ble_eq_true rfl⟩) rfl hl.1 rfl (Nat.le_of_ble_eq_true rfl) dX12_words_155 (fun r260 w262 H locs hp261 hw => ?_)
        obtain ⟨rfl, hg265⟩ := hp261
        have c264 := hg265
        refine lv_i2l hx hb dX12_words_158 rfl ?_
        refine lv_topl (fun x266 ex266 => ?_)
        have ex266 : x266.toInt = r260.toInt := by rw [ex266]; exact wk_i2l _
        have bx266 := wk_i32 r260
        refine tk_last hC hK hw hT kM_at11 (by decide) rfl (by decide) (by decide) dX12_words_159 (fun H locs w267 hw hT k269 => ?_)
        have hF := hF.put kM_at11 (inE_of (a := 0) (b := 10) (by decide) (by decide) (by decide)) k269
        have c270 := k269.gi (Or.inl (tk_ne kM_at12 kM_at11 (by decide))) c253
        have c271 := k269.gi (Or.inl (tk_ne kM_at0 kM_at11 (by decide))) c254
        have c272 := k269.gi (Or.inl (tk_ne kM_at12 kM_at11 (by decide))) c255
        have c273 := k269.gi (Or.inl (tk_ne kM_at0 kM_at11 (by decide))) c256
        have c274 := k269.gi (Or.inl (tk_ne kM_at14 kM_at11 (by decide))) c257
        have c275 := k269.gi (Or.inl (tk_ne kM_at12 kM_at11 (by decide))) c264
        refine lv_aload_n hx hb dX12_words_160 rfl (lv_at hl 2 rfl) ?_
        refine tk_getA hC hK hw hT hinX12 kM_at0 (by decide) rfl 25 (by decide) (List.mem_cons_of_mem _ uw_7_0) rfl rfl dX12_words_161 ?_
        refine lv_bipush (v := 8) hx hb dX12_words_164 (by decide) ?_
        refine lv_aload_n hx hb dX12_words_166 rfl (lv_at hl 2 rfl) ?_
        refine lv_iload_n hx hb dX12_words_167 rfl (lv_at hl 3 rfl) ?_
        refine lv_bipush (v := 6) hx hb dX12_words_168 (by decide) ?_
        refine tk_Vi hC hK hw hT hA hE hSR kM_at0 (by decide) rfl (k_X12_walkerOf_8 l adK adV dC dI cy ad B hB0 (Int.le_trans hB1 (by decide)) qr s1   a1 (show 0 ≤ a1.toInt from ra1) (show a1.toInt ≤ 3 from ta1) w267 H.size hT ) (cwV 2 hC.2.2.2.2 uV_RX12_372 rfl rfl rfl (by decide +kernel) ⟨Nat.le_of_ble_eq_true rfl, Nat.le_of_ble_eq_true rfl⟩) rfl hl.1 rfl (Nat.le_of_ble_eq_true rfl) dX12_words_170 (fun r276 w278 H locs hp277 hw => ?_)
        obtain ⟨rfl, hg281⟩ := hp277
        have c280 := hg281
        refine lv_i2l hx hb dX12_words_173 rfl ?_
        refine lv_topl (fun x282 ex282 => ?_)
        have ex282 : x282.toInt = r276.toInt := by rw [ex282]; exact wk_i2l _
        have bx282 := wk_i32 r276
        refine tk_last hC hK hw hT kM_at11 (by decide) rfl (by decide) (by decide) dX12_words_174 (fun H locs w283 hw hT k285 => ?_)
        have hF := hF.put kM_at11 (inE_of (a := 0) (b := 10) (by decide) (by decide) (by decide)) k285
        have c286 := k285.gi (Or.inl (tk_ne kM_at12 kM_at11 (by decide))) c270
        have c287 := k285.gi (Or.inl (tk_ne kM_at0 kM_at11 (by decide))) c271
        have c288 := k285.gi (Or.inl (tk_ne kM_at12 kM_at11 (by decide))) c272
        have c289 := k285.gi (Or.inl (tk_ne kM_at0 kM_at11 (by decide))) c273
        have c290 := k285.gi (Or.inl (tk_ne kM_at14 kM_at11 (by decide))) c274
        have c291 := k285.gi (Or.inl (tk_ne kM_at12 kM_at11 (by decide))) c275
        have c292 := k285.gi (Or.inl (tk_ne kM_at12 kM_at11 (by decide))) c280
        refine lv_aload_n hx hb dX12_words_175 rfl (lv_at hl 2 rfl) ?_
        refine tk_getA hC hK hw hT hinX12 kM_at0 (by decide) rfl 25 (by decide) (List.mem_cons_of_mem _ uw_7_0) rfl rfl dX12_words_176 ?_
        refine lv_bipush (v := 9) hx hb dX12_words_179 (by decide) ?_
        refine lv_aload_n hx hb dX12_words_181 rfl (lv_at hl 2 rfl) ?_
        refine lv_iload_n hx hb dX12_words_182 rfl (lv_at hl 3 rfl) ?_
        refine lv_bipush (v := 7) hx hb dX12_words_183 (by decide) ?_
        refine tk_Vi hC hK hw hT hA hE hSR kM_at0 (by decide) rfl (k_X12_walkerOf_9 l adK adV dC dI cy ad B hB0 (Int.le_trans hB1 (by decide)) qr s1   a1 (show 0 ≤ a1.toInt from ra1) (show a1.toInt ≤ 3 from ta1) w283 H.size hT ) (cwV 2 hC.2.2.2.2 uV_RX12_372 rfl rfl rfl (by decide +kernel) ⟨Nat.le_of_ble_eq_true rfl, Nat.le_of_ble_eq_true rfl⟩) rfl hl.1 rfl (Nat.le_of_ble_eq_true rfl) dX12_words_185 (fun r293 w295 H locs hp294 hw => ?_)
        obtain ⟨rfl, hg300⟩ := hp294
        obtain ⟨g297, g298, c299⟩ := hg300
        refine lv_if_ge (tgt := 197) hx hb dX12_words_188 (by decide) (fun c301 => ?_) (fun c301 => ?_)
        · have c301 : (0 : Int) ≤ r293.toInt := wk_le.mp c301
          refine lv_aload_n hx hb dX12_words_197 rfl (lv_at hl 2 rfl) ?_
          refine lv_iload_n hx hb dX12_words_198 rfl (lv_at hl 3 rfl) ?_
          refine lv_bipush (v := 7) hx hb dX12_words_199 (by decide) ?_
          refine tk_Vi hC hK hw hT hA hE hSR kM_at0 (by decide) rfl (k_X12_walkerOf_9 l adK adV dC dI cy ad B hB0 (Int.le_trans hB1 (by decide)) qr s1   a1 (show 0 ≤ a1.toInt from ra1) (show a1.toInt ≤ 3 from ta1) w283 H.size hT ) (cwV 2 hC.2.2.2.2 uV_RX12_372 rfl rfl rfl (by decide +kernel) ⟨Nat.le_of_ble_eq_true rfl, Nat.le_of_ble_eq_true rfl⟩) rfl hl.1 rfl (Nat.le_of_ble_eq_true rfl) dX12_words_201 (fun r302 w304 H locs hp303 hw => ?_)
          obtain ⟨rfl, hg309⟩ := hp303
          obtain ⟨g306, g307, c308⟩ := hg309
          obtain rfl : r293 = r302 := c299.symm.trans c308
          refine lv_i2l hx hb dX12_words_204 rfl ?_
          refine lv_topl (fun x310 ex310 => ?_)
          have ex310 : x310.toInt = r293.toInt := by rw [ex310]; exact wk_i2l _
          have bx310 := wk_i32 r293
          refine tk_last hC hK hw hT kM_at11 (by decide) rfl (by decide) (by decide) dX12_words_205 (fun H locs w311 hw hT k313 => ?_)
          have hF := hF.put kM_at11 (inE_of (a := 0) (b := 10) (by decide) (by decide) (by decide)) k313
          have c314 := k313.gi (Or.inl (tk_ne kM_at12 kM_at11 (by decide))) c286
          have c315 := k313.gi (Or.inl (tk_ne kM_at0 kM_at11 (by decide))) c287
          have c316 := k313.gi (Or.inl (tk_ne kM_at12 kM_at11 (by decide))) c288
          have c317 := k313.gi (Or.inl (tk_ne kM_at0 kM_at11 (by decide))) c289
          have c318 := k313.gi (Or.inl (tk_ne kM_at14 kM_at11 (by decide))) c290
          have c319 := k313.gi (Or.inl (tk_ne kM_at12 kM_at11 (by decide))) c291
          have c320 := k313.gi (Or.inl (tk_ne kM_at12 kM_at11 (by decide))) c292
          have c321 := k313.gi (Or.inl (tk_ne kM_at12 kM_at11 (by decide))) c299
          exact tk_vret hC hr hlocks hK ⟨hT, hF, ⟨x30, c315, (show 0 ≤ x30.toInt from rx30), (show x30.toInt ≤ 1 from tx30)⟩⟩ hw dX12_words_206
        · have c301 : r293.toInt < (0 : Int) := wk_leF c301
          refine lv_ldc2 (v := 99) hx hb hC.2.2.2.1 (hC.2.2.2.2 _ (List.mem_cons_of_mem _ uw_48_1)) dX12_words_191 ?_
          refine lv_goto (tgt := 205) hx hb dX12_words_194 (by decide) ?_
          refine tk_last hC hK hw hT kM_at11 (by decide) rfl (by decide) (by decide) dX12_words_205 (fun H locs w322 hw hT k324 => ?_)
          have hF := hF.put kM_at11 (inE_of (a := 0) (b := 10) (by decide) (by decide) (by decide)) k324
          have c325 := k324.gi (Or.inl (tk_ne kM_at12 kM_at11 (by decide))) c286
          have c326 := k324.gi (Or.inl (tk_ne kM_at0 kM_at11 (by decide))) c287
          have c327 := k324.gi (Or.inl (tk_ne kM_at12 kM_at11 (by decide))) c288
          have c328 := k324.gi (Or.inl (tk_ne kM_at0 kM_at11 (by decide))) c289
          have c329 := k324.gi (Or.inl (tk_ne kM_at14 kM_at11 (by decide))) c290
          have c330 := k324.gi (Or.inl (tk_ne kM_at12 kM_at11 (by decide))) c291
          have c331 := k324.gi (Or.inl (tk_ne kM_at12 kM_at11 (by decide))) c292
          have c332 := k324.gi (Or.inl (tk_ne kM_at12 kM_at11 (by decide))) c299
          exact tk_vret hC hr hlocks hK ⟨hT, hF, ⟨x30, c326, (show 0 ≤ x30.toInt from rx30), (show x30.toInt ≤ 1 from tx30)⟩⟩ hw dX12_words_206
      · have c246 : x244.toInt = (100000000 : Int) := wk_eq.mp c246
        refine lv_lconst (v := 0) hx hb dX12_words_123 (by decide) ?_
        refine lv_goto (tgt := 134) hx hb dX12_words_124 (by decide) ?_
        refine tk_last hC hK hw hT kM_at11 (by decide) rfl (by decide) (by decide) dX12_words_134 (fun H locs w333 hw hT k335 => ?_)
        have hF := hF.put kM_at11 (inE_of (a := 0) (b := 10) (by decide) (by decide) (by decide)) k335
        have c336 := k335.gi (Or.inl (tk_ne kM_at12 kM_at11 (by decide))) c240
        have c337 := k335.gi (Or.inl (tk_ne kM_at0 kM_at11 (by decide))) c241
        have c338 := k335.gi (Or.inl (tk_ne kM_at12 kM_at11 (by decide))) c242
        have c339 := k335.gi (Or.inl (tk_ne kM_at0 kM_at11 (by decide))) c243
        have c340 := k335.gi (Or.inl (tk_ne kM_at14 kM_at11 (by decide))) c245
        refine lv_aload_n hx hb dX12_words_135 rfl (lv_at hl 2 rfl) ?_
        refine tk_getA hC hK hw hT hinX12 kM_at0 (by decide) rfl 25 (by decide) (List.mem_cons_of_mem _ uw_7_0) rfl rfl dX12_words_136 ?_
        refine lv_bipush (v := 7) hx hb dX12_words_139 (by decide) ?_
        refine lv_aload_n hx hb dX12_words_141 rfl (lv_at hl 2 rfl) ?_
        refine tk_geti hC hK hw hT hinX12 kM_at0 (by decide) rfl 30 (by decide) (List.mem_cons_of_mem _ uw_47_4) rfl rfl dX12_words_142 (fun x341 c342 rx341 tx341 => ?_)
        refine wk_top x30 (c342.symm.trans c337) ?_
        refine lv_if_eq (tgt := 152) hx hb dX12_words_145 (by decide) (fun _ => ?_) (fun c => (c (wk_eq.mpr (show x30.toInt = (0 : Int) by first | exact Int.le_antisymm (by omega) (by omega) | omega))).elim)
        refine lv_aload_n hx hb dX12_words_152 rfl (lv_at hl 2 rfl) ?_
        refine lv_iload_n hx hb dX12_words_153 rfl (lv_at hl 3 rfl) ?_
        refine lv_iconst (v := 5) hx hb dX12_words_154 (by decide) ?_
        refine tk_Vi hC hK hw hT hA hE hSR kM_at0 (by decide) rfl (k_X12_walkerOf_7 l adK adV dC dI cy ad B hB0 (Int.le_trans hB1 (by decide)) qr s1   a1 (show 0 ≤ a1.toInt from ra1) (show a1.toInt ≤ 3 from ta1) w333 H.size hT ) (cwV 2 hC.2.2.2.2 uV_RX12_372 rfl rfl rfl (by decide +kernel) ⟨Nat.le_of_ble_eq_true rfl, Nat.le_of_ble_eq_true rfl⟩) rfl hl.1 rfl (Nat.le_of_ble_eq_true rfl) dX12_words_155 (fun r343 w345 H locs hp344 hw => ?_)
        obtain ⟨rfl, hg348⟩ := hp344
        have c347 := hg348
        refine lv_i2l hx hb dX12_words_158 rfl ?_
        refine lv_topl (fun x349 ex349 => ?_)
        have ex349 : x349.toInt = r343.toInt := by rw [ex349]; exact wk_i2l _
        have bx349 := wk_i32 r343
        refine tk_last hC hK hw hT kM_at11 (by decide) rfl (by decide) (by decide) dX12_words_159 (fun H locs w350 hw hT k352 => ?_)
        have hF := hF.put kM_at11 (inE_of (a := 0) (b := 10) (by decide) (by decide) (by decide)) k352
        have c353 := k352.gi (Or.inl (tk_ne kM_at12 kM_at11 (by decide))) c336
        have c354 := k352.gi (Or.inl (tk_ne kM_at0 kM_at11 (by decide))) c337
        have c355 := k352.gi (Or.inl (tk_ne kM_at12 kM_at11 (by decide))) c338
        have c356 := k352.gi (Or.inl (tk_ne kM_at0 kM_at11 (by decide))) c339
        have c357 := k352.gi (Or.inl (tk_ne kM_at14 kM_at11 (by decide))) c340
        have c358 := k352.gi (Or.inl (tk_ne kM_at12 kM_at11 (by decide))) c347
        refine lv_aload_n hx hb dX12_words_160 rfl (lv_at hl 2 rfl) ?_
        refine tk_getA hC hK hw hT hinX12 kM_at0 (by decide) rfl 25 (by decide) (List.mem_cons_of_mem _ uw_7_0) rfl rfl dX12_words_161 ?_
        refine lv_bipush (v := 8) hx hb dX12_words_164 (by decide) ?_
        refine lv_aload_n hx hb dX12_words_166 rfl (lv_at hl 2 rfl) ?_
        refine lv_iload_n hx hb dX12_words_167 rfl (lv_at hl 3 rfl) ?_
        refine lv_bipush (v := 6) hx hb dX12_words_168 (by decide) ?_
        refine tk_Vi hC hK hw hT hA hE hSR kM_at0 (by decide) rfl (k_X12_walkerOf_8 l adK adV dC dI cy ad B hB0 (Int.le_trans hB1 (by decide)) qr s1   a1 (show 0 ≤ a1.toInt from ra1) (show a1.toInt ≤ 3 from ta1) w350 H.size hT ) (cwV 2 hC.2.2.2.2 uV_RX12_372 rfl rfl rfl (by decide +kernel) ⟨Nat.le_of_ble_eq_true rfl, Nat.le_of_ble_eq_true rfl⟩) rfl hl.1 rfl (Nat.le_of_ble_eq_true rfl) dX12_words_170 (fun r359 w361 H locs hp360 hw => ?_)
        obtain ⟨rfl, hg364⟩ := hp360
        have c363 := hg364
        refine lv_i2l hx hb dX12_words_173 rfl ?_
        refine lv_topl (fun x365 ex365 => ?_)
        have ex365 : x365.toInt = r359.toInt := by rw [ex365]; exact wk_i2l _
        have bx365 := wk_i32 r359
        refine tk_last hC hK hw hT kM_at11 (by decide) rfl (by decide) (by decide) dX12_words_174 (fun H locs w366 hw hT k368 => ?_)
        have hF := hF.put kM_at11 (inE_of (a := 0) (b := 10) (by decide) (by decide) (by decide)) k368
        have c369 := k368.gi (Or.inl (tk_ne kM_at12 kM_at11 (by decide))) c353
        have c370 := k368.gi (Or.inl (tk_ne kM_at0 kM_at11 (by decide))) c354
        have c371 := k368.gi (Or.inl (tk_ne kM_at12 kM_at11 (by decide))) c355
        have c372 := k368.gi (Or.inl (tk_ne kM_at0 kM_at11 (by decide))) c356
        have c373 := k368.gi (Or.inl (tk_ne kM_at14 kM_at11 (by decide))) c357
        have c374 := k368.gi (Or.inl (tk_ne kM_at12 kM_at11 (by decide))) c358
        have c375 := k368.gi (Or.inl (tk_ne kM_at12 kM_at11 (by decide))) c363
        refine lv_aload_n hx hb dX12_words_175 rfl (lv_at hl 2 rfl) ?_
        refine tk_getA hC hK hw hT hinX12 kM_at0 (by decide) rfl 25 (by decide) (List.mem_cons_of_mem _ uw_7_0) rfl rfl dX12_words_176 ?_
        refine lv_bipush (v := 9) hx hb dX12_words_179 (by decide) ?_
        refine lv_aload_n hx hb dX12_words_181 rfl (lv_at hl 2 rfl) ?_
        refine lv_iload_n hx hb dX12_words_182 rfl (lv_at hl 3 rfl) ?_
        refine lv_bipush (v := 7) hx hb dX12_words_183 (by decide) ?_
        refine tk_Vi hC hK hw hT hA hE hSR kM_at0 (by decide) rfl (k_X12_walkerOf_9 l adK adV dC dI cy ad B hB0 (Int.le_trans hB1 (by decide)) qr s1   a1 (show 0 ≤ a1.toInt from ra1) (show a1.toInt ≤ 3 from ta1) w366 H.size hT ) (cwV 2 hC.2.2.2.2 uV_RX12_372 rfl rfl rfl (by decide +kernel) ⟨Nat.le_of_ble_eq_true rfl, Nat.le_of_ble_eq_true rfl⟩) rfl hl.1 rfl (Nat.le_of_ble_eq_true rfl) dX12_words_185 (fun r376 w378 H locs hp377 hw => ?_)
        obtain ⟨rfl, hg383⟩ := hp377
        obtain ⟨g380, g381, c382⟩ := hg383
        refine lv_if_ge (tgt := 197) hx hb dX12_words_188 (by decide) (fun c384 => ?_) (fun c384 => ?_)
        · have c384 : (0 : Int) ≤ r376.toInt := wk_le.mp c384
          refine lv_aload_n hx hb dX12_words_197 rfl (lv_at hl 2 rfl) ?_
          refine lv_iload_n hx hb dX12_words_198 rfl (lv_at hl 3 rfl) ?_
          refine lv_bipush (v := 7) hx hb dX12_words_199 (by decide) ?_
          refine tk_Vi hC hK hw hT hA hE hSR kM_at0 (by decide) rfl (k_X12_walkerOf_9 l adK adV dC dI cy ad B hB0 (Int.le_trans hB1 (by decide)) qr s1   a1 (show 0 ≤ a1.toInt from ra1) (show a1.toInt ≤ 3 from ta1) w366 H.size hT ) (cwV 2 hC.2.2.2.2 uV_RX12_372 rfl rfl rfl (by decide +kernel) ⟨Nat.le_of_ble_eq_true rfl, Nat.le_of_ble_eq_true rfl⟩) rfl hl.1 rfl (Nat.le_of_ble_eq_true rfl) dX12_words_201 (fun r385 w387 H locs hp386 hw => ?_)
          obtain ⟨rfl, hg392⟩ := hp386
          obtain ⟨g389, g390, c391⟩ := hg392
          obtain rfl : r376 = r385 := c382.symm.trans c391
          refine lv_i2l hx hb dX12_words_204 rfl ?_
          refine lv_topl (fun x393 ex393 => ?_)
          have ex393 : x393.toInt = r376.toInt := by rw [ex393]; exact wk_i2l _
          have bx393 := wk_i32 r376
          refine tk_last hC hK hw hT kM_at11 (by decide) rfl (by decide) (by decide) dX12_words_205 (fun H locs w394 hw hT k396 => ?_)
          have hF := hF.put kM_at11 (inE_of (a := 0) (b := 10) (by decide) (by decide) (by decide)) k396
          have c397 := k396.gi (Or.inl (tk_ne kM_at12 kM_at11 (by decide))) c369
          have c398 := k396.gi (Or.inl (tk_ne kM_at0 kM_at11 (by decide))) c370
          have c399 := k396.gi (Or.inl (tk_ne kM_at12 kM_at11 (by decide))) c371
          have c400 := k396.gi (Or.inl (tk_ne kM_at0 kM_at11 (by decide))) c372
          have c401 := k396.gi (Or.inl (tk_ne kM_at14 kM_at11 (by decide))) c373
          have c402 := k396.gi (Or.inl (tk_ne kM_at12 kM_at11 (by decide))) c374
          have c403 := k396.gi (Or.inl (tk_ne kM_at12 kM_at11 (by decide))) c375
          have c404 := k396.gi (Or.inl (tk_ne kM_at12 kM_at11 (by decide))) c382
          exact tk_vret hC hr hlocks hK ⟨hT, hF, ⟨x30, c398, (show 0 ≤ x30.toInt from rx30), (show x30.toInt ≤ 1 from tx30)⟩⟩ hw dX12_words_206
        · have c384 : r376.toInt < (0 : Int) := wk_leF c384
          refine lv_ldc2 (v := 99) hx hb hC.2.2.2.1 (hC.2.2.2.2 _ (List.mem_cons_of_mem _ uw_48_1)) dX12_words_191 ?_
          refine lv_goto (tgt := 205) hx hb dX12_words_194 (by decide) ?_
          refine tk_last hC hK hw hT kM_at11 (by decide) rfl (by decide) (by decide) dX12_words_205 (fun H locs w405 hw hT k407 => ?_)
          have hF := hF.put kM_at11 (inE_of (a := 0) (b := 10) (by decide) (by decide) (by decide)) k407
          have c408 := k407.gi (Or.inl (tk_ne kM_at12 kM_at11 (by decide))) c369
          have c409 := k407.gi (Or.inl (tk_ne kM_at0 kM_at11 (by decide))) c370
          have c410 := k407.gi (Or.inl (tk_ne kM_at12 kM_at11 (by decide))) c371
          have c411 := k407.gi (Or.inl (tk_ne kM_at0 kM_at11 (by decide))) c372
          have c412 := k407.gi (Or.inl (tk_ne kM_at14 kM_at11 (by decide))) c373
          have c413 := k407.gi (Or.inl (tk_ne kM_at12 kM_at11 (by decide))) c374
          have c414 := k407.gi (Or.inl (tk_ne kM_at12 kM_at11 (by decide))) c375
          have c415 := k407.gi (Or.inl (tk_ne kM_at12 kM_at11 (by decide))) c382
          exact tk_vret hC hr hlocks hK ⟨hT, hF, ⟨x30, c409, (show 0 ≤ x30.toInt from rx30), (show x30.toInt ≤ 1 from tx30)⟩⟩ hw dX12_words_206
  · have c32 : ¬ x30.toInt = (0 : Int) := wk_eqF c32
    refine lv_lconst (v := 0) hx hb dX12_words_51 (by decide) ?_
    refine lv_goto (tgt := 64) hx hb dX12_words_52 (by decide) ?_
    refine tk_last hC hK hw hT kM_at11 (by decide) rfl (by decide) (by decide) dX12_words_64 (fun H locs w416 hw hT k418 => ?_)
    have hF := hF.put kM_at11 (inE_of (a := 0) (b := 10) (by decide) (by decide) (by decide)) k418
    have c419 := k418.gi (Or.inl (tk_ne kM_at12 kM_at11 (by decide))) c29
    have c420 := k418.gi (Or.inl (tk_ne kM_at0 kM_at11 (by decide))) c31
    refine lv_aload_n hx hb dX12_words_65 rfl (lv_at hl 2 rfl) ?_
    refine tk_getA hC hK hw hT hinX12 kM_at0 (by decide) rfl 25 (by decide) (List.mem_cons_of_mem _ uw_7_0) rfl rfl dX12_words_66 ?_
    refine lv_iconst (v := 3) hx hb dX12_words_69 (by decide) ?_
    refine lv_iload_n hx hb dX12_words_70 rfl (lv_at hl 0 rfl) ?_
    refine lv_i2l hx hb dX12_words_71 rfl ?_
    refine lv_topl (fun x421 ex421 => ?_)
    have ex421 : x421.toInt = r9.toInt := by rw [ex421]; exact wk_i2l _
    have bx421 := wk_i32 r9
    refine tk_last hC hK hw hT kM_at11 (by decide) rfl (by decide) (by decide) dX12_words_72 (fun H locs w422 hw hT k424 => ?_)
    have hF := hF.put kM_at11 (inE_of (a := 0) (b := 10) (by decide) (by decide) (by decide)) k424
    have c425 := k424.gi (Or.inl (tk_ne kM_at12 kM_at11 (by decide))) c419
    have c426 := k424.gi (Or.inl (tk_ne kM_at0 kM_at11 (by decide))) c420
    refine lv_aload_n hx hb dX12_words_73 rfl (lv_at hl 2 rfl) ?_
    refine tk_getA hC hK hw hT hinX12 kM_at0 (by decide) rfl 25 (by decide) (List.mem_cons_of_mem _ uw_7_0) rfl rfl dX12_words_74 ?_
    refine lv_iconst (v := 4) hx hb dX12_words_77 (by decide) ?_
    refine lv_aload_n hx hb dX12_words_78 rfl (lv_at hl 2 rfl) ?_
    refine lv_iload_n hx hb dX12_words_79 rfl (lv_at hl 3 rfl) ?_
    refine lv_iconst (v := 1) hx hb dX12_words_80 (by decide) ?_
    refine tk_Vi hC hK hw hT hA hE hSR kM_at0 (by decide) rfl (k_X12_walkerOf_3 l adK adV dC dI cy ad B hB0 (Int.le_trans hB1 (by decide)) qr s1   a1 (show 0 ≤ a1.toInt from ra1) (show a1.toInt ≤ 3 from ta1) w422 H.size hT ) (cwV 2 hC.2.2.2.2 uV_RX12_372 rfl rfl rfl (by decide +kernel) ⟨Nat.le_of_ble_eq_true rfl, Nat.le_of_ble_eq_true rfl⟩) rfl hl.1 rfl (Nat.le_of_ble_eq_true rfl) dX12_words_81 (fun r427 w429 H locs hp428 hw => ?_)
    obtain ⟨rfl, hg434⟩ := hp428
    obtain ⟨g431, g432, c433⟩ := hg434
    refine lv_i2l hx hb dX12_words_84 rfl ?_
    refine lv_topl (fun x435 ex435 => ?_)
    have ex435 : x435.toInt = r427.toInt := by rw [ex435]; exact wk_i2l _
    have bx435 := wk_i32 r427
    refine tk_last hC hK hw hT kM_at11 (by decide) rfl (by decide) (by decide) dX12_words_85 (fun H locs w436 hw hT k438 => ?_)
    have hF := hF.put kM_at11 (inE_of (a := 0) (b := 10) (by decide) (by decide) (by decide)) k438
    have c439 := k438.gi (Or.inl (tk_ne kM_at12 kM_at11 (by decide))) c425
    have c440 := k438.gi (Or.inl (tk_ne kM_at0 kM_at11 (by decide))) c426
    have c441 := k438.gi (Or.inl (tk_ne kM_at12 kM_at11 (by decide))) c433
    refine lv_aload_n hx hb dX12_words_86 rfl (lv_at hl 2 rfl) ?_
    refine tk_getA hC hK hw hT hinX12 kM_at0 (by decide) rfl 25 (by decide) (List.mem_cons_of_mem _ uw_7_0) rfl rfl dX12_words_87 ?_
    refine lv_iconst (v := 5) hx hb dX12_words_90 (by decide) ?_
    refine lv_aload_n hx hb dX12_words_91 rfl (lv_at hl 2 rfl) ?_
    refine lv_iload_n hx hb dX12_words_92 rfl (lv_at hl 3 rfl) ?_
    refine tk_Vi hC hK hw hT hA hE hSR kM_at0 (by decide) rfl (k_X12_canGo_1 l adK adV dC dI cy ad B hB0 (Int.le_trans hB1 (by decide)) qr s1   a1 (show 0 ≤ a1.toInt from ra1) (show a1.toInt ≤ 3 from ta1) w436 H.size hT ) (cwV 1 hC.2.2.2.2 uV_RX12_387 rfl rfl rfl (by decide +kernel) ⟨Nat.le_of_ble_eq_true rfl, Nat.le_of_ble_eq_true rfl⟩) rfl hl.1 rfl (Nat.le_of_ble_eq_true rfl) dX12_words_93 (fun r442 w444 H locs hp443 hw => ?_)
    obtain ⟨rfl, hg448⟩ := hp443
    rcases hg448 with rfl | ⟨rfl, ⟨x446, c447, rx446, tx446⟩⟩
    · refine lv_if_eq (tgt := 103) hx hb dX12_words_96 (by decide) (fun _ => ?_) (fun c => absurd (by decide) c)
      refine lv_lconst (v := 1) hx hb dX12_words_103 (by decide) ?_
      refine tk_last hC hK hw hT kM_at11 (by decide) rfl (by decide) (by decide) dX12_words_104 (fun H locs w449 hw hT k451 => ?_)
      have hF := hF.put kM_at11 (inE_of (a := 0) (b := 10) (by decide) (by decide) (by decide)) k451
      have c452 := k451.gi (Or.inl (tk_ne kM_at12 kM_at11 (by decide))) c439
      have c453 := k451.gi (Or.inl (tk_ne kM_at0 kM_at11 (by decide))) c440
      have c454 := k451.gi (Or.inl (tk_ne kM_at12 kM_at11 (by decide))) c441
      refine lv_aload_n hx hb dX12_words_105 rfl (lv_at hl 2 rfl) ?_
      refine tk_getA hC hK hw hT hinX12 kM_at0 (by decide) rfl 25 (by decide) (List.mem_cons_of_mem _ uw_7_0) rfl rfl dX12_words_106 ?_
      refine lv_bipush (v := 6) hx hb dX12_words_109 (by decide) ?_
      refine lv_aload_n hx hb dX12_words_111 rfl (lv_at hl 2 rfl) ?_
      refine tk_getA hC hK hw hT hinX12 kM_at0 (by decide) rfl 29 (by decide) (List.mem_cons_of_mem _ uw_7_4) rfl rfl dX12_words_112 ?_
      refine lv_iload_n hx hb dX12_words_115 rfl (lv_at hl 0 rfl) ?_
      refine tk_iald hC hK hw hT kM_at14 rfl rfl (show 0 ≤ r9.toInt by first | with_reducible assumption | omega) (show r9.toInt < 10 by first | with_reducible assumption | omega) dX12_words_116 (fun x455 c456 rx455 tx455 => ?_)
      have c456 : gi w449 14 (r9.toInt).toNat = x455 := (congrArg (gi w449 14) (congrArg Int.toNat (show r9.toInt = r9.toInt from rfl))).trans c456
      refine lv_ldcw (v := 100000000) hx hb hC.2.2.2.1 (hC.2.2.2.2 _ (List.mem_cons_of_mem _ uw_38_2)) dX12_words_117 ?_
      refine lv_icmp_ne (tgt := 127) hx hb dX12_words_120 (by decide) (fun c457 => ?_) (fun c457 => ?_)
      · have c457 : ¬ x455.toInt = (100000000 : Int) := wk_eqF c457
        refine lv_aload_n hx hb dX12_words_127 rfl (lv_at hl 2 rfl) ?_
        refine tk_getA hC hK hw hT hinX12 kM_at0 (by decide) rfl 29 (by decide) (List.mem_cons_of_mem _ uw_7_4) rfl rfl dX12_words_128 ?_
        refine lv_iload_n hx hb dX12_words_131 rfl (lv_at hl 0 rfl) ?_
        refine tk_iald hC hK hw hT kM_at14 rfl rfl (show 0 ≤ r9.toInt by first | with_reducible assumption | omega) (show r9.toInt < 10 by first | with_reducible assumption | omega) dX12_words_132 (fun x458 c459 rx458 tx458 => ?_)
        have c459 : gi w449 14 (r9.toInt).toNat = x458 := (congrArg (gi w449 14) (congrArg Int.toNat (show r9.toInt = r9.toInt from rfl))).trans c459
        refine wk_top x455 (c459.symm.trans c456) ?_
        refine lv_i2l hx hb dX12_words_133 rfl ?_
        refine lv_topl (fun x460 ex460 => ?_)
        have ex460 : x460.toInt = x455.toInt := by rw [ex460]; exact wk_i2l _
        have bx460 := wk_i32 x455
        refine tk_last hC hK hw hT kM_at11 (by decide) rfl (by decide) (by decide) dX12_words_134 (fun H locs w461 hw hT k463 => ?_)
        have hF := hF.put kM_at11 (inE_of (a := 0) (b := 10) (by decide) (by decide) (by decide)) k463
        have c464 := k463.gi (Or.inl (tk_ne kM_at12 kM_at11 (by decide))) c452
        have c465 := k463.gi (Or.inl (tk_ne kM_at0 kM_at11 (by decide))) c453
        have c466 := k463.gi (Or.inl (tk_ne kM_at12 kM_at11 (by decide))) c454
        have c467 := k463.gi (Or.inl (tk_ne kM_at14 kM_at11 (by decide))) c456
        refine lv_aload_n hx hb dX12_words_135 rfl (lv_at hl 2 rfl) ?_
        refine tk_getA hC hK hw hT hinX12 kM_at0 (by decide) rfl 25 (by decide) (List.mem_cons_of_mem _ uw_7_0) rfl rfl dX12_words_136 ?_
        refine lv_bipush (v := 7) hx hb dX12_words_139 (by decide) ?_
        refine lv_aload_n hx hb dX12_words_141 rfl (lv_at hl 2 rfl) ?_
        refine tk_geti hC hK hw hT hinX12 kM_at0 (by decide) rfl 30 (by decide) (List.mem_cons_of_mem _ uw_47_4) rfl rfl dX12_words_142 (fun x468 c469 rx468 tx468 => ?_)
        refine wk_top x30 (c469.symm.trans c465) ?_
        refine lv_if_eq (tgt := 152) hx hb dX12_words_145 (by decide) (fun c => absurd c (fun h => absurd (show x30.toInt = (0 : Int) from wk_eq.mp h) (by omega))) (fun _ => ?_)
        refine lv_lconst (v := 0) hx hb dX12_words_148 (by decide) ?_
        refine lv_goto (tgt := 159) hx hb dX12_words_149 (by decide) ?_
        refine tk_last hC hK hw hT kM_at11 (by decide) rfl (by decide) (by decide) dX12_words_159 (fun H locs w470 hw hT k472 => ?_)
        have hF := hF.put kM_at11 (inE_of (a := 0) (b := 10) (by decide) (by decide) (by decide)) k472
        have c473 := k472.gi (Or.inl (tk_ne kM_at12 kM_at11 (by decide))) c464
        have c474 := k472.gi (Or.inl (tk_ne kM_at0 kM_at11 (by decide))) c465
        have c475 := k472.gi (Or.inl (tk_ne kM_at12 kM_at11 (by decide))) c466
        have c476 := k472.gi (Or.inl (tk_ne kM_at14 kM_at11 (by decide))) c467
        refine lv_aload_n hx hb dX12_words_160 rfl (lv_at hl 2 rfl) ?_
        refine tk_getA hC hK hw hT hinX12 kM_at0 (by decide) rfl 25 (by decide) (List.mem_cons_of_mem _ uw_7_0) rfl rfl dX12_words_161 ?_
        refine lv_bipush (v := 8) hx hb dX12_words_164 (by decide) ?_
        refine lv_aload_n hx hb dX12_words_166 rfl (lv_at hl 2 rfl) ?_
        refine lv_iload_n hx hb dX12_words_167 rfl (lv_at hl 3 rfl) ?_
        refine lv_bipush (v := 6) hx hb dX12_words_168 (by decide) ?_
        refine tk_Vi hC hK hw hT hA hE hSR kM_at0 (by decide) rfl (k_X12_walkerOf_8 l adK adV dC dI cy ad B hB0 (Int.le_trans hB1 (by decide)) qr s1   a1 (show 0 ≤ a1.toInt from ra1) (show a1.toInt ≤ 3 from ta1) w470 H.size hT ) (cwV 2 hC.2.2.2.2 uV_RX12_372 rfl rfl rfl (by decide +kernel) ⟨Nat.le_of_ble_eq_true rfl, Nat.le_of_ble_eq_true rfl⟩) rfl hl.1 rfl (Nat.le_of_ble_eq_true rfl) dX12_words_170 (fun r477 w479 H locs hp478 hw => ?_)
        obtain ⟨rfl, hg482⟩ := hp478
        have c481 := hg482
        refine lv_i2l hx hb dX12_words_173 rfl ?_
        refine lv_topl (fun x483 ex483 => ?_)
        have ex483 : x483.toInt = r477.toInt := by rw [ex483]; exact wk_i2l _
        have bx483 := wk_i32 r477
        refine tk_last hC hK hw hT kM_at11 (by decide) rfl (by decide) (by decide) dX12_words_174 (fun H locs w484 hw hT k486 => ?_)
        have hF := hF.put kM_at11 (inE_of (a := 0) (b := 10) (by decide) (by decide) (by decide)) k486
        have c487 := k486.gi (Or.inl (tk_ne kM_at12 kM_at11 (by decide))) c473
        have c488 := k486.gi (Or.inl (tk_ne kM_at0 kM_at11 (by decide))) c474
        have c489 := k486.gi (Or.inl (tk_ne kM_at12 kM_at11 (by decide))) c475
        have c490 := k486.gi (Or.inl (tk_ne kM_at14 kM_at11 (by decide))) c476
        have c491 := k486.gi (Or.inl (tk_ne kM_at12 kM_at11 (by decide))) c481
        refine lv_aload_n hx hb dX12_words_175 rfl (lv_at hl 2 rfl) ?_
        refine tk_getA hC hK hw hT hinX12 kM_at0 (by decide) rfl 25 (by decide) (List.mem_cons_of_mem _ uw_7_0) rfl rfl dX12_words_176 ?_
        refine lv_bipush (v := 9) hx hb dX12_words_179 (by decide) ?_
        refine lv_aload_n hx hb dX12_words_181 rfl (lv_at hl 2 rfl) ?_
        refine lv_iload_n hx hb dX12_words_182 rfl (lv_at hl 3 rfl) ?_
        refine lv_bipush (v := 7) hx hb dX12_words_183 (by decide) ?_
        refine tk_Vi hC hK hw hT hA hE hSR kM_at0 (by decide) rfl (k_X12_walkerOf_9 l adK adV dC dI cy ad B hB0 (Int.le_trans hB1 (by decide)) qr s1   a1 (show 0 ≤ a1.toInt from ra1) (show a1.toInt ≤ 3 from ta1) w484 H.size hT ) (cwV 2 hC.2.2.2.2 uV_RX12_372 rfl rfl rfl (by decide +kernel) ⟨Nat.le_of_ble_eq_true rfl, Nat.le_of_ble_eq_true rfl⟩) rfl hl.1 rfl (Nat.le_of_ble_eq_true rfl) dX12_words_185 (fun r492 w494 H locs hp493 hw => ?_)
        obtain ⟨rfl, hg499⟩ := hp493
        obtain ⟨g496, g497, c498⟩ := hg499
        refine lv_if_ge (tgt := 197) hx hb dX12_words_188 (by decide) (fun c500 => ?_) (fun c500 => ?_)
        · have c500 : (0 : Int) ≤ r492.toInt := wk_le.mp c500
          refine lv_aload_n hx hb dX12_words_197 rfl (lv_at hl 2 rfl) ?_
          refine lv_iload_n hx hb dX12_words_198 rfl (lv_at hl 3 rfl) ?_
          refine lv_bipush (v := 7) hx hb dX12_words_199 (by decide) ?_
          refine tk_Vi hC hK hw hT hA hE hSR kM_at0 (by decide) rfl (k_X12_walkerOf_9 l adK adV dC dI cy ad B hB0 (Int.le_trans hB1 (by decide)) qr s1   a1 (show 0 ≤ a1.toInt from ra1) (show a1.toInt ≤ 3 from ta1) w484 H.size hT ) (cwV 2 hC.2.2.2.2 uV_RX12_372 rfl rfl rfl (by decide +kernel) ⟨Nat.le_of_ble_eq_true rfl, Nat.le_of_ble_eq_true rfl⟩) rfl hl.1 rfl (Nat.le_of_ble_eq_true rfl) dX12_words_201 (fun r501 w503 H locs hp502 hw => ?_)
          obtain ⟨rfl, hg508⟩ := hp502
          obtain ⟨g505, g506, c507⟩ := hg508
          obtain rfl : r492 = r501 := c498.symm.trans c507
          refine lv_i2l hx hb dX12_words_204 rfl ?_
          refine lv_topl (fun x509 ex509 => ?_)
          have ex509 : x509.toInt = r492.toInt := by rw [ex509]; exact wk_i2l _
          have bx509 := wk_i32 r492
          refine tk_last hC hK hw hT kM_at11 (by decide) rfl (by decide) (by decide) dX12_words_205 (fun H locs w510 hw hT k512 => ?_)
          have hF := hF.put kM_at11 (inE_of (a := 0) (b := 10) (by decide) (by decide) (by decide)) k512
          have c513 := k512.gi (Or.inl (tk_ne kM_at12 kM_at11 (by decide))) c487
          have c514 := k512.gi (Or.inl (tk_ne kM_at0 kM_at11 (by decide))) c488
          have c515 := k512.gi (Or.inl (tk_ne kM_at12 kM_at11 (by decide))) c489
          have c516 := k512.gi (Or.inl (tk_ne kM_at14 kM_at11 (by decide))) c490
          have c517 := k512.gi (Or.inl (tk_ne kM_at12 kM_at11 (by decide))) c491
          have c518 := k512.gi (Or.inl (tk_ne kM_at12 kM_at11 (by decide))) c498
          exact tk_vret hC hr hlocks hK ⟨hT, hF, ⟨x30, c514, (show 0 ≤ x30.toInt from rx30), (show x30.toInt ≤ 1 from tx30)⟩⟩ hw dX12_words_206
        · have c500 : r492.toInt < (0 : Int) := wk_leF c500
          refine lv_ldc2 (v := 99) hx hb hC.2.2.2.1 (hC.2.2.2.2 _ (List.mem_cons_of_mem _ uw_48_1)) dX12_words_191 ?_
          refine lv_goto (tgt := 205) hx hb dX12_words_194 (by decide) ?_
          refine tk_last hC hK hw hT kM_at11 (by decide) rfl (by decide) (by decide) dX12_words_205 (fun H locs w519 hw hT k521 => ?_)
          have hF := hF.put kM_at11 (inE_of (a := 0) (b := 10) (by decide) (by decide) (by decide)) k521
          have c522 := k521.gi (Or.inl (tk_ne kM_at12 kM_at11 (by decide))) c487
          have c523 := k521.gi (Or.inl (tk_ne kM_at0 kM_at11 (by decide))) c488
          have c524 := k521.gi (Or.inl (tk_ne kM_at12 kM_at11 (by decide))) c489
          have c525 := k521.gi (Or.inl (tk_ne kM_at14 kM_at11 (by decide))) c490
          have c526 := k521.gi (Or.inl (tk_ne kM_at12 kM_at11 (by decide))) c491
          have c527 := k521.gi (Or.inl (tk_ne kM_at12 kM_at11 (by decide))) c498
          exact tk_vret hC hr hlocks hK ⟨hT, hF, ⟨x30, c523, (show 0 ≤ x30.toInt from rx30), (show x30.toInt ≤ 1 from tx30)⟩⟩ hw dX12_words_206
      · have c457 : x455.toInt = (100000000 : Int) := wk_eq.mp c457
        refine lv_lconst (v := 0) hx hb dX12_words_123 (by decide) ?_
        refine lv_goto (tgt := 134) hx hb dX12_words_124 (by decide) ?_
        refine tk_last hC hK hw hT kM_at11 (by decide) rfl (by decide) (by decide) dX12_words_134 (fun H locs w528 hw hT k530 => ?_)
        have hF := hF.put kM_at11 (inE_of (a := 0) (b := 10) (by decide) (by decide) (by decide)) k530
        have c531 := k530.gi (Or.inl (tk_ne kM_at12 kM_at11 (by decide))) c452
        have c532 := k530.gi (Or.inl (tk_ne kM_at0 kM_at11 (by decide))) c453
        have c533 := k530.gi (Or.inl (tk_ne kM_at12 kM_at11 (by decide))) c454
        have c534 := k530.gi (Or.inl (tk_ne kM_at14 kM_at11 (by decide))) c456
        refine lv_aload_n hx hb dX12_words_135 rfl (lv_at hl 2 rfl) ?_
        refine tk_getA hC hK hw hT hinX12 kM_at0 (by decide) rfl 25 (by decide) (List.mem_cons_of_mem _ uw_7_0) rfl rfl dX12_words_136 ?_
        refine lv_bipush (v := 7) hx hb dX12_words_139 (by decide) ?_
        refine lv_aload_n hx hb dX12_words_141 rfl (lv_at hl 2 rfl) ?_
        refine tk_geti hC hK hw hT hinX12 kM_at0 (by decide) rfl 30 (by decide) (List.mem_cons_of_mem _ uw_47_4) rfl rfl dX12_words_142 (fun x535 c536 rx535 tx535 => ?_)
        refine wk_top x30 (c536.symm.trans c532) ?_
        refine lv_if_eq (tgt := 152) hx hb dX12_words_145 (by decide) (fun c => absurd c (fun h => absurd (show x30.toInt = (0 : Int) from wk_eq.mp h) (by omega))) (fun _ => ?_)
        refine lv_lconst (v := 0) hx hb dX12_words_148 (by decide) ?_
        refine lv_goto (tgt := 159) hx hb dX12_words_149 (by decide) ?_
        refine tk_last hC hK hw hT kM_at11 (by decide) rfl (by decide) (by decide) dX12_words_159 (fun H locs w537 hw hT k539 => ?_)
        have hF := hF.put kM_at11 (inE_of (a := 0) (b := 10) (by decide) (by decide) (by decide)) k539
        have c540 := k539.gi (Or.inl (tk_ne kM_at12 kM_at11 (by decide))) c531
        have c541 := k539.gi (Or.inl (tk_ne kM_at0 kM_at11 (by decide))) c532
        have c542 := k539.gi (Or.inl (tk_ne kM_at12 kM_at11 (by decide))) c533
        have c543 := k539.gi (Or.inl (tk_ne kM_at14 kM_at11 (by decide))) c534
        refine lv_aload_n hx hb dX12_words_160 rfl (lv_at hl 2 rfl) ?_
        refine tk_getA hC hK hw hT hinX12 kM_at0 (by decide) rfl 25 (by decide) (List.mem_cons_of_mem _ uw_7_0) rfl rfl dX12_words_161 ?_
        refine lv_bipush (v := 8) hx hb dX12_words_164 (by decide) ?_
        refine lv_aload_n hx hb dX12_words_166 rfl (lv_at hl 2 rfl) ?_
        refine lv_iload_n hx hb dX12_words_167 rfl (lv_at hl 3 rfl) ?_
        refine lv_bipush (v := 6) hx hb dX12_words_168 (by decide) ?_
        refine tk_Vi hC hK hw hT hA hE hSR kM_at0 (by decide) rfl (k_X12_walkerOf_8 l adK adV dC dI cy ad B hB0 (Int.le_trans hB1 (by decide)) qr s1   a1 (show 0 ≤ a1.toInt from ra1) (show a1.toInt ≤ 3 from ta1) w537 H.size hT ) (cwV 2 hC.2.2.2.2 uV_RX12_372 rfl rfl rfl (by decide +kernel) ⟨Nat.le_of_ble_eq_true rfl, Nat.le_of_ble_eq_true rfl⟩) rfl hl.1 rfl (Nat.le_of_ble_eq_true rfl) dX12_words_170 (fun r544 w546 H locs hp545 hw => ?_)
        obtain ⟨rfl, hg549⟩ := hp545
        have c548 := hg549
        refine lv_i2l hx hb dX12_words_173 rfl ?_
        refine lv_topl (fun x550 ex550 => ?_)
        have ex550 : x550.toInt = r544.toInt := by rw [ex550]; exact wk_i2l _
        have bx550 := wk_i32 r544
        refine tk_last hC hK hw hT kM_at11 (by decide) rfl (by decide) (by decide) dX12_words_174 (fun H locs w551 hw hT k553 => ?_)
        have hF := hF.put kM_at11 (inE_of (a := 0) (b := 10) (by decide) (by decide) (by decide)) k553
        have c554 := k553.gi (Or.inl (tk_ne kM_at12 kM_at11 (by decide))) c540
        have c555 := k553.gi (Or.inl (tk_ne kM_at0 kM_at11 (by decide))) c541
        have c556 := k553.gi (Or.inl (tk_ne kM_at12 kM_at11 (by decide))) c542
        have c557 := k553.gi (Or.inl (tk_ne kM_at14 kM_at11 (by decide))) c543
        have c558 := k553.gi (Or.inl (tk_ne kM_at12 kM_at11 (by decide))) c548
        refine lv_aload_n hx hb dX12_words_175 rfl (lv_at hl 2 rfl) ?_
        refine tk_getA hC hK hw hT hinX12 kM_at0 (by decide) rfl 25 (by decide) (List.mem_cons_of_mem _ uw_7_0) rfl rfl dX12_words_176 ?_
        refine lv_bipush (v := 9) hx hb dX12_words_179 (by decide) ?_
        refine lv_aload_n hx hb dX12_words_181 rfl (lv_at hl 2 rfl) ?_
        refine lv_iload_n hx hb dX12_words_182 rfl (lv_at hl 3 rfl) ?_
        refine lv_bipush (v := 7) hx hb dX12_words_183 (by decide) ?_
        refine tk_Vi hC hK hw hT hA hE hSR kM_at0 (by decide) rfl (k_X12_walkerOf_9 l adK adV dC dI cy ad B hB0 (Int.le_trans hB1 (by decide)) qr s1   a1 (show 0 ≤ a1.toInt from ra1) (show a1.toInt ≤ 3 from ta1) w551 H.size hT ) (cwV 2 hC.2.2.2.2 uV_RX12_372 rfl rfl rfl (by decide +kernel) ⟨Nat.le_of_ble_eq_true rfl, Nat.le_of_ble_eq_true rfl⟩) rfl hl.1 rfl (Nat.le_of_ble_eq_true rfl) dX12_words_185 (fun r559 w561 H locs hp560 hw => ?_)
        obtain ⟨rfl, hg566⟩ := hp560
        obtain ⟨g563, g564, c565⟩ := hg566
        refine lv_if_ge (tgt := 197) hx hb dX12_words_188 (by decide) (fun c567 => ?_) (fun c567 => ?_)
        · have c567 : (0 : Int) ≤ r559.toInt := wk_le.mp c567
          refine lv_aload_n hx hb dX12_words_197 rfl (lv_at hl 2 rfl) ?_
          refine lv_iload_n hx hb dX12_words_198 rfl (lv_at hl 3 rfl) ?_
          refine lv_bipush (v := 7) hx hb dX12_words_199 (by decide) ?_
          refine tk_Vi hC hK hw hT hA hE hSR kM_at0 (by decide) rfl (k_X12_walkerOf_9 l adK adV dC dI cy ad B hB0 (Int.le_trans hB1 (by decide)) qr s1   a1 (show 0 ≤ a1.toInt from ra1) (show a1.toInt ≤ 3 from ta1) w551 H.size hT ) (cwV 2 hC.2.2.2.2 uV_RX12_372 rfl rfl rfl (by decide +kernel) ⟨Nat.le_of_ble_eq_true rfl, Nat.le_of_ble_eq_true rfl⟩) rfl hl.1 rfl (Nat.le_of_ble_eq_true rfl) dX12_words_201 (fun r568 w570 H locs hp569 hw => ?_)
          obtain ⟨rfl, hg575⟩ := hp569
          obtain ⟨g572, g573, c574⟩ := hg575
          obtain rfl : r559 = r568 := c565.symm.trans c574
          refine lv_i2l hx hb dX12_words_204 rfl ?_
          refine lv_topl (fun x576 ex576 => ?_)
          have ex576 : x576.toInt = r559.toInt := by rw [ex576]; exact wk_i2l _
          have bx576 := wk_i32 r559
          refine tk_last hC hK hw hT kM_at11 (by decide) rfl (by decide) (by decide) dX12_words_205 (fun H locs w577 hw hT k579 => ?_)
          have hF := hF.put kM_at11 (inE_of (a := 0) (b := 10) (by decide) (by decide) (by decide)) k579
          have c580 := k579.gi (Or.inl (tk_ne kM_at12 kM_at11 (by decide))) c554
          have c581 := k579.gi (Or.inl (tk_ne kM_at0 kM_at11 (by decide))) c555
          have c582 := k579.gi (Or.inl (tk_ne kM_at12 kM_at11 (by decide))) c556
          have c583 := k579.gi (Or.inl (tk_ne kM_at14 kM_at11 (by decide))) c557
          have c584 := k579.gi (Or.inl (tk_ne kM_at12 kM_at11 (by decide))) c558
          have c585 := k579.gi (Or.inl (tk_ne kM_at12 kM_at11 (by decide))) c565
          exact tk_vret hC hr hlocks hK ⟨hT, hF, ⟨x30, c581, (show 0 ≤ x30.toInt from rx30), (show x30.toInt ≤ 1 from tx30)⟩⟩ hw dX12_words_206
        · have c567 : r559.toInt < (0 : Int) := wk_leF c567
          refine lv_ldc2 (v := 99) hx hb hC.2.2.2.1 (hC.2.2.2.2 _ (List.mem_cons_of_mem _ uw_48_1)) dX12_words_191 ?_
          refine lv_goto (tgt := 205) hx hb dX12_words_194 (by decide) ?_
          refine tk_last hC hK hw hT kM_at11 (by decide) rfl (by decide) (by decide) dX12_words_205 (fun H locs w586 hw hT k588 => ?_)
          have hF := hF.put kM_at11 (inE_of (a := 0) (b := 10) (by decide) (by decide) (by decide)) k588
          have c589 := k588.gi (Or.inl (tk_ne kM_at12 kM_at11 (by decide))) c554
          have c590 := k588.gi (Or.inl (tk_ne kM_at0 kM_at11 (by decide))) c555
          have c591 := k588.gi (Or.inl (tk_ne kM_at12 kM_at11 (by decide))) c556
          have c592 := k588.gi (Or.inl (tk_ne kM_at14 kM_at11 (by decide))) c557
          have c593 := k588.gi (Or.inl (tk_ne kM_at12 kM_at11 (by decide))) c558
          have c594 := k588.gi (Or.inl (tk_ne kM_at12 kM_at11 (by decide))) c565
          exact tk_vret hC hr hlocks hK ⟨hT, hF, ⟨x30, c590, (show 0 ≤ x30.toInt from rx30), (show x30.toInt ≤ 1 from tx30)⟩⟩ hw dX12_words_206
    · refine lv_if_eq (tgt := 103) hx hb dX12_words_96 (by decide) (fun c => absurd c (by decide)) (fun _ => ?_)
      refine lv_lconst (v := 0) hx hb dX12_words_99 (by decide) ?_
      refine lv_goto (tgt := 104) hx hb dX12_words_100 (by decide) ?_
      refine tk_last hC hK hw hT kM_at11 (by decide) rfl (by decide) (by decide) dX12_words_104 (fun H locs w595 hw hT k597 => ?_)
      have hF := hF.put kM_at11 (inE_of (a := 0) (b := 10) (by decide) (by decide) (by decide)) k597
      have c598 := k597.gi (Or.inl (tk_ne kM_at12 kM_at11 (by decide))) c439
      have c599 := k597.gi (Or.inl (tk_ne kM_at0 kM_at11 (by decide))) c440
      have c600 := k597.gi (Or.inl (tk_ne kM_at12 kM_at11 (by decide))) c441
      have c601 := k597.gi (Or.inl (tk_ne kM_at0 kM_at11 (by decide))) c447
      refine lv_aload_n hx hb dX12_words_105 rfl (lv_at hl 2 rfl) ?_
      refine tk_getA hC hK hw hT hinX12 kM_at0 (by decide) rfl 25 (by decide) (List.mem_cons_of_mem _ uw_7_0) rfl rfl dX12_words_106 ?_
      refine lv_bipush (v := 6) hx hb dX12_words_109 (by decide) ?_
      refine lv_aload_n hx hb dX12_words_111 rfl (lv_at hl 2 rfl) ?_
      refine tk_getA hC hK hw hT hinX12 kM_at0 (by decide) rfl 29 (by decide) (List.mem_cons_of_mem _ uw_7_4) rfl rfl dX12_words_112 ?_
      refine lv_iload_n hx hb dX12_words_115 rfl (lv_at hl 0 rfl) ?_
      refine tk_iald hC hK hw hT kM_at14 rfl rfl (show 0 ≤ r9.toInt by first | with_reducible assumption | omega) (show r9.toInt < 10 by first | with_reducible assumption | omega) dX12_words_116 (fun x602 c603 rx602 tx602 => ?_)
      have c603 : gi w595 14 (r9.toInt).toNat = x602 := (congrArg (gi w595 14) (congrArg Int.toNat (show r9.toInt = r9.toInt from rfl))).trans c603
      refine lv_ldcw (v := 100000000) hx hb hC.2.2.2.1 (hC.2.2.2.2 _ (List.mem_cons_of_mem _ uw_38_2)) dX12_words_117 ?_
      refine lv_icmp_ne (tgt := 127) hx hb dX12_words_120 (by decide) (fun c604 => ?_) (fun c604 => ?_)
      · have c604 : ¬ x602.toInt = (100000000 : Int) := wk_eqF c604
        refine lv_aload_n hx hb dX12_words_127 rfl (lv_at hl 2 rfl) ?_
        refine tk_getA hC hK hw hT hinX12 kM_at0 (by decide) rfl 29 (by decide) (List.mem_cons_of_mem _ uw_7_4) rfl rfl dX12_words_128 ?_
        refine lv_iload_n hx hb dX12_words_131 rfl (lv_at hl 0 rfl) ?_
        refine tk_iald hC hK hw hT kM_at14 rfl rfl (show 0 ≤ r9.toInt by first | with_reducible assumption | omega) (show r9.toInt < 10 by first | with_reducible assumption | omega) dX12_words_132 (fun x605 c606 rx605 tx605 => ?_)
        have c606 : gi w595 14 (r9.toInt).toNat = x605 := (congrArg (gi w595 14) (congrArg Int.toNat (show r9.toInt = r9.toInt from rfl))).trans c606
        refine wk_top x602 (c606.symm.trans c603) ?_
        refine lv_i2l hx hb dX12_words_133 rfl ?_
        refine lv_topl (fun x607 ex607 => ?_)
        have ex607 : x607.toInt = x602.toInt := by rw [ex607]; exact wk_i2l _
        have bx607 := wk_i32 x602
        refine tk_last hC hK hw hT kM_at11 (by decide) rfl (by decide) (by decide) dX12_words_134 (fun H locs w608 hw hT k610 => ?_)
        have hF := hF.put kM_at11 (inE_of (a := 0) (b := 10) (by decide) (by decide) (by decide)) k610
        have c611 := k610.gi (Or.inl (tk_ne kM_at12 kM_at11 (by decide))) c598
        have c612 := k610.gi (Or.inl (tk_ne kM_at0 kM_at11 (by decide))) c599
        have c613 := k610.gi (Or.inl (tk_ne kM_at12 kM_at11 (by decide))) c600
        have c614 := k610.gi (Or.inl (tk_ne kM_at0 kM_at11 (by decide))) c601
        have c615 := k610.gi (Or.inl (tk_ne kM_at14 kM_at11 (by decide))) c603
        refine lv_aload_n hx hb dX12_words_135 rfl (lv_at hl 2 rfl) ?_
        refine tk_getA hC hK hw hT hinX12 kM_at0 (by decide) rfl 25 (by decide) (List.mem_cons_of_mem _ uw_7_0) rfl rfl dX12_words_136 ?_
        refine lv_bipush (v := 7) hx hb dX12_words_139 (by decide) ?_
        refine lv_aload_n hx hb dX12_words_141 rfl (lv_at hl 2 rfl) ?_
        refine tk_geti hC hK hw hT hinX12 kM_at0 (by decide) rfl 30 (by decide) (List.mem_cons_of_mem _ uw_47_4) rfl rfl dX12_words_142 (fun x616 c617 rx616 tx616 => ?_)
        refine wk_top x30 (c617.symm.trans c612) ?_
        refine lv_if_eq (tgt := 152) hx hb dX12_words_145 (by decide) (fun c => absurd c (fun h => absurd (show x30.toInt = (0 : Int) from wk_eq.mp h) (by omega))) (fun _ => ?_)
        refine lv_lconst (v := 0) hx hb dX12_words_148 (by decide) ?_
        refine lv_goto (tgt := 159) hx hb dX12_words_149 (by decide) ?_
        refine tk_last hC hK hw hT kM_at11 (by decide) rfl (by decide) (by decide) dX12_words_159 (fun H locs w618 hw hT k620 => ?_)
        have hF := hF.put kM_at11 (inE_of (a := 0) (b := 10) (by decide) (by decide) (by decide)) k620
        have c621 := k620.gi (Or.inl (tk_ne kM_at12 kM_at11 (by decide))) c611
        have c622 := k620.gi (Or.inl (tk_ne kM_at0 kM_at11 (by decide))) c612
        have c623 := k620.gi (Or.inl (tk_ne kM_at12 kM_at11 (by decide))) c613
        have c624 := k620.gi (Or.inl (tk_ne kM_at0 kM_at11 (by decide))) c614
        have c625 := k620.gi (Or.inl (tk_ne kM_at14 kM_at11 (by decide))) c615
        refine lv_aload_n hx hb dX12_words_160 rfl (lv_at hl 2 rfl) ?_
        refine tk_getA hC hK hw hT hinX12 kM_at0 (by decide) rfl 25 (by decide) (List.mem_cons_of_mem _ uw_7_0) rfl rfl dX12_words_161 ?_
        refine lv_bipush (v := 8) hx hb dX12_words_164 (by decide) ?_
        refine lv_aload_n hx hb dX12_words_166 rfl (lv_at hl 2 rfl) ?_
        refine lv_iload_n hx hb dX12_words_167 rfl (lv_at hl 3 rfl) ?_
        refine lv_bipush (v := 6) hx hb dX12_words_168 (by decide) ?_
        refine tk_Vi hC hK hw hT hA hE hSR kM_at0 (by decide) rfl (k_X12_walkerOf_8 l adK adV dC dI cy ad B hB0 (Int.le_trans hB1 (by decide)) qr s1   a1 (show 0 ≤ a1.toInt from ra1) (show a1.toInt ≤ 3 from ta1) w618 H.size hT ) (cwV 2 hC.2.2.2.2 uV_RX12_372 rfl rfl rfl (by decide +kernel) ⟨Nat.le_of_ble_eq_true rfl, Nat.le_of_ble_eq_true rfl⟩) rfl hl.1 rfl (Nat.le_of_ble_eq_true rfl) dX12_words_170 (fun r626 w628 H locs hp627 hw => ?_)
        obtain ⟨rfl, hg631⟩ := hp627
        have c630 := hg631
        refine lv_i2l hx hb dX12_words_173 rfl ?_
        refine lv_topl (fun x632 ex632 => ?_)
        have ex632 : x632.toInt = r626.toInt := by rw [ex632]; exact wk_i2l _
        have bx632 := wk_i32 r626
        refine tk_last hC hK hw hT kM_at11 (by decide) rfl (by decide) (by decide) dX12_words_174 (fun H locs w633 hw hT k635 => ?_)
        have hF := hF.put kM_at11 (inE_of (a := 0) (b := 10) (by decide) (by decide) (by decide)) k635
        have c636 := k635.gi (Or.inl (tk_ne kM_at12 kM_at11 (by decide))) c621
        have c637 := k635.gi (Or.inl (tk_ne kM_at0 kM_at11 (by decide))) c622
        have c638 := k635.gi (Or.inl (tk_ne kM_at12 kM_at11 (by decide))) c623
        have c639 := k635.gi (Or.inl (tk_ne kM_at0 kM_at11 (by decide))) c624
        have c640 := k635.gi (Or.inl (tk_ne kM_at14 kM_at11 (by decide))) c625
        have c641 := k635.gi (Or.inl (tk_ne kM_at12 kM_at11 (by decide))) c630
        refine lv_aload_n hx hb dX12_words_175 rfl (lv_at hl 2 rfl) ?_
        refine tk_getA hC hK hw hT hinX12 kM_at0 (by decide) rfl 25 (by decide) (List.mem_cons_of_mem _ uw_7_0) rfl rfl dX12_words_176 ?_
        refine lv_bipush (v := 9) hx hb dX12_words_179 (by decide) ?_
        refine lv_aload_n hx hb dX12_words_181 rfl (lv_at hl 2 rfl) ?_
        refine lv_iload_n hx hb dX12_words_182 rfl (lv_at hl 3 rfl) ?_
        refine lv_bipush (v := 7) hx hb dX12_words_183 (by decide) ?_
        refine tk_Vi hC hK hw hT hA hE hSR kM_at0 (by decide) rfl (k_X12_walkerOf_9 l adK adV dC dI cy ad B hB0 (Int.le_trans hB1 (by decide)) qr s1   a1 (show 0 ≤ a1.toInt from ra1) (show a1.toInt ≤ 3 from ta1) w633 H.size hT ) (cwV 2 hC.2.2.2.2 uV_RX12_372 rfl rfl rfl (by decide +kernel) ⟨Nat.le_of_ble_eq_true rfl, Nat.le_of_ble_eq_true rfl⟩) rfl hl.1 rfl (Nat.le_of_ble_eq_true rfl) dX12_words_185 (fun r642 w644 H locs hp643 hw => ?_)
        obtain ⟨rfl, hg649⟩ := hp643
        obtain ⟨g646, g647, c648⟩ := hg649
        refine lv_if_ge (tgt := 197) hx hb dX12_words_188 (by decide) (fun c650 => ?_) (fun c650 => ?_)
        · have c650 : (0 : Int) ≤ r642.toInt := wk_le.mp c650
          refine lv_aload_n hx hb dX12_words_197 rfl (lv_at hl 2 rfl) ?_
          refine lv_iload_n hx hb dX12_words_198 rfl (lv_at hl 3 rfl) ?_
          refine lv_bipush (v := 7) hx hb dX12_words_199 (by decide) ?_
          refine tk_Vi hC hK hw hT hA hE hSR kM_at0 (by decide) rfl (k_X12_walkerOf_9 l adK adV dC dI cy ad B hB0 (Int.le_trans hB1 (by decide)) qr s1   a1 (show 0 ≤ a1.toInt from ra1) (show a1.toInt ≤ 3 from ta1) w633 H.size hT ) (cwV 2 hC.2.2.2.2 uV_RX12_372 rfl rfl rfl (by decide +kernel) ⟨Nat.le_of_ble_eq_true rfl, Nat.le_of_ble_eq_true rfl⟩) rfl hl.1 rfl (Nat.le_of_ble_eq_true rfl) dX12_words_201 (fun r651 w653 H locs hp652 hw => ?_)
          obtain ⟨rfl, hg658⟩ := hp652
          obtain ⟨g655, g656, c657⟩ := hg658
          obtain rfl : r642 = r651 := c648.symm.trans c657
          refine lv_i2l hx hb dX12_words_204 rfl ?_
          refine lv_topl (fun x659 ex659 => ?_)
          have ex659 : x659.toInt = r642.toInt := by rw [ex659]; exact wk_i2l _
          have bx659 := wk_i32 r642
          refine tk_last hC hK hw hT kM_at11 (by decide) rfl (by decide) (by decide) dX12_words_205 (fun H locs w660 hw hT k662 => ?_)
          have hF := hF.put kM_at11 (inE_of (a := 0) (b := 10) (by decide) (by decide) (by decide)) k662
          have c663 := k662.gi (Or.inl (tk_ne kM_at12 kM_at11 (by decide))) c636
          have c664 := k662.gi (Or.inl (tk_ne kM_at0 kM_at11 (by decide))) c637
          have c665 := k662.gi (Or.inl (tk_ne kM_at12 kM_at11 (by decide))) c638
          have c666 := k662.gi (Or.inl (tk_ne kM_at0 kM_at11 (by decide))) c639
          have c667 := k662.gi (Or.inl (tk_ne kM_at14 kM_at11 (by decide))) c640
          have c668 := k662.gi (Or.inl (tk_ne kM_at12 kM_at11 (by decide))) c641
          have c669 := k662.gi (Or.inl (tk_ne kM_at12 kM_at11 (by decide))) c648
          exact tk_vret hC hr hlocks hK ⟨hT, hF, ⟨x30, c664, (show 0 ≤ x30.toInt from rx30), (show x30.toInt ≤ 1 from tx30)⟩⟩ hw dX12_words_206
        · have c650 : r642.toInt < (0 : Int) := wk_leF c650
          refine lv_ldc2 (v := 99) hx hb hC.2.2.2.1 (hC.2.2.2.2 _ (List.mem_cons_of_mem _ uw_48_1)) dX12_words_191 ?_
          refine lv_goto (tgt := 205) hx hb dX12_words_194 (by decide) ?_
          refine tk_last hC hK hw hT kM_at11 (by decide) rfl (by decide) (by decide) dX12_words_205 (fun H locs w670 hw hT k672 => ?_)
          have hF := hF.put kM_at11 (inE_of (a := 0) (b := 10) (by decide) (by decide) (by decide)) k672
          have c673 := k672.gi (Or.inl (tk_ne kM_at12 kM_at11 (by decide))) c636
          have c674 := k672.gi (Or.inl (tk_ne kM_at0 kM_at11 (by decide))) c637
          have c675 := k672.gi (Or.inl (tk_ne kM_at12 kM_at11 (by decide))) c638
          have c676 := k672.gi (Or.inl (tk_ne kM_at0 kM_at11 (by decide))) c639
          have c677 := k672.gi (Or.inl (tk_ne kM_at14 kM_at11 (by decide))) c640
          have c678 := k672.gi (Or.inl (tk_ne kM_at12 kM_at11 (by decide))) c641
          have c679 := k672.gi (Or.inl (tk_ne kM_at12 kM_at11 (by decide))) c648
          exact tk_vret hC hr hlocks hK ⟨hT, hF, ⟨x30, c674, (show 0 ≤ x30.toInt from rx30), (show x30.toInt ≤ 1 from tx30)⟩⟩ hw dX12_words_206
      · have c604 : x602.toInt = (100000000 : Int) := wk_eq.mp c604
        refine lv_lconst (v := 0) hx hb dX12_words_123 (by decide) ?_
        refine lv_goto (tgt := 134) hx hb dX12_words_124 (by decide) ?_
        refine tk_last hC hK hw hT kM_at11 (by decide) rfl (by decide) (by decide) dX12_words_134 (fun H locs w680 hw hT k682 => ?_)
        have hF := hF.put kM_at11 (inE_of (a := 0) (b := 10) (by decide) (by decide) (by decide)) k682
        have c683 := k682.gi (Or.inl (tk_ne kM_at12 kM_at11 (by decide))) c598
        have c684 := k682.gi (Or.inl (tk_ne kM_at0 kM_at11 (by decide))) c599
        have c685 := k682.gi (Or.inl (tk_ne kM_at12 kM_at11 (by decide))) c600
        have c686 := k682.gi (Or.inl (tk_ne kM_at0 kM_at11 (by decide))) c601
        have c687 := k682.gi (Or.inl (tk_ne kM_at14 kM_at11 (by decide))) c603
        refine lv_aload_n hx hb dX12_words_135 rfl (lv_at hl 2 rfl) ?_
        refine tk_getA hC hK hw hT hinX12 kM_at0 (by decide) rfl 25 (by decide) (List.mem_cons_of_mem _ uw_7_0) rfl rfl dX12_words_136 ?_
        refine lv_bipush (v := 7) hx hb dX12_words_139 (by decide) ?_
        refine lv_aload_n hx hb dX12_words_141 rfl (lv_at hl 2 rfl) ?_
        refine tk_geti hC hK hw hT hinX12 kM_at0 (by decide) rfl 30 (by decide) (List.mem_cons_of_mem _ uw_47_4) rfl rfl dX12_words_142 (fun x688 c689 rx688 tx688 => ?_)
        refine wk_top x30 (c689.symm.trans c684) ?_
        refine lv_if_eq (tgt := 152) hx hb dX12_words_145 (by decide) (fun c => absurd c (fun h => absurd (show x30.toInt = (0 : Int) from wk_eq.mp h) (by omega))) (fun _ => ?_)
        refine lv_lconst (v := 0) hx hb dX12_words_148 (by decide) ?_
        refine lv_goto (tgt := 159) hx hb dX12_words_149 (by decide) ?_
        refine tk_last hC hK hw hT kM_at11 (by decide) rfl (by decide) (by decide) dX12_words_159 (fun H locs w690 hw hT k692 => ?_)
        have hF := hF.put kM_at11 (inE_of (a := 0) (b := 10) (by decide) (by decide) (by decide)) k692
        have c693 := k692.gi (Or.inl (tk_ne kM_at12 kM_at11 (by decide))) c683
        have c694 := k692.gi (Or.inl (tk_ne kM_at0 kM_at11 (by decide))) c684
        have c695 := k692.gi (Or.inl (tk_ne kM_at12 kM_at11 (by decide))) c685
        have c696 := k692.gi (Or.inl (tk_ne kM_at0 kM_at11 (by decide))) c686
        have c697 := k692.gi (Or.inl (tk_ne kM_at14 kM_at11 (by decide))) c687
        refine lv_aload_n hx hb dX12_words_160 rfl (lv_at hl 2 rfl) ?_
        refine tk_getA hC hK hw hT hinX12 kM_at0 (by decide) rfl 25 (by decide) (List.mem_cons_of_mem _ uw_7_0) rfl rfl dX12_words_161 ?_
        refine lv_bipush (v := 8) hx hb dX12_words_164 (by decide) ?_
        refine lv_aload_n hx hb dX12_words_166 rfl (lv_at hl 2 rfl) ?_
        refine lv_iload_n hx hb dX12_words_167 rfl (lv_at hl 3 rfl) ?_
        refine lv_bipush (v := 6) hx hb dX12_words_168 (by decide) ?_
        refine tk_Vi hC hK hw hT hA hE hSR kM_at0 (by decide) rfl (k_X12_walkerOf_8 l adK adV dC dI cy ad B hB0 (Int.le_trans hB1 (by decide)) qr s1   a1 (show 0 ≤ a1.toInt from ra1) (show a1.toInt ≤ 3 from ta1) w690 H.size hT ) (cwV 2 hC.2.2.2.2 uV_RX12_372 rfl rfl rfl (by decide +kernel) ⟨Nat.le_of_ble_eq_true rfl, Nat.le_of_ble_eq_true rfl⟩) rfl hl.1 rfl (Nat.le_of_ble_eq_true rfl) dX12_words_170 (fun r698 w700 H locs hp699 hw => ?_)
        obtain ⟨rfl, hg703⟩ := hp699
        have c702 := hg703
        refine lv_i2l hx hb dX12_words_173 rfl ?_
        refine lv_topl (fun x704 ex704 => ?_)
        have ex704 : x704.toInt = r698.toInt := by rw [ex704]; exact wk_i2l _
        have bx704 := wk_i32 r698
        refine tk_last hC hK hw hT kM_at11 (by decide) rfl (by decide) (by decide) dX12_words_174 (fun H locs w705 hw hT k707 => ?_)
        have hF := hF.put kM_at11 (inE_of (a := 0) (b := 10) (by decide) (by decide) (by decide)) k707
        have c708 := k707.gi (Or.inl (tk_ne kM_at12 kM_at11 (by decide))) c693
        have c709 := k707.gi (Or.inl (tk_ne kM_at0 kM_at11 (by decide))) c694
        have c710 := k707.gi (Or.inl (tk_ne kM_at12 kM_at11 (by decide))) c695
        have c711 := k707.gi (Or.inl (tk_ne kM_at0 kM_at11 (by decide))) c696
        have c712 := k707.gi (Or.inl (tk_ne kM_at14 kM_at11 (by decide))) c697
        have c713 := k707.gi (Or.inl (tk_ne kM_at12 kM_at11 (by decide))) c702
        refine lv_aload_n hx hb dX12_words_175 rfl (lv_at hl 2 rfl) ?_
        refine tk_getA hC hK hw hT hinX12 kM_at0 (by decide) rfl 25 (by decide) (List.mem_cons_of_mem _ uw_7_0) rfl rfl dX12_words_176 ?_
        refine lv_bipush (v := 9) hx hb dX12_words_179 (by decide) ?_
        refine lv_aload_n hx hb dX12_words_181 rfl (lv_at hl 2 rfl) ?_
        refine lv_iload_n hx hb dX12_words_182 rfl (lv_at hl 3 rfl) ?_
        refine lv_bipush (v := 7) hx hb dX12_words_183 (by decide) ?_
        refine tk_Vi hC hK hw hT hA hE hSR kM_at0 (by decide) rfl (k_X12_walkerOf_9 l adK adV dC dI cy ad B hB0 (Int.le_trans hB1 (by decide)) qr s1   a1 (show 0 ≤ a1.toInt from ra1) (show a1.toInt ≤ 3 from ta1) w705 H.size hT ) (cwV 2 hC.2.2.2.2 uV_RX12_372 rfl rfl rfl (by decide +kernel) ⟨Nat.le_of_ble_eq_true rfl, Nat.le_of_ble_eq_true rfl⟩) rfl hl.1 rfl (Nat.le_of_ble_eq_true rfl) dX12_words_185 (fun r714 w716 H locs hp715 hw => ?_)
        obtain ⟨rfl, hg721⟩ := hp715
        obtain ⟨g718, g719, c720⟩ := hg721
        refine lv_if_ge (tgt := 197) hx hb dX12_words_188 (by decide) (fun c722 => ?_) (fun c722 => ?_)
        · have c722 : (0 : Int) ≤ r714.toInt := wk_le.mp c722
          refine lv_aload_n hx hb dX12_words_197 rfl (lv_at hl 2 rfl) ?_
          refine lv_iload_n hx hb dX12_words_198 rfl (lv_at hl 3 rfl) ?_
          refine lv_bipush (v := 7) hx hb dX12_words_199 (by decide) ?_
          refine tk_Vi hC hK hw hT hA hE hSR kM_at0 (by decide) rfl (k_X12_walkerOf_9 l adK adV dC dI cy ad B hB0 (Int.le_trans hB1 (by decide)) qr s1   a1 (show 0 ≤ a1.toInt from ra1) (show a1.toInt ≤ 3 from ta1) w705 H.size hT ) (cwV 2 hC.2.2.2.2 uV_RX12_372 rfl rfl rfl (by decide +kernel) ⟨Nat.le_of_ble_eq_true rfl, Nat.le_of_ble_eq_true rfl⟩) rfl hl.1 rfl (Nat.le_of_ble_eq_true rfl) dX12_words_201 (fun r723 w725 H locs hp724 hw => ?_)
          obtain ⟨rfl, hg730⟩ := hp724
          obtain ⟨g727, g728, c729⟩ := hg730
          obtain rfl : r714 = r723 := c720.symm.trans c729
          refine lv_i2l hx hb dX12_words_204 rfl ?_
          refine lv_topl (fun x731 ex731 => ?_)
          have ex731 : x731.toInt = r714.toInt := by rw [ex731]; exact wk_i2l _
          have bx731 := wk_i32 r714
          refine tk_last hC hK hw hT kM_at11 (by decide) rfl (by decide) (by decide) dX12_words_205 (fun H locs w732 hw hT k734 => ?_)
          have hF := hF.put kM_at11 (inE_of (a := 0) (b := 10) (by decide) (by decide) (by decide)) k734
          have c735 := k734.gi (Or.inl (tk_ne kM_at12 kM_at11 (by decide))) c708
          have c736 := k734.gi (Or.inl (tk_ne kM_at0 kM_at11 (by decide))) c709
          have c737 := k734.gi (Or.inl (tk_ne kM_at12 kM_at11 (by decide))) c710
          have c738 := k734.gi (Or.inl (tk_ne kM_at0 kM_at11 (by decide))) c711
          have c739 := k734.gi (Or.inl (tk_ne kM_at14 kM_at11 (by decide))) c712
          have c740 := k734.gi (Or.inl (tk_ne kM_at12 kM_at11 (by decide))) c713
          have c741 := k734.gi (Or.inl (tk_ne kM_at12 kM_at11 (by decide))) c720
          exact tk_vret hC hr hlocks hK ⟨hT, hF, ⟨x30, c736, (show 0 ≤ x30.toInt from rx30), (show x30.toInt ≤ 1 from tx30)⟩⟩ hw dX12_words_206
        · have c722 : r714.toInt < (0 : Int) := wk_leF c722
          refine lv_ldc2 (v := 99) hx hb hC.2.2.2.1 (hC.2.2.2.2 _ (List.mem_cons_of_mem _ uw_48_1)) dX12_words_191 ?_
          refine lv_goto (tgt := 205) hx hb dX12_words_194 (by decide) ?_
          refine tk_last hC hK hw hT kM_at11 (by decide) rfl (by decide) (by decide) dX12_words_205 (fun H locs w742 hw hT k744 => ?_)
          have hF := hF.put kM_at11 (inE_of (a := 0) (b := 10) (by decide) (by decide) (by decide)) k744
          have c745 := k744.gi (Or.inl (tk_ne kM_at12 kM_at11 (by decide))) c708
          have c746 := k744.gi (Or.inl (tk_ne kM_at0 kM_at11 (by decide))) c709
          have c747 := k744.gi (Or.inl (tk_ne kM_at12 kM_at11 (by decide))) c710
          have c748 := k744.gi (Or.inl (tk_ne kM_at0 kM_at11 (by decide))) c711
          have c749 := k744.gi (Or.inl (tk_ne kM_at14 kM_at11 (by decide))) c712
          have c750 := k744.gi (Or.inl (tk_ne kM_at12 kM_at11 (by decide))) c713
          have c751 := k744.gi (Or.inl (tk_ne kM_at12 kM_at11 (by decide))) c720
          exact tk_vret hC hr hlocks hK ⟨hT, hF, ⟨x30, c746, (show 0 ≤ x30.toInt from rx30), (show x30.toInt ≤ 1 from tx30)⟩⟩ hw dX12_words_206
