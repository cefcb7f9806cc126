abbrev P_X12_count_1 (ad : Nat → Nat) (cy : Nat → ClassId) (B : Int) (qr : Nat) (s1 : Int) (a1 : Int32) (w0 : va_W) : Int32 → va_W → Prop := fun r u => w0 = u ∧ ((0 ≤ r.toInt ∧ 0 ≤ a1.toInt ∧ a1.toInt ≤ 10) ∨ (0 ≤ r.toInt ∧ r.toInt ≤ 400 ∧ 11 ≤ a1.toInt ∧ a1.toInt ≤ 11 ∧ (∃ y : Int32, gi u 0 1 = y ∧ 0 ≤ y.toInt ∧ y.toInt ≤ 400)) ∨ (r = (-1)))
set_option maxHeartbeats 4000000 in
set_option maxRecDepth 100000 in
theorem k_X12_count_1 (l : Launch) (adK adV : Nat → Nat) (dC : Nat → ClassId) (dI : Nat → Nat → Nat) (cy : Nat → ClassId) (ad : Nat → Nat) (B : Int) (hB0 : 100000 ≤ B) (hB1 : B ≤ 1073741824) (qr : Nat) (s1 : Int)  (a1 : Int32) (w0 : va_W) (sz : Nat) (hT : TW ksM ad cy B qr 12 w0)  : Met l yX12_count (wu yX12_count cX12_count 2 (some .int)) ({ frames := 1, cells := 0, slots := 0, locals := 12 }) (va_Pc [.ref (ad 0), .int a1] (wpreS adK adV dC dI cy sz w0)) (va_Qi (P_X12_count_1 ad cy B qr s1 a1 w0) (fun u : va_W => wpost dC dI cy (va_A w0 sz) u) (va_A w0 sz)) 0 0 (va_A w0 sz) := by
  refine Met.ofW (cc := cX12_count) (maxL := 2) (ret := (some .int)) (by decide) rfl ?_
  intro p e s m args below meth c s₁ Bk hml hv
  obtain ⟨rfl, ⟨hsz, hP, hK, hD0⟩, hE, hSR⟩ := hv
  have hx := Bk.exec
  have hb := Bk.bytes
  have hr := Bk.returns
  have hlocks := Bk.notSynchronized
  have hC : CallFix p m c cX12_count 2 s _ (wu yX12_count cX12_count 2 (some .int)) RX12 := ⟨hx, hb, hml, findClass_of_methodNamed Bk.named, atoms_spec (ws := (wu yX12_count cX12_count 2 (some .int))) Bk.pre⟩
  subst hsz
  have hD := hD0.self (sz := s.heap.size)
  generalize hAe : va_A w0 s.heap.size = A at hD hE ⊢
  have hA : ∀ q : Nat, s.heap.size ≤ q → A q := fun q h => by rw [← hAe]; exact Or.inr h
  have hw : Wd dC dI A s.heap s.heap [] w0 := ⟨hP, hD, va_S.rf⟩
  have hF : FE ksM ([] : List (Nat × Nat × Nat)) w0 w0 := FE.rf
  have hl := lv_entry ([.ref (ad 0), .int a1]) (n := 2) (Nat.le_of_ble_eq_true rfl)
  rw [lg_entry_eq]
  generalize (lg_sl ([.ref (ad 0), .int a1]) ++ List.replicate (2 - (lg_sl ([.ref (ad 0), .int a1])).length) Slot.unset).toArray = ls at hl ⊢
  have hl : lv_has ls 2 [(0, .ref (ad 0)), (1, .int a1)] := hl
  generalize hloc : ([] : List Loc) = locs at hw ⊢
  have hinX12 : ∀ w ∈ u_ws RX12 TX12 42, w ∈ (wu yX12_count cX12_count 2 (some .int)) := fun _ h => List.mem_cons_of_mem _ (up_71 h)
  refine lv_iload_n hx hb dX12_count_0 rfl (lv_at hl 1 rfl) ?_
  rcases (show a1.toInt = 0 ∨ a1.toInt = 1 ∨ a1.toInt = 2 ∨ a1.toInt = 3 ∨ a1.toInt = 4 ∨ a1.toInt = 5 ∨ a1.toInt = 6 ∨ a1.toInt = 7 ∨ a1.toInt = 8 ∨ a1.toInt = 9 ∨ a1.toInt = 10 ∨ a1.toInt = 11 ∨ a1.toInt < 0 ∨ 11 < a1.toInt by omega) with c1 | c1 | c1 | c1 | c1 | c1 | c1 | c1 | c1 | c1 | c1 | c1 | c1 | c1
  · refine lv_tableIn (off := 63) (tgt := 64) hx hb dX12_count_1 (by omega) (by omega) (by rw [c1]; rfl) (by decide) ?_
    refine lv_aload_n hx hb dX12_count_64 rfl (lv_at hl 0 rfl) ?_
    refine tk_getA hC hK hw hT hinX12 kM_at0 (by decide) rfl 26 (by decide) (List.mem_cons_of_mem _ uw_7_1) rfl rfl dX12_count_65 ?_
    refine lv_iload_n hx hb dX12_count_68 rfl (lv_at hl 1 rfl) ?_
    refine tk_ialdR hC hK hw hT kM_at12 rfl (show 0 ≤ a1.toInt by first | with_reducible assumption | omega) (show a1.toInt < 296 by first | with_reducible assumption | omega) dX12_count_69 (fun x2 c3 Ex2 => ?_)
    have c3 : gi w0 12 (a1.toInt).toNat = x2 := (congrArg (gi w0 12) (congrArg Int.toNat (show a1.toInt = a1.toInt from rfl))).trans c3
    have bx2 := tk_rgI rfl 0 1 1 0 10 (by decide +kernel) ⟨(a1.toInt - 0).toNat, by omega, show a1.toInt.toNat = 0 + 1 * (a1.toInt - 0).toNat by omega⟩ Ex2
    exact tk_iret hC hr hlocks hK ⟨rfl, (Or.inl ⟨(show 0 ≤ x2.toInt by first | with_reducible assumption | omega), (show 0 ≤ a1.toInt by first | with_reducible assumption | omega), (show a1.toInt ≤ 10 by first | with_reducible assumption | omega)⟩)⟩ hw dX12_count_70
  · refine lv_tableIn (off := 63) (tgt := 64) hx hb dX12_count_1 (by omega) (by omega) (by rw [c1]; rfl) (by decide) ?_
    refine lv_aload_n hx hb dX12_count_64 rfl (lv_at hl 0 rfl) ?_
    refine tk_getA hC hK hw hT hinX12 kM_at0 (by decide) rfl 26 (by decide) (List.mem_cons_of_mem _ uw_7_1) rfl rfl dX12_count_65 ?_
    refine lv_iload_n hx hb dX12_count_68 rfl (lv_at hl 1 rfl) ?_
    refine tk_ialdR hC hK hw hT kM_at12 rfl (show 0 ≤ a1.toInt by first | with_reducible assumption | omega) (show a1.toInt < 296 by first | with_reducible assumption | omega) dX12_count_69 (fun x4 c5 Ex4 => ?_)
    have c5 : gi w0 12 (a1.toInt).toNat = x4 := (congrArg (gi w0 12) (congrArg Int.toNat (show a1.toInt = a1.toInt from rfl))).trans c5
    have bx4 : 0 ≤ x4.toInt ∧ x4.toInt ≤ 12 := by have q := Ex4; rw [show a1.toNatClampNeg = 1 from (show a1.toInt.toNat = 1 by first | exact Int.le_antisymm (by omega) (by omega) | omega)] at q; exact (tk_rg1 rfl).mp q
    exact tk_iret hC hr hlocks hK ⟨rfl, (Or.inl ⟨(show 0 ≤ x4.toInt by first | with_reducible assumption | omega), (show 0 ≤ a1.toInt by first | with_reducible assumption | omega), (show a1.toInt ≤ 10 by first | with_reducible assumption | omega)⟩)⟩ hw dX12_count_70
  · refine lv_tableIn (off := 63) (tgt := 64) hx hb dX12_count_1 (by omega) (by omega) (by rw [c1]; rfl) (by decide) ?_
    refine lv_aload_n hx hb dX12_count_64 rfl (lv_at hl 0 rfl) ?_
    refine tk_getA hC hK hw hT hinX12 kM_at0 (by decide) rfl 26 (by decide) (List.mem_cons_of_mem _ uw_7_1) rfl rfl dX12_count_65 ?_
    refine lv_iload_n hx hb dX12_count_68 rfl (lv_at hl 1 rfl) ?_
    refine tk_ialdR hC hK hw hT kM_at12 rfl (show 0 ≤ a1.toInt by first | with_reducible assumption | omega) (show a1.toInt < 296 by first | with_reducible assumption | omega) dX12_count_69 (fun x6 c7 Ex6 => ?_)
    have c7 : gi w0 12 (a1.toInt).toNat = x6 := (congrArg (gi w0 12) (congrArg Int.toNat (show a1.toInt = a1.toInt from rfl))).trans c7
    have bx6 := tk_rgI rfl 2 1 1 0 8 (by decide +kernel) ⟨(a1.toInt - 2).toNat, by omega, show a1.toInt.toNat = 2 + 1 * (a1.toInt - 2).toNat by omega⟩ Ex6
    exact tk_iret hC hr hlocks hK ⟨rfl, (Or.inl ⟨(show 0 ≤ x6.toInt by first | with_reducible assumption | omega), (show 0 ≤ a1.toInt by first | with_reducible assumption | omega), (show a1.toInt ≤ 10 by first | with_reducible assumption | omega)⟩)⟩ hw dX12_count_70
  · refine lv_tableIn (off := 63) (tgt := 64) hx hb dX12_count_1 (by omega) (by omega) (by rw [c1]; rfl) (by decide) ?_
    refine lv_aload_n hx hb dX12_count_64 rfl (lv_at hl 0 rfl) ?_
    refine tk_getA hC hK hw hT hinX12 kM_at0 (by decide) rfl 26 (by decide) (List.mem_cons_of_mem _ uw_7_1) rfl rfl dX12_count_65 ?_
    refine lv_iload_n hx hb dX12_count_68 rfl (lv_at hl 1 rfl) ?_
    refine tk_ialdR hC hK hw hT kM_at12 rfl (show 0 ≤ a1.toInt by first | with_reducible assumption | omega) (show a1.toInt < 296 by first | with_reducible assumption | omega) dX12_count_69 (fun x8 c9 Ex8 => ?_)
    have c9 : gi w0 12 (a1.toInt).toNat = x8 := (congrArg (gi w0 12) (congrArg Int.toNat (show a1.toInt = a1.toInt from rfl))).trans c9
    have bx8 := tk_rgI rfl 3 1 1 0 4 (by decide +kernel) ⟨(a1.toInt - 3).toNat, by omega, show a1.toInt.toNat = 3 + 1 * (a1.toInt - 3).toNat by omega⟩ Ex8
    exact tk_iret hC hr hlocks hK ⟨rfl, (Or.inl ⟨(show 0 ≤ x8.toInt by first | with_reducible assumption | omega), (show 0 ≤ a1.toInt by first | with_reducible assumption | omega), (show a1.toInt ≤ 10 by first | with_reducible assumption | omega)⟩)⟩ hw dX12_count_70
  · refine lv_tableIn (off := 70) (tgt := 71) hx hb dX12_count_1 (by omega) (by omega) (by rw [c1]; rfl) (by decide) ?_
    refine lv_aload_n hx hb dX12_count_71 rfl (lv_at hl 0 rfl) ?_
    refine tk_geti hC hK hw hT hinX12 kM_at0 (by decide) rfl 2 (by decide) (List.mem_cons_of_mem _ uw_29_21) rfl rfl dX12_count_72 (fun x10 c11 rx10 tx10 => ?_)
    exact tk_iret hC hr hlocks hK ⟨rfl, (Or.inl ⟨(show 0 ≤ x10.toInt from rx10), (show 0 ≤ a1.toInt by first | with_reducible assumption | omega), (show a1.toInt ≤ 10 by first | with_reducible assumption | omega)⟩)⟩ hw dX12_count_75
  · refine lv_tableIn (off := 75) (tgt := 76) hx hb dX12_count_1 (by omega) (by omega) (by rw [c1]; rfl) (by decide) ?_
    refine lv_aload_n hx hb dX12_count_76 rfl (lv_at hl 0 rfl) ?_
    refine tk_getA hC hK hw hT hinX12 kM_at0 (by decide) rfl 26 (by decide) (List.mem_cons_of_mem _ uw_7_1) rfl rfl dX12_count_77 ?_
    refine lv_iload_n hx hb dX12_count_80 rfl (lv_at hl 1 rfl) ?_
    refine lv_iconst (v := 1) hx hb dX12_count_81 (by decide) ?_
    refine lv_isub hx hb dX12_count_82 ?_
    refine lv_topi (fun x12 ex12 => ?_)
    have ex12 : x12.toInt = a1.toInt - (1 : Int) := by rw [ex12]; exact wk_sub (show (-2147483648) ≤ a1.toInt - (1 : Int) by omega) (show a1.toInt - (1 : Int) ≤ 2147483647 by omega)
    refine tk_ialdR hC hK hw hT kM_at12 rfl (show 0 ≤ x12.toInt by first | with_reducible assumption | omega) (show x12.toInt < 296 by first | with_reducible assumption | omega) dX12_count_83 (fun x13 c14 Ex13 => ?_)
    have bx13 := tk_rgI rfl 4 1 1 0 4 (by decide +kernel) ⟨(a1.toInt - 5).toNat, by omega, show x12.toInt.toNat = 4 + 1 * (a1.toInt - 5).toNat by omega⟩ Ex13
    exact tk_iret hC hr hlocks hK ⟨rfl, (Or.inl ⟨(show 0 ≤ x13.toInt by first | with_reducible assumption | omega), (show 0 ≤ a1.toInt by first | with_reducible assumption | omega), (show a1.toInt ≤ 10 by first | with_reducible assumption | omega)⟩)⟩ hw dX12_count_84
  · refine lv_tableIn (off := 75) (tgt := 76) hx hb dX12_count_1 (by omega) (by omega) (by rw [c1]; rfl) (by decide) ?_
    refine lv_aload_n hx hb dX12_count_76 rfl (lv_at hl 0 rfl) ?_
    refine tk_getA hC hK hw hT hinX12 kM_at0 (by decide) rfl 26 (by decide) (List.mem_cons_of_mem _ uw_7_1) rfl rfl dX12_count_77 ?_
    refine lv_iload_n hx hb dX12_count_80 rfl (lv_at hl 1 rfl) ?_
    refine lv_iconst (v := 1) hx hb dX12_count_81 (by decide) ?_
    refine lv_isub hx hb dX12_count_82 ?_
    refine lv_topi (fun x15 ex15 => ?_)
    have ex15 : x15.toInt = a1.toInt - (1 : Int) := by rw [ex15]; exact wk_sub (show (-2147483648) ≤ a1.toInt - (1 : Int) by omega) (show a1.toInt - (1 : Int) ≤ 2147483647 by omega)
    refine tk_ialdR hC hK hw hT kM_at12 rfl (show 0 ≤ x15.toInt by first | with_reducible assumption | omega) (show x15.toInt < 296 by first | with_reducible assumption | omega) dX12_count_83 (fun x16 c17 Ex16 => ?_)
    have bx16 := tk_rgI rfl 5 1 1 0 4 (by decide +kernel) ⟨(a1.toInt - 6).toNat, by omega, show x15.toInt.toNat = 5 + 1 * (a1.toInt - 6).toNat by omega⟩ Ex16
    exact tk_iret hC hr hlocks hK ⟨rfl, (Or.inl ⟨(show 0 ≤ x16.toInt by first | with_reducible assumption | omega), (show 0 ≤ a1.toInt by first | with_reducible assumption | omega), (show a1.toInt ≤ 10 by first | with_reducible assumption | omega)⟩)⟩ hw dX12_count_84
  · refine lv_tableIn (off := 75) (tgt := 76) hx hb dX12_count_1 (by omega) (by omega) (by rw [c1]; rfl) (by decide) ?_
    refine lv_aload_n hx hb dX12_count_76 rfl (lv_at hl 0 rfl) ?_
    refine tk_getA hC hK hw hT hinX12 kM_at0 (by decide) rfl 26 (by decide) (List.mem_cons_of_mem _ uw_7_1) rfl rfl dX12_count_77 ?_
    refine lv_iload_n hx hb dX12_count_80 rfl (lv_at hl 1 rfl) ?_
    refine lv_iconst (v := 1) hx hb dX12_count_81 (by decide) ?_
    refine lv_isub hx hb dX12_count_82 ?_
    refine lv_topi (fun x18 ex18 => ?_)
    have ex18 : x18.toInt = a1.toInt - (1 : Int) := by rw [ex18]; exact wk_sub (show (-2147483648) ≤ a1.toInt - (1 : Int) by omega) (show a1.toInt - (1 : Int) ≤ 2147483647 by omega)
    refine tk_ialdR hC hK hw hT kM_at12 rfl (show 0 ≤ x18.toInt by first | with_reducible assumption | omega) (show x18.toInt < 296 by first | with_reducible assumption | omega) dX12_count_83 (fun x19 c20 Ex19 => ?_)
    have bx19 := tk_rgI rfl 6 1 1 0 6 (by decide +kernel) ⟨(a1.toInt - 7).toNat, by omega, show x18.toInt.toNat = 6 + 1 * (a1.toInt - 7).toNat by omega⟩ Ex19
    exact tk_iret hC hr hlocks hK ⟨rfl, (Or.inl ⟨(show 0 ≤ x19.toInt by first | with_reducible assumption | omega), (show 0 ≤ a1.toInt by first | with_reducible assumption | omega), (show a1.toInt ≤ 10 by first | with_reducible assumption | omega)⟩)⟩ hw dX12_count_84
  · refine lv_tableIn (off := 75) (tgt := 76) hx hb dX12_count_1 (by omega) (by omega) (by rw [c1]; rfl) (by decide) ?_
    refine lv_aload_n hx hb dX12_count_76 rfl (lv_at hl 0 rfl) ?_
    refine tk_getA hC hK hw hT hinX12 kM_at0 (by decide) rfl 26 (by decide) (List.mem_cons_of_mem _ uw_7_1) rfl rfl dX12_count_77 ?_
    refine lv_iload_n hx hb dX12_count_80 rfl (lv_at hl 1 rfl) ?_
    refine lv_iconst (v := 1) hx hb dX12_count_81 (by decide) ?_
    refine lv_isub hx hb dX12_count_82 ?_
    refine lv_topi (fun x21 ex21 => ?_)
    have ex21 : x21.toInt = a1.toInt - (1 : Int) := by rw [ex21]; exact wk_sub (show (-2147483648) ≤ a1.toInt - (1 : Int) by omega) (show a1.toInt - (1 : Int) ≤ 2147483647 by omega)
    refine tk_ialdR hC hK hw hT kM_at12 rfl (show 0 ≤ x21.toInt by first | with_reducible assumption | omega) (show x21.toInt < 296 by first | with_reducible assumption | omega) dX12_count_83 (fun x22 c23 Ex22 => ?_)
    have bx22 := tk_rgI rfl 7 1 1 0 12 (by decide +kernel) ⟨(a1.toInt - 8).toNat, by omega, show x21.toInt.toNat = 7 + 1 * (a1.toInt - 8).toNat by omega⟩ Ex22
    exact tk_iret hC hr hlocks hK ⟨rfl, (Or.inl ⟨(show 0 ≤ x22.toInt by first | with_reducible assumption | omega), (show 0 ≤ a1.toInt by first | with_reducible assumption | omega), (show a1.toInt ≤ 10 by first | with_reducible assumption | omega)⟩)⟩ hw dX12_count_84
  · refine lv_tableIn (off := 75) (tgt := 76) hx hb dX12_count_1 (by omega) (by omega) (by rw [c1]; rfl) (by decide) ?_
    refine lv_aload_n hx hb dX12_count_76 rfl (lv_at hl 0 rfl) ?_
    refine tk_getA hC hK hw hT hinX12 kM_at0 (by decide) rfl 26 (by decide) (List.mem_cons_of_mem _ uw_7_1) rfl rfl dX12_count_77 ?_
    refine lv_iload_n hx hb dX12_count_80 rfl (lv_at hl 1 rfl) ?_
    refine lv_iconst (v := 1) hx hb dX12_count_81 (by decide) ?_
    refine lv_isub hx hb dX12_count_82 ?_
    refine lv_topi (fun x24 ex24 => ?_)
    have ex24 : x24.toInt = a1.toInt - (1 : Int) := by rw [ex24]; exact wk_sub (show (-2147483648) ≤ a1.toInt - (1 : Int) by omega) (show a1.toInt - (1 : Int) ≤ 2147483647 by omega)
    refine tk_ialdR hC hK hw hT kM_at12 rfl (show 0 ≤ x24.toInt by first | with_reducible assumption | omega) (show x24.toInt < 296 by first | with_reducible assumption | omega) dX12_count_83 (fun x25 c26 Ex25 => ?_)
    have bx25 := tk_rgI rfl 8 1 1 0 8 (by decide +kernel) ⟨(a1.toInt - 9).toNat, by omega, show x24.toInt.toNat = 8 + 1 * (a1.toInt - 9).toNat by omega⟩ Ex25
    exact tk_iret hC hr hlocks hK ⟨rfl, (Or.inl ⟨(show 0 ≤ x25.toInt by first | with_reducible assumption | omega), (show 0 ≤ a1.toInt by first | with_reducible assumption | omega), (show a1.toInt ≤ 10 by first | with_reducible assumption | omega)⟩)⟩ hw dX12_count_84
  · refine lv_tableIn (off := 75) (tgt := 76) hx hb dX12_count_1 (by omega) (by omega) (by rw [c1]; rfl) (by decide) ?_
    refine lv_aload_n hx hb dX12_count_76 rfl (lv_at hl 0 rfl) ?_
    refine tk_getA hC hK hw hT hinX12 kM_at0 (by decide) rfl 26 (by decide) (List.mem_cons_of_mem _ uw_7_1) rfl rfl dX12_count_77 ?_
    refine lv_iload_n hx hb dX12_count_80 rfl (lv_at hl 1 rfl) ?_
    refine lv_iconst (v := 1) hx hb dX12_count_81 (by decide) ?_
    refine lv_isub hx hb dX12_count_82 ?_
    refine lv_topi (fun x27 ex27 => ?_)
    have ex27 : x27.toInt = a1.toInt - (1 : Int) := by rw [ex27]; exact wk_sub (show (-2147483648) ≤ a1.toInt - (1 : Int) by omega) (show a1.toInt - (1 : Int) ≤ 2147483647 by omega)
    refine tk_ialdR hC hK hw hT kM_at12 rfl (show 0 ≤ x27.toInt by first | with_reducible assumption | omega) (show x27.toInt < 296 by first | with_reducible assumption | omega) dX12_count_83 (fun x28 c29 Ex28 => ?_)
    have bx28 := tk_rgI rfl 9 1 1 0 2147483647 (by decide +kernel) ⟨(a1.toInt - 10).toNat, by omega, show x27.toInt.toNat = 9 + 1 * (a1.toInt - 10).toNat by omega⟩ Ex28
    exact tk_iret hC hr hlocks hK ⟨rfl, (Or.inl ⟨(show 0 ≤ x28.toInt by first | with_reducible assumption | omega), (show 0 ≤ a1.toInt by first | with_reducible assumption | omega), (show a1.toInt ≤ 10 by first | with_reducible assumption | omega)⟩)⟩ hw dX12_count_84
  · refine lv_tableIn (off := 84) (tgt := 85) hx hb dX12_count_1 (by omega) (by omega) (by rw [c1]; rfl) (by decide) ?_
    refine lv_aload_n hx hb dX12_count_85 rfl (lv_at hl 0 rfl) ?_
    refine tk_geti hC hK hw hT hinX12 kM_at0 (by decide) rfl 1 (by decide) (List.mem_cons_of_mem _ uw_8_7) rfl rfl dX12_count_86 (fun x30 c31 rx30 tx30 => ?_)
    exact tk_iret hC hr hlocks hK ⟨rfl, (Or.inr (Or.inl ⟨(show 0 ≤ x30.toInt from rx30), (show x30.toInt ≤ 400 from tx30), (show 11 ≤ a1.toInt by first | with_reducible assumption | omega), (show a1.toInt ≤ 11 by first | with_reducible assumption | omega), ⟨x30, c31, (show 0 ≤ x30.toInt from rx30), (show x30.toInt ≤ 400 from tx30)⟩⟩))⟩ hw dX12_count_89
  · refine lv_tableOut (tgt := 90) hx hb dX12_count_1 (Or.inl c1) (by decide) ?_
    refine lv_iconst (v := (-1)) hx hb dX12_count_90 (by decide) ?_
    exact tk_iret hC hr hlocks hK ⟨rfl, (Or.inr (Or.inr rfl))⟩ hw dX12_count_91
  · refine lv_tableOut (tgt := 90) hx hb dX12_count_1 (Or.inr c1) (by decide) ?_
    refine lv_iconst (v := (-1)) hx hb dX12_count_90 (by decide) ?_
    exact tk_iret hC hr hlocks hK ⟨rfl, (Or.inr (Or.inr rfl))⟩ hw dX12_count_91
abbrev P_X12_round_3 (ad : Nat → Nat) (cy : Nat → ClassId) (B : Int) (qr : Nat) (s1 : Int) (a1 : Int32) (a2 : Int32) (w0 : va_W) : Int32 → va_W → Prop := fun r u => TW ksM ad cy (B + 2709) qr 12 u ∧ FE ksM [(12, 24, 24), (12, 27, 27), (12, 30, 30), (12, 31, 31), (69, 0, 64), (70, 0, 10), (71, 0, 295), (71, 216, 243), (71, 220, 247), (71, 221, 248), (71, 222, 249), (71, 223, 250), (71, 224, 251), (72, 0, 12), (73, 0, 10), (74, 0, 296), (75, 0, 301)] w0 u ∧ (((-298) ≤ r.toInt ∧ r.toInt ≤ 300 ∧ 0 ≤ a1.toInt ∧ a1.toInt ≤ 3 ∧ 0 ≤ a2.toInt ∧ a2.toInt ≤ 1 ∧ (∃ y : Int32, gi u 0 27 = y ∧ 1 ≤ y.toInt ∧ y.toInt ≤ 1) ∧ (∃ y : Int32, gi u 0 30 = y ∧ 0 ≤ y.toInt ∧ y.toInt ≤ 0) ∧ (SA w0 u)) ∨ (r = (-1) ∧ (∃ y : Int32, gi u 0 27 = y ∧ 1 ≤ y.toInt ∧ y.toInt ≤ 1) ∧ (SA w0 u)))
set_option maxHeartbeats 4000000 in
set_option maxRecDepth 100000 in
theorem k_X12_round_3 (l : Launch) (adK adV : Nat → Nat) (dC : Nat → ClassId) (dI : Nat → Nat → Nat) (cy : Nat → ClassId) (ad : Nat → Nat) (B : Int) (hB0 : 100000 ≤ B) (hB1 : B ≤ 1073739115) (qr : Nat) (s1 : Int)  (a1 : Int32) (a2 : Int32) (w0 : va_W) (sz : Nat) (hT : TW ksM ad cy B qr 12 w0) (cf0_ : gi w0 0 27 = 1) (hRW : RW w0) : Met l yX12_round (wu yX12_round cX12_round 6 (some .int)) ({ frames := 9, cells := 0, slots := 0, locals := 194 }) (va_Pc [.ref (ad 0), .int a1, .int a2] (wpreS adK adV dC dI cy sz w0)) (va_Qi (P_X12_round_3 ad cy B qr s1 a1 a2 w0) (fun u : va_W => wpost dC dI cy (va_A w0 sz) u) (va_A w0 sz)) 0 0 (va_A w0 sz) := by
  refine Met.ofW (cc := cX12_round) (maxL := 6) (ret := (some .int)) (by decide) rfl ?_
  intro p e s m args below meth c s₁ Bk hml hv
  obtain ⟨rfl, ⟨hsz, hP, hK, hD0⟩, hE, hSR⟩ := hv
  have hx := Bk.exec
  have hb := Bk.bytes
  have hr := Bk.returns
  have hlocks := Bk.notSynchronized
  have hC : CallFix p m c cX12_round 6 s _ (wu yX12_round cX12_round 6 (some .int)) RX12 := ⟨hx, hb, hml, findClass_of_methodNamed Bk.named, atoms_spec (ws := (wu yX12_round cX12_round 6 (some .int))) Bk.pre⟩
  subst hsz
  have hD := hD0.self (sz := s.heap.size)
  generalize hAe : va_A w0 s.heap.size = A at hD hE ⊢
  have hA : ∀ q : Nat, s.heap.size ≤ q → A q := fun q h => by rw [← hAe]; exact Or.inr h
  have hw : Wd dC dI A s.heap s.heap [] w0 := ⟨hP, hD, va_S.rf⟩
  have hF : FE ksM [(12, 24, 24), (12, 27, 27), (12, 30, 30), (12, 31, 31), (69, 0, 64), (70, 0, 10), (71, 0, 295), (71, 216, 243), (71, 220, 247), (71, 221, 248), (71, 222, 249), (71, 223, 250), (71, 224, 251), (72, 0, 12), (73, 0, 10), (74, 0, 296), (75, 0, 301)] w0 w0 := FE.rf
  have hSA : SA w0 w0 := fun _ _ => rfl
  have hl := lv_entry ([.ref (ad 0), .int a1, .int a2]) (n := 6) (Nat.le_of_ble_eq_true rfl)
  rw [lg_entry_eq]
  generalize (lg_sl ([.ref (ad 0), .int a1, .int a2]) ++ List.replicate (6 - (lg_sl ([.ref (ad 0), .int a1, .int a2])).length) Slot.unset).toArray = ls at hl ⊢
  have hl : lv_has ls 6 [(0, .ref (ad 0)), (1, .int a1), (2, .int a2)] := hl
  generalize hloc : ([] : List Loc) = locs at hw ⊢
  have hinX12 : ∀ w ∈ u_ws RX12 TX12 42, w ∈ (wu yX12_round cX12_round 6 (some .int)) := fun _ h => List.mem_cons_of_mem _ (up_71 h)
  have J18 : ∀ (H : Heap) (locs : List Loc) (ls : Array Slot) (w1 : va_W), Wd dC dI A s.heap H locs w1 → TW ksM ad cy B qr 12 w1 → FE ksM [(12, 24, 24), (12, 27, 27), (12, 30, 30), (12, 31, 31), (69, 0, 64), (70, 0, 10), (71, 0, 295), (71, 216, 243), (71, 220, 247), (71, 221, 248), (71, 222, 249), (71, 223, 250), (71, 224, 251), (72, 0, 12), (73, 0, 10), (74, 0, 296), (75, 0, 301)] w0 w1 → RW w1 → SA w0 w1 → gi w1 0 27 = 1 → lv_has ls 6 [(0, .ref (ad 0)), (1, .int a1), (2, .int a2)] → W p l e ({ frames := 9, cells := 0, slots := 0, locals := 194 }) s m (List.toArray [.ref (ad 0), .int a1, .int a2]) below meth c H locs 0 0 (MQ below (va_Qi (P_X12_round_3 ad cy B qr s1 a1 a2 w0) (fun u : va_W => wpost dC dI cy A u) A) (List.toArray [.ref (ad 0), .int a1, .int a2]) s 0 0 A) (F0 m 18 ls []) := by
    intro H locs ls w1 hw hT hF hRW hSA c2 hl
    refine lv_iconst (v := (-1)) hx hb dX12_round_18 (by decide) ?_
    exact tk_iret hC hr hlocks hK ⟨(hT.up (show B ≤ (B + 2709) by omega)), hF, (Or.inr ⟨rfl, ⟨1, c2, (by decide), (by decide)⟩, (by exact hSA)⟩)⟩ hw dX12_round_19
  have J159 : ∀ (v159_3 : Int32) (v159_4 : Int32) (f159_12_5 : Int32) (f159_16_0 : Int32) (H : Heap) (locs : List Loc) (ls : Array Slot) (w3 : va_W), 0 ≤ a1.toInt → a1.toInt ≤ 3 → 0 ≤ a2.toInt → a2.toInt ≤ 1 → (-298) ≤ v159_3.toInt → v159_3.toInt ≤ 300 → 1 ≤ v159_4.toInt → v159_4.toInt ≤ 301 → 1 ≤ f159_12_5.toInt → f159_12_5.toInt ≤ 4 → 0 ≤ f159_16_0.toInt → f159_16_0.toInt ≤ 18479 → Wd dC dI A s.heap H locs w3 → TW ksM ad cy (B + 2709) qr 12 w3 → FE ksM [(12, 24, 24), (12, 27, 27), (12, 30, 30), (12, 31, 31), (69, 0, 64), (70, 0, 10), (71, 0, 295), (71, 216, 243), (71, 220, 247), (71, 221, 248), (71, 222, 249), (71, 223, 250), (71, 224, 251), (72, 0, 12), (73, 0, 10), (74, 0, 296), (75, 0, 301)] w0 w3 → RW w3 → KBk w0 w3 → gi w3 0 27 = 0 → gi w3 0 30 = 1 → gi w3 12 5 = f159_12_5 → gi w3 16 0 = f159_16_0 → lv_has ls 6 [(0, .ref (ad 0)), (1, .int a1), (2, .int a2), (3, .int v159_3), (4, .int v159_4)] → W p l e ({ frames := 9, cells := 0, slots := 0, locals := 194 }) s m (List.toArray [.ref (ad 0), .int a1, .int a2]) below meth c H locs 0 0 (MQ below (va_Qi (P_X12_round_3 ad cy B qr s1 a1 a2 w0) (fun u : va_W => wpost dC dI cy A u) A) (List.toArray [.ref (ad 0), .int a1, .int a2]) s 0 0 A) (F0 m 159 ls []) := by
    intro v159_3 v159_4 f159_12_5 f159_16_0 H locs ls w3 r4 t5 r6 t7 r8 t9 r10 t11 r14 t15 r17 t18 hw hT hF hRW hKB c12 c13 c16 c19 hl
    refine lv_aload_n hx hb dX12_round_159 rfl (lv_at hl 0 rfl) ?_
    refine lv_iconst (v := 0) hx hb dX12_round_160 (by decide) ?_
    refine tk_putz hC hK hw hT hinX12 tyX12_ok nmX12 kM_at0 (by decide) rfl rfl 30 (by decide) (List.mem_cons_of_mem _ uw_47_4) rfl rfl rfl rfl (by decide) (by decide) dX12_round_161 (fun H locs w20 hw hT k22 c21 => ?_)
    have hRW := RW_F1 k22 (by decide) (by decide) (by decide) hRW
    have hKB := KB_F1 k22 (by decide) hKB
    have hF := hF.put kM_at0 (k := 30) (by decide) k22
    have c23 := k22.gi (Or.inr (by decide)) c12
    have c24 := k22.gi (Or.inr (by decide)) c16
    have c25 := k22.gi (Or.inr (by decide)) c19
    refine lv_aload_n hx hb dX12_round_164 rfl (lv_at hl 0 rfl) ?_
    refine lv_iconst (v := 1) hx hb dX12_round_165 (by decide) ?_
    refine tk_putz hC hK hw hT hinX12 tyX12_ok nmX12 kM_at0 (by decide) rfl rfl 27 (by decide) (List.mem_cons_of_mem _ uw_7_2) rfl rfl rfl rfl (by decide) (by decide) dX12_round_166 (fun H locs w26 hw hT k28 c27 => ?_)
    have hRW := RW_F1 k28 (by decide) (by decide) (by decide) hRW
    have hKB := KB_F1 k28 (by decide) hKB
    have hF := hF.put kM_at0 (k := 27) (by decide) k28
    have c29 := k28.gi (Or.inr (by decide)) c24
    have c30 := k28.gi (Or.inr (by decide)) c25
    have c31 := k28.gi (Or.inr (by decide)) c21
    refine lv_aload_n hx hb dX12_round_169 rfl (lv_at hl 0 rfl) ?_
    refine tk_Vv hC hK hw hT hA hE hSR kM_at0 (by decide) rfl (k_X12_putsBack_1 l adK adV dC dI cy ad (B + 2709) (by omega) (by omega) qr s1    w26 H.size hT ) (cwV 0 hC.2.2.2.2 uV_RX12_429 rfl rfl rfl (by decide +kernel) ⟨Nat.le_of_ble_eq_true rfl, Nat.le_of_ble_eq_true rfl⟩) rfl hl.1 rfl (Nat.le_of_ble_eq_true rfl) dX12_round_170 (fun w34 H locs hp33 hw => ?_)
    obtain ⟨hT, k35, hg40⟩ := hp33
    have hKB := KB_FE k35 (fun _ => rfl) hKB
    have hRW := RW_FE k35 (fun _ => rfl) (fun _ => rfl) (fun _ => rfl) hRW
    have hF := hF.tr k35 (by decide)
    have c41 := k35.gi kM_at16 (by decide) c30
    have c42 := k35.gi kM_at0 (by decide) c31
    have c43 := k35.gi kM_at0 (by decide) c27
    obtain ⟨c36, c37, c38, hq39⟩ := hg40
    have hSA : SA w0 w34 := fun j hj => (hq39 j hj).trans ((k35.gi kM_at15 rfl rfl).symm.trans (hKB j hj))
    refine lv_iload_n hx hb dX12_round_173 rfl (lv_at hl 3 rfl) ?_
    exact tk_iret hC hr hlocks hK ⟨hT, hF, (Or.inl ⟨(show (-298) ≤ v159_3.toInt from r8), (show v159_3.toInt ≤ 300 from t9), (show 0 ≤ a1.toInt from r4), (show a1.toInt ≤ 3 from t5), (show 0 ≤ a2.toInt from r6), (show a2.toInt ≤ 1 from t7), ⟨1, c43, (by decide), (by decide)⟩, ⟨0, c42, (by decide), (by decide)⟩, (by exact hSA)⟩)⟩ hw dX12_round_174
  have L51 : ∀ (n51 : Nat) (v51_3 : Int32) (v51_4 : Int32) (f51_12_5 : Int32) (f51_16_0 : Int32) (H : Heap) (locs : List Loc) (ls : Array Slot) (w44 : va_W), 0 ≤ a1.toInt → a1.toInt ≤ 3 → 0 ≤ a2.toInt → a2.toInt ≤ 1 → (-298) ≤ v51_3.toInt → v51_3.toInt ≤ 300 → 1 ≤ v51_4.toInt → v51_4.toInt ≤ 301 → 1 ≤ f51_12_5.toInt → f51_12_5.toInt ≤ 4 → 0 ≤ f51_16_0.toInt → f51_16_0.toInt ≤ 18479 → (301 - v51_4.toInt).toNat < n51 → Wd dC dI A s.heap H locs w44 → TW ksM ad cy (B + 0 + 9 * v51_4.toInt) qr 12 w44 → FE ksM [(12, 24, 24), (12, 27, 27), (12, 30, 30), (12, 31, 31), (69, 0, 64), (70, 0, 10), (71, 0, 295), (71, 216, 243), (71, 220, 247), (71, 221, 248), (71, 222, 249), (71, 223, 250), (71, 224, 251), (72, 0, 12), (73, 0, 10), (74, 0, 296), (75, 0, 301)] w0 w44 → RW w44 → KBk w0 w44 → gi w44 0 27 = 0 → gi w44 0 30 = 1 → gi w44 12 5 = f51_12_5 → gi w44 16 0 = f51_16_0 → lv_has ls 6 [(0, .ref (ad 0)), (1, .int a1), (2, .int a2), (3, .int v51_3), (4, .int v51_4)] → W p l e ({ frames := 9, cells := 0, slots := 0, locals := 194 }) s m (List.toArray [.ref (ad 0), .int a1, .int a2]) below meth c H locs 0 0 (MQ below (va_Qi (P_X12_round_3 ad cy B qr s1 a1 a2 w0) (fun u : va_W => wpost dC dI cy A u) A) (List.toArray [.ref (ad 0), .int a1, .int a2]) s 0 0 A) (F0 m 51 ls []) := by
    intro n51
    induction n51 with
    | zero => intro v51_3 v51_4 f51_12_5 f51_16_0 H locs ls w44 r45 t46 r47 t48 r49 t50 r51 t52 r55 t56 r58 t59 hm51 hw hT hF hRW hKB c53 c54 c57 c60 hl; omega
    | succ n51 ih51 =>
      intro v51_3 v51_4 f51_12_5 f51_16_0 H locs ls w44 r45 t46 r47 t48 r49 t50 r51 t52 r55 t56 r58 t59 hm51 hw hT hF hRW hKB c53 c54 c57 c60 hl
      have J153 : ∀ (v153_3 : Int32) (v153_5 : Int32) (H : Heap) (locs : List Loc) (ls : Array Slot) (w61 : va_W), 0 ≤ a1.toInt → a1.toInt ≤ 3 → 0 ≤ a2.toInt → a2.toInt ≤ 1 → (-298) ≤ v153_3.toInt → v153_3.toInt ≤ 300 → 1 ≤ v51_4.toInt → v51_4.toInt ≤ 300 → 0 ≤ v153_5.toInt → v153_5.toInt ≤ 300 → 1 ≤ f51_12_5.toInt → f51_12_5.toInt ≤ 4 → 0 ≤ f51_16_0.toInt → f51_16_0.toInt ≤ 18479 → Wd dC dI A s.heap H locs w61 → TW ksM ad cy (B + 9 + 9 * v51_4.toInt) qr 12 w61 → FE ksM [(12, 24, 24), (12, 27, 27), (12, 30, 30), (12, 31, 31), (69, 0, 64), (70, 0, 10), (71, 0, 295), (71, 216, 243), (71, 220, 247), (71, 221, 248), (71, 222, 249), (71, 223, 250), (71, 224, 251), (72, 0, 12), (73, 0, 10), (74, 0, 296), (75, 0, 301)] w0 w61 → RW w61 → KBk w0 w61 → gi w61 0 27 = 0 → gi w61 0 30 = 1 → gi w61 12 5 = f51_12_5 → gi w61 16 0 = f51_16_0 → lv_has ls 6 [(0, .ref (ad 0)), (1, .int a1), (2, .int a2), (3, .int v153_3), (4, .int v51_4), (5, .int v153_5)] → W p l e ({ frames := 9, cells := 0, slots := 0, locals := 194 }) s m (List.toArray [.ref (ad 0), .int a1, .int a2]) below meth c H locs 0 0 (MQ below (va_Qi (P_X12_round_3 ad cy B qr s1 a1 a2 w0) (fun u : va_W => wpost dC dI cy A u) A) (List.toArray [.ref (ad 0), .int a1, .int a2]) s 0 0 A) (F0 m 153 ls []) := by
        intro v153_3 v153_5 H locs ls w61 r62 t63 r64 t65 r66 t67 r68 t69 r70 t71 r74 t75 r77 t78 hw hT hF hRW hKB c72 c73 c76 c79 hl
        obtain ⟨x80, ex80⟩ : ∃ y : Int32, y = v51_4 + Int32.ofInt 1 := ⟨_, rfl⟩
        refine lv_iinc (v := x80) (lv' := [(4, .int x80), (0, .ref (ad 0)), (1, .int a1), (2, .int a2), (3, .int v153_3), (5, .int v153_5)]) hx hb dX12_round_153 hl (k := 4) rfl ex80.symm (by decide) rfl (fun ls hl => ?_)
        have ex80 : x80.toInt = v51_4.toInt + 1 := by rw [ex80]; exact wk_add (y := 1) (show -2147483648 ≤ v51_4.toInt + 1 by omega) (show v51_4.toInt + 1 ≤ 2147483647 by omega)
        refine lv_goto (tgt := 51) hx hb dX12_round_156 (by decide) ?_
        exact ih51 v153_3 x80 f51_12_5 f51_16_0 H locs ls w61 (show 0 ≤ a1.toInt from r62) (show a1.toInt ≤ 3 from t63) (show 0 ≤ a2.toInt from r64) (show a2.toInt ≤ 1 from t65) (show (-298) ≤ v153_3.toInt from r66) (show v153_3.toInt ≤ 300 from t67) (show 1 ≤ x80.toInt by first | with_reducible assumption | omega) (show x80.toInt ≤ 301 by first | with_reducible assumption | omega) (show 1 ≤ f51_12_5.toInt from r74) (show f51_12_5.toInt ≤ 4 from t75) (show 0 ≤ f51_16_0.toInt from r77) (show f51_16_0.toInt ≤ 18479 from t78) (show (301 - x80.toInt).toNat < n51 by first | exact tn_lt hm51 (by omega) (by omega) | omega) hw (hT.up (show (B + 9 + 9 * v51_4.toInt) ≤ (B + 0 + 9 * x80.toInt) by omega)) hF hRW hKB c72 c73 c76 c79 (lv_sub hl [1, 2, 3, 4, 0] rfl)
      have L94 : ∀ (n94 : Nat) (v94_3 : Int32) (v94_5 : Int32) (H : Heap) (locs : List Loc) (ls : Array Slot) (w81 : va_W), 0 ≤ a1.toInt → a1.toInt ≤ 3 → 0 ≤ a2.toInt → a2.toInt ≤ 1 → (-298) ≤ v94_3.toInt → v94_3.toInt ≤ 300 → 1 ≤ v51_4.toInt → v51_4.toInt ≤ 300 → 0 ≤ v94_5.toInt → v94_5.toInt ≤ 300 → 1 ≤ f51_12_5.toInt → f51_12_5.toInt ≤ 4 → 0 ≤ f51_16_0.toInt → f51_16_0.toInt ≤ 18479 → (300 - v94_5.toInt).toNat < n94 → Wd dC dI A s.heap H locs w81 → TW ksM ad cy (B + 9 + 9 * v51_4.toInt) qr 12 w81 → FE ksM [(12, 24, 24), (12, 27, 27), (12, 30, 30), (12, 31, 31), (69, 0, 64), (70, 0, 10), (71, 0, 295), (71, 216, 243), (71, 220, 247), (71, 221, 248), (71, 222, 249), (71, 223, 250), (71, 224, 251), (72, 0, 12), (73, 0, 10), (74, 0, 296), (75, 0, 301)] w0 w81 → RW w81 → KBk w0 w81 → gi w81 0 27 = 0 → gi w81 0 30 = 1 → gi w81 12 5 = f51_12_5 → gi w81 16 0 = f51_16_0 → lv_has ls 6 [(0, .ref (ad 0)), (1, .int a1), (2, .int a2), (3, .int v94_3), (4, .int v51_4), (5, .int v94_5)] → W p l e ({ frames := 9, cells := 0, slots := 0, locals := 194 }) s m (List.toArray [.ref (ad 0), .int a1, .int a2]) below meth c H locs 0 0 (MQ below (va_Qi (P_X12_round_3 ad cy B qr s1 a1 a2 w0) (fun u : va_W => wpost dC dI cy A u) A) (List.toArray [.ref (ad 0), .int a1, .int a2]) s 0 0 A) (F0 m 94 ls []) := by
        intro n94
        induction n94 with
        | zero => intro v94_3 v94_5 H locs ls w81 r82 t83 r84 t85 r86 t87 r88 t89 r90 t91 r94 t95 r97 t98 hm94 hw hT hF hRW hKB c92 c93 c96 c99 hl; omega
        | succ n94 ih94 =>
          intro v94_3 v94_5 H locs ls w81 r82 t83 r84 t85 r86 t87 r88 t89 r90 t91 r94 t95 r97 t98 hm94 hw hT hF hRW hKB c92 c93 c96 c99 hl
          have J147 : ∀ (v147_3 : Int32) (H : Heap) (locs : List Loc) (ls : Array Slot) (w100 : va_W), 0 ≤ a1.toInt → a1.toInt ≤ 3 → 0 ≤ a2.toInt → a2.toInt ≤ 1 → (-298) ≤ v147_3.toInt → v147_3.toInt ≤ 300 → 1 ≤ v51_4.toInt → v51_4.toInt ≤ 300 → 0 ≤ v94_5.toInt → v94_5.toInt ≤ 299 → 1 ≤ f51_12_5.toInt → f51_12_5.toInt ≤ 4 → 0 ≤ f51_16_0.toInt → f51_16_0.toInt ≤ 18479 → Wd dC dI A s.heap H locs w100 → TW ksM ad cy (B + 9 + 9 * v51_4.toInt) qr 12 w100 → FE ksM [(12, 24, 24), (12, 27, 27), (12, 30, 30), (12, 31, 31), (69, 0, 64), (70, 0, 10), (71, 0, 295), (71, 216, 243), (71, 220, 247), (71, 221, 248), (71, 222, 249), (71, 223, 250), (71, 224, 251), (72, 0, 12), (73, 0, 10), (74, 0, 296), (75, 0, 301)] w0 w100 → RW w100 → KBk w0 w100 → gi w100 0 27 = 0 → gi w100 0 30 = 1 → gi w100 12 5 = f51_12_5 → gi w100 16 0 = f51_16_0 → lv_has ls 6 [(0, .ref (ad 0)), (1, .int a1), (2, .int a2), (3, .int v147_3), (4, .int v51_4), (5, .int v94_5)] → W p l e ({ frames := 9, cells := 0, slots := 0, locals := 194 }) s m (List.toArray [.ref (ad 0), .int a1, .int a2]) below meth c H locs 0 0 (MQ below (va_Qi (P_X12_round_3 ad cy B qr s1 a1 a2 w0) (fun u : va_W => wpost dC dI cy A u) A) (List.toArray [.ref (ad 0), .int a1, .int a2]) s 0 0 A) (F0 m 147 ls []) := by
            intro v147_3 H locs ls w100 r101 t102 r103 t104 r105 t106 r107 t108 r109 t110 r113 t114 r116 t117 hw hT hF hRW hKB c111 c112 c115 c118 hl
            obtain ⟨x119, ex119⟩ : ∃ y : Int32, y = v94_5 + Int32.ofInt 1 := ⟨_, rfl⟩
            refine lv_iinc (v := x119) (lv' := [(5, .int x119), (0, .ref (ad 0)), (1, .int a1), (2, .int a2), (3, .int v147_3), (4, .int v51_4)]) hx hb dX12_round_147 hl (k := 5) rfl ex119.symm (by decide) rfl (fun ls hl => ?_)
            have ex119 : x119.toInt = v94_5.toInt + 1 := by rw [ex119]; exact wk_add (y := 1) (show -2147483648 ≤ v94_5.toInt + 1 by omega) (show v94_5.toInt + 1 ≤ 2147483647 by omega)
            refine lv_goto (tgt := 94) hx hb dX12_round_150 (by decide) ?_
            exact ih94 v147_3 x119 H locs ls w100 (show 0 ≤ a1.toInt from r101) (show a1.toInt ≤ 3 from t102) (show 0 ≤ a2.toInt from r103) (show a2.toInt ≤ 1 from t104) (show (-298) ≤ v147_3.toInt from r105) (show v147_3.toInt ≤ 300 from t106) (show 1 ≤ v51_4.toInt from r107) (show v51_4.toInt ≤ 300 from t108) (show 0 ≤ x119.toInt by first | with_reducible assumption | omega) (show x119.toInt ≤ 300 by first | with_reducible assumption | omega) (show 1 ≤ f51_12_5.toInt from r113) (show f51_12_5.toInt ≤ 4 from t114) (show 0 ≤ f51_16_0.toInt from r116) (show f51_16_0.toInt ≤ 18479 from t117) (show (300 - x119.toInt).toNat < n94 by first | exact tn_lt hm94 (by omega) (by omega) | omega) hw hT hF hRW hKB c111 c112 c115 c118 (lv_sub hl [1, 2, 3, 4, 5, 0] rfl)
          refine lv_iload hx hb dX12_round_94 (lv_at hl 5 rfl) ?_
          refine lv_iload hx hb dX12_round_96 (lv_at hl 4 rfl) ?_
          refine lv_icmp_ge (tgt := 153) hx hb dX12_round_98 (by decide) (fun c120 => ?_) (fun c120 => ?_)
          · have c120 : v51_4.toInt ≤ v94_5.toInt := wk_le.mp c120
            exact J153 v94_3 v94_5 H locs ls w81 (show 0 ≤ a1.toInt from r82) (show a1.toInt ≤ 3 from t83) (show 0 ≤ a2.toInt from r84) (show a2.toInt ≤ 1 from t85) (show (-298) ≤ v94_3.toInt from r86) (show v94_3.toInt ≤ 300 from t87) (show 1 ≤ v51_4.toInt from r88) (show v51_4.toInt ≤ 300 from t89) (show 0 ≤ v94_5.toInt from r90) (show v94_5.toInt ≤ 300 from t91) (show 1 ≤ f51_12_5.toInt from r94) (show f51_12_5.toInt ≤ 4 from t95) (show 0 ≤ f51_16_0.toInt from r97) (show f51_16_0.toInt ≤ 18479 from t98)  hw hT hF hRW hKB c92 c93 c96 c99 (lv_sub hl [0, 1, 2, 3, 4, 5] rfl)
          · have c120 : v94_5.toInt < v51_4.toInt := wk_leF c120
            refine lv_iload_n hx hb dX12_round_101 rfl (lv_at hl 3 rfl) ?_
            refine lv_bipush (v := (-2)) hx hb dX12_round_102 (by decide) ?_
            refine lv_icmp_ne (tgt := 153) hx hb dX12_round_104 (by decide) (fun c121 => ?_) (fun c121 => ?_)
            · have c121 : ¬ v94_3.toInt = (-2 : Int) := wk_eqF c121
              exact J153 v94_3 v94_5 H locs ls w81 (show 0 ≤ a1.toInt from r82) (show a1.toInt ≤ 3 from t83) (show 0 ≤ a2.toInt from r84) (show a2.toInt ≤ 1 from t85) (show (-298) ≤ v94_3.toInt from r86) (show v94_3.toInt ≤ 300 from t87) (show 1 ≤ v51_4.toInt from r88) (show v51_4.toInt ≤ 300 from t89) (show 0 ≤ v94_5.toInt from r90) (show v94_5.toInt ≤ 300 from t91) (show 1 ≤ f51_12_5.toInt from r94) (show f51_12_5.toInt ≤ 4 from t95) (show 0 ≤ f51_16_0.toInt from r97) (show f51_16_0.toInt ≤ 18479 from t98)  hw hT hF hRW hKB c92 c93 c96 c99 (lv_sub hl [0, 1, 2, 3, 4, 5] rfl)
            · have c121 : v94_3.toInt = (-2 : Int) := wk_eq.mp c121
              refine lv_aload_n hx hb dX12_round_107 rfl (lv_at hl 0 rfl) ?_
              refine lv_iload_n hx hb dX12_round_108 rfl (lv_at hl 1 rfl) ?_
              refine tk_Vi hC hK hw hT hA hE hSR kM_at0 (by decide) rfl (k_X12_isThere_1 l adK adV dC dI cy ad (B + 9 + 9 * v51_4.toInt) (by omega) (by omega) qr s1   a1 (show 0 ≤ a1.toInt from r82) (show a1.toInt ≤ 3 from t83) w81 H.size hT ) (cwV 1 hC.2.2.2.2 uV_RX12_416 rfl rfl rfl (by decide +kernel) ⟨Nat.le_of_ble_eq_true rfl, Nat.le_of_ble_eq_true rfl⟩) rfl hl.1 rfl (Nat.le_of_ble_eq_true rfl) dX12_round_109 (fun r122 w124 H locs hp123 hw => ?_)
              obtain ⟨rfl, hg126⟩ := hp123
              rcases hg126 with rfl | rfl
              · refine lv_if_ne (tgt := 153) hx hb dX12_round_112 (by decide) (fun c => absurd (by decide) c) (fun _ => ?_)
                refine lv_aload_n hx hb dX12_round_115 rfl (lv_at hl 0 rfl) ?_
                refine tk_getA hC hK hw hT hinX12 kM_at0 (by decide) rfl 33 (by decide) (List.mem_cons_of_mem _ uw_7_6) rfl rfl dX12_round_116 ?_
                refine lv_iload hx hb dX12_round_119 (lv_at hl 5 rfl) ?_
                refine tk_iald hC hK hw hT kM_at16 rfl rfl (show 0 ≤ v94_5.toInt from r90) (show v94_5.toInt < 301 from Int.lt_of_le_of_lt t91 (by decide)) dX12_round_121 (fun x127 c128 rx127 tx127 => ?_)
                refine lv_aload_n hx hb dX12_round_122 rfl (lv_at hl 0 rfl) ?_
                refine tk_getA hC hK hw hT hinX12 kM_at0 (by decide) rfl 33 (by decide) (List.mem_cons_of_mem _ uw_7_6) rfl rfl dX12_round_123 ?_
                refine lv_iload hx hb dX12_round_126 (lv_at hl 4 rfl) ?_
                refine tk_iald hC hK hw hT kM_at16 rfl rfl (show 0 ≤ v51_4.toInt from Int.le_trans (by decide) r88) (show v51_4.toInt < 301 from Int.lt_of_le_of_lt t89 (by decide)) dX12_round_128 (fun x129 c130 rx129 tx129 => ?_)
                refine lv_icmp_ne (tgt := 147) hx hb dX12_round_129 (by decide) (fun c131 => ?_) (fun c131 => ?_)
                · have c131 : ¬ x127.toInt = x129.toInt := wk_eqF c131
                  exact J147 v94_3 H locs ls w81 (show 0 ≤ a1.toInt from r82) (show a1.toInt ≤ 3 from t83) (show 0 ≤ a2.toInt from r84) (show a2.toInt ≤ 1 from t85) (show (-298) ≤ v94_3.toInt from r86) (show v94_3.toInt ≤ 300 from t87) (show 1 ≤ v51_4.toInt from r88) (show v51_4.toInt ≤ 300 from t89) (show 0 ≤ v94_5.toInt from r90) (show v94_5.toInt ≤ 299 by first | with_reducible assumption | omega) (show 1 ≤ f51_12_5.toInt from r94) (show f51_12_5.toInt ≤ 4 from t95) (show 0 ≤ f51_16_0.toInt from r97) (show f51_16_0.toInt ≤ 18479 from t98)  hw hT hF hRW hKB c92 c93 c96 c99 (lv_sub hl [0, 1, 2, 3, 4, 5] rfl)
                · have c131 : x127.toInt = x129.toInt := wk_eq.mp c131
                  refine lv_iload_n hx hb dX12_round_132 rfl (lv_at hl 2 rfl) ?_
                  refine lv_if_ne (tgt := 141) hx hb dX12_round_133 (by decide) (fun c132 => ?_) (fun c132 => ?_)
                  · have c132 : ¬ a2.toInt = (0 : Int) := wk_eqF c132
                    refine lv_iload hx hb dX12_round_141 (lv_at hl 4 rfl) ?_
                    refine lv_iload hx hb dX12_round_143 (lv_at hl 5 rfl) ?_
                    refine lv_isub hx hb dX12_round_145 ?_
                    refine lv_topi (fun x133 ex133 => ?_)
                    have ex133 : x133.toInt = v51_4.toInt - v94_5.toInt := by rw [ex133]; exact wk_sub (show (-2147483648) ≤ v51_4.toInt - v94_5.toInt by omega) (show v51_4.toInt - v94_5.toInt ≤ 2147483647 by omega)
                    refine lv_istore_n (lv' := [(3, .int x133), (0, .ref (ad 0)), (1, .int a1), (2, .int a2), (4, .int v51_4), (5, .int v94_5)]) hx hb dX12_round_146 rfl hl (by decide) rfl (fun ls hl => ?_)
                    exact J147 x133 H locs ls w81 (show 0 ≤ a1.toInt from r82) (show a1.toInt ≤ 3 from t83) (show 0 ≤ a2.toInt from r84) (show a2.toInt ≤ 1 from t85) (show (-298) ≤ x133.toInt by first | with_reducible assumption | omega) (show x133.toInt ≤ 300 by first | with_reducible assumption | omega) (show 1 ≤ v51_4.toInt from r88) (show v51_4.toInt ≤ 300 from t89) (show 0 ≤ v94_5.toInt from r90) (show v94_5.toInt ≤ 299 by first | with_reducible assumption | omega) (show 1 ≤ f51_12_5.toInt from r94) (show f51_12_5.toInt ≤ 4 from t95) (show 0 ≤ f51_16_0.toInt from r97) (show f51_16_0.toInt ≤ 18479 from t98)  hw hT hF hRW hKB c92 c93 c96 c99 (lv_sub hl [1, 2, 3, 0, 4, 5] rfl)
                  · have c132 : a2.toInt = (0 : Int) := wk_eq.mp c132
                    refine lv_iload hx hb dX12_round_136 (lv_at hl 5 rfl) ?_
                    refine lv_goto (tgt := 146) hx hb dX12_round_138 (by decide) ?_
                    refine lv_istore_n (lv' := [(3, .int v94_5), (0, .ref (ad 0)), (1, .int a1), (2, .int a2), (4, .int v51_4), (5, .int v94_5)]) hx hb dX12_round_146 rfl hl (by decide) rfl (fun ls hl => ?_)
                    exact J147 v94_5 H locs ls w81 (show 0 ≤ a1.toInt from r82) (show a1.toInt ≤ 3 from t83) (show 0 ≤ a2.toInt from r84) (show a2.toInt ≤ 1 from t85) (show (-298) ≤ v94_5.toInt from Int.le_trans (by decide) r90) (show v94_5.toInt ≤ 300 from t91) (show 1 ≤ v51_4.toInt from r88) (show v51_4.toInt ≤ 300 from t89) (show 0 ≤ v94_5.toInt from r90) (show v94_5.toInt ≤ 299 by first | with_reducible assumption | omega) (show 1 ≤ f51_12_5.toInt from r94) (show f51_12_5.toInt ≤ 4 from t95) (show 0 ≤ f51_16_0.toInt from r97) (show f51_16_0.toInt ≤ 18479 from t98)  hw hT hF hRW hKB c92 c93 c96 c99 (lv_sub hl [1, 2, 3, 0, 4, 5] rfl)
              · refine lv_if_ne (tgt := 153) hx hb dX12_round_112 (by decide) (fun _ => ?_) (fun c => absurd c (by decide))
                exact J153 v94_3 v94_5 H locs ls w81 (show 0 ≤ a1.toInt from r82) (show a1.toInt ≤ 3 from t83) (show 0 ≤ a2.toInt from r84) (show a2.toInt ≤ 1 from t85) (show (-298) ≤ v94_3.toInt from r86) (show v94_3.toInt ≤ 300 from t87) (show 1 ≤ v51_4.toInt from r88) (show v51_4.toInt ≤ 300 from t89) (show 0 ≤ v94_5.toInt from r90) (show v94_5.toInt ≤ 300 from t91) (show 1 ≤ f51_12_5.toInt from r94) (show f51_12_5.toInt ≤ 4 from t95) (show 0 ≤ f51_16_0.toInt from r97) (show f51_16_0.toInt ≤ 18479 from t98)  hw hT hF hRW hKB c92 c93 c96 c99 (lv_sub hl [0, 1, 2, 3, 4, 5] rfl)
      refine lv_iload hx hb dX12_round_51 (lv_at hl 4 rfl) ?_
      refine lv_sipush (v := 300) hx hb dX12_round_53 (by decide) ?_
      refine lv_icmp_gt (tgt := 159) hx hb dX12_round_56 (by decide) (fun c134 => ?_) (fun c134 => ?_)
      · have c134 : (300 : Int) < v51_4.toInt := wk_lt.mp c134
        exact J159 v51_3 v51_4 f51_12_5 f51_16_0 H locs ls w44 (show 0 ≤ a1.toInt from r45) (show a1.toInt ≤ 3 from t46) (show 0 ≤ a2.toInt from r47) (show a2.toInt ≤ 1 from t48) (show (-298) ≤ v51_3.toInt from r49) (show v51_3.toInt ≤ 300 from t50) (show 1 ≤ v51_4.toInt from r51) (show v51_4.toInt ≤ 301 from t52) (show 1 ≤ f51_12_5.toInt from r55) (show f51_12_5.toInt ≤ 4 from t56) (show 0 ≤ f51_16_0.toInt from r58) (show f51_16_0.toInt ≤ 18479 from t59)  hw (hT.up (show (B + 0 + 9 * v51_4.toInt) ≤ (B + 2709) by omega)) hF hRW hKB c53 c54 c57 c60 (lv_sub hl [0, 1, 2, 3, 4] rfl)
      · have c134 : v51_4.toInt ≤ (300 : Int) := wk_ltF c134
        refine lv_iload_n hx hb dX12_round_59 rfl (lv_at hl 3 rfl) ?_
        refine lv_bipush (v := (-2)) hx hb dX12_round_60 (by decide) ?_
        refine lv_icmp_ne (tgt := 159) hx hb dX12_round_62 (by decide) (fun c135 => ?_) (fun c135 => ?_)
        · have c135 : ¬ v51_3.toInt = (-2 : Int) := wk_eqF c135
          exact J159 v51_3 v51_4 f51_12_5 f51_16_0 H locs ls w44 (show 0 ≤ a1.toInt from r45) (show a1.toInt ≤ 3 from t46) (show 0 ≤ a2.toInt from r47) (show a2.toInt ≤ 1 from t48) (show (-298) ≤ v51_3.toInt from r49) (show v51_3.toInt ≤ 300 from t50) (show 1 ≤ v51_4.toInt from r51) (show v51_4.toInt ≤ 301 from t52) (show 1 ≤ f51_12_5.toInt from r55) (show f51_12_5.toInt ≤ 4 from t56) (show 0 ≤ f51_16_0.toInt from r58) (show f51_16_0.toInt ≤ 18479 from t59)  hw (hT.up (show (B + 0 + 9 * v51_4.toInt) ≤ (B + 2709) by omega)) hF hRW hKB c53 c54 c57 c60 (lv_sub hl [0, 1, 2, 3, 4] rfl)
        · have c135 : v51_3.toInt = (-2 : Int) := wk_eq.mp c135
          refine lv_aload_n hx hb dX12_round_65 rfl (lv_at hl 0 rfl) ?_
          refine lv_iload_n hx hb dX12_round_66 rfl (lv_at hl 1 rfl) ?_
          refine tk_Vi hC hK hw hT hA hE hSR kM_at0 (by decide) rfl (k_X12_isThere_1 l adK adV dC dI cy ad (B + 0 + 9 * v51_4.toInt) (by omega) (by omega) qr s1   a1 (show 0 ≤ a1.toInt from r45) (show a1.toInt ≤ 3 from t46) w44 H.size hT ) (cwV 1 hC.2.2.2.2 uV_RX12_416 rfl rfl rfl (by decide +kernel) ⟨Nat.le_of_ble_eq_true rfl, Nat.le_of_ble_eq_true rfl⟩) rfl hl.1 rfl (Nat.le_of_ble_eq_true rfl) dX12_round_67 (fun r136 w138 H locs hp137 hw => ?_)
          obtain ⟨rfl, hg140⟩ := hp137
          rcases hg140 with rfl | rfl
          · refine lv_if_ne (tgt := 159) hx hb dX12_round_70 (by decide) (fun c => absurd (by decide) c) (fun _ => ?_)
            refine lv_aload_n hx hb dX12_round_73 rfl (lv_at hl 0 rfl) ?_
            refine lv_iload_n hx hb dX12_round_74 rfl (lv_at hl 1 rfl) ?_
            refine tk_Vi hC hK hw hT hA hE hSR kM_at0 (by decide) rfl (k_X12_steps_1 l adK adV dC dI cy ad (B + 0 + 9 * v51_4.toInt) (by omega) (by omega) qr s1   a1 (show 0 ≤ a1.toInt from r45) (show a1.toInt ≤ 3 from t46) w44 H.size hT hRW) (cwV 1 hC.2.2.2.2 uV_RX12_419 rfl rfl rfl (by decide +kernel) ⟨Nat.le_of_ble_eq_true rfl, Nat.le_of_ble_eq_true rfl⟩) rfl hl.1 rfl (Nat.le_of_ble_eq_true rfl) dX12_round_75 (fun r141 w143 H locs hp142 hw => ?_)
            obtain ⟨hT, k144, hg145⟩ := hp142
            have hT := hT.up (B' := (B + 9 + 9 * v51_4.toInt)) (by omega)
            have hKB := KB_FE k144 (fun _ => rfl) hKB
            have hRW := RW_FE k144 (fun _ => rfl) (fun _ => rfl) (fun _ => rfl) hRW
            have hF := hF.tr k144 (by decide)
            have c146 := k144.gi kM_at0 (by decide) c53
            have c147 := k144.gi kM_at0 (by decide) c54
            have c148 := k144.gi kM_at12 (by decide) c57
            have c149 := k144.gi kM_at16 (by decide) c60
            rcases hg145 with rfl | rfl
            · refine lv_pop hx hb dX12_round_78 rfl ?_
              refine lv_aload_n hx hb dX12_round_79 rfl (lv_at hl 0 rfl) ?_
              refine tk_getA hC hK hw hT hinX12 kM_at0 (by decide) rfl 33 (by decide) (List.mem_cons_of_mem _ uw_7_6) rfl rfl dX12_round_80 ?_
              refine lv_iload hx hb dX12_round_83 (lv_at hl 4 rfl) ?_
              refine lv_aload_n hx hb dX12_round_85 rfl (lv_at hl 0 rfl) ?_
              refine lv_iload_n hx hb dX12_round_86 rfl (lv_at hl 1 rfl) ?_
              refine tk_Vi hC hK hw hT hA hE hSR kM_at0 (by decide) rfl (k_X12_asHeIs_1 l adK adV dC dI cy ad (B + 9 + 9 * v51_4.toInt) (by omega) (by omega) qr s1   a1 (show 0 ≤ a1.toInt from r45) (show a1.toInt ≤ 3 from t46) w143 H.size hT ) (cwV 1 hC.2.2.2.2 uV_RX12_432 rfl rfl rfl (by decide +kernel) ⟨Nat.le_of_ble_eq_true rfl, Nat.le_of_ble_eq_true rfl⟩) rfl hl.1 rfl (Nat.le_of_ble_eq_true rfl) dX12_round_87 (fun r150 w152 H locs hp151 hw => ?_)
              obtain ⟨rfl, hg156⟩ := hp151
              obtain ⟨g154, g155⟩ := hg156
              refine tk_iast hC hK hw hT kM_at16 (by decide) rfl rfl (show 0 ≤ v51_4.toInt from Int.le_trans (by decide) r51) (show v51_4.toInt < 301 from Int.lt_of_le_of_lt c134 (by decide)) (wk_i32 r150).1 (wk_i32 r150).2 dX12_round_90 (fun H locs w157 hw hT k159 c158 => ?_)
              have hRW := RW_F1 k159 (by decide) (by decide) (by decide) hRW
              have hKB := KB_F1 k159 (by decide) hKB
              have hF := hF.put kM_at16 (inE_of (a := 0) (b := 301) (by decide) (show 0 ≤ v51_4.toInt.toNat by omega) (show v51_4.toInt.toNat ≤ 301 by omega)) k159
              have c160 := k159.gi (Or.inl (tk_ne kM_at0 kM_at16 (by decide))) c146
              have c161 := k159.gi (Or.inl (tk_ne kM_at0 kM_at16 (by decide))) c147
              have c162 := k159.gi (Or.inl (tk_ne kM_at12 kM_at16 (by decide))) c148
              have c163 := k159.gi (Or.inr (show 0 ≠ v51_4.toInt.toNat by omega)) c149
              refine lv_iconst (v := 0) hx hb dX12_round_91 (by decide) ?_
              refine lv_istore (lv' := [(5, .int 0), (0, .ref (ad 0)), (1, .int a1), (2, .int a2), (3, .int v51_3), (4, .int v51_4)]) hx hb dX12_round_92 hl (by decide) rfl (fun ls hl => ?_)
              exact L94 ((300 - (0 : Int)).toNat + 1) v51_3 0 H locs ls w157 (show 0 ≤ a1.toInt from r45) (show a1.toInt ≤ 3 from t46) (show 0 ≤ a2.toInt from r47) (show a2.toInt ≤ 1 from t48) (show (-298) ≤ v51_3.toInt from r49) (show v51_3.toInt ≤ 300 from t50) (show 1 ≤ v51_4.toInt from r51) (show v51_4.toInt ≤ 300 from c134) (by decide) (by decide) (show 1 ≤ f51_12_5.toInt from r55) (show f51_12_5.toInt ≤ 4 from t56) (show 0 ≤ f51_16_0.toInt from r58) (show f51_16_0.toInt ≤ 18479 from t59) (Nat.lt_succ_self _) hw hT hF hRW hKB c160 c161 c162 c163 (lv_sub hl [1, 2, 3, 4, 5, 0] rfl)
            · refine lv_pop hx hb dX12_round_78 rfl ?_
              refine lv_aload_n hx hb dX12_round_79 rfl (lv_at hl 0 rfl) ?_
              refine tk_getA hC hK hw hT hinX12 kM_at0 (by decide) rfl 33 (by decide) (List.mem_cons_of_mem _ uw_7_6) rfl rfl dX12_round_80 ?_
              refine lv_iload hx hb dX12_round_83 (lv_at hl 4 rfl) ?_
              refine lv_aload_n hx hb dX12_round_85 rfl (lv_at hl 0 rfl) ?_
              refine lv_iload_n hx hb dX12_round_86 rfl (lv_at hl 1 rfl) ?_
              refine tk_Vi hC hK hw hT hA hE hSR kM_at0 (by decide) rfl (k_X12_asHeIs_1 l adK adV dC dI cy ad (B + 9 + 9 * v51_4.toInt) (by omega) (by omega) qr s1   a1 (show 0 ≤ a1.toInt from r45) (show a1.toInt ≤ 3 from t46) w143 H.size hT ) (cwV 1 hC.2.2.2.2 uV_RX12_432 rfl rfl rfl (by decide +kernel) ⟨Nat.le_of_ble_eq_true rfl, Nat.le_of_ble_eq_true rfl⟩) rfl hl.1 rfl (Nat.le_of_ble_eq_true rfl) dX12_round_87 (fun r164 w166 H locs hp165 hw => ?_)
              obtain ⟨rfl, hg170⟩ := hp165
              obtain ⟨g168, g169⟩ := hg170
              refine tk_iast hC hK hw hT kM_at16 (by decide) rfl rfl (show 0 ≤ v51_4.toInt from Int.le_trans (by decide) r51) (show v51_4.toInt < 301 from Int.lt_of_le_of_lt c134 (by decide)) (wk_i32 r164).1 (wk_i32 r164).2 dX12_round_90 (fun H locs w171 hw hT k173 c172 => ?_)
              have hRW := RW_F1 k173 (by decide) (by decide) (by decide) hRW
              have hKB := KB_F1 k173 (by decide) hKB
              have hF := hF.put kM_at16 (inE_of (a := 0) (b := 301) (by decide) (show 0 ≤ v51_4.toInt.toNat by omega) (show v51_4.toInt.toNat ≤ 301 by omega)) k173
              have c174 := k173.gi (Or.inl (tk_ne kM_at0 kM_at16 (by decide))) c146
              have c175 := k173.gi (Or.inl (tk_ne kM_at0 kM_at16 (by decide))) c147
              have c176 := k173.gi (Or.inl (tk_ne kM_at12 kM_at16 (by decide))) c148
              have c177 := k173.gi (Or.inr (show 0 ≠ v51_4.toInt.toNat by omega)) c149
              refine lv_iconst (v := 0) hx hb dX12_round_91 (by decide) ?_
              refine lv_istore (lv' := [(5, .int 0), (0, .ref (ad 0)), (1, .int a1), (2, .int a2), (3, .int v51_3), (4, .int v51_4)]) hx hb dX12_round_92 hl (by decide) rfl (fun ls hl => ?_)
              exact L94 ((300 - (0 : Int)).toNat + 1) v51_3 0 H locs ls w171 (show 0 ≤ a1.toInt from r45) (show a1.toInt ≤ 3 from t46) (show 0 ≤ a2.toInt from r47) (show a2.toInt ≤ 1 from t48) (show (-298) ≤ v51_3.toInt from r49) (show v51_3.toInt ≤ 300 from t50) (show 1 ≤ v51_4.toInt from r51) (show v51_4.toInt ≤ 300 from c134) (by decide) (by decide) (show 1 ≤ f51_12_5.toInt from r55) (show f51_12_5.toInt ≤ 4 from t56) (show 0 ≤ f51_16_0.toInt from r58) (show f51_16_0.toInt ≤ 18479 from t59) (Nat.lt_succ_self _) hw hT hF hRW hKB c174 c175 c176 c177 (lv_sub hl [1, 2, 3, 4, 5, 0] rfl)
          · refine lv_if_ne (tgt := 159) hx hb dX12_round_70 (by decide) (fun _ => ?_) (fun c => absurd c (by decide))
            exact J159 v51_3 v51_4 f51_12_5 f51_16_0 H locs ls w44 (show 0 ≤ a1.toInt from r45) (show a1.toInt ≤ 3 from t46) (show 0 ≤ a2.toInt from r47) (show a2.toInt ≤ 1 from t48) (show (-298) ≤ v51_3.toInt from r49) (show v51_3.toInt ≤ 300 from t50) (show 1 ≤ v51_4.toInt from r51) (show v51_4.toInt ≤ 301 from t52) (show 1 ≤ f51_12_5.toInt from r55) (show f51_12_5.toInt ≤ 4 from t56) (show 0 ≤ f51_16_0.toInt from r58) (show f51_16_0.toInt ≤ 18479 from t59)  hw (hT.up (show (B + 0 + 9 * v51_4.toInt) ≤ (B + 2709) by omega)) hF hRW hKB c53 c54 c57 c60 (lv_sub hl [0, 1, 2, 3, 4] rfl)
  refine lv_aload_n hx hb dX12_round_0 rfl (lv_at hl 0 rfl) ?_
  refine lv_iload_n hx hb dX12_round_1 rfl (lv_at hl 1 rfl) ?_
  refine tk_Vi hC hK hw hT hA hE hSR kM_at0 (by decide) rfl (k_X12_isWalker_1 l adK adV dC dI cy ad B hB0 (Int.le_trans hB1 (by decide)) qr s1   a1 w0 s.heap.size hT ) (cwV 1 hC.2.2.2.2 uV_RX12_367 rfl rfl rfl (by decide +kernel) ⟨Nat.le_of_ble_eq_true rfl, Nat.le_of_ble_eq_true rfl⟩) rfl hl.1 rfl (Nat.le_of_ble_eq_true rfl) dX12_round_2 (fun r178 w180 H locs hp179 hw => ?_)
  obtain ⟨rfl, hg186⟩ := hp179
  rcases hg186 with rfl | ⟨rfl, g182, g183, ⟨x184, c185, rx184, tx184⟩⟩
  · refine lv_if_eq (tgt := 18) hx hb dX12_round_5 (by decide) (fun _ => ?_) (fun c => absurd (by decide) c)
    exact J18  H locs ls w0   hw hT hF hRW hSA cf0_ (lv_sub hl [0, 1, 2] rfl)
  · refine lv_if_eq (tgt := 18) hx hb dX12_round_5 (by decide) (fun c => absurd c (by decide)) (fun _ => ?_)
    refine lv_iload_n hx hb dX12_round_8 rfl (lv_at hl 2 rfl) ?_
    refine lv_i2l hx hb dX12_round_9 rfl ?_
    refine lv_topl (fun x187 ex187 => ?_)
    have ex187 : x187.toInt = a2.toInt := by rw [ex187]; exact wk_i2l _
    have bx187 := wk_i32 a2
    refine lv_lconst (v := 0) hx hb dX12_round_10 (by decide) ?_
    refine lv_lconst (v := 1) hx hb dX12_round_11 (by decide) ?_
    refine tk_Si hC hK hw hT hA hE hSR (k_X12_in_12 l adK adV dC dI cy ad B hB0 (Int.le_trans hB1 (by decide)) qr s1   x187 (show (-2147483648) ≤ x187.toInt by first | with_reducible assumption | omega) (show x187.toInt ≤ 2147483647 by first | with_reducible assumption | omega) w0 H.size hT ) (va_cwS 3 hC.2.2.2.2 uS_RX12_122 rfl rfl rfl (by decide +kernel) ⟨Nat.le_of_ble_eq_true rfl, Nat.le_of_ble_eq_true rfl⟩) rfl hl.1 rfl (Nat.le_of_ble_eq_true rfl) dX12_round_12 (fun r188 w190 H locs hp189 hw => ?_)
    obtain ⟨rfl, hg194⟩ := hp189
    rcases hg194 with rfl | ⟨rfl, g192, g193⟩
    · refine lv_if_ne (tgt := 20) hx hb dX12_round_15 (by decide) (fun c => absurd (by decide) c) (fun _ => ?_)
      exact J18  H locs ls w0   hw hT hF hRW hSA cf0_ (lv_sub hl [0, 1, 2] rfl)
    · refine lv_if_ne (tgt := 20) hx hb dX12_round_15 (by decide) (fun _ => ?_) (fun c => absurd c (by decide))
      refine lv_aload_n hx hb dX12_round_20 rfl (lv_at hl 0 rfl) ?_
      refine tk_Vv hC hK hw hT hA hE hSR kM_at0 (by decide) rfl (k_X12_keeps_1 l adK adV dC dI cy ad B hB0 (Int.le_trans hB1 (by decide)) qr s1    w0 H.size hT ) (cwV 0 hC.2.2.2.2 uV_RX12_426 rfl rfl rfl (by decide +kernel) ⟨Nat.le_of_ble_eq_true rfl, Nat.le_of_ble_eq_true rfl⟩) rfl hl.1 rfl (Nat.le_of_ble_eq_true rfl) dX12_round_21 (fun w197 H locs hp196 hw => ?_)
      obtain ⟨hT, k198, hg203⟩ := hp196
      have hSA := SA_FE k198 (fun _ => rfl) hSA
      have hRW := RW_FE k198 (fun _ => rfl) (fun _ => rfl) (fun _ => rfl) hRW
      have hF := hF.tr k198 (by decide)
      have c204 := k198.gi kM_at0 (by decide) cf0_
      have c205 := k198.gi kM_at12 (by decide) c185
      obtain ⟨c199, c200, c201, hq202⟩ := hg203
      have hKB : KBk w0 w197 := fun j hj => (hq202 j hj).trans ((k198.gi kM_at12 rfl rfl).symm.trans (hSA j hj))
      refine lv_aload_n hx hb dX12_round_24 rfl (lv_at hl 0 rfl) ?_
      refine lv_iconst (v := 1) hx hb dX12_round_25 (by decide) ?_
      refine tk_putz hC hK hw hT hinX12 tyX12_ok nmX12 kM_at0 (by decide) rfl rfl 30 (by decide) (List.mem_cons_of_mem _ uw_47_4) rfl rfl rfl rfl (by decide) (by decide) dX12_round_26 (fun H locs w206 hw hT k208 c207 => ?_)
      have hRW := RW_F1 k208 (by decide) (by decide) (by decide) hRW
      have hSA := SA_F1 k208 (by decide) hSA
      have hKB := KB_F1 k208 (by decide) hKB
      have hF := hF.put kM_at0 (k := 30) (by decide) k208
      have c209 := k208.gi (Or.inr (by decide)) c204
      have c210 := k208.gi (Or.inr (by decide)) c205
      refine lv_aload_n hx hb dX12_round_29 rfl (lv_at hl 0 rfl) ?_
      refine lv_iconst (v := 0) hx hb dX12_round_30 (by decide) ?_
      refine tk_putz hC hK hw hT hinX12 tyX12_ok nmX12 kM_at0 (by decide) rfl rfl 27 (by decide) (List.mem_cons_of_mem _ uw_7_2) rfl rfl rfl rfl (by decide) (by decide) dX12_round_31 (fun H locs w211 hw hT k213 c212 => ?_)
      have hRW := RW_F1 k213 (by decide) (by decide) (by decide) hRW
      have hSA := SA_F1 k213 (by decide) hSA
      have hKB := KB_F1 k213 (by decide) hKB
      have hF := hF.put kM_at0 (k := 27) (by decide) k213
      have c214 := k213.gi (Or.inr (by decide)) c210
      have c215 := k213.gi (Or.inr (by decide)) c207
      refine lv_bipush (v := (-2)) hx hb dX12_round_34 (by decide) ?_
      refine lv_istore_n (lv' := [(3, .int (-2)), (0, .ref (ad 0)), (1, .int a1), (2, .int a2)]) hx hb dX12_round_36 rfl hl (by decide) rfl (fun ls hl => ?_)
      refine lv_aload_n hx hb dX12_round_37 rfl (lv_at hl 1 rfl) ?_
      refine tk_getA hC hK hw hT hinX12 kM_at0 (by decide) rfl 33 (by decide) (List.mem_cons_of_mem _ uw_7_6) rfl rfl dX12_round_38 ?_
      refine lv_iconst (v := 0) hx hb dX12_round_41 (by decide) ?_
      refine lv_aload_n hx hb dX12_round_42 rfl (lv_at hl 1 rfl) ?_
      refine lv_iload_n hx hb dX12_round_43 rfl (lv_at hl 2 rfl) ?_
      refine tk_Vi hC hK hw hT hA hE hSR kM_at0 (by decide) rfl (k_X12_asHeIs_1 l adK adV dC dI cy ad B hB0 (Int.le_trans hB1 (by decide)) qr s1   a1 (show 0 ≤ a1.toInt by first | with_reducible assumption | omega) (show a1.toInt ≤ 3 by first | with_reducible assumption | omega) w211 H.size hT ) (cwV 1 hC.2.2.2.2 uV_RX12_432 rfl rfl rfl (by decide +kernel) ⟨Nat.le_of_ble_eq_true rfl, Nat.le_of_ble_eq_true rfl⟩) rfl hl.1 rfl (Nat.le_of_ble_eq_true rfl) dX12_round_44 (fun r216 w218 H locs hp217 hw => ?_)
      obtain ⟨rfl, hg222⟩ := hp217
      obtain ⟨g220, g221⟩ := hg222
      refine tk_iast hC hK hw hT kM_at16 (by decide) rfl rfl (by decide) (by decide) (wk_i32 r216).1 (wk_i32 r216).2 dX12_round_47 (fun H locs w223 hw hT k225 c224 => ?_)
      have hRW := RW_F1 k225 (by decide) (by decide) (by decide) hRW
      have hSA := SA_F1 k225 (by decide) hSA
      have hKB := KB_F1 k225 (by decide) hKB
      have hF := hF.put kM_at16 (inE_of (a := 0) (b := 301) (by decide) (by decide) (by decide)) k225
      have c226 := k225.gi (Or.inl (tk_ne kM_at12 kM_at16 (by decide))) c214
      have c227 := k225.gi (Or.inl (tk_ne kM_at0 kM_at16 (by decide))) c215
      have c228 := k225.gi (Or.inl (tk_ne kM_at0 kM_at16 (by decide))) c212
      have c224 : gi w223 16 0 = r216 := c224
      refine lv_iconst (v := 1) hx hb dX12_round_48 (by decide) ?_
      refine lv_istore (lv' := [(4, .int 1), (3, .int (-2)), (0, .ref (ad 0)), (1, .int a1), (2, .int a2)]) hx hb dX12_round_49 hl (by decide) rfl (fun ls hl => ?_)
      exact L51 ((301 - (1 : Int)).toNat + 1) (-2) 1 x184 r216 H locs ls w223 (show 0 ≤ a1.toInt by first | with_reducible assumption | omega) (show a1.toInt ≤ 3 by first | with_reducible assumption | omega) (show 0 ≤ a2.toInt by first | with_reducible assumption | omega) (show a2.toInt ≤ 1 by first | with_reducible assumption | omega) (by decide) (by decide) (by decide) (by decide) (show 1 ≤ x184.toInt by first | with_reducible assumption | omega) (show x184.toInt ≤ 4 by first | with_reducible assumption | omega) (show 0 ≤ r216.toInt by first | with_reducible assumption | omega) (show r216.toInt ≤ 18479 by first | with_reducible assumption | omega) (Nat.lt_succ_self _) hw (hT.up (show B ≤ (B + 0 + 9 * (1 : Int32).toInt) by rw [show (1 : Int32).toInt = 1 by decide]; omega)) hF hRW hKB c228 c227 c226 c224 (lv_sub hl [2, 3, 4, 1, 0] rfl)
