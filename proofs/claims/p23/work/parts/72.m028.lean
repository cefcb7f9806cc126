abbrev P_X12_count_1 (ad : Nat → Nat) (cy : Nat → ClassId) (B : Int) (qr : Nat) (s1 : Int) (a1 : Int32) (w0 : va_W) : Int32 → va_W → Prop := fun r u => w0 = u ∧ ((0 ≤ r.toInt ∧ 0 ≤ a1.toInt ∧ a1.toInt ≤ 10) ∨ (0 ≤ r.toInt ∧ r.toInt ≤ 400 ∧ 11 ≤ a1.toInt ∧ a1.toInt ≤ 11 ∧ (∃ y : Int32, gi u 0 1 = y ∧ 0 ≤ y.toInt ∧ y.toInt ≤ 400)) ∨ (r = (-1)))
set_option maxHeartbeats 4000000 in
set_option maxRecDepth 100000 in
theorem k_X12_count_1 (l : Launch) (adK adV : Nat → Nat) (dC : Nat → ClassId) (dI : Nat → Nat → Nat) (cy : Nat → ClassId) (ad : Nat → Nat) (B : Int) (hB0 : 100000 ≤ B) (hB1 : B ≤ 1073741824) (qr : Nat) (s1 : Int)  (a1 : Int32) (w0 : va_W) (sz : Nat) (hT : TW ksM ad cy B qr 12 w0)  : Met l yX12_count (wu yX12_count cX12_count 2 (some .int)) ({ frames := 1, cells := 0, slots := 0, locals := 12 }) (va_Pc [.ref (ad 0), .int a1] (wpreS adK adV dC dI cy sz w0)) (va_Qi (P_X12_count_1 ad cy B qr s1 a1 w0) (fun u : va_W => wpost dC dI cy (va_A w0 sz) u) (va_A w0 sz)) 0 0 (va_A w0 sz) := by
  refine Met.ofW (cc := cX12_count) (maxL := 2) (ret := (some .int)) (by decide) rfl ?_
  intro p e s m args below meth c s₁ Bk hml hv
  obtain ⟨rfl, ⟨hsz, hP, hK, hD0⟩, hE, hSR⟩ := hv
  have hx := Bk.exec
  have hb := Bk.bytes
  have hr := Bk.returns
  have hlocks := Bk.notSynchronized
  have hC : CallFix p m c cX12_count 2 s _ (wu yX12_count cX12_count 2 (some .int)) RX12 := ⟨hx, hb, hml, findClass_of_methodNamed Bk.named, atoms_spec (ws := (wu yX12_count cX12_count 2 (some .int))) Bk.pre⟩
  subst hsz
  have hD := hD0.self (sz := s.heap.size)
  generalize hAe : va_A w0 s.heap.size = A at hD hE ⊢
  have hA : ∀ q : Nat, s.heap.size ≤ q → A q := fun q h => by rw [← hAe]; exact Or.inr h
  have hw : Wd dC dI A s.heap s.heap [] w0 := ⟨hP, hD, va_S.rf⟩
  have hF : FE ksM ([] : List (Nat × Nat × Nat)) w0 w0 := FE.rf
  have hl := lv_entry ([.ref (ad 0), .int a1]) (n := 2) (Nat.le_of_ble_eq_true rfl)
  rw [lg_entry_eq]
  generalize (lg_sl ([.ref (ad 0), .int a1]) ++ List.replicate (2 - (lg_sl ([.ref (ad 0), .int a1])).length) Slot.unset).toArray = ls at hl ⊢
  have hl : lv_has ls 2 [(0, .ref (ad 0)), (1, .int a1)] := hl
  generalize hloc : ([] : List Loc) = locs at hw ⊢
  have hinX12 : ∀ w ∈ u_ws RX12 TX12 42, w ∈ (wu yX12_count cX12_count 2 (some .int)) := fun _ h => List.mem_cons_of_mem _ (up_71 h)
  refine lv_iload_n hx hb dX12_count_0 rfl (lv_at hl 1 rfl) ?_
  rcases (show a1.toInt = 0 ∨ a1.toInt = 1 ∨ a1.toInt = 2 ∨ a1.toInt = 3 ∨ a1.toInt = 4 ∨ a1.toInt = 5 ∨ a1.toInt = 6 ∨ a1.toInt = 7 ∨ a1.toInt = 8 ∨ a1.toInt = 9 ∨ a1.toInt = 10 ∨ a1.toInt = 11 ∨ a1.toInt < 0 ∨ 11 < a1.toInt by omega) with c1 | c1 | c1 | c1 | c1 | c1 | c1 | c1 | c1 | c1 | c1 | c1 | c1 | c1
  · refine lv_tableIn (off := 63) (tgt := 64) hx hb dX12_count_1 (by omega) (by omega) (by rw [c1]; rfl) (by decide) ?_
    refine lv_aload_n hx hb dX12_count_64 rfl (lv_at hl 0 rfl) ?_
    refine tk_getA hC hK hw hT hinX12 kM_at0 (by decide) rfl 26 (by decide) (List.mem_cons_of_mem _ uw_7_1) rfl rfl dX12_count_65 ?_
    refine lv_iload_n hx hb dX12_count_68 rfl (lv_at hl 1 rfl) ?_
    refine tk_ialdR hC hK hw hT kM_at12 rfl (show 0 ≤ a1.toInt by first | with_reducible assumption | omega) (show a1.toInt < 296 by first | with_reducible assumption | omega) dX12_count_69 (fun x2 c3 Ex2 => ?_)
    have c3 : gi w0 12 (a1.toInt).toNat = x2 := (congrArg (gi w0 12) (congrArg Int.toNat (show a1.toInt = a1.toInt from rfl))).trans c3
    have bx2 := tk_rgI rfl 0 1 1 0 10 (by decide +kernel) ⟨(a1.toInt - 0).toNat, by omega, show a1.toInt.toNat = 0 + 1 * (a1.toInt - 0).toNat by omega⟩ Ex2
    exact tk_iret hC hr hlocks hK ⟨rfl, (Or.inl ⟨(show 0 ≤ x2.toInt by first | with_reducible assumption | omega), (show 0 ≤ a1.toInt by first | with_reducible assumption | omega), (show a1.toInt ≤ 10 by first | with_reducible assumption | omega)⟩)⟩ hw dX12_count_70
  · refine lv_tableIn (off := 63) (tgt := 64) hx hb dX12_count_1 (by omega) (by omega) (by rw [c1]; rfl) (by decide) ?_
    refine lv_aload_n hx hb dX12_count_64 rfl (lv_at hl 0 rfl) ?_
    refine tk_getA hC hK hw hT hinX12 kM_at0 (by decide) rfl 26 (by decide) (List.mem_cons_of_mem _ uw_7_1) rfl rfl dX12_count_65 ?_
    refine lv_iload_n hx hb dX12_count_68 rfl (lv_at hl 1 rfl) ?_
    refine tk_ialdR hC hK hw hT kM_at12 rfl (show 0 ≤ a1.toInt by first | with_reducible assumption | omega) (show a1.toInt < 296 by first | with_reducible assumption | omega) dX12_count_69 (fun x4 c5 Ex4 => ?_)
    have c5 : gi w0 12 (a1.toInt).toNat = x4 := (congrArg (gi w0 12) (congrArg Int.toNat (show a1.toInt = a1.toInt from rfl))).trans c5
    have bx4 : 0 ≤ x4.toInt ∧ x4.toInt ≤ 12 := by have q := Ex4; rw [show a1.toNatClampNeg = 1 from (show a1.toInt.toNat = 1 by first | exact Int.le_antisymm (by omega) (by omega) | omega)] at q; exact (tk_rg1 rfl).mp q
    exact tk_iret hC hr hlocks hK ⟨rfl, (Or.inl ⟨(show 0 ≤ x4.toInt by first | with_reducible assumption | omega), (show 0 ≤ a1.toInt by first | with_reducible assumption | omega), (show a1.toInt ≤ 10 by first | with_reducible assumption | omega)⟩)⟩ hw dX12_count_70
  · refine lv_tableIn (off := 63) (tgt := 64) hx hb dX12_count_1 (by omega) (by omega) (by rw [c1]; rfl) (by decide) ?_
    refine lv_aload_n hx hb dX12_count_64 rfl (lv_at hl 0 rfl) ?_
    refine tk_getA hC hK hw hT hinX12 kM_at0 (by decide) rfl 26 (by decide) (List.mem_cons_of_mem _ uw_7_1) rfl rfl dX12_count_65 ?_
    refine lv_iload_n hx hb dX12_count_68 rfl (lv_at hl 1 rfl) ?_
    refine tk_ialdR hC hK hw hT kM_at12 rfl (show 0 ≤ a1.toInt by first | with_reducible assumption | omega) (show a1.toInt < 296 by first | with_reducible assumption | omega) dX12_count_69 (fun x6 c7 Ex6 => ?_)
    have c7 : gi w0 12 (a1.toInt).toNat = x6 := (congrArg (gi w0 12) (congrArg Int.toNat (show a1.toInt = a1.toInt from rfl))).trans c7
    have bx6 := tk_rgI rfl 2 1 1 0 8 (by decide +kernel) ⟨(a1.toInt - 2).toNat, by omega, show a1.toInt.toNat = 2 + 1 * (a1.toInt - 2).toNat by omega⟩ Ex6
    exact tk_iret hC hr hlocks hK ⟨rfl, (Or.inl ⟨(show 0 ≤ x6.toInt by first | with_reducible assumption | omega), (show 0 ≤ a1.toInt by first | with_reducible assumption | omega), (show a1.toInt ≤ 10 by first | with_reducible assumption | omega)⟩)⟩ hw dX12_count_70
  · refine lv_tableIn (off := 63) (tgt := 64) hx hb dX12_count_1 (by omega) (by omega) (by rw [c1]; rfl) (by decide) ?_
    refine lv_aload_n hx hb dX12_count_64 rfl (lv_at hl 0 rfl) ?_
    refine tk_getA hC hK hw hT hinX12 kM_at0 (by decide) rfl 26 (by decide) (List.mem_cons_of_mem _ uw_7_1) rfl rfl dX12_count_65 ?_
    refine lv_iload_n hx hb dX12_count_68 rfl (lv_at hl 1 rfl) ?_
    refine tk_ialdR hC hK hw hT kM_at12 rfl (show 0 ≤ a1.toInt by first | with_reducible assumption | omega) (show a1.toInt < 296 by first | with_reducible assumption | omega) dX12_count_69 (fun x8 c9 Ex8 => ?_)
    have c9 : gi w0 12 (a1.toInt).toNat = x8 := (congrArg (gi w0 12) (congrArg Int.toNat (show a1.toInt = a1.toInt from rfl))).trans c9
    have bx8 := tk_rgI rfl 3 1 1 0 4 (by decide +kernel) ⟨(a1.toInt - 3).toNat, by omega, show a1.toInt.toNat = 3 + 1 * (a1.toInt - 3).toNat by omega⟩ Ex8
    exact tk_iret hC hr hlocks hK ⟨rfl, (Or.inl ⟨(show 0 ≤ x8.toInt by first | with_reducible assumption | omega), (show 0 ≤ a1.toInt by first | with_reducible assumption | omega), (show a1.toInt ≤ 10 by first | with_reducible assumption | omega)⟩)⟩ hw dX12_count_70
  · refine lv_tableIn (off := 70) (tgt := 71) hx hb dX12_count_1 (by omega) (by omega) (by rw [c1]; rfl) (by decide) ?_
    refine lv_aload_n hx hb dX12_count_71 rfl (lv_at hl 0 rfl) ?_
    refine tk_geti hC hK hw hT hinX12 kM_at0 (by decide) rfl 2 (by decide) (List.mem_cons_of_mem _ uw_29_21) rfl rfl dX12_count_72 (fun x10 c11 rx10 tx10 => ?_)
    exact tk_iret hC hr hlocks hK ⟨rfl, (Or.inl ⟨(show 0 ≤ x10.toInt from rx10), (show 0 ≤ a1.toInt by first | with_reducible assumption | omega), (show a1.toInt ≤ 10 by first | with_reducible assumption | omega)⟩)⟩ hw dX12_count_75
  · refine lv_tableIn (off := 75) (tgt := 76) hx hb dX12_count_1 (by omega) (by omega) (by rw [c1]; rfl) (by decide) ?_
    refine lv_aload_n hx hb dX12_count_76 rfl (lv_at hl 0 rfl) ?_
    refine tk_getA hC hK hw hT hinX12 kM_at0 (by decide) rfl 26 (by decide) (List.mem_cons_of_mem _ uw_7_1) rfl rfl dX12_count_77 ?_
    refine lv_iload_n hx hb dX12_count_80 rfl (lv_at hl 1 rfl) ?_
    refine lv_iconst (v := 1) hx hb dX12_count_81 (by decide) ?_
    refine lv_isub hx hb dX12_count_82 ?_
    refine lv_topi (fun x12 ex12 => ?_)
    have ex12 : x12.toInt = a1.toInt - (1 : Int) := by rw [ex12]; exact wk_sub (show (-2147483648) ≤ a1.toInt - (1 : Int) by omega) (show a1.toInt - (1 : Int) ≤ 2147483647 by omega)
    refine tk_ialdR hC hK hw hT kM_at12 rfl (show 0 ≤ x12.toInt by first | with_reducible assumption | omega) (show x12.toInt < 296 by first | with_reducible assumption | omega) dX12_count_83 (fun x13 c14 Ex13 => ?_)
    have bx13 := tk_rgI rfl 4 1 1 0 4 (by decide +kernel) ⟨(a1.toInt - 5).toNat, by omega, show x12.toInt.toNat = 4 + 1 * (a1.toInt - 5).toNat by omega⟩ Ex13
    exact tk_iret hC hr hlocks hK ⟨rfl, (Or.inl ⟨(show 0 ≤ x13.toInt by first | with_reducible assumption | omega), (show 0 ≤ a1.toInt by first | with_reducible assumption | omega), (show a1.toInt ≤ 10 by first | with_reducible assumption | omega)⟩)⟩ hw dX12_count_84
  · refine lv_tableIn (off := 75) (tgt := 76) hx hb dX12_count_1 (by omega) (by omega) (by rw [c1]; rfl) (by decide) ?_
    refine lv_aload_n hx hb dX12_count_76 rfl (lv_at hl 0 rfl) ?_
    refine tk_getA hC hK hw hT hinX12 kM_at0 (by decide) rfl 26 (by decide) (List.mem_cons_of_mem _ uw_7_1) rfl rfl dX12_count_77 ?_
    refine lv_iload_n hx hb dX12_count_80 rfl (lv_at hl 1 rfl) ?_
    refine lv_iconst (v := 1) hx hb dX12_count_81 (by decide) ?_
    refine lv_isub hx hb dX12_count_82 ?_
    refine lv_topi (fun x15 ex15 => ?_)
    have ex15 : x15.toInt = a1.toInt - (1 : Int) := by rw [ex15]; exact wk_sub (show (-2147483648) ≤ a1.toInt - (1 : Int) by omega) (show a1.toInt - (1 : Int) ≤ 2147483647 by omega)
    refine tk_ialdR hC hK hw hT kM_at12 rfl (show 0 ≤ x15.toInt by first | with_reducible assumption | omega) (show x15.toInt < 296 by first | with_reducible assumption | omega) dX12_count_83 (fun x16 c17 Ex16 => ?_)
    have bx16 := tk_rgI rfl 5 1 1 0 4 (by decide +kernel) ⟨(a1.toInt - 6).toNat, by omega, show x15.toInt.toNat = 5 + 1 * (a1.toInt - 6).toNat by omega⟩ Ex16
    exact tk_iret hC hr hlocks hK ⟨rfl, (Or.inl ⟨(show 0 ≤ x16.toInt by first | with_reducible assumption | omega), (show 0 ≤ a1.toInt by first | with_reducible assumption | omega), (show a1.toInt ≤ 10 by first | with_reducible assumption | omega)⟩)⟩ hw dX12_count_84
  · refine lv_tableIn (off := 75) (tgt := 76) hx hb dX12_count_1 (by omega) (by omega) (by rw [c1]; rfl) (by decide) ?_
    refine lv_aload_n hx hb dX12_count_76 rfl (lv_at hl 0 rfl) ?_
    refine tk_getA hC hK hw hT hinX12 kM_at0 (by decide) rfl 26 (by decide) (List.mem_cons_of_mem _ uw_7_1) rfl rfl dX12_count_77 ?_
    refine lv_iload_n hx hb dX12_count_80 rfl (lv_at hl 1 rfl) ?_
    refine lv_iconst (v := 1) hx hb dX12_count_81 (by decide) ?_
    refine lv_isub hx hb dX12_count_82 ?_
    refine lv_topi (fun x18 ex18 => ?_)
    have ex18 : x18.toInt = a1.toInt - (1 : Int) := by rw [ex18]; exact wk_sub (show (-2147483648) ≤ a1.toInt - (1 : Int) by omega) (show a1.toInt - (1 : Int) ≤ 2147483647 by omega)
    refine tk_ialdR hC hK hw hT kM_at12 rfl (show 0 ≤ x18.toInt by first | with_reducible assumption | omega) (show x18.toInt < 296 by first | with_reducible assumption | omega) dX12_count_83 (fun x19 c20 Ex19 => ?_)
    have bx19 := tk_rgI rfl 6 1 1 0 6 (by decide +kernel) ⟨(a1.toInt - 7).toNat, by omega, show x18.toInt.toNat = 6 + 1 * (a1.toInt - 7).toNat by omega⟩ Ex19
    exact tk_iret hC hr hlocks hK ⟨rfl, (Or.inl ⟨(show 0 ≤ x19.toInt by first | with_reducible assumption | omega), (show 0 ≤ a1.toInt by first | with_reducible assumption | omega), (show a1.toInt ≤ 10 by first | with_reducible assumption | omega)⟩)⟩ hw dX12_count_84
  · refine lv_tableIn (off := 75) (tgt := 76) hx hb dX12_count_1 (by omega) (by omega) (by rw [c1]; rfl) (by decide) ?_
    refine lv_aload_n hx hb dX12_count_76 rfl (lv_at hl 0 rfl) ?_
    refine tk_getA hC hK hw hT hinX12 kM_at0 (by decide) rfl 26 (by decide) (List.mem_cons_of_mem _ uw_7_1) rfl rfl dX12_count_77 ?_
    refine lv_iload_n hx hb dX12_count_80 rfl (lv_at hl 1 rfl) ?_
    refine lv_iconst (v := 1) hx hb dX12_count_81 (by decide) ?_
    refine lv_isub hx hb dX12_count_82 ?_
    refine lv_topi (fun x21 ex21 => ?_)
    have ex21 : x21.toInt = a1.toInt - (1 : Int) := by rw [ex21]; exact wk_sub (show (-2147483648) ≤ a1.toInt - (1 : Int) by omega) (show a1.toInt - (1 : Int) ≤ 2147483647 by omega)
    refine tk_ialdR hC hK hw hT kM_at12 rfl (show 0 ≤ x21.toInt by first | with_reducible assumption | omega) (show x21.toInt < 296 by first | with_reducible assumption | omega) dX12_count_83 (fun x22 c23 Ex22 => ?_)
    have bx22 := tk_rgI rfl 7 1 1 0 12 (by decide +kernel) ⟨(a1.toInt - 8).toNat, by omega, show x21.toInt.toNat = 7 + 1 * (a1.toInt - 8).toNat by omega⟩ Ex22
    exact tk_iret hC hr hlocks hK ⟨rfl, (Or.inl ⟨(show 0 ≤ x22.toInt by first | with_reducible assumption | omega), (show 0 ≤ a1.toInt by first | with_reducible assumption | omega), (show a1.toInt ≤ 10 by first | with_reducible assumption | omega)⟩)⟩ hw dX12_count_84
  · refine lv_tableIn (off := 75) (tgt := 76) hx hb dX12_count_1 (by omega) (by omega) (by rw [c1]; rfl) (by decide) ?_
    refine lv_aload_n hx hb dX12_count_76 rfl (lv_at hl 0 rfl) ?_
    refine tk_getA hC hK hw hT hinX12 kM_at0 (by decide) rfl 26 (by decide) (List.mem_cons_of_mem _ uw_7_1) rfl rfl dX12_count_77 ?_
    refine lv_iload_n hx hb dX12_count_80 rfl (lv_at hl 1 rfl) ?_
    refine lv_iconst (v := 1) hx hb dX12_count_81 (by decide) ?_
    refine lv_isub hx hb dX12_count_82 ?_
    refine lv_topi (fun x24 ex24 => ?_)
    have ex24 : x24.toInt = a1.toInt - (1 : Int) := by rw [ex24]; exact wk_sub (show (-2147483648) ≤ a1.toInt - (1 : Int) by omega) (show a1.toInt - (1 : Int) ≤ 2147483647 by omega)
    refine tk_ialdR hC hK hw hT kM_at12 rfl (show 0 ≤ x24.toInt by first | with_reducible assumption | omega) (show x24.toInt < 296 by first | with_reducible assumption | omega) dX12_count_83 (fun x25 c26 Ex25 => ?_)
    have bx25 := tk_rgI rfl 8 1 1 0 8 (by decide +kernel) ⟨(a1.toInt - 9).toNat, by omega, show x24.toInt.toNat = 8 + 1 * (a1.toInt - 9).toNat by omega⟩ Ex25
    exact tk_iret hC hr hlocks hK ⟨rfl, (Or.inl ⟨(show 0 ≤ x25.toInt by first | with_reducible assumption | omega), (show 0 ≤ a1.toInt by first | with_reducible assumption | omega), (show a1.toInt ≤ 10 by first | with_reducible assumption | omega)⟩)⟩ hw dX12_count_84
  · refine lv_tableIn (off := 75) (tgt := 76) hx hb dX12_count_1 (by omega) (by omega) (by rw [c1]; rfl) (by decide) ?_
    refine lv_aload_n hx hb dX12_count_76 rfl (lv_at hl 0 rfl) ?_
    refine tk_getA hC hK hw hT hinX12 kM_at0 (by decide) rfl 26 (by decide) (List.mem_cons_of_mem _ uw_7_1) rfl rfl dX12_count_77 ?_
    refine lv_iload_n hx hb dX12_count_80 rfl (lv_at hl 1 rfl) ?_
    refine lv_iconst (v := 1) hx hb dX12_count_81 (by decide) ?_
    refine lv_isub hx hb dX12_count_82 ?_
    refine lv_topi (fun x27 ex27 => ?_)
    have ex27 : x27.toInt = a1.toInt - (1 : Int) := by rw [ex27]; exact wk_sub (show (-2147483648) ≤ a1.toInt - (1 : Int) by omega) (show a1.toInt - (1 : Int) ≤ 2147483647 by omega)
    refine tk_ialdR hC hK hw hT kM_at12 rfl (show 0 ≤ x27.toInt by first | with_reducible assumption | omega) (show x27.toInt < 296 by first | with_reducible assumption | omega) dX12_count_83 (fun x28 c29 Ex28 => ?_)
    have bx28 := tk_rgI rfl 9 1 1 0 2147483647 (by decide +kernel) ⟨(a1.toInt - 10).toNat, by omega, show x27.toInt.toNat = 9 + 1 * (a1.toInt - 10).toNat by omega⟩ Ex28
    exact tk_iret hC hr hlocks hK ⟨rfl, (Or.inl ⟨(show 0 ≤ x28.toInt by first | with_reducible assumption | omega), (show 0 ≤ a1.toInt by first | with_reducible assumption | omega), (show a1.toInt ≤ 10 by first | with_reducible assumption | omega)⟩)⟩ hw dX12_count_84
  · refine lv_tableIn (off := 84) (tgt := 85) hx hb dX12_count_1 (by omega) (by omega) (by rw [c1]; rfl) (by decide) ?_
    refine lv_aload_n hx hb dX12_count_85 rfl (lv_at hl 0 rfl) ?_
    refine tk_geti hC hK hw hT hinX12 kM_at0 (by decide) rfl 1 (by decide) (List.mem_cons_of_mem _ uw_8_7) rfl rfl dX12_count_86 (fun x30 c31 rx30 tx30 => ?_)
    exact tk_iret hC hr hlocks hK ⟨rfl, (Or.inr (Or.inl ⟨(show 0 ≤ x30.toInt from rx30), (show x30.toInt ≤ 400 from tx30), (show 11 ≤ a1.toInt by first | with_reducible assumption | omega), (show a1.toInt ≤ 11 by first | with_reducible assumption | omega), ⟨x30, c31, (show 0 ≤ x30.toInt from rx30), (show x30.toInt ≤ 400 from tx30)⟩⟩))⟩ hw dX12_count_89
  · refine lv_tableOut (tgt := 90) hx hb dX12_count_1 (Or.inl c1) (by decide) ?_
    refine lv_iconst (v := (-1)) hx hb dX12_count_90 (by decide) ?_
    exact tk_iret hC hr hlocks hK ⟨rfl, (Or.inr (Or.inr rfl))⟩ hw dX12_count_91
  · refine lv_tableOut (tgt := 90) hx hb dX12_count_1 (Or.inr c1) (by decide) ?_
    refine lv_iconst (v := (-1)) hx hb dX12_count_90 (by decide) ?_
    exact tk_iret hC hr hlocks hK ⟨rfl, (Or.inr (Or.inr rfl))⟩ hw dX12_count_91
