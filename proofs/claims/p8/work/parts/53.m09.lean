abbrev P_X12_isLifted_5 (ad : Nat → Nat) (cy : Nat → ClassId) (B : Int) (qr : Nat) (s1 : Int) (a1 : Int32) (a2 : Int32) (w0 : va_W) : Int32 → va_W → Prop := fun r u => w0 = u ∧ ((r = 0 ∧ (¬ mLf w0 a1.toInt a2.toInt)) ∨ (r = 1 ∧ (∃ y : Int32, gi u 12 3 = y ∧ 1 ≤ y.toInt ∧ y.toInt ≤ 4) ∧ (mLf w0 a1.toInt a2.toInt)))
set_option maxHeartbeats 4000000 in
set_option maxRecDepth 100000 in
theorem k_X12_isLifted_5 (l : Launch) (adK adV : Nat → Nat) (dC : Nat → ClassId) (dI : Nat → Nat → Nat) (cy : Nat → ClassId) (ad : Nat → Nat) (B : Int) (hB0 : 100000 ≤ B) (hB1 : B ≤ 1073741824) (qr : Nat) (s1 : Int)  (a1 : Int32) (ra1 : 0 ≤ a1.toInt) (ta1 : a1.toInt ≤ 11) (a2 : Int32) (ra2 : 0 ≤ a2.toInt) (ta2 : a2.toInt ≤ 1073741944) (w0 : va_W) (sz : Nat) (hT : TW ksM ad cy B qr 12 w0)  : Met l yX12_isLifted (wu yX12_isLifted cX12_isLifted 5 (some .boolean)) ({ frames := 1, cells := 0, slots := 0, locals := 12 }) (va_Pc [.ref (ad 0), .int a1, .int a2] (wpreS adK adV dC dI cy sz w0)) (va_Qi (P_X12_isLifted_5 ad cy B qr s1 a1 a2 w0) (fun u : va_W => wpost dC dI cy (va_A w0 sz) u) (va_A w0 sz)) 0 0 (va_A w0 sz) := by
  refine Met.ofW (cc := cX12_isLifted) (maxL := 5) (ret := (some .boolean)) (by decide) rfl ?_
  intro p e s m args below meth c s₁ Bk hml hv
  obtain ⟨rfl, ⟨hsz, hP, hK, hD0⟩, hE, hSR⟩ := hv
  have hx := Bk.exec
  have hb := Bk.bytes
  have hr := Bk.returns
  have hlocks := Bk.notSynchronized
  have hC : CallFix p m c cX12_isLifted 5 s _ (wu yX12_isLifted cX12_isLifted 5 (some .boolean)) RX12 := ⟨hx, hb, hml, findClass_of_methodNamed Bk.named, atoms_spec (ws := (wu yX12_isLifted cX12_isLifted 5 (some .boolean))) Bk.pre⟩
  subst hsz
  have hD := hD0.self (sz := s.heap.size)
  generalize hAe : va_A w0 s.heap.size = A at hD hE ⊢
  have hA : ∀ q : Nat, s.heap.size ≤ q → A q := fun q h => by rw [← hAe]; exact Or.inr h
  have hw : Wd dC dI A s.heap s.heap [] w0 := ⟨hP, hD, va_S.rf⟩
  have hF : FE ksM ([] : List (Nat × Nat × Nat)) w0 w0 := FE.rf
  have hl := lv_entry ([.ref (ad 0), .int a1, .int a2]) (n := 5) (Nat.le_of_ble_eq_true rfl)
  rw [lg_entry_eq]
  generalize (lg_sl ([.ref (ad 0), .int a1, .int a2]) ++ List.replicate (5 - (lg_sl ([.ref (ad 0), .int a1, .int a2])).length) Slot.unset).toArray = ls at hl ⊢
  have hl : lv_has ls 5 [(0, .ref (ad 0)), (1, .int a1), (2, .int a2)] := hl
  generalize hloc : ([] : List Loc) = locs at hw ⊢
  have hinX12 : ∀ w ∈ u_ws RX12 TX12 42, w ∈ (wu yX12_isLifted cX12_isLifted 5 (some .boolean)) := fun _ h => List.mem_cons_of_mem _ (up_71 h)
  have L2 : ∀ (n2 : Nat) (v2_3 : Int32) (H : Heap) (locs : List Loc) (ls : Array Slot), 0 ≤ a1.toInt → a1.toInt ≤ 11 → 0 ≤ a2.toInt → a2.toInt ≤ 1073741944 → 0 ≤ v2_3.toInt → v2_3.toInt ≤ 4 → (∀ k : Int, 0 ≤ k → k < v2_3.toInt → ¬ mLf1 w0 k a1.toInt a2.toInt) → (4 - v2_3.toInt).toNat < n2 → Wd dC dI A s.heap H locs w0 → lv_has ls 5 [(0, .ref (ad 0)), (1, .int a1), (2, .int a2), (3, .int v2_3)] → W p l e ({ frames := 1, cells := 0, slots := 0, locals := 12 }) s m (List.toArray [.ref (ad 0), .int a1, .int a2]) below meth c H locs 0 0 (MQ below (va_Qi (P_X12_isLifted_5 ad cy B qr s1 a1 a2 w0) (fun u : va_W => wpost dC dI cy A u) A) (List.toArray [.ref (ad 0), .int a1, .int a2]) s 0 0 A) (F0 m 2 ls []) := by
    intro n2
    induction n2 with
    | zero => intro v2_3 H locs ls r1 t2 r3 t4 r5 t6 hcr2_0 hm2 hw hl; omega
    | succ n2 ih2 =>
      intro v2_3 H locs ls r1 t2 r3 t4 r5 t6 hcr2_0 hm2 hw hl
      refine lv_iload_n hx hb dX12_isLifted_2 rfl (lv_at hl 3 rfl) ?_
      refine lv_aload_n hx hb dX12_isLifted_3 rfl (lv_at hl 0 rfl) ?_
      refine tk_getA hC hK hw hT hinX12 kM_at0 (by decide) rfl 26 (by decide) (List.mem_cons_of_mem _ uw_7_1) rfl rfl dX12_isLifted_4 ?_
      refine lv_iconst (v := 3) hx hb dX12_isLifted_7 (by decide) ?_
      refine tk_ialdR hC hK hw hT kM_at12 rfl (by decide) (by decide) dX12_isLifted_8 (fun x7 c8 Ex7 => ?_)
      have bx7 := tk_rgI rfl 3 1 1 0 4 (by decide +kernel) ⟨0, by decide, by decide⟩ Ex7
      have c8 : gi w0 12 3 = x7 := c8
      refine lv_icmp_ge (tgt := 72) hx hb dX12_isLifted_9 (by decide) (fun c9 => ?_) (fun c9 => ?_)
      · have c9 : x7.toInt ≤ v2_3.toInt := wk_le.mp c9
        refine lv_iconst (v := 0) hx hb dX12_isLifted_72 (by decide) ?_
        exact tk_zret hC hr rfl hlocks hK ⟨rfl, (Or.inl ⟨rfl, (by exact mLf_no hcr2_0 (by simp only [c8]; omega))⟩)⟩ hw dX12_isLifted_73
      · have c9 : v2_3.toInt < x7.toInt := wk_leF c9
        refine lv_sipush (v := 156) hx hb dX12_isLifted_12 (by decide) ?_
        refine lv_iconst (v := 3) hx hb dX12_isLifted_15 (by decide) ?_
        refine lv_iload_n hx hb dX12_isLifted_16 rfl (lv_at hl 3 rfl) ?_
        refine lv_imul hx hb dX12_isLifted_17 ?_
        refine lv_topi (fun x10 ex10 => ?_)
        have ex10 : x10.toInt = (3 : Int) * v2_3.toInt := by rw [ex10]; exact wk_mul (show (-2147483648) ≤ (3 : Int) * v2_3.toInt by omega) (show (3 : Int) * v2_3.toInt ≤ 2147483647 by omega)
        refine lv_iadd hx hb dX12_isLifted_18 ?_
        refine lv_topi (fun x11 ex11 => ?_)
        have ex11 : x11.toInt = (156 : Int) + x10.toInt := by rw [ex11]; exact wk_add (show (-2147483648) ≤ (156 : Int) + x10.toInt by omega) (show (156 : Int) + x10.toInt ≤ 2147483647 by omega)
        refine lv_istore (lv' := [(4, .int x11), (0, .ref (ad 0)), (1, .int a1), (2, .int a2), (3, .int v2_3)]) hx hb dX12_isLifted_19 hl (by decide) rfl (fun ls hl => ?_)
        refine lv_aload_n hx hb dX12_isLifted_21 rfl (lv_at hl 1 rfl) ?_
        refine tk_getA hC hK hw hT hinX12 kM_at0 (by decide) rfl 26 (by decide) (List.mem_cons_of_mem _ uw_7_1) rfl rfl dX12_isLifted_22 ?_
        refine lv_iload hx hb dX12_isLifted_25 (lv_at hl 0 rfl) ?_
        refine tk_ialdR hC hK hw hT kM_at12 rfl (show 0 ≤ x11.toInt by omega) (show x11.toInt < 296 by omega) dX12_isLifted_27 (fun x12 c13 Ex12 => ?_)
        have c13 : gi w0 12 (3 * v2_3.toInt + 156).toNat = x12 := (congrArg (gi w0 12) (congrArg Int.toNat (show 3 * v2_3.toInt + 156 = x11.toInt by omega))).trans c13
        refine lv_iload_n hx hb dX12_isLifted_28 rfl (lv_at hl 2 rfl) ?_
        refine lv_icmp_ne (tgt := 66) hx hb dX12_isLifted_29 (by decide) (fun c14 => ?_) (fun c14 => ?_)
        · have c14 : ¬ x12.toInt = a1.toInt := wk_eqF c14
          obtain ⟨x15, ex15⟩ : ∃ y : Int32, y = v2_3 + Int32.ofInt 1 := ⟨_, rfl⟩
          refine lv_iinc (v := x15) (lv' := [(3, .int x15), (4, .int x11), (0, .ref (ad 0)), (1, .int a1), (2, .int a2)]) hx hb dX12_isLifted_66 hl (k := 4) rfl ex15.symm (by decide) rfl (fun ls hl => ?_)
          have ex15 : x15.toInt = v2_3.toInt + 1 := by rw [ex15]; exact wk_add (y := 1) (show -2147483648 ≤ v2_3.toInt + 1 by omega) (show v2_3.toInt + 1 ≤ 2147483647 by omega)
          refine lv_goto (tgt := 2) hx hb dX12_isLifted_69 (by decide) ?_
          exact ih2 x15 H locs ls  (show 0 ≤ a1.toInt from r1) (show a1.toInt ≤ 11 from t2) (show 0 ≤ a2.toInt from r3) (show a2.toInt ≤ 1073741944 from t4) (show 0 ≤ x15.toInt by omega) (show x15.toInt ≤ 4 by omega) (show ∀ k : Int, 0 ≤ k → k < x15.toInt → ¬ mLf1 w0 k a1.toInt a2.toInt from all_step hcr2_0 (show ¬ mLf1 w0 v2_3.toInt a1.toInt a2.toInt by unfold mLf1; simp only [c8, c13]; omega) (by omega)) (show (4 - x15.toInt).toNat < n2 by omega) hw   (lv_sub hl [2, 3, 4, 0] rfl)
        · have c14 : x12.toInt = a1.toInt := wk_eq.mp c14
          refine lv_iload_n hx hb dX12_isLifted_32 rfl (lv_at hl 3 rfl) ?_
          refine lv_bipush (v := 24) hx hb dX12_isLifted_33 (by decide) ?_
          refine lv_irem hx hb dX12_isLifted_35 (by decide) ?_
          refine lv_topi (fun x16 ex16 => ?_)
          have ex16 : x16.toInt = a2.toInt % (24 : Int) := by rw [ex16]; exact wk_rem (show 0 ≤ a2.toInt from r3) (show 0 < (24 : Int) by decide)
          refine lv_aload_n hx hb dX12_isLifted_36 rfl (lv_at hl 1 rfl) ?_
          refine tk_getA hC hK hw hT hinX12 kM_at0 (by decide) rfl 26 (by decide) (List.mem_cons_of_mem _ uw_7_1) rfl rfl dX12_isLifted_37 ?_
          refine lv_iload hx hb dX12_isLifted_40 (lv_at hl 0 rfl) ?_
          refine lv_iconst (v := 1) hx hb dX12_isLifted_42 (by decide) ?_
          refine lv_iadd hx hb dX12_isLifted_43 ?_
          refine lv_topi (fun x17 ex17 => ?_)
          have ex17 : x17.toInt = x11.toInt + (1 : Int) := by rw [ex17]; exact wk_add (show (-2147483648) ≤ x11.toInt + (1 : Int) by omega) (show x11.toInt + (1 : Int) ≤ 2147483647 by omega)
          refine tk_ialdR hC hK hw hT kM_at12 rfl (show 0 ≤ x17.toInt by omega) (show x17.toInt < 296 by omega) dX12_isLifted_44 (fun x18 c19 Ex18 => ?_)
          have c19 : gi w0 12 (3 * v2_3.toInt + 157).toNat = x18 := (congrArg (gi w0 12) (congrArg Int.toNat (show 3 * v2_3.toInt + 157 = x17.toInt by omega))).trans c19
          refine lv_icmp_lt (tgt := 66) hx hb dX12_isLifted_45 (by decide) (fun c20 => ?_) (fun c20 => ?_)
          · have c20 : x16.toInt < x18.toInt := wk_lt.mp c20
            obtain ⟨x21, ex21⟩ : ∃ y : Int32, y = v2_3 + Int32.ofInt 1 := ⟨_, rfl⟩
            refine lv_iinc (v := x21) (lv' := [(3, .int x21), (4, .int x11), (0, .ref (ad 0)), (1, .int a1), (2, .int a2)]) hx hb dX12_isLifted_66 hl (k := 4) rfl ex21.symm (by decide) rfl (fun ls hl => ?_)
            have ex21 : x21.toInt = v2_3.toInt + 1 := by rw [ex21]; exact wk_add (y := 1) (show -2147483648 ≤ v2_3.toInt + 1 by omega) (show v2_3.toInt + 1 ≤ 2147483647 by omega)
            refine lv_goto (tgt := 2) hx hb dX12_isLifted_69 (by decide) ?_
            exact ih2 x21 H locs ls  (show 0 ≤ a1.toInt from r1) (show a1.toInt ≤ 11 from t2) (show 0 ≤ a2.toInt from r3) (show a2.toInt ≤ 1073741944 from t4) (show 0 ≤ x21.toInt by omega) (show x21.toInt ≤ 4 by omega) (show ∀ k : Int, 0 ≤ k → k < x21.toInt → ¬ mLf1 w0 k a1.toInt a2.toInt from all_step hcr2_0 (show ¬ mLf1 w0 v2_3.toInt a1.toInt a2.toInt by unfold mLf1; simp only [c8, c13, c19]; omega) (by omega)) (show (4 - x21.toInt).toNat < n2 by omega) hw   (lv_sub hl [2, 3, 4, 0] rfl)
          · have c20 : x18.toInt ≤ x16.toInt := wk_ltF c20
            refine lv_iload_n hx hb dX12_isLifted_48 rfl (lv_at hl 3 rfl) ?_
            refine lv_bipush (v := 24) hx hb dX12_isLifted_49 (by decide) ?_
            refine lv_irem hx hb dX12_isLifted_51 (by decide) ?_
            refine lv_topi (fun x22 ex22 => ?_)
            have ex22 : x22.toInt = a2.toInt % (24 : Int) := by rw [ex22]; exact wk_rem (show 0 ≤ a2.toInt from r3) (show 0 < (24 : Int) by decide)
            refine lv_aload_n hx hb dX12_isLifted_52 rfl (lv_at hl 1 rfl) ?_
            refine tk_getA hC hK hw hT hinX12 kM_at0 (by decide) rfl 26 (by decide) (List.mem_cons_of_mem _ uw_7_1) rfl rfl dX12_isLifted_53 ?_
            refine lv_iload hx hb dX12_isLifted_56 (lv_at hl 0 rfl) ?_
            refine lv_iconst (v := 2) hx hb dX12_isLifted_58 (by decide) ?_
            refine lv_iadd hx hb dX12_isLifted_59 ?_
            refine lv_topi (fun x23 ex23 => ?_)
            have ex23 : x23.toInt = x11.toInt + (2 : Int) := by rw [ex23]; exact wk_add (show (-2147483648) ≤ x11.toInt + (2 : Int) by omega) (show x11.toInt + (2 : Int) ≤ 2147483647 by omega)
            refine tk_ialdR hC hK hw hT kM_at12 rfl (show 0 ≤ x23.toInt by omega) (show x23.toInt < 296 by omega) dX12_isLifted_60 (fun x24 c25 Ex24 => ?_)
            have c25 : gi w0 12 (3 * v2_3.toInt + 158).toNat = x24 := (congrArg (gi w0 12) (congrArg Int.toNat (show 3 * v2_3.toInt + 158 = x23.toInt by omega))).trans c25
            refine lv_icmp_ge (tgt := 66) hx hb dX12_isLifted_61 (by decide) (fun c26 => ?_) (fun c26 => ?_)
            · have c26 : x24.toInt ≤ x22.toInt := wk_le.mp c26
              obtain ⟨x27, ex27⟩ : ∃ y : Int32, y = v2_3 + Int32.ofInt 1 := ⟨_, rfl⟩
              refine lv_iinc (v := x27) (lv' := [(3, .int x27), (4, .int x11), (0, .ref (ad 0)), (1, .int a1), (2, .int a2)]) hx hb dX12_isLifted_66 hl (k := 4) rfl ex27.symm (by decide) rfl (fun ls hl => ?_)
              have ex27 : x27.toInt = v2_3.toInt + 1 := by rw [ex27]; exact wk_add (y := 1) (show -2147483648 ≤ v2_3.toInt + 1 by omega) (show v2_3.toInt + 1 ≤ 2147483647 by omega)
              refine lv_goto (tgt := 2) hx hb dX12_isLifted_69 (by decide) ?_
              exact ih2 x27 H locs ls  (show 0 ≤ a1.toInt from r1) (show a1.toInt ≤ 11 from t2) (show 0 ≤ a2.toInt from r3) (show a2.toInt ≤ 1073741944 from t4) (show 0 ≤ x27.toInt by omega) (show x27.toInt ≤ 4 by omega) (show ∀ k : Int, 0 ≤ k → k < x27.toInt → ¬ mLf1 w0 k a1.toInt a2.toInt from all_step hcr2_0 (show ¬ mLf1 w0 v2_3.toInt a1.toInt a2.toInt by unfold mLf1; simp only [c8, c13, c19, c25]; omega) (by omega)) (show (4 - x27.toInt).toNat < n2 by omega) hw   (lv_sub hl [2, 3, 4, 0] rfl)
            · have c26 : x22.toInt < x24.toInt := wk_leF c26
              refine lv_iconst (v := 1) hx hb dX12_isLifted_64 (by decide) ?_
              exact tk_zret hC hr rfl hlocks hK ⟨rfl, (Or.inr ⟨rfl, ⟨x7, c8, (show 1 ≤ x7.toInt by omega), (show x7.toInt ≤ 4 by omega)⟩, (by exact ⟨v2_3.toInt, by omega, by simp only [c8, c13, c19, c25]; omega, by unfold mLf1; simp only [c8, c13, c19, c25]; omega⟩)⟩)⟩ hw dX12_isLifted_65
  refine lv_iconst (v := 0) hx hb dX12_isLifted_0 (by decide) ?_
  refine lv_istore_n (lv' := [(3, .int 0), (0, .ref (ad 0)), (1, .int a1), (2, .int a2)]) hx hb dX12_isLifted_1 rfl hl (by decide) rfl (fun ls hl => ?_)
  exact L2 ((4 - (0 : Int)).toNat + 1) 0 s.heap locs ls  (show 0 ≤ a1.toInt from ra1) (show a1.toInt ≤ 11 from ta1) (show 0 ≤ a2.toInt from ra2) (show a2.toInt ≤ 1073741944 from ta2) (by decide) (by decide) (show ∀ k : Int, 0 ≤ k → k < (0 : Int) → ¬ mLf1 w0 k a1.toInt a2.toInt from all_none) (Nat.lt_succ_self _) hw   (lv_sub hl [1, 2, 3, 0] rfl)
abbrev P_X12_isOpen_3 (ad : Nat → Nat) (cy : Nat → ClassId) (B : Int) (qr : Nat) (s1 : Int) (a1 : Int32) (a2 : Int32) (a3 : Int32) (w0 : va_W) : Int32 → va_W → Prop := fun r u => w0 = u ∧ ((r = 0 ∧ (¬ mOpen w0 a1.toInt a2.toInt a3.toInt)) ∨ (r = 0 ∧ gi u 12 (10 * a1.toInt + 10).toNat = a2 ∧ gi u 12 (10 * a1.toInt + 11).toNat = a2 ∧ (¬ mOpen w0 a1.toInt a2.toInt a3.toInt)) ∨ (r = 0 ∧ gi u 12 (10 * a1.toInt + 10).toNat = a2 ∧ (¬ mOpen w0 a1.toInt a2.toInt a3.toInt)) ∨ (r = 0 ∧ gi u 12 (10 * a1.toInt + 11).toNat = a2 ∧ (¬ mOpen w0 a1.toInt a2.toInt a3.toInt)) ∨ (r = 1 ∧ gi u 12 (10 * a1.toInt + 10).toNat = a2 ∧ gi u 12 (10 * a1.toInt + 11).toNat = a2 ∧ (mOpen w0 a1.toInt a2.toInt a3.toInt)) ∨ (r = 1 ∧ gi u 12 (10 * a1.toInt + 10).toNat = a2 ∧ (mOpen w0 a1.toInt a2.toInt a3.toInt)) ∨ (r = 1 ∧ gi u 12 (10 * a1.toInt + 11).toNat = a2 ∧ (mOpen w0 a1.toInt a2.toInt a3.toInt)))
set_option maxHeartbeats 4000000 in
set_option maxRecDepth 100000 in
theorem k_X12_isOpen_3 (l : Launch) (adK adV : Nat → Nat) (dC : Nat → ClassId) (dI : Nat → Nat → Nat) (cy : Nat → ClassId) (ad : Nat → Nat) (B : Int) (hB0 : 100000 ≤ B) (hB1 : B ≤ 1073741824) (qr : Nat) (s1 : Int)  (a1 : Int32) (ra1 : 0 ≤ a1.toInt) (ta1 : a1.toInt ≤ 11) (a2 : Int32) (ra2 : 0 ≤ a2.toInt) (ta2 : a2.toInt ≤ 9) (a3 : Int32) (ra3 : 0 ≤ a3.toInt) (ta3 : a3.toInt ≤ 1073741944) (w0 : va_W) (sz : Nat) (hT : TW ksM ad cy B qr 12 w0)  : Met l yX12_isOpen (wu yX12_isOpen cX12_isOpen 4 (some .boolean)) ({ frames := 4, cells := 0, slots := 0, locals := 80 }) (va_Pc [.ref (ad 0), .int a1, .int a2, .int a3] (wpreS adK adV dC dI cy sz w0)) (va_Qi (P_X12_isOpen_3 ad cy B qr s1 a1 a2 a3 w0) (fun u : va_W => wpost dC dI cy (va_A w0 sz) u) (va_A w0 sz)) 0 0 (va_A w0 sz) := by
  refine Met.ofW (cc := cX12_isOpen) (maxL := 4) (ret := (some .boolean)) (by decide) rfl ?_
  intro p e s m args below meth c s₁ Bk hml hv
  obtain ⟨rfl, ⟨hsz, hP, hK, hD0⟩, hE, hSR⟩ := hv
  have hx := Bk.exec
  have hb := Bk.bytes
  have hr := Bk.returns
  have hlocks := Bk.notSynchronized
  have hC : CallFix p m c cX12_isOpen 4 s _ (wu yX12_isOpen cX12_isOpen 4 (some .boolean)) RX12 := ⟨hx, hb, hml, findClass_of_methodNamed Bk.named, atoms_spec (ws := (wu yX12_isOpen cX12_isOpen 4 (some .boolean))) Bk.pre⟩
  subst hsz
  have hD := hD0.self (sz := s.heap.size)
  generalize hAe : va_A w0 s.heap.size = A at hD hE ⊢
  have hA : ∀ q : Nat, s.heap.size ≤ q → A q := fun q h => by rw [← hAe]; exact Or.inr h
  have hw : Wd dC dI A s.heap s.heap [] w0 := ⟨hP, hD, va_S.rf⟩
  have hF : FE ksM ([] : List (Nat × Nat × Nat)) w0 w0 := FE.rf
  have hl := lv_entry ([.ref (ad 0), .int a1, .int a2, .int a3]) (n := 4) (Nat.le_of_ble_eq_true rfl)
  rw [lg_entry_eq]
  generalize (lg_sl ([.ref (ad 0), .int a1, .int a2, .int a3]) ++ List.replicate (4 - (lg_sl ([.ref (ad 0), .int a1, .int a2, .int a3])).length) Slot.unset).toArray = ls at hl ⊢
  have hl : lv_has ls 4 [(0, .ref (ad 0)), (1, .int a1), (2, .int a2), (3, .int a3)] := hl
  generalize hloc : ([] : List Loc) = locs at hw ⊢
  refine lv_aload_n hx hb dX12_isOpen_0 rfl (lv_at hl 0 rfl) ?_
  refine lv_iload_n hx hb dX12_isOpen_1 rfl (lv_at hl 1 rfl) ?_
  refine lv_iload_n hx hb dX12_isOpen_2 rfl (lv_at hl 2 rfl) ?_
  refine tk_Vi hC hK hw hT hA hE hSR kM_at0 (by decide) rfl (k_X12_isAt_1 l adK adV dC dI cy ad B (by omega) (by omega) qr s1   a1 (show 0 ≤ a1.toInt from ra1) (show a1.toInt ≤ 11 from ta1) a2 (show 0 ≤ a2.toInt from ra2) (show a2.toInt ≤ 9 from ta2) w0 s.heap.size hT ) (cwV 2 hC.2.2.2.2 uV_RX12_314 rfl rfl rfl (by decide +kernel) ⟨Nat.le_of_ble_eq_true rfl, Nat.le_of_ble_eq_true rfl⟩) rfl hl.1 rfl (Nat.le_of_ble_eq_true rfl) dX12_isOpen_3 (fun r1 w3 H locs hp2 hw => ?_)
  obtain ⟨rfl, hg10⟩ := hp2
  rcases hg10 with ⟨rfl, hq5⟩ | ⟨rfl, c6, hq7⟩ | ⟨rfl, c8, hq9⟩
  · refine lv_if_eq (tgt := 35) hx hb dX12_isOpen_6 (by decide) (fun _ => ?_) (fun c => absurd (by decide) c)
    refine lv_iconst (v := 0) hx hb dX12_isOpen_35 (by decide) ?_
    exact tk_zret hC hr rfl hlocks hK ⟨rfl, (Or.inl ⟨rfl, (by unfold mOpen; first | exact ⟨by assumption, by assumption, by assumption⟩ | (rintro ⟨q1, q2, q3⟩; first | exact absurd q1 (by assumption) | exact absurd q2 (by assumption) | exact q3 (by assumption)))⟩)⟩ hw dX12_isOpen_36
  · refine lv_if_eq (tgt := 35) hx hb dX12_isOpen_6 (by decide) (fun c => absurd c (by decide)) (fun _ => ?_)
    refine lv_aload_n hx hb dX12_isOpen_9 rfl (lv_at hl 0 rfl) ?_
    refine lv_iload_n hx hb dX12_isOpen_10 rfl (lv_at hl 1 rfl) ?_
    refine lv_iload_n hx hb dX12_isOpen_11 rfl (lv_at hl 2 rfl) ?_
    refine lv_iload_n hx hb dX12_isOpen_12 rfl (lv_at hl 3 rfl) ?_
    refine lv_bipush (v := 24) hx hb dX12_isOpen_13 (by decide) ?_
    refine lv_idiv hx hb dX12_isOpen_15 (by decide) ?_
    refine lv_topi (fun x11 ex11 => ?_)
    have ex11 : x11.toInt = a3.toInt / (24 : Int) := by rw [ex11]; exact wk_div (show 0 ≤ a3.toInt from ra3) (show 0 < (24 : Int) by decide)
    refine tk_Vi hC hK hw hT hA hE hSR kM_at0 (by decide) rfl (k_X12_isDayFor_5 l adK adV dC dI cy ad B (by omega) (by omega) qr s1   a1 (show 0 ≤ a1.toInt from ra1) (show a1.toInt ≤ 11 from ta1) a2 (show 0 ≤ a2.toInt from ra2) (show a2.toInt ≤ 9 from ta2) x11 (show 0 ≤ x11.toInt by omega) (show x11.toInt ≤ 44739247 by omega) w0 H.size hT ) (cwV 3 hC.2.2.2.2 uV_RX12_317 rfl rfl rfl (by decide +kernel) ⟨Nat.le_of_ble_eq_true rfl, Nat.le_of_ble_eq_true rfl⟩) rfl hl.1 rfl (Nat.le_of_ble_eq_true rfl) dX12_isOpen_16 (fun r12 w14 H locs hp13 hw => ?_)
    obtain ⟨rfl, hg22⟩ := hp13
    rcases hg22 with ⟨rfl, hq16⟩ | ⟨rfl, c17, hq18⟩ | ⟨rfl, hq19⟩ | ⟨rfl, c20, hq21⟩
    · refine lv_if_eq (tgt := 35) hx hb dX12_isOpen_19 (by decide) (fun _ => ?_) (fun c => absurd (by decide) c)
      refine lv_iconst (v := 0) hx hb dX12_isOpen_35 (by decide) ?_
      exact tk_zret hC hr rfl hlocks hK ⟨rfl, (Or.inr (Or.inr (Or.inl ⟨rfl, c6, (by rw [show x11.toInt = a3.toInt / 24 by omega] at hq16; unfold mOpen; first | exact ⟨by assumption, by assumption, by assumption⟩ | (rintro ⟨q1, q2, q3⟩; first | exact absurd q1 (by assumption) | exact absurd q2 (by assumption) | exact q3 (by assumption)))⟩)))⟩ hw dX12_isOpen_36
    · refine lv_if_eq (tgt := 35) hx hb dX12_isOpen_19 (by decide) (fun _ => ?_) (fun c => absurd (by decide) c)
      refine lv_iconst (v := 0) hx hb dX12_isOpen_35 (by decide) ?_
      exact tk_zret hC hr rfl hlocks hK ⟨rfl, (Or.inr (Or.inr (Or.inl ⟨rfl, c6, (by rw [show x11.toInt = a3.toInt / 24 by omega] at hq18; unfold mOpen; first | exact ⟨by assumption, by assumption, by assumption⟩ | (rintro ⟨q1, q2, q3⟩; first | exact absurd q1 (by assumption) | exact absurd q2 (by assumption) | exact q3 (by assumption)))⟩)))⟩ hw dX12_isOpen_36
    · refine lv_if_eq (tgt := 35) hx hb dX12_isOpen_19 (by decide) (fun c => absurd c (by decide)) (fun _ => ?_)
      refine lv_aload_n hx hb dX12_isOpen_22 rfl (lv_at hl 0 rfl) ?_
      refine lv_iload_n hx hb dX12_isOpen_23 rfl (lv_at hl 1 rfl) ?_
      refine lv_iload_n hx hb dX12_isOpen_24 rfl (lv_at hl 3 rfl) ?_
      refine tk_Vi hC hK hw hT hA hE hSR kM_at0 (by decide) rfl (k_X12_isLifted_5 l adK adV dC dI cy ad B (by omega) (by omega) qr s1   a1 (show 0 ≤ a1.toInt from ra1) (show a1.toInt ≤ 11 from ta1) a3 (show 0 ≤ a3.toInt from ra3) (show a3.toInt ≤ 1073741944 from ta3) w0 H.size hT ) (cwV 2 hC.2.2.2.2 uV_RX12_320 rfl rfl rfl (by decide +kernel) ⟨Nat.le_of_ble_eq_true rfl, Nat.le_of_ble_eq_true rfl⟩) rfl hl.1 rfl (Nat.le_of_ble_eq_true rfl) dX12_isOpen_25 (fun r23 w25 H locs hp24 hw => ?_)
      obtain ⟨rfl, hg31⟩ := hp24
      rcases hg31 with ⟨rfl, hq27⟩ | ⟨rfl, ⟨x28, c29, rx28, tx28⟩, hq30⟩
      · refine lv_if_ne (tgt := 35) hx hb dX12_isOpen_28 (by decide) (fun c => absurd (by decide) c) (fun _ => ?_)
        refine lv_iconst (v := 1) hx hb dX12_isOpen_31 (by decide) ?_
        refine lv_goto (tgt := 36) hx hb dX12_isOpen_32 (by decide) ?_
        exact tk_zret hC hr rfl hlocks hK ⟨rfl, (Or.inr (Or.inr (Or.inr (Or.inr (Or.inr (Or.inl ⟨rfl, c6, (by rw [show x11.toInt = a3.toInt / 24 by omega] at hq19; unfold mOpen; first | exact ⟨by assumption, by assumption, by assumption⟩ | (rintro ⟨q1, q2, q3⟩; first | exact absurd q1 (by assumption) | exact absurd q2 (by assumption) | exact q3 (by assumption)))⟩))))))⟩ hw dX12_isOpen_36
      · refine lv_if_ne (tgt := 35) hx hb dX12_isOpen_28 (by decide) (fun _ => ?_) (fun c => absurd c (by decide))
        refine lv_iconst (v := 0) hx hb dX12_isOpen_35 (by decide) ?_
        exact tk_zret hC hr rfl hlocks hK ⟨rfl, (Or.inr (Or.inr (Or.inl ⟨rfl, c6, (by rw [show x11.toInt = a3.toInt / 24 by omega] at hq19; unfold mOpen; first | exact ⟨by assumption, by assumption, by assumption⟩ | (rintro ⟨q1, q2, q3⟩; first | exact absurd q1 (by assumption) | exact absurd q2 (by assumption) | exact q3 (by assumption)))⟩)))⟩ hw dX12_isOpen_36
    · refine lv_if_eq (tgt := 35) hx hb dX12_isOpen_19 (by decide) (fun c => absurd c (by decide)) (fun _ => ?_)
      refine lv_aload_n hx hb dX12_isOpen_22 rfl (lv_at hl 0 rfl) ?_
      refine lv_iload_n hx hb dX12_isOpen_23 rfl (lv_at hl 1 rfl) ?_
      refine lv_iload_n hx hb dX12_isOpen_24 rfl (lv_at hl 3 rfl) ?_
      refine tk_Vi hC hK hw hT hA hE hSR kM_at0 (by decide) rfl (k_X12_isLifted_5 l adK adV dC dI cy ad B (by omega) (by omega) qr s1   a1 (show 0 ≤ a1.toInt from ra1) (show a1.toInt ≤ 11 from ta1) a3 (show 0 ≤ a3.toInt from ra3) (show a3.toInt ≤ 1073741944 from ta3) w0 H.size hT ) (cwV 2 hC.2.2.2.2 uV_RX12_320 rfl rfl rfl (by decide +kernel) ⟨Nat.le_of_ble_eq_true rfl, Nat.le_of_ble_eq_true rfl⟩) rfl hl.1 rfl (Nat.le_of_ble_eq_true rfl) dX12_isOpen_25 (fun r32 w34 H locs hp33 hw => ?_)
      obtain ⟨rfl, hg40⟩ := hp33
      rcases hg40 with ⟨rfl, hq36⟩ | ⟨rfl, ⟨x37, c38, rx37, tx37⟩, hq39⟩
      · refine lv_if_ne (tgt := 35) hx hb dX12_isOpen_28 (by decide) (fun c => absurd (by decide) c) (fun _ => ?_)
        refine lv_iconst (v := 1) hx hb dX12_isOpen_31 (by decide) ?_
        refine lv_goto (tgt := 36) hx hb dX12_isOpen_32 (by decide) ?_
        exact tk_zret hC hr rfl hlocks hK ⟨rfl, (Or.inr (Or.inr (Or.inr (Or.inr (Or.inr (Or.inl ⟨rfl, c6, (by rw [show x11.toInt = a3.toInt / 24 by omega] at hq21; unfold mOpen; first | exact ⟨by assumption, by assumption, by assumption⟩ | (rintro ⟨q1, q2, q3⟩; first | exact absurd q1 (by assumption) | exact absurd q2 (by assumption) | exact q3 (by assumption)))⟩))))))⟩ hw dX12_isOpen_36
      · refine lv_if_ne (tgt := 35) hx hb dX12_isOpen_28 (by decide) (fun _ => ?_) (fun c => absurd c (by decide))
        refine lv_iconst (v := 0) hx hb dX12_isOpen_35 (by decide) ?_
        exact tk_zret hC hr rfl hlocks hK ⟨rfl, (Or.inr (Or.inr (Or.inl ⟨rfl, c6, (by rw [show x11.toInt = a3.toInt / 24 by omega] at hq21; unfold mOpen; first | exact ⟨by assumption, by assumption, by assumption⟩ | (rintro ⟨q1, q2, q3⟩; first | exact absurd q1 (by assumption) | exact absurd q2 (by assumption) | exact q3 (by assumption)))⟩)))⟩ hw dX12_isOpen_36
  · refine lv_if_eq (tgt := 35) hx hb dX12_isOpen_6 (by decide) (fun c => absurd c (by decide)) (fun _ => ?_)
    refine lv_aload_n hx hb dX12_isOpen_9 rfl (lv_at hl 0 rfl) ?_
    refine lv_iload_n hx hb dX12_isOpen_10 rfl (lv_at hl 1 rfl) ?_
    refine lv_iload_n hx hb dX12_isOpen_11 rfl (lv_at hl 2 rfl) ?_
    refine lv_iload_n hx hb dX12_isOpen_12 rfl (lv_at hl 3 rfl) ?_
    refine lv_bipush (v := 24) hx hb dX12_isOpen_13 (by decide) ?_
    refine lv_idiv hx hb dX12_isOpen_15 (by decide) ?_
    refine lv_topi (fun x41 ex41 => ?_)
    have ex41 : x41.toInt = a3.toInt / (24 : Int) := by rw [ex41]; exact wk_div (show 0 ≤ a3.toInt from ra3) (show 0 < (24 : Int) by decide)
    refine tk_Vi hC hK hw hT hA hE hSR kM_at0 (by decide) rfl (k_X12_isDayFor_5 l adK adV dC dI cy ad B (by omega) (by omega) qr s1   a1 (show 0 ≤ a1.toInt from ra1) (show a1.toInt ≤ 11 from ta1) a2 (show 0 ≤ a2.toInt from ra2) (show a2.toInt ≤ 9 from ta2) x41 (show 0 ≤ x41.toInt by omega) (show x41.toInt ≤ 44739247 by omega) w0 H.size hT ) (cwV 3 hC.2.2.2.2 uV_RX12_317 rfl rfl rfl (by decide +kernel) ⟨Nat.le_of_ble_eq_true rfl, Nat.le_of_ble_eq_true rfl⟩) rfl hl.1 rfl (Nat.le_of_ble_eq_true rfl) dX12_isOpen_16 (fun r42 w44 H locs hp43 hw => ?_)
    obtain ⟨rfl, hg52⟩ := hp43
    rcases hg52 with ⟨rfl, hq46⟩ | ⟨rfl, c47, hq48⟩ | ⟨rfl, hq49⟩ | ⟨rfl, c50, hq51⟩
    · refine lv_if_eq (tgt := 35) hx hb dX12_isOpen_19 (by decide) (fun _ => ?_) (fun c => absurd (by decide) c)
      refine lv_iconst (v := 0) hx hb dX12_isOpen_35 (by decide) ?_
      exact tk_zret hC hr rfl hlocks hK ⟨rfl, (Or.inr (Or.inr (Or.inr (Or.inl ⟨rfl, c8, (by rw [show x41.toInt = a3.toInt / 24 by omega] at hq46; unfold mOpen; first | exact ⟨by assumption, by assumption, by assumption⟩ | (rintro ⟨q1, q2, q3⟩; first | exact absurd q1 (by assumption) | exact absurd q2 (by assumption) | exact q3 (by assumption)))⟩))))⟩ hw dX12_isOpen_36
    · refine lv_if_eq (tgt := 35) hx hb dX12_isOpen_19 (by decide) (fun _ => ?_) (fun c => absurd (by decide) c)
      refine lv_iconst (v := 0) hx hb dX12_isOpen_35 (by decide) ?_
      exact tk_zret hC hr rfl hlocks hK ⟨rfl, (Or.inr (Or.inl ⟨rfl, c47, c8, (by rw [show x41.toInt = a3.toInt / 24 by omega] at hq48; unfold mOpen; first | exact ⟨by assumption, by assumption, by assumption⟩ | (rintro ⟨q1, q2, q3⟩; first | exact absurd q1 (by assumption) | exact absurd q2 (by assumption) | exact q3 (by assumption)))⟩))⟩ hw dX12_isOpen_36
    · refine lv_if_eq (tgt := 35) hx hb dX12_isOpen_19 (by decide) (fun c => absurd c (by decide)) (fun _ => ?_)
      refine lv_aload_n hx hb dX12_isOpen_22 rfl (lv_at hl 0 rfl) ?_
      refine lv_iload_n hx hb dX12_isOpen_23 rfl (lv_at hl 1 rfl) ?_
      refine lv_iload_n hx hb dX12_isOpen_24 rfl (lv_at hl 3 rfl) ?_
      refine tk_Vi hC hK hw hT hA hE hSR kM_at0 (by decide) rfl (k_X12_isLifted_5 l adK adV dC dI cy ad B (by omega) (by omega) qr s1   a1 (show 0 ≤ a1.toInt from ra1) (show a1.toInt ≤ 11 from ta1) a3 (show 0 ≤ a3.toInt from ra3) (show a3.toInt ≤ 1073741944 from ta3) w0 H.size hT ) (cwV 2 hC.2.2.2.2 uV_RX12_320 rfl rfl rfl (by decide +kernel) ⟨Nat.le_of_ble_eq_true rfl, Nat.le_of_ble_eq_true rfl⟩) rfl hl.1 rfl (Nat.le_of_ble_eq_true rfl) dX12_isOpen_25 (fun r53 w55 H locs hp54 hw => ?_)
      obtain ⟨rfl, hg61⟩ := hp54
      rcases hg61 with ⟨rfl, hq57⟩ | ⟨rfl, ⟨x58, c59, rx58, tx58⟩, hq60⟩
      · refine lv_if_ne (tgt := 35) hx hb dX12_isOpen_28 (by decide) (fun c => absurd (by decide) c) (fun _ => ?_)
        refine lv_iconst (v := 1) hx hb dX12_isOpen_31 (by decide) ?_
        refine lv_goto (tgt := 36) hx hb dX12_isOpen_32 (by decide) ?_
        exact tk_zret hC hr rfl hlocks hK ⟨rfl, (Or.inr (Or.inr (Or.inr (Or.inr (Or.inr (Or.inr ⟨rfl, c8, (by rw [show x41.toInt = a3.toInt / 24 by omega] at hq49; unfold mOpen; first | exact ⟨by assumption, by assumption, by assumption⟩ | (rintro ⟨q1, q2, q3⟩; first | exact absurd q1 (by assumption) | exact absurd q2 (by assumption) | exact q3 (by assumption)))⟩))))))⟩ hw dX12_isOpen_36
      · refine lv_if_ne (tgt := 35) hx hb dX12_isOpen_28 (by decide) (fun _ => ?_) (fun c => absurd c (by decide))
        refine lv_iconst (v := 0) hx hb dX12_isOpen_35 (by decide) ?_
        exact tk_zret hC hr rfl hlocks hK ⟨rfl, (Or.inr (Or.inr (Or.inr (Or.inl ⟨rfl, c8, (by rw [show x41.toInt = a3.toInt / 24 by omega] at hq49; unfold mOpen; first | exact ⟨by assumption, by assumption, by assumption⟩ | (rintro ⟨q1, q2, q3⟩; first | exact absurd q1 (by assumption) | exact absurd q2 (by assumption) | exact q3 (by assumption)))⟩))))⟩ hw dX12_isOpen_36
    · refine lv_if_eq (tgt := 35) hx hb dX12_isOpen_19 (by decide) (fun c => absurd c (by decide)) (fun _ => ?_)
      refine lv_aload_n hx hb dX12_isOpen_22 rfl (lv_at hl 0 rfl) ?_
      refine lv_iload_n hx hb dX12_isOpen_23 rfl (lv_at hl 1 rfl) ?_
      refine lv_iload_n hx hb dX12_isOpen_24 rfl (lv_at hl 3 rfl) ?_
      refine tk_Vi hC hK hw hT hA hE hSR kM_at0 (by decide) rfl (k_X12_isLifted_5 l adK adV dC dI cy ad B (by omega) (by omega) qr s1   a1 (show 0 ≤ a1.toInt from ra1) (show a1.toInt ≤ 11 from ta1) a3 (show 0 ≤ a3.toInt from ra3) (show a3.toInt ≤ 1073741944 from ta3) w0 H.size hT ) (cwV 2 hC.2.2.2.2 uV_RX12_320 rfl rfl rfl (by decide +kernel) ⟨Nat.le_of_ble_eq_true rfl, Nat.le_of_ble_eq_true rfl⟩) rfl hl.1 rfl (Nat.le_of_ble_eq_true rfl) dX12_isOpen_25 (fun r62 w64 H locs hp63 hw => ?_)
      obtain ⟨rfl, hg70⟩ := hp63
      rcases hg70 with ⟨rfl, hq66⟩ | ⟨rfl, ⟨x67, c68, rx67, tx67⟩, hq69⟩
      · refine lv_if_ne (tgt := 35) hx hb dX12_isOpen_28 (by decide) (fun c => absurd (by decide) c) (fun _ => ?_)
        refine lv_iconst (v := 1) hx hb dX12_isOpen_31 (by decide) ?_
        refine lv_goto (tgt := 36) hx hb dX12_isOpen_32 (by decide) ?_
        exact tk_zret hC hr rfl hlocks hK ⟨rfl, (Or.inr (Or.inr (Or.inr (Or.inr (Or.inl ⟨rfl, c50, c8, (by rw [show x41.toInt = a3.toInt / 24 by omega] at hq51; unfold mOpen; first | exact ⟨by assumption, by assumption, by assumption⟩ | (rintro ⟨q1, q2, q3⟩; first | exact absurd q1 (by assumption) | exact absurd q2 (by assumption) | exact q3 (by assumption)))⟩)))))⟩ hw dX12_isOpen_36
      · refine lv_if_ne (tgt := 35) hx hb dX12_isOpen_28 (by decide) (fun _ => ?_) (fun c => absurd c (by decide))
        refine lv_iconst (v := 0) hx hb dX12_isOpen_35 (by decide) ?_
        exact tk_zret hC hr rfl hlocks hK ⟨rfl, (Or.inr (Or.inl ⟨rfl, c50, c8, (by rw [show x41.toInt = a3.toInt / 24 by omega] at hq51; unfold mOpen; first | exact ⟨by assumption, by assumption, by assumption⟩ | (rintro ⟨q1, q2, q3⟩; first | exact absurd q1 (by assumption) | exact absurd q2 (by assumption) | exact q3 (by assumption)))⟩))⟩ hw dX12_isOpen_36
abbrev P_X12_leads_1 (ad : Nat → Nat) (cy : Nat → ClassId) (B : Int) (qr : Nat) (s1 : Int) (a1 : Int32) (a2 : Int32) (a3 : Int32) (a4 : Int32) (a6 : Int32) (w0 : va_W) : va_W → Prop := fun u => TW ksM ad cy B qr 12 u ∧ FE ksM [(72, 0, 12), (73, 0, 10), (76, 0, 2600)] w0 u ∧ ((True))
set_option maxHeartbeats 4000000 in
set_option maxRecDepth 100000 in
theorem k_X12_leads_1 (l : Launch) (adK adV : Nat → Nat) (dC : Nat → ClassId) (dI : Nat → Nat → Nat) (cy : Nat → ClassId) (ad : Nat → Nat) (B : Int) (hB0 : 100000 ≤ B) (hB1 : B ≤ 1073741824) (qr : Nat) (s1 : Int)  (a1 : Int32) (ra1 : 0 ≤ a1.toInt) (ta1 : a1.toInt ≤ 3) (a2 : Int32) (ra2 : 0 ≤ a2.toInt) (ta2 : a2.toInt ≤ 1073741824) (a3 : Int32) (ra3 : 0 ≤ a3.toInt) (ta3 : a3.toInt ≤ 120) (a4 : Int32) (ra4 : 0 ≤ a4.toInt) (ta4 : a4.toInt ≤ 9) (a6 : Int32) (ra6 : 0 ≤ a6.toInt) (ta6 : a6.toInt ≤ 120) (w0 : va_W) (sz : Nat) (hT : TW ksM ad cy B qr 12 w0)  : Met l yX12_leads (wu yX12_leads cX12_leads 12 none) ({ frames := 5, cells := 0, slots := 0, locals := 103 }) (va_Pc [.ref (ad 0), .int a1, .int a2, .int a3, .int a4, .int 0, .int a6] (wpreS adK adV dC dI cy sz w0)) (va_Qv (P_X12_leads_1 ad cy B qr s1 a1 a2 a3 a4 a6 w0) (fun u : va_W => wpost dC dI cy (va_A w0 sz) u) (va_A w0 sz)) 0 0 (va_A w0 sz) := by
  refine Met.ofW (cc := cX12_leads) (maxL := 12) (ret := none) (by decide) rfl ?_
  intro p e s m args below meth c s₁ Bk hml hv
  obtain ⟨rfl, ⟨hsz, hP, hK, hD0⟩, hE, hSR⟩ := hv
  have hx := Bk.exec
  have hb := Bk.bytes
  have hr := Bk.returns
  have hlocks := Bk.notSynchronized
  have hC : CallFix p m c cX12_leads 12 s _ (wu yX12_leads cX12_leads 12 none) RX12 := ⟨hx, hb, hml, findClass_of_methodNamed Bk.named, atoms_spec (ws := (wu yX12_leads cX12_leads 12 none)) Bk.pre⟩
  subst hsz
  have hD := hD0.self (sz := s.heap.size)
  generalize hAe : va_A w0 s.heap.size = A at hD hE ⊢
  have hA : ∀ q : Nat, s.heap.size ≤ q → A q := fun q h => by rw [← hAe]; exact Or.inr h
  have hw : Wd dC dI A s.heap s.heap [] w0 := ⟨hP, hD, va_S.rf⟩
  have hF : FE ksM [(72, 0, 12), (73, 0, 10), (76, 0, 2600)] w0 w0 := FE.rf
  have hl := lv_entry ([.ref (ad 0), .int a1, .int a2, .int a3, .int a4, .int 0, .int a6]) (n := 12) (Nat.le_of_ble_eq_true rfl)
  rw [lg_entry_eq]
  generalize (lg_sl ([.ref (ad 0), .int a1, .int a2, .int a3, .int a4, .int 0, .int a6]) ++ List.replicate (12 - (lg_sl ([.ref (ad 0), .int a1, .int a2, .int a3, .int a4, .int 0, .int a6])).length) Slot.unset).toArray = ls at hl ⊢
  have hl : lv_has ls 12 [(0, .ref (ad 0)), (1, .int a1), (2, .int a2), (3, .int a3), (4, .int a4), (5, .int 0), (6, .int a6)] := hl
  generalize hloc : ([] : List Loc) = locs at hw ⊢
  have hinX12 : ∀ w ∈ u_ws RX12 TX12 42, w ∈ (wu yX12_leads cX12_leads 12 none) := fun _ h => List.mem_cons_of_mem _ (up_71 h)
  have J41 : ∀ (v41_7 : Int32) (H : Heap) (locs : List Loc) (ls : Array Slot) (w1 : va_W), 0 ≤ a1.toInt → a1.toInt ≤ 3 → 0 ≤ a2.toInt → a2.toInt ≤ 1073741824 → 0 ≤ a3.toInt → a3.toInt ≤ 120 → 0 ≤ a4.toInt → a4.toInt ≤ 9 → 0 ≤ a6.toInt → a6.toInt ≤ 120 → Wd dC dI A s.heap H locs w1 → TW ksM ad cy B qr 12 w1 → FE ksM [(72, 0, 12), (73, 0, 10), (76, 0, 2600)] w0 w1 → lv_has ls 12 [(0, .ref (ad 0)), (1, .int a1), (2, .int a2), (3, .int a3), (4, .int a4), (5, .int 0), (6, .int a6), (7, .int v41_7)] → W p l e ({ frames := 5, cells := 0, slots := 0, locals := 103 }) s m (List.toArray [.ref (ad 0), .int a1, .int a2, .int a3, .int a4, .int 0, .int a6]) below meth c H locs 0 0 (MQ below (va_Qv (P_X12_leads_1 ad cy B qr s1 a1 a2 a3 a4 a6 w0) (fun u : va_W => wpost dC dI cy A u) A) (List.toArray [.ref (ad 0), .int a1, .int a2, .int a3, .int a4, .int 0, .int a6]) s 0 0 A) (F0 m 41 ls []) := by
    intro v41_7 H locs ls w1 r2 t3 r4 t5 r6 t7 r8 t9 r10 t11 hw hT hF hl
    exact tk_vret hC hr hlocks hK ⟨hT, hF, trivial⟩ hw dX12_leads_41
  have J181 : ∀ (v181_7 : Int32) (v181_8 : Int32) (v181_9 : Int32) (v181_10 : Int32) (f181_12__9_a1_toInt_217_toNat : Int32) (f181_12__9_a1_toInt_218_toNat : Int32) (H : Heap) (locs : List Loc) (ls : Array Slot) (w12 : va_W), 0 ≤ a1.toInt → a1.toInt ≤ 3 → 0 ≤ a2.toInt → a2.toInt ≤ 1073741824 → 0 ≤ a3.toInt → a3.toInt ≤ 120 → 0 ≤ a4.toInt → a4.toInt ≤ 9 → 0 ≤ a6.toInt → a6.toInt ≤ 120 → 0 ≤ v181_8.toInt → v181_8.toInt ≤ 1073741944 → 0 ≤ v181_9.toInt → v181_9.toInt ≤ 1 → (-1) ≤ v181_10.toInt → v181_10.toInt ≤ 11 → 0 ≤ f181_12__9_a1_toInt_217_toNat.toInt → f181_12__9_a1_toInt_217_toNat.toInt ≤ 9 → 0 ≤ f181_12__9_a1_toInt_218_toNat.toInt → f181_12__9_a1_toInt_218_toNat.toInt ≤ 3 → Wd dC dI A s.heap H locs w12 → TW ksM ad cy B qr 12 w12 → FE ksM [(72, 0, 12), (73, 0, 10), (76, 0, 2600)] w0 w12 → gi w12 12 (9 * a1.toInt + 217).toNat = f181_12__9_a1_toInt_217_toNat → gi w12 12 (9 * a1.toInt + 218).toNat = f181_12__9_a1_toInt_218_toNat → lv_has ls 12 [(0, .ref (ad 0)), (1, .int a1), (2, .int a2), (3, .int a3), (4, .int a4), (5, .int 0), (6, .int a6), (7, .int v181_7), (8, .int v181_8), (9, .int v181_9), (10, .int v181_10)] → W p l e ({ frames := 5, cells := 0, slots := 0, locals := 103 }) s m (List.toArray [.ref (ad 0), .int a1, .int a2, .int a3, .int a4, .int 0, .int a6]) below meth c H locs 0 0 (MQ below (va_Qv (P_X12_leads_1 ad cy B qr s1 a1 a2 a3 a4 a6 w0) (fun u : va_W => wpost dC dI cy A u) A) (List.toArray [.ref (ad 0), .int a1, .int a2, .int a3, .int a4, .int 0, .int a6]) s 0 0 A) (F0 m 181 ls []) := by
    intro v181_7 v181_8 v181_9 v181_10 f181_12__9_a1_toInt_217_toNat f181_12__9_a1_toInt_218_toNat H locs ls w12 r13 t14 r15 t16 r17 t18 r19 t20 r21 t22 r23 t24 r25 t26 r27 t28 r29 t30 r32 t33 hw hT hF c31 c34 hl
    exact tk_vret hC hr hlocks hK ⟨hT, hF, trivial⟩ hw dX12_leads_181
  have J241 : ∀ (v241_7 : Int32) (v241_8 : Int32) (v241_9 : Int32) (v241_10 : Int32) (v241_11 : Int32) (f241_12__9_a1_toInt_217_toNat : Int32) (f241_12__9_a1_toInt_218_toNat : Int32) (f241_12_1 : Int32) (H : Heap) (locs : List Loc) (ls : Array Slot) (w35 : va_W), 0 ≤ a1.toInt → a1.toInt ≤ 3 → 0 ≤ a2.toInt → a2.toInt ≤ 1073741824 → 0 ≤ a3.toInt → a3.toInt ≤ 120 → 0 ≤ a4.toInt → a4.toInt ≤ 9 → 0 ≤ a6.toInt → a6.toInt ≤ 120 → 0 ≤ v241_8.toInt → v241_8.toInt ≤ 1073741944 → 0 ≤ v241_9.toInt → v241_9.toInt ≤ 1 → 0 ≤ v241_10.toInt → v241_10.toInt ≤ 11 → 0 ≤ v241_11.toInt → v241_11.toInt ≤ 129 → 0 ≤ f241_12__9_a1_toInt_217_toNat.toInt → f241_12__9_a1_toInt_217_toNat.toInt ≤ 9 → 0 ≤ f241_12__9_a1_toInt_218_toNat.toInt → f241_12__9_a1_toInt_218_toNat.toInt ≤ 3 → 1 ≤ f241_12_1.toInt → f241_12_1.toInt ≤ 12 → Wd dC dI A s.heap H locs w35 → TW ksM ad cy B qr 12 w35 → FE ksM [(72, 0, 12), (73, 0, 10), (76, 0, 2600)] w0 w35 → gi w35 12 (9 * a1.toInt + 217).toNat = f241_12__9_a1_toInt_217_toNat → gi w35 12 (9 * a1.toInt + 218).toNat = f241_12__9_a1_toInt_218_toNat → gi w35 12 1 = f241_12_1 → lv_has ls 12 [(0, .ref (ad 0)), (1, .int a1), (2, .int a2), (3, .int a3), (4, .int a4), (5, .int 0), (6, .int a6), (7, .int v241_7), (8, .int v241_8), (9, .int v241_9), (10, .int v241_10), (11, .int v241_11)] → W p l e ({ frames := 5, cells := 0, slots := 0, locals := 103 }) s m (List.toArray [.ref (ad 0), .int a1, .int a2, .int a3, .int a4, .int 0, .int a6]) below meth c H locs 0 0 (MQ below (va_Qv (P_X12_leads_1 ad cy B qr s1 a1 a2 a3 a4 a6 w0) (fun u : va_W => wpost dC dI cy A u) A) (List.toArray [.ref (ad 0), .int a1, .int a2, .int a3, .int a4, .int 0, .int a6]) s 0 0 A) (F0 m 241 ls []) := by
    intro v241_7 v241_8 v241_9 v241_10 v241_11 f241_12__9_a1_toInt_217_toNat f241_12__9_a1_toInt_218_toNat f241_12_1 H locs ls w35 r36 t37 r38 t39 r40 t41 r42 t43 r44 t45 r46 t47 r48 t49 r50 t51 r52 t53 r54 t55 r57 t58 r60 t61 hw hT hF c56 c59 c62 hl
    exact tk_vret hC hr hlocks hK ⟨hT, hF, trivial⟩ hw dX12_leads_241
  have J145 : ∀ (v145_7 : Int32) (v145_8 : Int32) (v145_9 : Int32) (f145_12__9_a1_toInt_217_toNat : Int32) (f145_12__9_a1_toInt_218_toNat : Int32) (H : Heap) (locs : List Loc) (ls : Array Slot) (w63 : va_W), 0 ≤ a1.toInt → a1.toInt ≤ 3 → 0 ≤ a2.toInt → a2.toInt ≤ 1073741824 → 0 ≤ a3.toInt → a3.toInt ≤ 120 → 0 ≤ a4.toInt → a4.toInt ≤ 9 → 0 ≤ a6.toInt → a6.toInt ≤ 120 → 0 ≤ v145_8.toInt → v145_8.toInt ≤ 1073741944 → 0 ≤ v145_9.toInt → v145_9.toInt ≤ 1 → 0 ≤ f145_12__9_a1_toInt_217_toNat.toInt → f145_12__9_a1_toInt_217_toNat.toInt ≤ 9 → 0 ≤ f145_12__9_a1_toInt_218_toNat.toInt → f145_12__9_a1_toInt_218_toNat.toInt ≤ 3 → Wd dC dI A s.heap H locs w63 → TW ksM ad cy B qr 12 w63 → FE ksM [(72, 0, 12), (73, 0, 10), (76, 0, 2600)] w0 w63 → gi w63 12 (9 * a1.toInt + 217).toNat = f145_12__9_a1_toInt_217_toNat → gi w63 12 (9 * a1.toInt + 218).toNat = f145_12__9_a1_toInt_218_toNat → lv_has ls 12 [(0, .ref (ad 0)), (1, .int a1), (2, .int a2), (3, .int a3), (4, .int a4), (5, .int 0), (6, .int a6), (7, .int v145_7), (8, .int v145_8), (9, .int v145_9)] → W p l e ({ frames := 5, cells := 0, slots := 0, locals := 103 }) s m (List.toArray [.ref (ad 0), .int a1, .int a2, .int a3, .int a4, .int 0, .int a6]) below meth c H locs 0 0 (MQ below (va_Qv (P_X12_leads_1 ad cy B qr s1 a1 a2 a3 a4 a6 w0) (fun u : va_W => wpost dC dI cy A u) A) (List.toArray [.ref (ad 0), .int a1, .int a2, .int a3, .int a4, .int 0, .int a6]) s 0 0 A) (F0 m 145 ls []) := by
    intro v145_7 v145_8 v145_9 f145_12__9_a1_toInt_217_toNat f145_12__9_a1_toInt_218_toNat H locs ls w63 r64 t65 r66 t67 r68 t69 r70 t71 r72 t73 r74 t75 r76 t77 r78 t79 r81 t82 hw hT hF c80 c83 hl
    refine lv_aload_n hx hb dX12_leads_145 rfl (lv_at hl 0 rfl) ?_
    refine lv_aload_n hx hb dX12_leads_146 rfl (lv_at hl 0 rfl) ?_
    refine lv_iload_n hx hb dX12_leads_147 rfl (lv_at hl 1 rfl) ?_
    refine lv_iconst (v := 1) hx hb dX12_leads_148 (by decide) ?_
    refine tk_Vi hC hK hw hT hA hE hSR kM_at0 (by decide) rfl (k_X12_walkerOf_3 l adK adV dC dI cy ad B (by omega) (by omega) qr s1   a1 (show 0 ≤ a1.toInt from r64) (show a1.toInt ≤ 3 from t65) w63 H.size hT ) (cwV 2 hC.2.2.2.2 uV_RX12_372 rfl rfl rfl (by decide +kernel) ⟨Nat.le_of_ble_eq_true rfl, Nat.le_of_ble_eq_true rfl⟩) rfl hl.1 rfl (Nat.le_of_ble_eq_true rfl) dX12_leads_149 (fun r84 w86 H locs hp85 hw => ?_)
    obtain ⟨rfl, hg91⟩ := hp85
    obtain ⟨g88, g89, c90⟩ := hg91
    obtain rfl : f145_12__9_a1_toInt_217_toNat = r84 := c80.symm.trans c90
    refine tk_Vv hC hK hw hT hA hE hSR kM_at0 (by decide) rfl (k_X12_spreads_1 l adK adV dC dI cy ad B (by omega) (by omega) qr s1   f145_12__9_a1_toInt_217_toNat (show 0 ≤ f145_12__9_a1_toInt_217_toNat.toInt from r78) (show f145_12__9_a1_toInt_217_toNat.toInt ≤ 9 from t79) w63 H.size hT ) (cwV 1 hC.2.2.2.2 uV_RX12_354 rfl rfl rfl (by decide +kernel) ⟨Nat.le_of_ble_eq_true rfl, Nat.le_of_ble_eq_true rfl⟩) rfl hl.1 rfl (Nat.le_of_ble_eq_true rfl) dX12_leads_152 (fun w94 H locs hp93 hw => ?_)
    obtain ⟨hT, k95, hg96⟩ := hp93
    have hF := hF.tr k95 (by decide)
    have c97 := k95.gi kM_at12 rfl c80
    have c98 := k95.gi kM_at12 rfl c83
    clear hg96
    refine lv_aload_n hx hb dX12_leads_155 rfl (lv_at hl 0 rfl) ?_
    refine lv_iload hx hb dX12_leads_156 (lv_at hl 4 rfl) ?_
    refine tk_Vi hC hK hw hT hA hE hSR kM_at0 (by decide) rfl (k_X12_streetFrom_1 l adK adV dC dI cy ad B (by omega) (by omega) qr s1   a4 (show 0 ≤ a4.toInt from r70) (show a4.toInt ≤ 9 from t71) w94 H.size hT ) (cwV 1 hC.2.2.2.2 uV_RX12_357 rfl rfl rfl (by decide +kernel) ⟨Nat.le_of_ble_eq_true rfl, Nat.le_of_ble_eq_true rfl⟩) rfl hl.1 rfl (Nat.le_of_ble_eq_true rfl) dX12_leads_158 (fun r99 w101 H locs hp100 hw => ?_)
    obtain ⟨rfl, hg119⟩ := hp100
    rcases hg119 with ⟨g103, g104, ⟨x105, c106, rx105, tx105⟩, c107, c108⟩ | ⟨g109, g110, ⟨x111, c112, rx111, tx111⟩, c113⟩ | ⟨g114, g115, ⟨x116, c117, rx116, tx116⟩, c118⟩ | rfl
    · refine lv_istore (lv' := [(10, .int r99), (0, .ref (ad 0)), (1, .int a1), (2, .int a2), (3, .int a3), (4, .int a4), (5, .int 0), (6, .int a6), (7, .int v145_7), (8, .int v145_8), (9, .int v145_9)]) hx hb dX12_leads_161 hl (by decide) rfl (fun ls hl => ?_)
      refine lv_iload hx hb dX12_leads_163 (lv_at hl 0 rfl) ?_
      refine lv_if_lt (tgt := 181) hx hb dX12_leads_165 (by decide) (fun c => absurd c (fun h => absurd (show r99.toInt < (0 : Int) from wk_lt.mp h) (by omega))) (fun _ => ?_)
      refine lv_aload_n hx hb dX12_leads_168 rfl (lv_at hl 1 rfl) ?_
      refine lv_iload hx hb dX12_leads_169 (lv_at hl 0 rfl) ?_
      refine lv_iload hx hb dX12_leads_171 (lv_at hl 5 rfl) ?_
      refine lv_iload hx hb dX12_leads_173 (lv_at hl 9 rfl) ?_
      refine tk_Vi hC hK hw hT hA hE hSR kM_at0 (by decide) rfl (k_X12_isOpen_3 l adK adV dC dI cy ad B (by omega) (by omega) qr s1   r99 (show 0 ≤ r99.toInt by omega) (show r99.toInt ≤ 11 by omega) a4 (show 0 ≤ a4.toInt from r70) (show a4.toInt ≤ 9 from t71) v145_8 (show 0 ≤ v145_8.toInt from r74) (show v145_8.toInt ≤ 1073741944 from t75) w94 H.size hT ) (cwV 3 hC.2.2.2.2 uV_RX12_334 rfl rfl rfl (by decide +kernel) ⟨Nat.le_of_ble_eq_true rfl, Nat.le_of_ble_eq_true rfl⟩) rfl hl.1 rfl (Nat.le_of_ble_eq_true rfl) dX12_leads_175 (fun r120 w122 H locs hp121 hw => ?_)
      obtain ⟨rfl, hg139⟩ := hp121
      rcases hg139 with ⟨rfl, hq124⟩ | ⟨rfl, c125, c126, hq127⟩ | ⟨rfl, c128, hq129⟩ | ⟨rfl, c130, hq131⟩ | ⟨rfl, c132, c133, hq134⟩ | ⟨rfl, c135, hq136⟩ | ⟨rfl, c137, hq138⟩
      · refine lv_if_ne (tgt := 182) hx hb dX12_leads_178 (by decide) (fun c => absurd (by decide) c) (fun _ => ?_)
        exact J181 v145_7 v145_8 v145_9 r99 f145_12__9_a1_toInt_217_toNat f145_12__9_a1_toInt_218_toNat H locs ls w94 (show 0 ≤ a1.toInt from r64) (show a1.toInt ≤ 3 from t65) (show 0 ≤ a2.toInt from r66) (show a2.toInt ≤ 1073741824 from t67) (show 0 ≤ a3.toInt from r68) (show a3.toInt ≤ 120 from t69) (show 0 ≤ a4.toInt from r70) (show a4.toInt ≤ 9 from t71) (show 0 ≤ a6.toInt from r72) (show a6.toInt ≤ 120 from t73) (show 0 ≤ v145_8.toInt from r74) (show v145_8.toInt ≤ 1073741944 from t75) (show 0 ≤ v145_9.toInt from r76) (show v145_9.toInt ≤ 1 from t77) (show (-1) ≤ r99.toInt by omega) (show r99.toInt ≤ 11 by omega) (show 0 ≤ f145_12__9_a1_toInt_217_toNat.toInt from r78) (show f145_12__9_a1_toInt_217_toNat.toInt ≤ 9 from t79) (show 0 ≤ f145_12__9_a1_toInt_218_toNat.toInt from r81) (show f145_12__9_a1_toInt_218_toNat.toInt ≤ 3 from t82)  hw hT hF c97 c98 (lv_sub hl [1, 2, 3, 4, 5, 6, 7, 8, 9, 10, 0] rfl)
      · refine lv_if_ne (tgt := 182) hx hb dX12_leads_178 (by decide) (fun c => absurd (by decide) c) (fun _ => ?_)
        exact J181 v145_7 v145_8 v145_9 r99 f145_12__9_a1_toInt_217_toNat f145_12__9_a1_toInt_218_toNat H locs ls w94 (show 0 ≤ a1.toInt from r64) (show a1.toInt ≤ 3 from t65) (show 0 ≤ a2.toInt from r66) (show a2.toInt ≤ 1073741824 from t67) (show 0 ≤ a3.toInt from r68) (show a3.toInt ≤ 120 from t69) (show 0 ≤ a4.toInt from r70) (show a4.toInt ≤ 9 from t71) (show 0 ≤ a6.toInt from r72) (show a6.toInt ≤ 120 from t73) (show 0 ≤ v145_8.toInt from r74) (show v145_8.toInt ≤ 1073741944 from t75) (show 0 ≤ v145_9.toInt from r76) (show v145_9.toInt ≤ 1 from t77) (show (-1) ≤ r99.toInt by omega) (show r99.toInt ≤ 11 by omega) (show 0 ≤ f145_12__9_a1_toInt_217_toNat.toInt from r78) (show f145_12__9_a1_toInt_217_toNat.toInt ≤ 9 from t79) (show 0 ≤ f145_12__9_a1_toInt_218_toNat.toInt from r81) (show f145_12__9_a1_toInt_218_toNat.toInt ≤ 3 from t82)  hw hT hF c97 c98 (lv_sub hl [1, 2, 3, 4, 5, 6, 7, 8, 9, 10, 0] rfl)
      · refine lv_if_ne (tgt := 182) hx hb dX12_leads_178 (by decide) (fun c => absurd (by decide) c) (fun _ => ?_)
        exact J181 v145_7 v145_8 v145_9 r99 f145_12__9_a1_toInt_217_toNat f145_12__9_a1_toInt_218_toNat H locs ls w94 (show 0 ≤ a1.toInt from r64) (show a1.toInt ≤ 3 from t65) (show 0 ≤ a2.toInt from r66) (show a2.toInt ≤ 1073741824 from t67) (show 0 ≤ a3.toInt from r68) (show a3.toInt ≤ 120 from t69) (show 0 ≤ a4.toInt from r70) (show a4.toInt ≤ 9 from t71) (show 0 ≤ a6.toInt from r72) (show a6.toInt ≤ 120 from t73) (show 0 ≤ v145_8.toInt from r74) (show v145_8.toInt ≤ 1073741944 from t75) (show 0 ≤ v145_9.toInt from r76) (show v145_9.toInt ≤ 1 from t77) (show (-1) ≤ r99.toInt by omega) (show r99.toInt ≤ 11 by omega) (show 0 ≤ f145_12__9_a1_toInt_217_toNat.toInt from r78) (show f145_12__9_a1_toInt_217_toNat.toInt ≤ 9 from t79) (show 0 ≤ f145_12__9_a1_toInt_218_toNat.toInt from r81) (show f145_12__9_a1_toInt_218_toNat.toInt ≤ 3 from t82)  hw hT hF c97 c98 (lv_sub hl [1, 2, 3, 4, 5, 6, 7, 8, 9, 10, 0] rfl)
      · refine lv_if_ne (tgt := 182) hx hb dX12_leads_178 (by decide) (fun c => absurd (by decide) c) (fun _ => ?_)
        exact J181 v145_7 v145_8 v145_9 r99 f145_12__9_a1_toInt_217_toNat f145_12__9_a1_toInt_218_toNat H locs ls w94 (show 0 ≤ a1.toInt from r64) (show a1.toInt ≤ 3 from t65) (show 0 ≤ a2.toInt from r66) (show a2.toInt ≤ 1073741824 from t67) (show 0 ≤ a3.toInt from r68) (show a3.toInt ≤ 120 from t69) (show 0 ≤ a4.toInt from r70) (show a4.toInt ≤ 9 from t71) (show 0 ≤ a6.toInt from r72) (show a6.toInt ≤ 120 from t73) (show 0 ≤ v145_8.toInt from r74) (show v145_8.toInt ≤ 1073741944 from t75) (show 0 ≤ v145_9.toInt from r76) (show v145_9.toInt ≤ 1 from t77) (show (-1) ≤ r99.toInt by omega) (show r99.toInt ≤ 11 by omega) (show 0 ≤ f145_12__9_a1_toInt_217_toNat.toInt from r78) (show f145_12__9_a1_toInt_217_toNat.toInt ≤ 9 from t79) (show 0 ≤ f145_12__9_a1_toInt_218_toNat.toInt from r81) (show f145_12__9_a1_toInt_218_toNat.toInt ≤ 3 from t82)  hw hT hF c97 c98 (lv_sub hl [1, 2, 3, 4, 5, 6, 7, 8, 9, 10, 0] rfl)
      · refine lv_if_ne (tgt := 182) hx hb dX12_leads_178 (by decide) (fun _ => ?_) (fun c => absurd c (by decide))
        refine lv_iload_n hx hb dX12_leads_182 rfl (lv_at hl 4 rfl) ?_
        refine lv_aload_n hx hb dX12_leads_183 rfl (lv_at hl 1 rfl) ?_
        refine lv_iload hx hb dX12_leads_184 (lv_at hl 0 rfl) ?_
        refine lv_iconst (v := 2) hx hb dX12_leads_186 (by decide) ?_
        refine tk_Vi hC hK hw hT hA hE hSR kM_at0 (by decide) rfl (k_X12_streetOf_6 l adK adV dC dI cy ad B (by omega) (by omega) qr s1   r99 (show 0 ≤ r99.toInt by omega) (show r99.toInt ≤ 11 by omega) w94 H.size hT ) (cwV 2 hC.2.2.2.2 uV_RX12_300 rfl rfl rfl (by decide +kernel) ⟨Nat.le_of_ble_eq_true rfl, Nat.le_of_ble_eq_true rfl⟩) rfl hl.1 rfl (Nat.le_of_ble_eq_true rfl) dX12_leads_187 (fun r140 w142 H locs hp141 hw => ?_)
        obtain ⟨rfl, hg147⟩ := hp141
        obtain ⟨g144, g145, c146⟩ := hg147
        refine lv_iadd hx hb dX12_leads_190 ?_
        refine lv_topi (fun x148 ex148 => ?_)
        have ex148 : x148.toInt = a3.toInt + r140.toInt := by rw [ex148]; exact wk_add (show (-2147483648) ≤ a3.toInt + r140.toInt by omega) (show a3.toInt + r140.toInt ≤ 2147483647 by omega)
        refine lv_istore (lv' := [(11, .int x148), (10, .int r99), (0, .ref (ad 0)), (1, .int a1), (2, .int a2), (3, .int a3), (4, .int a4), (5, .int 0), (6, .int a6), (7, .int v145_7), (8, .int v145_8), (9, .int v145_9)]) hx hb dX12_leads_191 hl (by decide) rfl (fun ls hl => ?_)
        refine lv_iload hx hb dX12_leads_193 (lv_at hl 0 rfl) ?_
        refine lv_iload hx hb dX12_leads_195 (lv_at hl 8 rfl) ?_
        refine lv_icmp_gt (tgt := 241) hx hb dX12_leads_197 (by decide) (fun c149 => ?_) (fun c149 => ?_)
        · have c149 : a6.toInt < x148.toInt := wk_lt.mp c149
          exact J241 v145_7 v145_8 v145_9 r99 x148 f145_12__9_a1_toInt_217_toNat f145_12__9_a1_toInt_218_toNat x105 H locs ls w94 (show 0 ≤ a1.toInt from r64) (show a1.toInt ≤ 3 from t65) (show 0 ≤ a2.toInt from r66) (show a2.toInt ≤ 1073741824 from t67) (show 0 ≤ a3.toInt from r68) (show a3.toInt ≤ 120 from t69) (show 0 ≤ a4.toInt from r70) (show a4.toInt ≤ 9 from t71) (show 0 ≤ a6.toInt from r72) (show a6.toInt ≤ 120 from t73) (show 0 ≤ v145_8.toInt from r74) (show v145_8.toInt ≤ 1073741944 from t75) (show 0 ≤ v145_9.toInt from r76) (show v145_9.toInt ≤ 1 from t77) (show 0 ≤ r99.toInt by omega) (show r99.toInt ≤ 11 by omega) (show 0 ≤ x148.toInt by omega) (show x148.toInt ≤ 129 by omega) (show 0 ≤ f145_12__9_a1_toInt_217_toNat.toInt from r78) (show f145_12__9_a1_toInt_217_toNat.toInt ≤ 9 from t79) (show 0 ≤ f145_12__9_a1_toInt_218_toNat.toInt from r81) (show f145_12__9_a1_toInt_218_toNat.toInt ≤ 3 from t82) (show 1 ≤ x105.toInt by omega) (show x105.toInt ≤ 12 by omega)  hw hT hF c97 c98 c106 (lv_sub hl [2, 3, 4, 5, 6, 7, 8, 9, 10, 11, 1, 0] rfl)
        · have c149 : x148.toInt ≤ a6.toInt := wk_ltF c149
          refine lv_aload_n hx hb dX12_leads_200 rfl (lv_at hl 2 rfl) ?_
          refine lv_iload hx hb dX12_leads_201 (lv_at hl 0 rfl) ?_
          refine lv_aload_n hx hb dX12_leads_203 rfl (lv_at hl 2 rfl) ?_
          refine lv_iload hx hb dX12_leads_204 (lv_at hl 1 rfl) ?_
          refine lv_iload hx hb dX12_leads_206 (lv_at hl 6 rfl) ?_
          refine tk_Vi hC hK hw hT hA hE hSR kM_at0 (by decide) rfl (k_X12_otherOf_1 l adK adV dC dI cy ad B (by omega) (by omega) qr s1   r99 (show 0 ≤ r99.toInt by omega) (show r99.toInt ≤ 11 by omega) a4 (show 0 ≤ a4.toInt from r70) (show a4.toInt ≤ 9 from t71) w94 H.size hT ) (cwV 2 hC.2.2.2.2 uV_RX12_348 rfl rfl rfl (by decide +kernel) ⟨Nat.le_of_ble_eq_true rfl, Nat.le_of_ble_eq_true rfl⟩) rfl hl.1 rfl (Nat.le_of_ble_eq_true rfl) dX12_leads_208 (fun r150 w152 H locs hp151 hw => ?_)
          obtain ⟨rfl, hg159⟩ := hp151
          rcases hg159 with ⟨g154, g155⟩ | ⟨g156, g157, c158⟩
          · refine lv_iload hx hb dX12_leads_211 (lv_at hl 7 rfl) ?_
            refine lv_if_eq (tgt := 235) hx hb dX12_leads_213 (by decide) (fun _ => ?_) (fun c => absurd (by decide) c)
            refine lv_iconst (v := 0) hx hb dX12_leads_235 (by decide) ?_
            refine lv_iload hx hb dX12_leads_236 (lv_at hl 9 rfl) ?_
            refine tk_Vv hC hK hw hT hA hE hSR kM_at0 (by decide) rfl (k_X12_could_3 l adK adV dC dI cy ad B (by omega) (by omega) qr s1   x148 (show 0 ≤ x148.toInt by omega) (show x148.toInt ≤ 120 by omega) r150 (show 0 ≤ r150.toInt by omega) (show r150.toInt ≤ 9 by omega) v145_7 w94 H.size hT ) (cwV 4 hC.2.2.2.2 uV_RX12_439 rfl rfl rfl (by decide +kernel) ⟨Nat.le_of_ble_eq_true rfl, Nat.le_of_ble_eq_true rfl⟩) rfl hl.1 rfl (Nat.le_of_ble_eq_true rfl) dX12_leads_238 (fun w162 H locs hp161 hw => ?_)
            obtain ⟨hT, k163, hg164⟩ := hp161
            have hF := hF.tr k163 (by decide)
            have c165 := k163.gi kM_at12 rfl c97
            have c166 := k163.gi kM_at12 rfl c98
            have c167 := k163.gi kM_at12 (by decide) c106
            have c168 := k163.gi kM_at12 rfl c107
            have c169 := k163.gi kM_at12 rfl c108
            have c170 := k163.gi kM_at12 rfl c146
            clear hg164
            exact J241 v145_7 v145_8 v145_9 r99 x148 f145_12__9_a1_toInt_217_toNat f145_12__9_a1_toInt_218_toNat x105 H locs ls w162 (show 0 ≤ a1.toInt from r64) (show a1.toInt ≤ 3 from t65) (show 0 ≤ a2.toInt from r66) (show a2.toInt ≤ 1073741824 from t67) (show 0 ≤ a3.toInt from r68) (show a3.toInt ≤ 120 from t69) (show 0 ≤ a4.toInt from r70) (show a4.toInt ≤ 9 from t71) (show 0 ≤ a6.toInt from r72) (show a6.toInt ≤ 120 from t73) (show 0 ≤ v145_8.toInt from r74) (show v145_8.toInt ≤ 1073741944 from t75) (show 0 ≤ v145_9.toInt from r76) (show v145_9.toInt ≤ 1 from t77) (show 0 ≤ r99.toInt by omega) (show r99.toInt ≤ 11 by omega) (show 0 ≤ x148.toInt by omega) (show x148.toInt ≤ 129 by omega) (show 0 ≤ f145_12__9_a1_toInt_217_toNat.toInt from r78) (show f145_12__9_a1_toInt_217_toNat.toInt ≤ 9 from t79) (show 0 ≤ f145_12__9_a1_toInt_218_toNat.toInt from r81) (show f145_12__9_a1_toInt_218_toNat.toInt ≤ 3 from t82) (show 1 ≤ x105.toInt by omega) (show x105.toInt ≤ 12 by omega)  hw hT hF c165 c166 c167 (lv_sub hl [2, 3, 4, 5, 6, 7, 8, 9, 10, 11, 1, 0] rfl)
          · refine lv_iload hx hb dX12_leads_211 (lv_at hl 7 rfl) ?_
            refine lv_if_eq (tgt := 235) hx hb dX12_leads_213 (by decide) (fun _ => ?_) (fun c => absurd (by decide) c)
            refine lv_iconst (v := 0) hx hb dX12_leads_235 (by decide) ?_
            refine lv_iload hx hb dX12_leads_236 (lv_at hl 9 rfl) ?_
            refine tk_Vv hC hK hw hT hA hE hSR kM_at0 (by decide) rfl (k_X12_could_3 l adK adV dC dI cy ad B (by omega) (by omega) qr s1   x148 (show 0 ≤ x148.toInt by omega) (show x148.toInt ≤ 120 by omega) r150 (show 0 ≤ r150.toInt by omega) (show r150.toInt ≤ 9 by omega) v145_7 w94 H.size hT ) (cwV 4 hC.2.2.2.2 uV_RX12_439 rfl rfl rfl (by decide +kernel) ⟨Nat.le_of_ble_eq_true rfl, Nat.le_of_ble_eq_true rfl⟩) rfl hl.1 rfl (Nat.le_of_ble_eq_true rfl) dX12_leads_238 (fun w173 H locs hp172 hw => ?_)
            obtain ⟨hT, k174, hg175⟩ := hp172
            have hF := hF.tr k174 (by decide)
            have c176 := k174.gi kM_at12 rfl c97
            have c177 := k174.gi kM_at12 rfl c98
            have c178 := k174.gi kM_at12 (by decide) c106
            have c179 := k174.gi kM_at12 rfl c107
            have c180 := k174.gi kM_at12 rfl c108
            have c181 := k174.gi kM_at12 rfl c146
            clear hg175
            exact J241 v145_7 v145_8 v145_9 r99 x148 f145_12__9_a1_toInt_217_toNat f145_12__9_a1_toInt_218_toNat x105 H locs ls w173 (show 0 ≤ a1.toInt from r64) (show a1.toInt ≤ 3 from t65) (show 0 ≤ a2.toInt from r66) (show a2.toInt ≤ 1073741824 from t67) (show 0 ≤ a3.toInt from r68) (show a3.toInt ≤ 120 from t69) (show 0 ≤ a4.toInt from r70) (show a4.toInt ≤ 9 from t71) (show 0 ≤ a6.toInt from r72) (show a6.toInt ≤ 120 from t73) (show 0 ≤ v145_8.toInt from r74) (show v145_8.toInt ≤ 1073741944 from t75) (show 0 ≤ v145_9.toInt from r76) (show v145_9.toInt ≤ 1 from t77) (show 0 ≤ r99.toInt by omega) (show r99.toInt ≤ 11 by omega) (show 0 ≤ x148.toInt by omega) (show x148.toInt ≤ 129 by omega) (show 0 ≤ f145_12__9_a1_toInt_217_toNat.toInt from r78) (show f145_12__9_a1_toInt_217_toNat.toInt ≤ 9 from t79) (show 0 ≤ f145_12__9_a1_toInt_218_toNat.toInt from r81) (show f145_12__9_a1_toInt_218_toNat.toInt ≤ 3 from t82) (show 1 ≤ x105.toInt by omega) (show x105.toInt ≤ 12 by omega)  hw hT hF c176 c177 c178 (lv_sub hl [2, 3, 4, 5, 6, 7, 8, 9, 10, 11, 1, 0] rfl)
      · refine lv_if_ne (tgt := 182) hx hb dX12_leads_178 (by decide) (fun _ => ?_) (fun c => absurd c (by decide))
        refine lv_iload_n hx hb dX12_leads_182 rfl (lv_at hl 4 rfl) ?_
        refine lv_aload_n hx hb dX12_leads_183 rfl (lv_at hl 1 rfl) ?_
        refine lv_iload hx hb dX12_leads_184 (lv_at hl 0 rfl) ?_
        refine lv_iconst (v := 2) hx hb dX12_leads_186 (by decide) ?_
        refine tk_Vi hC hK hw hT hA hE hSR kM_at0 (by decide) rfl (k_X12_streetOf_6 l adK adV dC dI cy ad B (by omega) (by omega) qr s1   r99 (show 0 ≤ r99.toInt by omega) (show r99.toInt ≤ 11 by omega) w94 H.size hT ) (cwV 2 hC.2.2.2.2 uV_RX12_300 rfl rfl rfl (by decide +kernel) ⟨Nat.le_of_ble_eq_true rfl, Nat.le_of_ble_eq_true rfl⟩) rfl hl.1 rfl (Nat.le_of_ble_eq_true rfl) dX12_leads_187 (fun r182 w184 H locs hp183 hw => ?_)
        obtain ⟨rfl, hg189⟩ := hp183
        obtain ⟨g186, g187, c188⟩ := hg189
        refine lv_iadd hx hb dX12_leads_190 ?_
        refine lv_topi (fun x190 ex190 => ?_)
        have ex190 : x190.toInt = a3.toInt + r182.toInt := by rw [ex190]; exact wk_add (show (-2147483648) ≤ a3.toInt + r182.toInt by omega) (show a3.toInt + r182.toInt ≤ 2147483647 by omega)
        refine lv_istore (lv' := [(11, .int x190), (10, .int r99), (0, .ref (ad 0)), (1, .int a1), (2, .int a2), (3, .int a3), (4, .int a4), (5, .int 0), (6, .int a6), (7, .int v145_7), (8, .int v145_8), (9, .int v145_9)]) hx hb dX12_leads_191 hl (by decide) rfl (fun ls hl => ?_)
        refine lv_iload hx hb dX12_leads_193 (lv_at hl 0 rfl) ?_
        refine lv_iload hx hb dX12_leads_195 (lv_at hl 8 rfl) ?_
        refine lv_icmp_gt (tgt := 241) hx hb dX12_leads_197 (by decide) (fun c191 => ?_) (fun c191 => ?_)
        · have c191 : a6.toInt < x190.toInt := wk_lt.mp c191
          exact J241 v145_7 v145_8 v145_9 r99 x190 f145_12__9_a1_toInt_217_toNat f145_12__9_a1_toInt_218_toNat x105 H locs ls w94 (show 0 ≤ a1.toInt from r64) (show a1.toInt ≤ 3 from t65) (show 0 ≤ a2.toInt from r66) (show a2.toInt ≤ 1073741824 from t67) (show 0 ≤ a3.toInt from r68) (show a3.toInt ≤ 120 from t69) (show 0 ≤ a4.toInt from r70) (show a4.toInt ≤ 9 from t71) (show 0 ≤ a6.toInt from r72) (show a6.toInt ≤ 120 from t73) (show 0 ≤ v145_8.toInt from r74) (show v145_8.toInt ≤ 1073741944 from t75) (show 0 ≤ v145_9.toInt from r76) (show v145_9.toInt ≤ 1 from t77) (show 0 ≤ r99.toInt by omega) (show r99.toInt ≤ 11 by omega) (show 0 ≤ x190.toInt by omega) (show x190.toInt ≤ 129 by omega) (show 0 ≤ f145_12__9_a1_toInt_217_toNat.toInt from r78) (show f145_12__9_a1_toInt_217_toNat.toInt ≤ 9 from t79) (show 0 ≤ f145_12__9_a1_toInt_218_toNat.toInt from r81) (show f145_12__9_a1_toInt_218_toNat.toInt ≤ 3 from t82) (show 1 ≤ x105.toInt by omega) (show x105.toInt ≤ 12 by omega)  hw hT hF c97 c98 c106 (lv_sub hl [2, 3, 4, 5, 6, 7, 8, 9, 10, 11, 1, 0] rfl)
        · have c191 : x190.toInt ≤ a6.toInt := wk_ltF c191
          refine lv_aload_n hx hb dX12_leads_200 rfl (lv_at hl 2 rfl) ?_
          refine lv_iload hx hb dX12_leads_201 (lv_at hl 0 rfl) ?_
          refine lv_aload_n hx hb dX12_leads_203 rfl (lv_at hl 2 rfl) ?_
          refine lv_iload hx hb dX12_leads_204 (lv_at hl 1 rfl) ?_
          refine lv_iload hx hb dX12_leads_206 (lv_at hl 6 rfl) ?_
          refine tk_Vi hC hK hw hT hA hE hSR kM_at0 (by decide) rfl (k_X12_otherOf_1 l adK adV dC dI cy ad B (by omega) (by omega) qr s1   r99 (show 0 ≤ r99.toInt by omega) (show r99.toInt ≤ 11 by omega) a4 (show 0 ≤ a4.toInt from r70) (show a4.toInt ≤ 9 from t71) w94 H.size hT ) (cwV 2 hC.2.2.2.2 uV_RX12_348 rfl rfl rfl (by decide +kernel) ⟨Nat.le_of_ble_eq_true rfl, Nat.le_of_ble_eq_true rfl⟩) rfl hl.1 rfl (Nat.le_of_ble_eq_true rfl) dX12_leads_208 (fun r192 w194 H locs hp193 hw => ?_)
          obtain ⟨rfl, hg201⟩ := hp193
          rcases hg201 with ⟨g196, g197⟩ | ⟨g198, g199, c200⟩
          · refine lv_iload hx hb dX12_leads_211 (lv_at hl 7 rfl) ?_
            refine lv_if_eq (tgt := 235) hx hb dX12_leads_213 (by decide) (fun _ => ?_) (fun c => absurd (by decide) c)
            refine lv_iconst (v := 0) hx hb dX12_leads_235 (by decide) ?_
            refine lv_iload hx hb dX12_leads_236 (lv_at hl 9 rfl) ?_
            refine tk_Vv hC hK hw hT hA hE hSR kM_at0 (by decide) rfl (k_X12_could_3 l adK adV dC dI cy ad B (by omega) (by omega) qr s1   x190 (show 0 ≤ x190.toInt by omega) (show x190.toInt ≤ 120 by omega) r192 (show 0 ≤ r192.toInt by omega) (show r192.toInt ≤ 9 by omega) v145_7 w94 H.size hT ) (cwV 4 hC.2.2.2.2 uV_RX12_439 rfl rfl rfl (by decide +kernel) ⟨Nat.le_of_ble_eq_true rfl, Nat.le_of_ble_eq_true rfl⟩) rfl hl.1 rfl (Nat.le_of_ble_eq_true rfl) dX12_leads_238 (fun w204 H locs hp203 hw => ?_)
            obtain ⟨hT, k205, hg206⟩ := hp203
            have hF := hF.tr k205 (by decide)
            have c207 := k205.gi kM_at12 rfl c97
            have c208 := k205.gi kM_at12 rfl c98
            have c209 := k205.gi kM_at12 (by decide) c106
            have c210 := k205.gi kM_at12 rfl c107
            have c211 := k205.gi kM_at12 rfl c108
            have c212 := k205.gi kM_at12 rfl c188
            clear hg206
            exact J241 v145_7 v145_8 v145_9 r99 x190 f145_12__9_a1_toInt_217_toNat f145_12__9_a1_toInt_218_toNat x105 H locs ls w204 (show 0 ≤ a1.toInt from r64) (show a1.toInt ≤ 3 from t65) (show 0 ≤ a2.toInt from r66) (show a2.toInt ≤ 1073741824 from t67) (show 0 ≤ a3.toInt from r68) (show a3.toInt ≤ 120 from t69) (show 0 ≤ a4.toInt from r70) (show a4.toInt ≤ 9 from t71) (show 0 ≤ a6.toInt from r72) (show a6.toInt ≤ 120 from t73) (show 0 ≤ v145_8.toInt from r74) (show v145_8.toInt ≤ 1073741944 from t75) (show 0 ≤ v145_9.toInt from r76) (show v145_9.toInt ≤ 1 from t77) (show 0 ≤ r99.toInt by omega) (show r99.toInt ≤ 11 by omega) (show 0 ≤ x190.toInt by omega) (show x190.toInt ≤ 129 by omega) (show 0 ≤ f145_12__9_a1_toInt_217_toNat.toInt from r78) (show f145_12__9_a1_toInt_217_toNat.toInt ≤ 9 from t79) (show 0 ≤ f145_12__9_a1_toInt_218_toNat.toInt from r81) (show f145_12__9_a1_toInt_218_toNat.toInt ≤ 3 from t82) (show 1 ≤ x105.toInt by omega) (show x105.toInt ≤ 12 by omega)  hw hT hF c207 c208 c209 (lv_sub hl [2, 3, 4, 5, 6, 7, 8, 9, 10, 11, 1, 0] rfl)
          · refine lv_iload hx hb dX12_leads_211 (lv_at hl 7 rfl) ?_
            refine lv_if_eq (tgt := 235) hx hb dX12_leads_213 (by decide) (fun _ => ?_) (fun c => absurd (by decide) c)
            refine lv_iconst (v := 0) hx hb dX12_leads_235 (by decide) ?_
            refine lv_iload hx hb dX12_leads_236 (lv_at hl 9 rfl) ?_
            refine tk_Vv hC hK hw hT hA hE hSR kM_at0 (by decide) rfl (k_X12_could_3 l adK adV dC dI cy ad B (by omega) (by omega) qr s1   x190 (show 0 ≤ x190.toInt by omega) (show x190.toInt ≤ 120 by omega) r192 (show 0 ≤ r192.toInt by omega) (show r192.toInt ≤ 9 by omega) v145_7 w94 H.size hT ) (cwV 4 hC.2.2.2.2 uV_RX12_439 rfl rfl rfl (by decide +kernel) ⟨Nat.le_of_ble_eq_true rfl, Nat.le_of_ble_eq_true rfl⟩) rfl hl.1 rfl (Nat.le_of_ble_eq_true rfl) dX12_leads_238 (fun w215 H locs hp214 hw => ?_)
            obtain ⟨hT, k216, hg217⟩ := hp214
            have hF := hF.tr k216 (by decide)
            have c218 := k216.gi kM_at12 rfl c97
            have c219 := k216.gi kM_at12 rfl c98
            have c220 := k216.gi kM_at12 (by decide) c106
            have c221 := k216.gi kM_at12 rfl c107
            have c222 := k216.gi kM_at12 rfl c108
            have c223 := k216.gi kM_at12 rfl c188
            clear hg217
            exact J241 v145_7 v145_8 v145_9 r99 x190 f145_12__9_a1_toInt_217_toNat f145_12__9_a1_toInt_218_toNat x105 H locs ls w215 (show 0 ≤ a1.toInt from r64) (show a1.toInt ≤ 3 from t65) (show 0 ≤ a2.toInt from r66) (show a2.toInt ≤ 1073741824 from t67) (show 0 ≤ a3.toInt from r68) (show a3.toInt ≤ 120 from t69) (show 0 ≤ a4.toInt from r70) (show a4.toInt ≤ 9 from t71) (show 0 ≤ a6.toInt from r72) (show a6.toInt ≤ 120 from t73) (show 0 ≤ v145_8.toInt from r74) (show v145_8.toInt ≤ 1073741944 from t75) (show 0 ≤ v145_9.toInt from r76) (show v145_9.toInt ≤ 1 from t77) (show 0 ≤ r99.toInt by omega) (show r99.toInt ≤ 11 by omega) (show 0 ≤ x190.toInt by omega) (show x190.toInt ≤ 129 by omega) (show 0 ≤ f145_12__9_a1_toInt_217_toNat.toInt from r78) (show f145_12__9_a1_toInt_217_toNat.toInt ≤ 9 from t79) (show 0 ≤ f145_12__9_a1_toInt_218_toNat.toInt from r81) (show f145_12__9_a1_toInt_218_toNat.toInt ≤ 3 from t82) (show 1 ≤ x105.toInt by omega) (show x105.toInt ≤ 12 by omega)  hw hT hF c218 c219 c220 (lv_sub hl [2, 3, 4, 5, 6, 7, 8, 9, 10, 11, 1, 0] rfl)
      · refine lv_if_ne (tgt := 182) hx hb dX12_leads_178 (by decide) (fun _ => ?_) (fun c => absurd c (by decide))
        refine lv_iload_n hx hb dX12_leads_182 rfl (lv_at hl 4 rfl) ?_
        refine lv_aload_n hx hb dX12_leads_183 rfl (lv_at hl 1 rfl) ?_
        refine lv_iload hx hb dX12_leads_184 (lv_at hl 0 rfl) ?_
        refine lv_iconst (v := 2) hx hb dX12_leads_186 (by decide) ?_
        refine tk_Vi hC hK hw hT hA hE hSR kM_at0 (by decide) rfl (k_X12_streetOf_6 l adK adV dC dI cy ad B (by omega) (by omega) qr s1   r99 (show 0 ≤ r99.toInt by omega) (show r99.toInt ≤ 11 by omega) w94 H.size hT ) (cwV 2 hC.2.2.2.2 uV_RX12_300 rfl rfl rfl (by decide +kernel) ⟨Nat.le_of_ble_eq_true rfl, Nat.le_of_ble_eq_true rfl⟩) rfl hl.1 rfl (Nat.le_of_ble_eq_true rfl) dX12_leads_187 (fun r224 w226 H locs hp225 hw => ?_)
        obtain ⟨rfl, hg231⟩ := hp225
        obtain ⟨g228, g229, c230⟩ := hg231
        refine lv_iadd hx hb dX12_leads_190 ?_
        refine lv_topi (fun x232 ex232 => ?_)
        have ex232 : x232.toInt = a3.toInt + r224.toInt := by rw [ex232]; exact wk_add (show (-2147483648) ≤ a3.toInt + r224.toInt by omega) (show a3.toInt + r224.toInt ≤ 2147483647 by omega)
        refine lv_istore (lv' := [(11, .int x232), (10, .int r99), (0, .ref (ad 0)), (1, .int a1), (2, .int a2), (3, .int a3), (4, .int a4), (5, .int 0), (6, .int a6), (7, .int v145_7), (8, .int v145_8), (9, .int v145_9)]) hx hb dX12_leads_191 hl (by decide) rfl (fun ls hl => ?_)
        refine lv_iload hx hb dX12_leads_193 (lv_at hl 0 rfl) ?_
        refine lv_iload hx hb dX12_leads_195 (lv_at hl 8 rfl) ?_
        refine lv_icmp_gt (tgt := 241) hx hb dX12_leads_197 (by decide) (fun c233 => ?_) (fun c233 => ?_)
        · have c233 : a6.toInt < x232.toInt := wk_lt.mp c233
          exact J241 v145_7 v145_8 v145_9 r99 x232 f145_12__9_a1_toInt_217_toNat f145_12__9_a1_toInt_218_toNat x105 H locs ls w94 (show 0 ≤ a1.toInt from r64) (show a1.toInt ≤ 3 from t65) (show 0 ≤ a2.toInt from r66) (show a2.toInt ≤ 1073741824 from t67) (show 0 ≤ a3.toInt from r68) (show a3.toInt ≤ 120 from t69) (show 0 ≤ a4.toInt from r70) (show a4.toInt ≤ 9 from t71) (show 0 ≤ a6.toInt from r72) (show a6.toInt ≤ 120 from t73) (show 0 ≤ v145_8.toInt from r74) (show v145_8.toInt ≤ 1073741944 from t75) (show 0 ≤ v145_9.toInt from r76) (show v145_9.toInt ≤ 1 from t77) (show 0 ≤ r99.toInt by omega) (show r99.toInt ≤ 11 by omega) (show 0 ≤ x232.toInt by omega) (show x232.toInt ≤ 129 by omega) (show 0 ≤ f145_12__9_a1_toInt_217_toNat.toInt from r78) (show f145_12__9_a1_toInt_217_toNat.toInt ≤ 9 from t79) (show 0 ≤ f145_12__9_a1_toInt_218_toNat.toInt from r81) (show f145_12__9_a1_toInt_218_toNat.toInt ≤ 3 from t82) (show 1 ≤ x105.toInt by omega) (show x105.toInt ≤ 12 by omega)  hw hT hF c97 c98 c106 (lv_sub hl [2, 3, 4, 5, 6, 7, 8, 9, 10, 11, 1, 0] rfl)
        · have c233 : x232.toInt ≤ a6.toInt := wk_ltF c233
          refine lv_aload_n hx hb dX12_leads_200 rfl (lv_at hl 2 rfl) ?_
          refine lv_iload hx hb dX12_leads_201 (lv_at hl 0 rfl) ?_
          refine lv_aload_n hx hb dX12_leads_203 rfl (lv_at hl 2 rfl) ?_
          refine lv_iload hx hb dX12_leads_204 (lv_at hl 1 rfl) ?_
          refine lv_iload hx hb dX12_leads_206 (lv_at hl 6 rfl) ?_
          refine tk_Vi hC hK hw hT hA hE hSR kM_at0 (by decide) rfl (k_X12_otherOf_1 l adK adV dC dI cy ad B (by omega) (by omega) qr s1   r99 (show 0 ≤ r99.toInt by omega) (show r99.toInt ≤ 11 by omega) a4 (show 0 ≤ a4.toInt from r70) (show a4.toInt ≤ 9 from t71) w94 H.size hT ) (cwV 2 hC.2.2.2.2 uV_RX12_348 rfl rfl rfl (by decide +kernel) ⟨Nat.le_of_ble_eq_true rfl, Nat.le_of_ble_eq_true rfl⟩) rfl hl.1 rfl (Nat.le_of_ble_eq_true rfl) dX12_leads_208 (fun r234 w236 H locs hp235 hw => ?_)
          obtain ⟨rfl, hg243⟩ := hp235
          rcases hg243 with ⟨g238, g239⟩ | ⟨g240, g241, c242⟩
          · refine lv_iload hx hb dX12_leads_211 (lv_at hl 7 rfl) ?_
            refine lv_if_eq (tgt := 235) hx hb dX12_leads_213 (by decide) (fun _ => ?_) (fun c => absurd (by decide) c)
            refine lv_iconst (v := 0) hx hb dX12_leads_235 (by decide) ?_
            refine lv_iload hx hb dX12_leads_236 (lv_at hl 9 rfl) ?_
            refine tk_Vv hC hK hw hT hA hE hSR kM_at0 (by decide) rfl (k_X12_could_3 l adK adV dC dI cy ad B (by omega) (by omega) qr s1   x232 (show 0 ≤ x232.toInt by omega) (show x232.toInt ≤ 120 by omega) r234 (show 0 ≤ r234.toInt by omega) (show r234.toInt ≤ 9 by omega) v145_7 w94 H.size hT ) (cwV 4 hC.2.2.2.2 uV_RX12_439 rfl rfl rfl (by decide +kernel) ⟨Nat.le_of_ble_eq_true rfl, Nat.le_of_ble_eq_true rfl⟩) rfl hl.1 rfl (Nat.le_of_ble_eq_true rfl) dX12_leads_238 (fun w246 H locs hp245 hw => ?_)
            obtain ⟨hT, k247, hg248⟩ := hp245
            have hF := hF.tr k247 (by decide)
            have c249 := k247.gi kM_at12 rfl c97
            have c250 := k247.gi kM_at12 rfl c98
            have c251 := k247.gi kM_at12 (by decide) c106
            have c252 := k247.gi kM_at12 rfl c107
            have c253 := k247.gi kM_at12 rfl c108
            have c254 := k247.gi kM_at12 rfl c230
            clear hg248
            exact J241 v145_7 v145_8 v145_9 r99 x232 f145_12__9_a1_toInt_217_toNat f145_12__9_a1_toInt_218_toNat x105 H locs ls w246 (show 0 ≤ a1.toInt from r64) (show a1.toInt ≤ 3 from t65) (show 0 ≤ a2.toInt from r66) (show a2.toInt ≤ 1073741824 from t67) (show 0 ≤ a3.toInt from r68) (show a3.toInt ≤ 120 from t69) (show 0 ≤ a4.toInt from r70) (show a4.toInt ≤ 9 from t71) (show 0 ≤ a6.toInt from r72) (show a6.toInt ≤ 120 from t73) (show 0 ≤ v145_8.toInt from r74) (show v145_8.toInt ≤ 1073741944 from t75) (show 0 ≤ v145_9.toInt from r76) (show v145_9.toInt ≤ 1 from t77) (show 0 ≤ r99.toInt by omega) (show r99.toInt ≤ 11 by omega) (show 0 ≤ x232.toInt by omega) (show x232.toInt ≤ 129 by omega) (show 0 ≤ f145_12__9_a1_toInt_217_toNat.toInt from r78) (show f145_12__9_a1_toInt_217_toNat.toInt ≤ 9 from t79) (show 0 ≤ f145_12__9_a1_toInt_218_toNat.toInt from r81) (show f145_12__9_a1_toInt_218_toNat.toInt ≤ 3 from t82) (show 1 ≤ x105.toInt by omega) (show x105.toInt ≤ 12 by omega)  hw hT hF c249 c250 c251 (lv_sub hl [2, 3, 4, 5, 6, 7, 8, 9, 10, 11, 1, 0] rfl)
          · refine lv_iload hx hb dX12_leads_211 (lv_at hl 7 rfl) ?_
            refine lv_if_eq (tgt := 235) hx hb dX12_leads_213 (by decide) (fun _ => ?_) (fun c => absurd (by decide) c)
            refine lv_iconst (v := 0) hx hb dX12_leads_235 (by decide) ?_
            refine lv_iload hx hb dX12_leads_236 (lv_at hl 9 rfl) ?_
            refine tk_Vv hC hK hw hT hA hE hSR kM_at0 (by decide) rfl (k_X12_could_3 l adK adV dC dI cy ad B (by omega) (by omega) qr s1   x232 (show 0 ≤ x232.toInt by omega) (show x232.toInt ≤ 120 by omega) r234 (show 0 ≤ r234.toInt by omega) (show r234.toInt ≤ 9 by omega) v145_7 w94 H.size hT ) (cwV 4 hC.2.2.2.2 uV_RX12_439 rfl rfl rfl (by decide +kernel) ⟨Nat.le_of_ble_eq_true rfl, Nat.le_of_ble_eq_true rfl⟩) rfl hl.1 rfl (Nat.le_of_ble_eq_true rfl) dX12_leads_238 (fun w257 H locs hp256 hw => ?_)
            obtain ⟨hT, k258, hg259⟩ := hp256
            have hF := hF.tr k258 (by decide)
            have c260 := k258.gi kM_at12 rfl c97
            have c261 := k258.gi kM_at12 rfl c98
            have c262 := k258.gi kM_at12 (by decide) c106
            have c263 := k258.gi kM_at12 rfl c107
            have c264 := k258.gi kM_at12 rfl c108
            have c265 := k258.gi kM_at12 rfl c230
            clear hg259
            exact J241 v145_7 v145_8 v145_9 r99 x232 f145_12__9_a1_toInt_217_toNat f145_12__9_a1_toInt_218_toNat x105 H locs ls w257 (show 0 ≤ a1.toInt from r64) (show a1.toInt ≤ 3 from t65) (show 0 ≤ a2.toInt from r66) (show a2.toInt ≤ 1073741824 from t67) (show 0 ≤ a3.toInt from r68) (show a3.toInt ≤ 120 from t69) (show 0 ≤ a4.toInt from r70) (show a4.toInt ≤ 9 from t71) (show 0 ≤ a6.toInt from r72) (show a6.toInt ≤ 120 from t73) (show 0 ≤ v145_8.toInt from r74) (show v145_8.toInt ≤ 1073741944 from t75) (show 0 ≤ v145_9.toInt from r76) (show v145_9.toInt ≤ 1 from t77) (show 0 ≤ r99.toInt by omega) (show r99.toInt ≤ 11 by omega) (show 0 ≤ x232.toInt by omega) (show x232.toInt ≤ 129 by omega) (show 0 ≤ f145_12__9_a1_toInt_217_toNat.toInt from r78) (show f145_12__9_a1_toInt_217_toNat.toInt ≤ 9 from t79) (show 0 ≤ f145_12__9_a1_toInt_218_toNat.toInt from r81) (show f145_12__9_a1_toInt_218_toNat.toInt ≤ 3 from t82) (show 1 ≤ x105.toInt by omega) (show x105.toInt ≤ 12 by omega)  hw hT hF c260 c261 c262 (lv_sub hl [2, 3, 4, 5, 6, 7, 8, 9, 10, 11, 1, 0] rfl)
    · refine lv_istore (lv' := [(10, .int r99), (0, .ref (ad 0)), (1, .int a1), (2, .int a2), (3, .int a3), (4, .int a4), (5, .int 0), (6, .int a6), (7, .int v145_7), (8, .int v145_8), (9, .int v145_9)]) hx hb dX12_leads_161 hl (by decide) rfl (fun ls hl => ?_)
      refine lv_iload hx hb dX12_leads_163 (lv_at hl 0 rfl) ?_
      refine lv_if_lt (tgt := 181) hx hb dX12_leads_165 (by decide) (fun c => absurd c (fun h => absurd (show r99.toInt < (0 : Int) from wk_lt.mp h) (by omega))) (fun _ => ?_)
      refine lv_aload_n hx hb dX12_leads_168 rfl (lv_at hl 1 rfl) ?_
      refine lv_iload hx hb dX12_leads_169 (lv_at hl 0 rfl) ?_
      refine lv_iload hx hb dX12_leads_171 (lv_at hl 5 rfl) ?_
      refine lv_iload hx hb dX12_leads_173 (lv_at hl 9 rfl) ?_
      refine tk_Vi hC hK hw hT hA hE hSR kM_at0 (by decide) rfl (k_X12_isOpen_3 l adK adV dC dI cy ad B (by omega) (by omega) qr s1   r99 (show 0 ≤ r99.toInt by omega) (show r99.toInt ≤ 11 by omega) a4 (show 0 ≤ a4.toInt from r70) (show a4.toInt ≤ 9 from t71) v145_8 (show 0 ≤ v145_8.toInt from r74) (show v145_8.toInt ≤ 1073741944 from t75) w94 H.size hT ) (cwV 3 hC.2.2.2.2 uV_RX12_334 rfl rfl rfl (by decide +kernel) ⟨Nat.le_of_ble_eq_true rfl, Nat.le_of_ble_eq_true rfl⟩) rfl hl.1 rfl (Nat.le_of_ble_eq_true rfl) dX12_leads_175 (fun r266 w268 H locs hp267 hw => ?_)
      obtain ⟨rfl, hg285⟩ := hp267
      rcases hg285 with ⟨rfl, hq270⟩ | ⟨rfl, c271, c272, hq273⟩ | ⟨rfl, c274, hq275⟩ | ⟨rfl, c276, hq277⟩ | ⟨rfl, c278, c279, hq280⟩ | ⟨rfl, c281, hq282⟩ | ⟨rfl, c283, hq284⟩
      · refine lv_if_ne (tgt := 182) hx hb dX12_leads_178 (by decide) (fun c => absurd (by decide) c) (fun _ => ?_)
        exact J181 v145_7 v145_8 v145_9 r99 f145_12__9_a1_toInt_217_toNat f145_12__9_a1_toInt_218_toNat H locs ls w94 (show 0 ≤ a1.toInt from r64) (show a1.toInt ≤ 3 from t65) (show 0 ≤ a2.toInt from r66) (show a2.toInt ≤ 1073741824 from t67) (show 0 ≤ a3.toInt from r68) (show a3.toInt ≤ 120 from t69) (show 0 ≤ a4.toInt from r70) (show a4.toInt ≤ 9 from t71) (show 0 ≤ a6.toInt from r72) (show a6.toInt ≤ 120 from t73) (show 0 ≤ v145_8.toInt from r74) (show v145_8.toInt ≤ 1073741944 from t75) (show 0 ≤ v145_9.toInt from r76) (show v145_9.toInt ≤ 1 from t77) (show (-1) ≤ r99.toInt by omega) (show r99.toInt ≤ 11 by omega) (show 0 ≤ f145_12__9_a1_toInt_217_toNat.toInt from r78) (show f145_12__9_a1_toInt_217_toNat.toInt ≤ 9 from t79) (show 0 ≤ f145_12__9_a1_toInt_218_toNat.toInt from r81) (show f145_12__9_a1_toInt_218_toNat.toInt ≤ 3 from t82)  hw hT hF c97 c98 (lv_sub hl [1, 2, 3, 4, 5, 6, 7, 8, 9, 10, 0] rfl)
      · refine lv_if_ne (tgt := 182) hx hb dX12_leads_178 (by decide) (fun c => absurd (by decide) c) (fun _ => ?_)
        exact J181 v145_7 v145_8 v145_9 r99 f145_12__9_a1_toInt_217_toNat f145_12__9_a1_toInt_218_toNat H locs ls w94 (show 0 ≤ a1.toInt from r64) (show a1.toInt ≤ 3 from t65) (show 0 ≤ a2.toInt from r66) (show a2.toInt ≤ 1073741824 from t67) (show 0 ≤ a3.toInt from r68) (show a3.toInt ≤ 120 from t69) (show 0 ≤ a4.toInt from r70) (show a4.toInt ≤ 9 from t71) (show 0 ≤ a6.toInt from r72) (show a6.toInt ≤ 120 from t73) (show 0 ≤ v145_8.toInt from r74) (show v145_8.toInt ≤ 1073741944 from t75) (show 0 ≤ v145_9.toInt from r76) (show v145_9.toInt ≤ 1 from t77) (show (-1) ≤ r99.toInt by omega) (show r99.toInt ≤ 11 by omega) (show 0 ≤ f145_12__9_a1_toInt_217_toNat.toInt from r78) (show f145_12__9_a1_toInt_217_toNat.toInt ≤ 9 from t79) (show 0 ≤ f145_12__9_a1_toInt_218_toNat.toInt from r81) (show f145_12__9_a1_toInt_218_toNat.toInt ≤ 3 from t82)  hw hT hF c97 c98 (lv_sub hl [1, 2, 3, 4, 5, 6, 7, 8, 9, 10, 0] rfl)
      · refine lv_if_ne (tgt := 182) hx hb dX12_leads_178 (by decide) (fun c => absurd (by decide) c) (fun _ => ?_)
        exact J181 v145_7 v145_8 v145_9 r99 f145_12__9_a1_toInt_217_toNat f145_12__9_a1_toInt_218_toNat H locs ls w94 (show 0 ≤ a1.toInt from r64) (show a1.toInt ≤ 3 from t65) (show 0 ≤ a2.toInt from r66) (show a2.toInt ≤ 1073741824 from t67) (show 0 ≤ a3.toInt from r68) (show a3.toInt ≤ 120 from t69) (show 0 ≤ a4.toInt from r70) (show a4.toInt ≤ 9 from t71) (show 0 ≤ a6.toInt from r72) (show a6.toInt ≤ 120 from t73) (show 0 ≤ v145_8.toInt from r74) (show v145_8.toInt ≤ 1073741944 from t75) (show 0 ≤ v145_9.toInt from r76) (show v145_9.toInt ≤ 1 from t77) (show (-1) ≤ r99.toInt by omega) (show r99.toInt ≤ 11 by omega) (show 0 ≤ f145_12__9_a1_toInt_217_toNat.toInt from r78) (show f145_12__9_a1_toInt_217_toNat.toInt ≤ 9 from t79) (show 0 ≤ f145_12__9_a1_toInt_218_toNat.toInt from r81) (show f145_12__9_a1_toInt_218_toNat.toInt ≤ 3 from t82)  hw hT hF c97 c98 (lv_sub hl [1, 2, 3, 4, 5, 6, 7, 8, 9, 10, 0] rfl)
      · refine lv_if_ne (tgt := 182) hx hb dX12_leads_178 (by decide) (fun c => absurd (by decide) c) (fun _ => ?_)
        exact J181 v145_7 v145_8 v145_9 r99 f145_12__9_a1_toInt_217_toNat f145_12__9_a1_toInt_218_toNat H locs ls w94 (show 0 ≤ a1.toInt from r64) (show a1.toInt ≤ 3 from t65) (show 0 ≤ a2.toInt from r66) (show a2.toInt ≤ 1073741824 from t67) (show 0 ≤ a3.toInt from r68) (show a3.toInt ≤ 120 from t69) (show 0 ≤ a4.toInt from r70) (show a4.toInt ≤ 9 from t71) (show 0 ≤ a6.toInt from r72) (show a6.toInt ≤ 120 from t73) (show 0 ≤ v145_8.toInt from r74) (show v145_8.toInt ≤ 1073741944 from t75) (show 0 ≤ v145_9.toInt from r76) (show v145_9.toInt ≤ 1 from t77) (show (-1) ≤ r99.toInt by omega) (show r99.toInt ≤ 11 by omega) (show 0 ≤ f145_12__9_a1_toInt_217_toNat.toInt from r78) (show f145_12__9_a1_toInt_217_toNat.toInt ≤ 9 from t79) (show 0 ≤ f145_12__9_a1_toInt_218_toNat.toInt from r81) (show f145_12__9_a1_toInt_218_toNat.toInt ≤ 3 from t82)  hw hT hF c97 c98 (lv_sub hl [1, 2, 3, 4, 5, 6, 7, 8, 9, 10, 0] rfl)
      · refine lv_if_ne (tgt := 182) hx hb dX12_leads_178 (by decide) (fun _ => ?_) (fun c => absurd c (by decide))
        refine lv_iload_n hx hb dX12_leads_182 rfl (lv_at hl 4 rfl) ?_
        refine lv_aload_n hx hb dX12_leads_183 rfl (lv_at hl 1 rfl) ?_
        refine lv_iload hx hb dX12_leads_184 (lv_at hl 0 rfl) ?_
        refine lv_iconst (v := 2) hx hb dX12_leads_186 (by decide) ?_
        refine tk_Vi hC hK hw hT hA hE hSR kM_at0 (by decide) rfl (k_X12_streetOf_6 l adK adV dC dI cy ad B (by omega) (by omega) qr s1   r99 (show 0 ≤ r99.toInt by omega) (show r99.toInt ≤ 11 by omega) w94 H.size hT ) (cwV 2 hC.2.2.2.2 uV_RX12_300 rfl rfl rfl (by decide +kernel) ⟨Nat.le_of_ble_eq_true rfl, Nat.le_of_ble_eq_true rfl⟩) rfl hl.1 rfl (Nat.le_of_ble_eq_true rfl) dX12_leads_187 (fun r286 w288 H locs hp287 hw => ?_)
        obtain ⟨rfl, hg293⟩ := hp287
        obtain ⟨g290, g291, c292⟩ := hg293
        refine lv_iadd hx hb dX12_leads_190 ?_
        refine lv_topi (fun x294 ex294 => ?_)
        have ex294 : x294.toInt = a3.toInt + r286.toInt := by rw [ex294]; exact wk_add (show (-2147483648) ≤ a3.toInt + r286.toInt by omega) (show a3.toInt + r286.toInt ≤ 2147483647 by omega)
        refine lv_istore (lv' := [(11, .int x294), (10, .int r99), (0, .ref (ad 0)), (1, .int a1), (2, .int a2), (3, .int a3), (4, .int a4), (5, .int 0), (6, .int a6), (7, .int v145_7), (8, .int v145_8), (9, .int v145_9)]) hx hb dX12_leads_191 hl (by decide) rfl (fun ls hl => ?_)
        refine lv_iload hx hb dX12_leads_193 (lv_at hl 0 rfl) ?_
        refine lv_iload hx hb dX12_leads_195 (lv_at hl 8 rfl) ?_
        refine lv_icmp_gt (tgt := 241) hx hb dX12_leads_197 (by decide) (fun c295 => ?_) (fun c295 => ?_)
        · have c295 : a6.toInt < x294.toInt := wk_lt.mp c295
          exact J241 v145_7 v145_8 v145_9 r99 x294 f145_12__9_a1_toInt_217_toNat f145_12__9_a1_toInt_218_toNat x111 H locs ls w94 (show 0 ≤ a1.toInt from r64) (show a1.toInt ≤ 3 from t65) (show 0 ≤ a2.toInt from r66) (show a2.toInt ≤ 1073741824 from t67) (show 0 ≤ a3.toInt from r68) (show a3.toInt ≤ 120 from t69) (show 0 ≤ a4.toInt from r70) (show a4.toInt ≤ 9 from t71) (show 0 ≤ a6.toInt from r72) (show a6.toInt ≤ 120 from t73) (show 0 ≤ v145_8.toInt from r74) (show v145_8.toInt ≤ 1073741944 from t75) (show 0 ≤ v145_9.toInt from r76) (show v145_9.toInt ≤ 1 from t77) (show 0 ≤ r99.toInt by omega) (show r99.toInt ≤ 11 by omega) (show 0 ≤ x294.toInt by omega) (show x294.toInt ≤ 129 by omega) (show 0 ≤ f145_12__9_a1_toInt_217_toNat.toInt from r78) (show f145_12__9_a1_toInt_217_toNat.toInt ≤ 9 from t79) (show 0 ≤ f145_12__9_a1_toInt_218_toNat.toInt from r81) (show f145_12__9_a1_toInt_218_toNat.toInt ≤ 3 from t82) (show 1 ≤ x111.toInt by omega) (show x111.toInt ≤ 12 by omega)  hw hT hF c97 c98 c112 (lv_sub hl [2, 3, 4, 5, 6, 7, 8, 9, 10, 11, 1, 0] rfl)
        · have c295 : x294.toInt ≤ a6.toInt := wk_ltF c295
          refine lv_aload_n hx hb dX12_leads_200 rfl (lv_at hl 2 rfl) ?_
          refine lv_iload hx hb dX12_leads_201 (lv_at hl 0 rfl) ?_
          refine lv_aload_n hx hb dX12_leads_203 rfl (lv_at hl 2 rfl) ?_
          refine lv_iload hx hb dX12_leads_204 (lv_at hl 1 rfl) ?_
          refine lv_iload hx hb dX12_leads_206 (lv_at hl 6 rfl) ?_
          refine tk_Vi hC hK hw hT hA hE hSR kM_at0 (by decide) rfl (k_X12_otherOf_1 l adK adV dC dI cy ad B (by omega) (by omega) qr s1   r99 (show 0 ≤ r99.toInt by omega) (show r99.toInt ≤ 11 by omega) a4 (show 0 ≤ a4.toInt from r70) (show a4.toInt ≤ 9 from t71) w94 H.size hT ) (cwV 2 hC.2.2.2.2 uV_RX12_348 rfl rfl rfl (by decide +kernel) ⟨Nat.le_of_ble_eq_true rfl, Nat.le_of_ble_eq_true rfl⟩) rfl hl.1 rfl (Nat.le_of_ble_eq_true rfl) dX12_leads_208 (fun r296 w298 H locs hp297 hw => ?_)
          obtain ⟨rfl, hg305⟩ := hp297
          rcases hg305 with ⟨g300, g301⟩ | ⟨g302, g303, c304⟩
          · refine lv_iload hx hb dX12_leads_211 (lv_at hl 7 rfl) ?_
            refine lv_if_eq (tgt := 235) hx hb dX12_leads_213 (by decide) (fun _ => ?_) (fun c => absurd (by decide) c)
            refine lv_iconst (v := 0) hx hb dX12_leads_235 (by decide) ?_
            refine lv_iload hx hb dX12_leads_236 (lv_at hl 9 rfl) ?_
            refine tk_Vv hC hK hw hT hA hE hSR kM_at0 (by decide) rfl (k_X12_could_3 l adK adV dC dI cy ad B (by omega) (by omega) qr s1   x294 (show 0 ≤ x294.toInt by omega) (show x294.toInt ≤ 120 by omega) r296 (show 0 ≤ r296.toInt by omega) (show r296.toInt ≤ 9 by omega) v145_7 w94 H.size hT ) (cwV 4 hC.2.2.2.2 uV_RX12_439 rfl rfl rfl (by decide +kernel) ⟨Nat.le_of_ble_eq_true rfl, Nat.le_of_ble_eq_true rfl⟩) rfl hl.1 rfl (Nat.le_of_ble_eq_true rfl) dX12_leads_238 (fun w308 H locs hp307 hw => ?_)
            obtain ⟨hT, k309, hg310⟩ := hp307
            have hF := hF.tr k309 (by decide)
            have c311 := k309.gi kM_at12 rfl c97
            have c312 := k309.gi kM_at12 rfl c98
            have c313 := k309.gi kM_at12 (by decide) c112
            have c314 := k309.gi kM_at12 rfl c113
            have c315 := k309.gi kM_at12 rfl c279
            have c316 := k309.gi kM_at12 rfl c292
            clear hg310
            exact J241 v145_7 v145_8 v145_9 r99 x294 f145_12__9_a1_toInt_217_toNat f145_12__9_a1_toInt_218_toNat x111 H locs ls w308 (show 0 ≤ a1.toInt from r64) (show a1.toInt ≤ 3 from t65) (show 0 ≤ a2.toInt from r66) (show a2.toInt ≤ 1073741824 from t67) (show 0 ≤ a3.toInt from r68) (show a3.toInt ≤ 120 from t69) (show 0 ≤ a4.toInt from r70) (show a4.toInt ≤ 9 from t71) (show 0 ≤ a6.toInt from r72) (show a6.toInt ≤ 120 from t73) (show 0 ≤ v145_8.toInt from r74) (show v145_8.toInt ≤ 1073741944 from t75) (show 0 ≤ v145_9.toInt from r76) (show v145_9.toInt ≤ 1 from t77) (show 0 ≤ r99.toInt by omega) (show r99.toInt ≤ 11 by omega) (show 0 ≤ x294.toInt by omega) (show x294.toInt ≤ 129 by omega) (show 0 ≤ f145_12__9_a1_toInt_217_toNat.toInt from r78) (show f145_12__9_a1_toInt_217_toNat.toInt ≤ 9 from t79) (show 0 ≤ f145_12__9_a1_toInt_218_toNat.toInt from r81) (show f145_12__9_a1_toInt_218_toNat.toInt ≤ 3 from t82) (show 1 ≤ x111.toInt by omega) (show x111.toInt ≤ 12 by omega)  hw hT hF c311 c312 c313 (lv_sub hl [2, 3, 4, 5, 6, 7, 8, 9, 10, 11, 1, 0] rfl)
          · refine lv_iload hx hb dX12_leads_211 (lv_at hl 7 rfl) ?_
            refine lv_if_eq (tgt := 235) hx hb dX12_leads_213 (by decide) (fun _ => ?_) (fun c => absurd (by decide) c)
            refine lv_iconst (v := 0) hx hb dX12_leads_235 (by decide) ?_
            refine lv_iload hx hb dX12_leads_236 (lv_at hl 9 rfl) ?_
            refine tk_Vv hC hK hw hT hA hE hSR kM_at0 (by decide) rfl (k_X12_could_3 l adK adV dC dI cy ad B (by omega) (by omega) qr s1   x294 (show 0 ≤ x294.toInt by omega) (show x294.toInt ≤ 120 by omega) r296 (show 0 ≤ r296.toInt by omega) (show r296.toInt ≤ 9 by omega) v145_7 w94 H.size hT ) (cwV 4 hC.2.2.2.2 uV_RX12_439 rfl rfl rfl (by decide +kernel) ⟨Nat.le_of_ble_eq_true rfl, Nat.le_of_ble_eq_true rfl⟩) rfl hl.1 rfl (Nat.le_of_ble_eq_true rfl) dX12_leads_238 (fun w319 H locs hp318 hw => ?_)
            obtain ⟨hT, k320, hg321⟩ := hp318
            have hF := hF.tr k320 (by decide)
            have c322 := k320.gi kM_at12 rfl c97
            have c323 := k320.gi kM_at12 rfl c98
            have c324 := k320.gi kM_at12 (by decide) c112
            have c325 := k320.gi kM_at12 rfl c113
            have c326 := k320.gi kM_at12 rfl c279
            have c327 := k320.gi kM_at12 rfl c292
            clear hg321
            exact J241 v145_7 v145_8 v145_9 r99 x294 f145_12__9_a1_toInt_217_toNat f145_12__9_a1_toInt_218_toNat x111 H locs ls w319 (show 0 ≤ a1.toInt from r64) (show a1.toInt ≤ 3 from t65) (show 0 ≤ a2.toInt from r66) (show a2.toInt ≤ 1073741824 from t67) (show 0 ≤ a3.toInt from r68) (show a3.toInt ≤ 120 from t69) (show 0 ≤ a4.toInt from r70) (show a4.toInt ≤ 9 from t71) (show 0 ≤ a6.toInt from r72) (show a6.toInt ≤ 120 from t73) (show 0 ≤ v145_8.toInt from r74) (show v145_8.toInt ≤ 1073741944 from t75) (show 0 ≤ v145_9.toInt from r76) (show v145_9.toInt ≤ 1 from t77) (show 0 ≤ r99.toInt by omega) (show r99.toInt ≤ 11 by omega) (show 0 ≤ x294.toInt by omega) (show x294.toInt ≤ 129 by omega) (show 0 ≤ f145_12__9_a1_toInt_217_toNat.toInt from r78) (show f145_12__9_a1_toInt_217_toNat.toInt ≤ 9 from t79) (show 0 ≤ f145_12__9_a1_toInt_218_toNat.toInt from r81) (show f145_12__9_a1_toInt_218_toNat.toInt ≤ 3 from t82) (show 1 ≤ x111.toInt by omega) (show x111.toInt ≤ 12 by omega)  hw hT hF c322 c323 c324 (lv_sub hl [2, 3, 4, 5, 6, 7, 8, 9, 10, 11, 1, 0] rfl)
      · refine lv_if_ne (tgt := 182) hx hb dX12_leads_178 (by decide) (fun _ => ?_) (fun c => absurd c (by decide))
        refine lv_iload_n hx hb dX12_leads_182 rfl (lv_at hl 4 rfl) ?_
        refine lv_aload_n hx hb dX12_leads_183 rfl (lv_at hl 1 rfl) ?_
        refine lv_iload hx hb dX12_leads_184 (lv_at hl 0 rfl) ?_
        refine lv_iconst (v := 2) hx hb dX12_leads_186 (by decide) ?_
        refine tk_Vi hC hK hw hT hA hE hSR kM_at0 (by decide) rfl (k_X12_streetOf_6 l adK adV dC dI cy ad B (by omega) (by omega) qr s1   r99 (show 0 ≤ r99.toInt by omega) (show r99.toInt ≤ 11 by omega) w94 H.size hT ) (cwV 2 hC.2.2.2.2 uV_RX12_300 rfl rfl rfl (by decide +kernel) ⟨Nat.le_of_ble_eq_true rfl, Nat.le_of_ble_eq_true rfl⟩) rfl hl.1 rfl (Nat.le_of_ble_eq_true rfl) dX12_leads_187 (fun r328 w330 H locs hp329 hw => ?_)
        obtain ⟨rfl, hg335⟩ := hp329
        obtain ⟨g332, g333, c334⟩ := hg335
        refine lv_iadd hx hb dX12_leads_190 ?_
        refine lv_topi (fun x336 ex336 => ?_)
        have ex336 : x336.toInt = a3.toInt + r328.toInt := by rw [ex336]; exact wk_add (show (-2147483648) ≤ a3.toInt + r328.toInt by omega) (show a3.toInt + r328.toInt ≤ 2147483647 by omega)
        refine lv_istore (lv' := [(11, .int x336), (10, .int r99), (0, .ref (ad 0)), (1, .int a1), (2, .int a2), (3, .int a3), (4, .int a4), (5, .int 0), (6, .int a6), (7, .int v145_7), (8, .int v145_8), (9, .int v145_9)]) hx hb dX12_leads_191 hl (by decide) rfl (fun ls hl => ?_)
        refine lv_iload hx hb dX12_leads_193 (lv_at hl 0 rfl) ?_
        refine lv_iload hx hb dX12_leads_195 (lv_at hl 8 rfl) ?_
        refine lv_icmp_gt (tgt := 241) hx hb dX12_leads_197 (by decide) (fun c337 => ?_) (fun c337 => ?_)
        · have c337 : a6.toInt < x336.toInt := wk_lt.mp c337
          exact J241 v145_7 v145_8 v145_9 r99 x336 f145_12__9_a1_toInt_217_toNat f145_12__9_a1_toInt_218_toNat x111 H locs ls w94 (show 0 ≤ a1.toInt from r64) (show a1.toInt ≤ 3 from t65) (show 0 ≤ a2.toInt from r66) (show a2.toInt ≤ 1073741824 from t67) (show 0 ≤ a3.toInt from r68) (show a3.toInt ≤ 120 from t69) (show 0 ≤ a4.toInt from r70) (show a4.toInt ≤ 9 from t71) (show 0 ≤ a6.toInt from r72) (show a6.toInt ≤ 120 from t73) (show 0 ≤ v145_8.toInt from r74) (show v145_8.toInt ≤ 1073741944 from t75) (show 0 ≤ v145_9.toInt from r76) (show v145_9.toInt ≤ 1 from t77) (show 0 ≤ r99.toInt by omega) (show r99.toInt ≤ 11 by omega) (show 0 ≤ x336.toInt by omega) (show x336.toInt ≤ 129 by omega) (show 0 ≤ f145_12__9_a1_toInt_217_toNat.toInt from r78) (show f145_12__9_a1_toInt_217_toNat.toInt ≤ 9 from t79) (show 0 ≤ f145_12__9_a1_toInt_218_toNat.toInt from r81) (show f145_12__9_a1_toInt_218_toNat.toInt ≤ 3 from t82) (show 1 ≤ x111.toInt by omega) (show x111.toInt ≤ 12 by omega)  hw hT hF c97 c98 c112 (lv_sub hl [2, 3, 4, 5, 6, 7, 8, 9, 10, 11, 1, 0] rfl)
        · have c337 : x336.toInt ≤ a6.toInt := wk_ltF c337
          refine lv_aload_n hx hb dX12_leads_200 rfl (lv_at hl 2 rfl) ?_
          refine lv_iload hx hb dX12_leads_201 (lv_at hl 0 rfl) ?_
          refine lv_aload_n hx hb dX12_leads_203 rfl (lv_at hl 2 rfl) ?_
          refine lv_iload hx hb dX12_leads_204 (lv_at hl 1 rfl) ?_
          refine lv_iload hx hb dX12_leads_206 (lv_at hl 6 rfl) ?_
          refine tk_Vi hC hK hw hT hA hE hSR kM_at0 (by decide) rfl (k_X12_otherOf_1 l adK adV dC dI cy ad B (by omega) (by omega) qr s1   r99 (show 0 ≤ r99.toInt by omega) (show r99.toInt ≤ 11 by omega) a4 (show 0 ≤ a4.toInt from r70) (show a4.toInt ≤ 9 from t71) w94 H.size hT ) (cwV 2 hC.2.2.2.2 uV_RX12_348 rfl rfl rfl (by decide +kernel) ⟨Nat.le_of_ble_eq_true rfl, Nat.le_of_ble_eq_true rfl⟩) rfl hl.1 rfl (Nat.le_of_ble_eq_true rfl) dX12_leads_208 (fun r338 w340 H locs hp339 hw => ?_)
          obtain ⟨rfl, hg347⟩ := hp339
          rcases hg347 with ⟨g342, g343⟩ | ⟨g344, g345, c346⟩
          · refine lv_iload hx hb dX12_leads_211 (lv_at hl 7 rfl) ?_
            refine lv_if_eq (tgt := 235) hx hb dX12_leads_213 (by decide) (fun _ => ?_) (fun c => absurd (by decide) c)
            refine lv_iconst (v := 0) hx hb dX12_leads_235 (by decide) ?_
            refine lv_iload hx hb dX12_leads_236 (lv_at hl 9 rfl) ?_
            refine tk_Vv hC hK hw hT hA hE hSR kM_at0 (by decide) rfl (k_X12_could_3 l adK adV dC dI cy ad B (by omega) (by omega) qr s1   x336 (show 0 ≤ x336.toInt by omega) (show x336.toInt ≤ 120 by omega) r338 (show 0 ≤ r338.toInt by omega) (show r338.toInt ≤ 9 by omega) v145_7 w94 H.size hT ) (cwV 4 hC.2.2.2.2 uV_RX12_439 rfl rfl rfl (by decide +kernel) ⟨Nat.le_of_ble_eq_true rfl, Nat.le_of_ble_eq_true rfl⟩) rfl hl.1 rfl (Nat.le_of_ble_eq_true rfl) dX12_leads_238 (fun w350 H locs hp349 hw => ?_)
            obtain ⟨hT, k351, hg352⟩ := hp349
            have hF := hF.tr k351 (by decide)
            have c353 := k351.gi kM_at12 rfl c97
            have c354 := k351.gi kM_at12 rfl c98
            have c355 := k351.gi kM_at12 (by decide) c112
            have c356 := k351.gi kM_at12 rfl c113
            have c357 := k351.gi kM_at12 rfl c334
            clear hg352
            exact J241 v145_7 v145_8 v145_9 r99 x336 f145_12__9_a1_toInt_217_toNat f145_12__9_a1_toInt_218_toNat x111 H locs ls w350 (show 0 ≤ a1.toInt from r64) (show a1.toInt ≤ 3 from t65) (show 0 ≤ a2.toInt from r66) (show a2.toInt ≤ 1073741824 from t67) (show 0 ≤ a3.toInt from r68) (show a3.toInt ≤ 120 from t69) (show 0 ≤ a4.toInt from r70) (show a4.toInt ≤ 9 from t71) (show 0 ≤ a6.toInt from r72) (show a6.toInt ≤ 120 from t73) (show 0 ≤ v145_8.toInt from r74) (show v145_8.toInt ≤ 1073741944 from t75) (show 0 ≤ v145_9.toInt from r76) (show v145_9.toInt ≤ 1 from t77) (show 0 ≤ r99.toInt by omega) (show r99.toInt ≤ 11 by omega) (show 0 ≤ x336.toInt by omega) (show x336.toInt ≤ 129 by omega) (show 0 ≤ f145_12__9_a1_toInt_217_toNat.toInt from r78) (show f145_12__9_a1_toInt_217_toNat.toInt ≤ 9 from t79) (show 0 ≤ f145_12__9_a1_toInt_218_toNat.toInt from r81) (show f145_12__9_a1_toInt_218_toNat.toInt ≤ 3 from t82) (show 1 ≤ x111.toInt by omega) (show x111.toInt ≤ 12 by omega)  hw hT hF c353 c354 c355 (lv_sub hl [2, 3, 4, 5, 6, 7, 8, 9, 10, 11, 1, 0] rfl)
          · refine lv_iload hx hb dX12_leads_211 (lv_at hl 7 rfl) ?_
            refine lv_if_eq (tgt := 235) hx hb dX12_leads_213 (by decide) (fun _ => ?_) (fun c => absurd (by decide) c)
            refine lv_iconst (v := 0) hx hb dX12_leads_235 (by decide) ?_
            refine lv_iload hx hb dX12_leads_236 (lv_at hl 9 rfl) ?_
            refine tk_Vv hC hK hw hT hA hE hSR kM_at0 (by decide) rfl (k_X12_could_3 l adK adV dC dI cy ad B (by omega) (by omega) qr s1   x336 (show 0 ≤ x336.toInt by omega) (show x336.toInt ≤ 120 by omega) r338 (show 0 ≤ r338.toInt by omega) (show r338.toInt ≤ 9 by omega) v145_7 w94 H.size hT ) (cwV 4 hC.2.2.2.2 uV_RX12_439 rfl rfl rfl (by decide +kernel) ⟨Nat.le_of_ble_eq_true rfl, Nat.le_of_ble_eq_true rfl⟩) rfl hl.1 rfl (Nat.le_of_ble_eq_true rfl) dX12_leads_238 (fun w360 H locs hp359 hw => ?_)
            obtain ⟨hT, k361, hg362⟩ := hp359
            have hF := hF.tr k361 (by decide)
            have c363 := k361.gi kM_at12 rfl c97
            have c364 := k361.gi kM_at12 rfl c98
            have c365 := k361.gi kM_at12 (by decide) c112
            have c366 := k361.gi kM_at12 rfl c113
            have c367 := k361.gi kM_at12 rfl c334
            clear hg362
            exact J241 v145_7 v145_8 v145_9 r99 x336 f145_12__9_a1_toInt_217_toNat f145_12__9_a1_toInt_218_toNat x111 H locs ls w360 (show 0 ≤ a1.toInt from r64) (show a1.toInt ≤ 3 from t65) (show 0 ≤ a2.toInt from r66) (show a2.toInt ≤ 1073741824 from t67) (show 0 ≤ a3.toInt from r68) (show a3.toInt ≤ 120 from t69) (show 0 ≤ a4.toInt from r70) (show a4.toInt ≤ 9 from t71) (show 0 ≤ a6.toInt from r72) (show a6.toInt ≤ 120 from t73) (show 0 ≤ v145_8.toInt from r74) (show v145_8.toInt ≤ 1073741944 from t75) (show 0 ≤ v145_9.toInt from r76) (show v145_9.toInt ≤ 1 from t77) (show 0 ≤ r99.toInt by omega) (show r99.toInt ≤ 11 by omega) (show 0 ≤ x336.toInt by omega) (show x336.toInt ≤ 129 by omega) (show 0 ≤ f145_12__9_a1_toInt_217_toNat.toInt from r78) (show f145_12__9_a1_toInt_217_toNat.toInt ≤ 9 from t79) (show 0 ≤ f145_12__9_a1_toInt_218_toNat.toInt from r81) (show f145_12__9_a1_toInt_218_toNat.toInt ≤ 3 from t82) (show 1 ≤ x111.toInt by omega) (show x111.toInt ≤ 12 by omega)  hw hT hF c363 c364 c365 (lv_sub hl [2, 3, 4, 5, 6, 7, 8, 9, 10, 11, 1, 0] rfl)
      · refine lv_if_ne (tgt := 182) hx hb dX12_leads_178 (by decide) (fun _ => ?_) (fun c => absurd c (by decide))
        refine lv_iload_n hx hb dX12_leads_182 rfl (lv_at hl 4 rfl) ?_
        refine lv_aload_n hx hb dX12_leads_183 rfl (lv_at hl 1 rfl) ?_
        refine lv_iload hx hb dX12_leads_184 (lv_at hl 0 rfl) ?_
        refine lv_iconst (v := 2) hx hb dX12_leads_186 (by decide) ?_
        refine tk_Vi hC hK hw hT hA hE hSR kM_at0 (by decide) rfl (k_X12_streetOf_6 l adK adV dC dI cy ad B (by omega) (by omega) qr s1   r99 (show 0 ≤ r99.toInt by omega) (show r99.toInt ≤ 11 by omega) w94 H.size hT ) (cwV 2 hC.2.2.2.2 uV_RX12_300 rfl rfl rfl (by decide +kernel) ⟨Nat.le_of_ble_eq_true rfl, Nat.le_of_ble_eq_true rfl⟩) rfl hl.1 rfl (Nat.le_of_ble_eq_true rfl) dX12_leads_187 (fun r368 w370 H locs hp369 hw => ?_)
        obtain ⟨rfl, hg375⟩ := hp369
        obtain ⟨g372, g373, c374⟩ := hg375
        refine lv_iadd hx hb dX12_leads_190 ?_
        refine lv_topi (fun x376 ex376 => ?_)
        have ex376 : x376.toInt = a3.toInt + r368.toInt := by rw [ex376]; exact wk_add (show (-2147483648) ≤ a3.toInt + r368.toInt by omega) (show a3.toInt + r368.toInt ≤ 2147483647 by omega)
        refine lv_istore (lv' := [(11, .int x376), (10, .int r99), (0, .ref (ad 0)), (1, .int a1), (2, .int a2), (3, .int a3), (4, .int a4), (5, .int 0), (6, .int a6), (7, .int v145_7), (8, .int v145_8), (9, .int v145_9)]) hx hb dX12_leads_191 hl (by decide) rfl (fun ls hl => ?_)
        refine lv_iload hx hb dX12_leads_193 (lv_at hl 0 rfl) ?_
        refine lv_iload hx hb dX12_leads_195 (lv_at hl 8 rfl) ?_
        refine lv_icmp_gt (tgt := 241) hx hb dX12_leads_197 (by decide) (fun c377 => ?_) (fun c377 => ?_)
        · have c377 : a6.toInt < x376.toInt := wk_lt.mp c377
          exact J241 v145_7 v145_8 v145_9 r99 x376 f145_12__9_a1_toInt_217_toNat f145_12__9_a1_toInt_218_toNat x111 H locs ls w94 (show 0 ≤ a1.toInt from r64) (show a1.toInt ≤ 3 from t65) (show 0 ≤ a2.toInt from r66) (show a2.toInt ≤ 1073741824 from t67) (show 0 ≤ a3.toInt from r68) (show a3.toInt ≤ 120 from t69) (show 0 ≤ a4.toInt from r70) (show a4.toInt ≤ 9 from t71) (show 0 ≤ a6.toInt from r72) (show a6.toInt ≤ 120 from t73) (show 0 ≤ v145_8.toInt from r74) (show v145_8.toInt ≤ 1073741944 from t75) (show 0 ≤ v145_9.toInt from r76) (show v145_9.toInt ≤ 1 from t77) (show 0 ≤ r99.toInt by omega) (show r99.toInt ≤ 11 by omega) (show 0 ≤ x376.toInt by omega) (show x376.toInt ≤ 129 by omega) (show 0 ≤ f145_12__9_a1_toInt_217_toNat.toInt from r78) (show f145_12__9_a1_toInt_217_toNat.toInt ≤ 9 from t79) (show 0 ≤ f145_12__9_a1_toInt_218_toNat.toInt from r81) (show f145_12__9_a1_toInt_218_toNat.toInt ≤ 3 from t82) (show 1 ≤ x111.toInt by omega) (show x111.toInt ≤ 12 by omega)  hw hT hF c97 c98 c112 (lv_sub hl [2, 3, 4, 5, 6, 7, 8, 9, 10, 11, 1, 0] rfl)
        · have c377 : x376.toInt ≤ a6.toInt := wk_ltF c377
          refine lv_aload_n hx hb dX12_leads_200 rfl (lv_at hl 2 rfl) ?_
          refine lv_iload hx hb dX12_leads_201 (lv_at hl 0 rfl) ?_
          refine lv_aload_n hx hb dX12_leads_203 rfl (lv_at hl 2 rfl) ?_
          refine lv_iload hx hb dX12_leads_204 (lv_at hl 1 rfl) ?_
          refine lv_iload hx hb dX12_leads_206 (lv_at hl 6 rfl) ?_
          refine tk_Vi hC hK hw hT hA hE hSR kM_at0 (by decide) rfl (k_X12_otherOf_1 l adK adV dC dI cy ad B (by omega) (by omega) qr s1   r99 (show 0 ≤ r99.toInt by omega) (show r99.toInt ≤ 11 by omega) a4 (show 0 ≤ a4.toInt from r70) (show a4.toInt ≤ 9 from t71) w94 H.size hT ) (cwV 2 hC.2.2.2.2 uV_RX12_348 rfl rfl rfl (by decide +kernel) ⟨Nat.le_of_ble_eq_true rfl, Nat.le_of_ble_eq_true rfl⟩) rfl hl.1 rfl (Nat.le_of_ble_eq_true rfl) dX12_leads_208 (fun r378 w380 H locs hp379 hw => ?_)
          obtain ⟨rfl, hg387⟩ := hp379
          rcases hg387 with ⟨g382, g383⟩ | ⟨g384, g385, c386⟩
          · refine lv_iload hx hb dX12_leads_211 (lv_at hl 7 rfl) ?_
            refine lv_if_eq (tgt := 235) hx hb dX12_leads_213 (by decide) (fun _ => ?_) (fun c => absurd (by decide) c)
            refine lv_iconst (v := 0) hx hb dX12_leads_235 (by decide) ?_
            refine lv_iload hx hb dX12_leads_236 (lv_at hl 9 rfl) ?_
            refine tk_Vv hC hK hw hT hA hE hSR kM_at0 (by decide) rfl (k_X12_could_3 l adK adV dC dI cy ad B (by omega) (by omega) qr s1   x376 (show 0 ≤ x376.toInt by omega) (show x376.toInt ≤ 120 by omega) r378 (show 0 ≤ r378.toInt by omega) (show r378.toInt ≤ 9 by omega) v145_7 w94 H.size hT ) (cwV 4 hC.2.2.2.2 uV_RX12_439 rfl rfl rfl (by decide +kernel) ⟨Nat.le_of_ble_eq_true rfl, Nat.le_of_ble_eq_true rfl⟩) rfl hl.1 rfl (Nat.le_of_ble_eq_true rfl) dX12_leads_238 (fun w390 H locs hp389 hw => ?_)
            obtain ⟨hT, k391, hg392⟩ := hp389
            have hF := hF.tr k391 (by decide)
            have c393 := k391.gi kM_at12 rfl c97
            have c394 := k391.gi kM_at12 rfl c98
            have c395 := k391.gi kM_at12 (by decide) c112
            have c396 := k391.gi kM_at12 rfl c113
            have c397 := k391.gi kM_at12 rfl c283
            have c398 := k391.gi kM_at12 rfl c374
            clear hg392
            exact J241 v145_7 v145_8 v145_9 r99 x376 f145_12__9_a1_toInt_217_toNat f145_12__9_a1_toInt_218_toNat x111 H locs ls w390 (show 0 ≤ a1.toInt from r64) (show a1.toInt ≤ 3 from t65) (show 0 ≤ a2.toInt from r66) (show a2.toInt ≤ 1073741824 from t67) (show 0 ≤ a3.toInt from r68) (show a3.toInt ≤ 120 from t69) (show 0 ≤ a4.toInt from r70) (show a4.toInt ≤ 9 from t71) (show 0 ≤ a6.toInt from r72) (show a6.toInt ≤ 120 from t73) (show 0 ≤ v145_8.toInt from r74) (show v145_8.toInt ≤ 1073741944 from t75) (show 0 ≤ v145_9.toInt from r76) (show v145_9.toInt ≤ 1 from t77) (show 0 ≤ r99.toInt by omega) (show r99.toInt ≤ 11 by omega) (show 0 ≤ x376.toInt by omega) (show x376.toInt ≤ 129 by omega) (show 0 ≤ f145_12__9_a1_toInt_217_toNat.toInt from r78) (show f145_12__9_a1_toInt_217_toNat.toInt ≤ 9 from t79) (show 0 ≤ f145_12__9_a1_toInt_218_toNat.toInt from r81) (show f145_12__9_a1_toInt_218_toNat.toInt ≤ 3 from t82) (show 1 ≤ x111.toInt by omega) (show x111.toInt ≤ 12 by omega)  hw hT hF c393 c394 c395 (lv_sub hl [2, 3, 4, 5, 6, 7, 8, 9, 10, 11, 1, 0] rfl)
          · refine lv_iload hx hb dX12_leads_211 (lv_at hl 7 rfl) ?_
            refine lv_if_eq (tgt := 235) hx hb dX12_leads_213 (by decide) (fun _ => ?_) (fun c => absurd (by decide) c)
            refine lv_iconst (v := 0) hx hb dX12_leads_235 (by decide) ?_
            refine lv_iload hx hb dX12_leads_236 (lv_at hl 9 rfl) ?_
            refine tk_Vv hC hK hw hT hA hE hSR kM_at0 (by decide) rfl (k_X12_could_3 l adK adV dC dI cy ad B (by omega) (by omega) qr s1   x376 (show 0 ≤ x376.toInt by omega) (show x376.toInt ≤ 120 by omega) r378 (show 0 ≤ r378.toInt by omega) (show r378.toInt ≤ 9 by omega) v145_7 w94 H.size hT ) (cwV 4 hC.2.2.2.2 uV_RX12_439 rfl rfl rfl (by decide +kernel) ⟨Nat.le_of_ble_eq_true rfl, Nat.le_of_ble_eq_true rfl⟩) rfl hl.1 rfl (Nat.le_of_ble_eq_true rfl) dX12_leads_238 (fun w401 H locs hp400 hw => ?_)
            obtain ⟨hT, k402, hg403⟩ := hp400
            have hF := hF.tr k402 (by decide)
            have c404 := k402.gi kM_at12 rfl c97
            have c405 := k402.gi kM_at12 rfl c98
            have c406 := k402.gi kM_at12 (by decide) c112
            have c407 := k402.gi kM_at12 rfl c113
            have c408 := k402.gi kM_at12 rfl c283
            have c409 := k402.gi kM_at12 rfl c374
            clear hg403
            exact J241 v145_7 v145_8 v145_9 r99 x376 f145_12__9_a1_toInt_217_toNat f145_12__9_a1_toInt_218_toNat x111 H locs ls w401 (show 0 ≤ a1.toInt from r64) (show a1.toInt ≤ 3 from t65) (show 0 ≤ a2.toInt from r66) (show a2.toInt ≤ 1073741824 from t67) (show 0 ≤ a3.toInt from r68) (show a3.toInt ≤ 120 from t69) (show 0 ≤ a4.toInt from r70) (show a4.toInt ≤ 9 from t71) (show 0 ≤ a6.toInt from r72) (show a6.toInt ≤ 120 from t73) (show 0 ≤ v145_8.toInt from r74) (show v145_8.toInt ≤ 1073741944 from t75) (show 0 ≤ v145_9.toInt from r76) (show v145_9.toInt ≤ 1 from t77) (show 0 ≤ r99.toInt by omega) (show r99.toInt ≤ 11 by omega) (show 0 ≤ x376.toInt by omega) (show x376.toInt ≤ 129 by omega) (show 0 ≤ f145_12__9_a1_toInt_217_toNat.toInt from r78) (show f145_12__9_a1_toInt_217_toNat.toInt ≤ 9 from t79) (show 0 ≤ f145_12__9_a1_toInt_218_toNat.toInt from r81) (show f145_12__9_a1_toInt_218_toNat.toInt ≤ 3 from t82) (show 1 ≤ x111.toInt by omega) (show x111.toInt ≤ 12 by omega)  hw hT hF c404 c405 c406 (lv_sub hl [2, 3, 4, 5, 6, 7, 8, 9, 10, 11, 1, 0] rfl)
    · refine lv_istore (lv' := [(10, .int r99), (0, .ref (ad 0)), (1, .int a1), (2, .int a2), (3, .int a3), (4, .int a4), (5, .int 0), (6, .int a6), (7, .int v145_7), (8, .int v145_8), (9, .int v145_9)]) hx hb dX12_leads_161 hl (by decide) rfl (fun ls hl => ?_)
      refine lv_iload hx hb dX12_leads_163 (lv_at hl 0 rfl) ?_
      refine lv_if_lt (tgt := 181) hx hb dX12_leads_165 (by decide) (fun c => absurd c (fun h => absurd (show r99.toInt < (0 : Int) from wk_lt.mp h) (by omega))) (fun _ => ?_)
      refine lv_aload_n hx hb dX12_leads_168 rfl (lv_at hl 1 rfl) ?_
      refine lv_iload hx hb dX12_leads_169 (lv_at hl 0 rfl) ?_
      refine lv_iload hx hb dX12_leads_171 (lv_at hl 5 rfl) ?_
      refine lv_iload hx hb dX12_leads_173 (lv_at hl 9 rfl) ?_
      refine tk_Vi hC hK hw hT hA hE hSR kM_at0 (by decide) rfl (k_X12_isOpen_3 l adK adV dC dI cy ad B (by omega) (by omega) qr s1   r99 (show 0 ≤ r99.toInt by omega) (show r99.toInt ≤ 11 by omega) a4 (show 0 ≤ a4.toInt from r70) (show a4.toInt ≤ 9 from t71) v145_8 (show 0 ≤ v145_8.toInt from r74) (show v145_8.toInt ≤ 1073741944 from t75) w94 H.size hT ) (cwV 3 hC.2.2.2.2 uV_RX12_334 rfl rfl rfl (by decide +kernel) ⟨Nat.le_of_ble_eq_true rfl, Nat.le_of_ble_eq_true rfl⟩) rfl hl.1 rfl (Nat.le_of_ble_eq_true rfl) dX12_leads_175 (fun r410 w412 H locs hp411 hw => ?_)
      obtain ⟨rfl, hg429⟩ := hp411
      rcases hg429 with ⟨rfl, hq414⟩ | ⟨rfl, c415, c416, hq417⟩ | ⟨rfl, c418, hq419⟩ | ⟨rfl, c420, hq421⟩ | ⟨rfl, c422, c423, hq424⟩ | ⟨rfl, c425, hq426⟩ | ⟨rfl, c427, hq428⟩
      · refine lv_if_ne (tgt := 182) hx hb dX12_leads_178 (by decide) (fun c => absurd (by decide) c) (fun _ => ?_)
        exact J181 v145_7 v145_8 v145_9 r99 f145_12__9_a1_toInt_217_toNat f145_12__9_a1_toInt_218_toNat H locs ls w94 (show 0 ≤ a1.toInt from r64) (show a1.toInt ≤ 3 from t65) (show 0 ≤ a2.toInt from r66) (show a2.toInt ≤ 1073741824 from t67) (show 0 ≤ a3.toInt from r68) (show a3.toInt ≤ 120 from t69) (show 0 ≤ a4.toInt from r70) (show a4.toInt ≤ 9 from t71) (show 0 ≤ a6.toInt from r72) (show a6.toInt ≤ 120 from t73) (show 0 ≤ v145_8.toInt from r74) (show v145_8.toInt ≤ 1073741944 from t75) (show 0 ≤ v145_9.toInt from r76) (show v145_9.toInt ≤ 1 from t77) (show (-1) ≤ r99.toInt by omega) (show r99.toInt ≤ 11 by omega) (show 0 ≤ f145_12__9_a1_toInt_217_toNat.toInt from r78) (show f145_12__9_a1_toInt_217_toNat.toInt ≤ 9 from t79) (show 0 ≤ f145_12__9_a1_toInt_218_toNat.toInt from r81) (show f145_12__9_a1_toInt_218_toNat.toInt ≤ 3 from t82)  hw hT hF c97 c98 (lv_sub hl [1, 2, 3, 4, 5, 6, 7, 8, 9, 10, 0] rfl)
      · refine lv_if_ne (tgt := 182) hx hb dX12_leads_178 (by decide) (fun c => absurd (by decide) c) (fun _ => ?_)
        exact J181 v145_7 v145_8 v145_9 r99 f145_12__9_a1_toInt_217_toNat f145_12__9_a1_toInt_218_toNat H locs ls w94 (show 0 ≤ a1.toInt from r64) (show a1.toInt ≤ 3 from t65) (show 0 ≤ a2.toInt from r66) (show a2.toInt ≤ 1073741824 from t67) (show 0 ≤ a3.toInt from r68) (show a3.toInt ≤ 120 from t69) (show 0 ≤ a4.toInt from r70) (show a4.toInt ≤ 9 from t71) (show 0 ≤ a6.toInt from r72) (show a6.toInt ≤ 120 from t73) (show 0 ≤ v145_8.toInt from r74) (show v145_8.toInt ≤ 1073741944 from t75) (show 0 ≤ v145_9.toInt from r76) (show v145_9.toInt ≤ 1 from t77) (show (-1) ≤ r99.toInt by omega) (show r99.toInt ≤ 11 by omega) (show 0 ≤ f145_12__9_a1_toInt_217_toNat.toInt from r78) (show f145_12__9_a1_toInt_217_toNat.toInt ≤ 9 from t79) (show 0 ≤ f145_12__9_a1_toInt_218_toNat.toInt from r81) (show f145_12__9_a1_toInt_218_toNat.toInt ≤ 3 from t82)  hw hT hF c97 c98 (lv_sub hl [1, 2, 3, 4, 5, 6, 7, 8, 9, 10, 0] rfl)
      · refine lv_if_ne (tgt := 182) hx hb dX12_leads_178 (by decide) (fun c => absurd (by decide) c) (fun _ => ?_)
        exact J181 v145_7 v145_8 v145_9 r99 f145_12__9_a1_toInt_217_toNat f145_12__9_a1_toInt_218_toNat H locs ls w94 (show 0 ≤ a1.toInt from r64) (show a1.toInt ≤ 3 from t65) (show 0 ≤ a2.toInt from r66) (show a2.toInt ≤ 1073741824 from t67) (show 0 ≤ a3.toInt from r68) (show a3.toInt ≤ 120 from t69) (show 0 ≤ a4.toInt from r70) (show a4.toInt ≤ 9 from t71) (show 0 ≤ a6.toInt from r72) (show a6.toInt ≤ 120 from t73) (show 0 ≤ v145_8.toInt from r74) (show v145_8.toInt ≤ 1073741944 from t75) (show 0 ≤ v145_9.toInt from r76) (show v145_9.toInt ≤ 1 from t77) (show (-1) ≤ r99.toInt by omega) (show r99.toInt ≤ 11 by omega) (show 0 ≤ f145_12__9_a1_toInt_217_toNat.toInt from r78) (show f145_12__9_a1_toInt_217_toNat.toInt ≤ 9 from t79) (show 0 ≤ f145_12__9_a1_toInt_218_toNat.toInt from r81) (show f145_12__9_a1_toInt_218_toNat.toInt ≤ 3 from t82)  hw hT hF c97 c98 (lv_sub hl [1, 2, 3, 4, 5, 6, 7, 8, 9, 10, 0] rfl)
      · refine lv_if_ne (tgt := 182) hx hb dX12_leads_178 (by decide) (fun c => absurd (by decide) c) (fun _ => ?_)
        exact J181 v145_7 v145_8 v145_9 r99 f145_12__9_a1_toInt_217_toNat f145_12__9_a1_toInt_218_toNat H locs ls w94 (show 0 ≤ a1.toInt from r64) (show a1.toInt ≤ 3 from t65) (show 0 ≤ a2.toInt from r66) (show a2.toInt ≤ 1073741824 from t67) (show 0 ≤ a3.toInt from r68) (show a3.toInt ≤ 120 from t69) (show 0 ≤ a4.toInt from r70) (show a4.toInt ≤ 9 from t71) (show 0 ≤ a6.toInt from r72) (show a6.toInt ≤ 120 from t73) (show 0 ≤ v145_8.toInt from r74) (show v145_8.toInt ≤ 1073741944 from t75) (show 0 ≤ v145_9.toInt from r76) (show v145_9.toInt ≤ 1 from t77) (show (-1) ≤ r99.toInt by omega) (show r99.toInt ≤ 11 by omega) (show 0 ≤ f145_12__9_a1_toInt_217_toNat.toInt from r78) (show f145_12__9_a1_toInt_217_toNat.toInt ≤ 9 from t79) (show 0 ≤ f145_12__9_a1_toInt_218_toNat.toInt from r81) (show f145_12__9_a1_toInt_218_toNat.toInt ≤ 3 from t82)  hw hT hF c97 c98 (lv_sub hl [1, 2, 3, 4, 5, 6, 7, 8, 9, 10, 0] rfl)
      · refine lv_if_ne (tgt := 182) hx hb dX12_leads_178 (by decide) (fun _ => ?_) (fun c => absurd c (by decide))
        refine lv_iload_n hx hb dX12_leads_182 rfl (lv_at hl 4 rfl) ?_
        refine lv_aload_n hx hb dX12_leads_183 rfl (lv_at hl 1 rfl) ?_
        refine lv_iload hx hb dX12_leads_184 (lv_at hl 0 rfl) ?_
        refine lv_iconst (v := 2) hx hb dX12_leads_186 (by decide) ?_
        refine tk_Vi hC hK hw hT hA hE hSR kM_at0 (by decide) rfl (k_X12_streetOf_6 l adK adV dC dI cy ad B (by omega) (by omega) qr s1   r99 (show 0 ≤ r99.toInt by omega) (show r99.toInt ≤ 11 by omega) w94 H.size hT ) (cwV 2 hC.2.2.2.2 uV_RX12_300 rfl rfl rfl (by decide +kernel) ⟨Nat.le_of_ble_eq_true rfl, Nat.le_of_ble_eq_true rfl⟩) rfl hl.1 rfl (Nat.le_of_ble_eq_true rfl) dX12_leads_187 (fun r430 w432 H locs hp431 hw => ?_)
        obtain ⟨rfl, hg437⟩ := hp431
        obtain ⟨g434, g435, c436⟩ := hg437
        refine lv_iadd hx hb dX12_leads_190 ?_
        refine lv_topi (fun x438 ex438 => ?_)
        have ex438 : x438.toInt = a3.toInt + r430.toInt := by rw [ex438]; exact wk_add (show (-2147483648) ≤ a3.toInt + r430.toInt by omega) (show a3.toInt + r430.toInt ≤ 2147483647 by omega)
        refine lv_istore (lv' := [(11, .int x438), (10, .int r99), (0, .ref (ad 0)), (1, .int a1), (2, .int a2), (3, .int a3), (4, .int a4), (5, .int 0), (6, .int a6), (7, .int v145_7), (8, .int v145_8), (9, .int v145_9)]) hx hb dX12_leads_191 hl (by decide) rfl (fun ls hl => ?_)
        refine lv_iload hx hb dX12_leads_193 (lv_at hl 0 rfl) ?_
        refine lv_iload hx hb dX12_leads_195 (lv_at hl 8 rfl) ?_
        refine lv_icmp_gt (tgt := 241) hx hb dX12_leads_197 (by decide) (fun c439 => ?_) (fun c439 => ?_)
        · have c439 : a6.toInt < x438.toInt := wk_lt.mp c439
          exact J241 v145_7 v145_8 v145_9 r99 x438 f145_12__9_a1_toInt_217_toNat f145_12__9_a1_toInt_218_toNat x116 H locs ls w94 (show 0 ≤ a1.toInt from r64) (show a1.toInt ≤ 3 from t65) (show 0 ≤ a2.toInt from r66) (show a2.toInt ≤ 1073741824 from t67) (show 0 ≤ a3.toInt from r68) (show a3.toInt ≤ 120 from t69) (show 0 ≤ a4.toInt from r70) (show a4.toInt ≤ 9 from t71) (show 0 ≤ a6.toInt from r72) (show a6.toInt ≤ 120 from t73) (show 0 ≤ v145_8.toInt from r74) (show v145_8.toInt ≤ 1073741944 from t75) (show 0 ≤ v145_9.toInt from r76) (show v145_9.toInt ≤ 1 from t77) (show 0 ≤ r99.toInt by omega) (show r99.toInt ≤ 11 by omega) (show 0 ≤ x438.toInt by omega) (show x438.toInt ≤ 129 by omega) (show 0 ≤ f145_12__9_a1_toInt_217_toNat.toInt from r78) (show f145_12__9_a1_toInt_217_toNat.toInt ≤ 9 from t79) (show 0 ≤ f145_12__9_a1_toInt_218_toNat.toInt from r81) (show f145_12__9_a1_toInt_218_toNat.toInt ≤ 3 from t82) (show 1 ≤ x116.toInt by omega) (show x116.toInt ≤ 12 by omega)  hw hT hF c97 c98 c117 (lv_sub hl [2, 3, 4, 5, 6, 7, 8, 9, 10, 11, 1, 0] rfl)
        · have c439 : x438.toInt ≤ a6.toInt := wk_ltF c439
          refine lv_aload_n hx hb dX12_leads_200 rfl (lv_at hl 2 rfl) ?_
          refine lv_iload hx hb dX12_leads_201 (lv_at hl 0 rfl) ?_
          refine lv_aload_n hx hb dX12_leads_203 rfl (lv_at hl 2 rfl) ?_
          refine lv_iload hx hb dX12_leads_204 (lv_at hl 1 rfl) ?_
          refine lv_iload hx hb dX12_leads_206 (lv_at hl 6 rfl) ?_
          refine tk_Vi hC hK hw hT hA hE hSR kM_at0 (by decide) rfl (k_X12_otherOf_1 l adK adV dC dI cy ad B (by omega) (by omega) qr s1   r99 (show 0 ≤ r99.toInt by omega) (show r99.toInt ≤ 11 by omega) a4 (show 0 ≤ a4.toInt from r70) (show a4.toInt ≤ 9 from t71) w94 H.size hT ) (cwV 2 hC.2.2.2.2 uV_RX12_348 rfl rfl rfl (by decide +kernel) ⟨Nat.le_of_ble_eq_true rfl, Nat.le_of_ble_eq_true rfl⟩) rfl hl.1 rfl (Nat.le_of_ble_eq_true rfl) dX12_leads_208 (fun r440 w442 H locs hp441 hw => ?_)
          obtain ⟨rfl, hg449⟩ := hp441
          rcases hg449 with ⟨g444, g445⟩ | ⟨g446, g447, c448⟩
          · refine lv_iload hx hb dX12_leads_211 (lv_at hl 7 rfl) ?_
            refine lv_if_eq (tgt := 235) hx hb dX12_leads_213 (by decide) (fun _ => ?_) (fun c => absurd (by decide) c)
            refine lv_iconst (v := 0) hx hb dX12_leads_235 (by decide) ?_
            refine lv_iload hx hb dX12_leads_236 (lv_at hl 9 rfl) ?_
            refine tk_Vv hC hK hw hT hA hE hSR kM_at0 (by decide) rfl (k_X12_could_3 l adK adV dC dI cy ad B (by omega) (by omega) qr s1   x438 (show 0 ≤ x438.toInt by omega) (show x438.toInt ≤ 120 by omega) r440 (show 0 ≤ r440.toInt by omega) (show r440.toInt ≤ 9 by omega) v145_7 w94 H.size hT ) (cwV 4 hC.2.2.2.2 uV_RX12_439 rfl rfl rfl (by decide +kernel) ⟨Nat.le_of_ble_eq_true rfl, Nat.le_of_ble_eq_true rfl⟩) rfl hl.1 rfl (Nat.le_of_ble_eq_true rfl) dX12_leads_238 (fun w452 H locs hp451 hw => ?_)
            obtain ⟨hT, k453, hg454⟩ := hp451
            have hF := hF.tr k453 (by decide)
            have c455 := k453.gi kM_at12 rfl c97
            have c456 := k453.gi kM_at12 rfl c98
            have c457 := k453.gi kM_at12 (by decide) c117
            have c458 := k453.gi kM_at12 rfl c118
            have c459 := k453.gi kM_at12 rfl c422
            have c460 := k453.gi kM_at12 rfl c436
            clear hg454
            exact J241 v145_7 v145_8 v145_9 r99 x438 f145_12__9_a1_toInt_217_toNat f145_12__9_a1_toInt_218_toNat x116 H locs ls w452 (show 0 ≤ a1.toInt from r64) (show a1.toInt ≤ 3 from t65) (show 0 ≤ a2.toInt from r66) (show a2.toInt ≤ 1073741824 from t67) (show 0 ≤ a3.toInt from r68) (show a3.toInt ≤ 120 from t69) (show 0 ≤ a4.toInt from r70) (show a4.toInt ≤ 9 from t71) (show 0 ≤ a6.toInt from r72) (show a6.toInt ≤ 120 from t73) (show 0 ≤ v145_8.toInt from r74) (show v145_8.toInt ≤ 1073741944 from t75) (show 0 ≤ v145_9.toInt from r76) (show v145_9.toInt ≤ 1 from t77) (show 0 ≤ r99.toInt by omega) (show r99.toInt ≤ 11 by omega) (show 0 ≤ x438.toInt by omega) (show x438.toInt ≤ 129 by omega) (show 0 ≤ f145_12__9_a1_toInt_217_toNat.toInt from r78) (show f145_12__9_a1_toInt_217_toNat.toInt ≤ 9 from t79) (show 0 ≤ f145_12__9_a1_toInt_218_toNat.toInt from r81) (show f145_12__9_a1_toInt_218_toNat.toInt ≤ 3 from t82) (show 1 ≤ x116.toInt by omega) (show x116.toInt ≤ 12 by omega)  hw hT hF c455 c456 c457 (lv_sub hl [2, 3, 4, 5, 6, 7, 8, 9, 10, 11, 1, 0] rfl)
          · refine lv_iload hx hb dX12_leads_211 (lv_at hl 7 rfl) ?_
            refine lv_if_eq (tgt := 235) hx hb dX12_leads_213 (by decide) (fun _ => ?_) (fun c => absurd (by decide) c)
            refine lv_iconst (v := 0) hx hb dX12_leads_235 (by decide) ?_
            refine lv_iload hx hb dX12_leads_236 (lv_at hl 9 rfl) ?_
            refine tk_Vv hC hK hw hT hA hE hSR kM_at0 (by decide) rfl (k_X12_could_3 l adK adV dC dI cy ad B (by omega) (by omega) qr s1   x438 (show 0 ≤ x438.toInt by omega) (show x438.toInt ≤ 120 by omega) r440 (show 0 ≤ r440.toInt by omega) (show r440.toInt ≤ 9 by omega) v145_7 w94 H.size hT ) (cwV 4 hC.2.2.2.2 uV_RX12_439 rfl rfl rfl (by decide +kernel) ⟨Nat.le_of_ble_eq_true rfl, Nat.le_of_ble_eq_true rfl⟩) rfl hl.1 rfl (Nat.le_of_ble_eq_true rfl) dX12_leads_238 (fun w463 H locs hp462 hw => ?_)
            obtain ⟨hT, k464, hg465⟩ := hp462
            have hF := hF.tr k464 (by decide)
            have c466 := k464.gi kM_at12 rfl c97
            have c467 := k464.gi kM_at12 rfl c98
            have c468 := k464.gi kM_at12 (by decide) c117
            have c469 := k464.gi kM_at12 rfl c118
            have c470 := k464.gi kM_at12 rfl c422
            have c471 := k464.gi kM_at12 rfl c436
            clear hg465
            exact J241 v145_7 v145_8 v145_9 r99 x438 f145_12__9_a1_toInt_217_toNat f145_12__9_a1_toInt_218_toNat x116 H locs ls w463 (show 0 ≤ a1.toInt from r64) (show a1.toInt ≤ 3 from t65) (show 0 ≤ a2.toInt from r66) (show a2.toInt ≤ 1073741824 from t67) (show 0 ≤ a3.toInt from r68) (show a3.toInt ≤ 120 from t69) (show 0 ≤ a4.toInt from r70) (show a4.toInt ≤ 9 from t71) (show 0 ≤ a6.toInt from r72) (show a6.toInt ≤ 120 from t73) (show 0 ≤ v145_8.toInt from r74) (show v145_8.toInt ≤ 1073741944 from t75) (show 0 ≤ v145_9.toInt from r76) (show v145_9.toInt ≤ 1 from t77) (show 0 ≤ r99.toInt by omega) (show r99.toInt ≤ 11 by omega) (show 0 ≤ x438.toInt by omega) (show x438.toInt ≤ 129 by omega) (show 0 ≤ f145_12__9_a1_toInt_217_toNat.toInt from r78) (show f145_12__9_a1_toInt_217_toNat.toInt ≤ 9 from t79) (show 0 ≤ f145_12__9_a1_toInt_218_toNat.toInt from r81) (show f145_12__9_a1_toInt_218_toNat.toInt ≤ 3 from t82) (show 1 ≤ x116.toInt by omega) (show x116.toInt ≤ 12 by omega)  hw hT hF c466 c467 c468 (lv_sub hl [2, 3, 4, 5, 6, 7, 8, 9, 10, 11, 1, 0] rfl)
      · refine lv_if_ne (tgt := 182) hx hb dX12_leads_178 (by decide) (fun _ => ?_) (fun c => absurd c (by decide))
        refine lv_iload_n hx hb dX12_leads_182 rfl (lv_at hl 4 rfl) ?_
        refine lv_aload_n hx hb dX12_leads_183 rfl (lv_at hl 1 rfl) ?_
        refine lv_iload hx hb dX12_leads_184 (lv_at hl 0 rfl) ?_
        refine lv_iconst (v := 2) hx hb dX12_leads_186 (by decide) ?_
        refine tk_Vi hC hK hw hT hA hE hSR kM_at0 (by decide) rfl (k_X12_streetOf_6 l adK adV dC dI cy ad B (by omega) (by omega) qr s1   r99 (show 0 ≤ r99.toInt by omega) (show r99.toInt ≤ 11 by omega) w94 H.size hT ) (cwV 2 hC.2.2.2.2 uV_RX12_300 rfl rfl rfl (by decide +kernel) ⟨Nat.le_of_ble_eq_true rfl, Nat.le_of_ble_eq_true rfl⟩) rfl hl.1 rfl (Nat.le_of_ble_eq_true rfl) dX12_leads_187 (fun r472 w474 H locs hp473 hw => ?_)
        obtain ⟨rfl, hg479⟩ := hp473
        obtain ⟨g476, g477, c478⟩ := hg479
        refine lv_iadd hx hb dX12_leads_190 ?_
        refine lv_topi (fun x480 ex480 => ?_)
        have ex480 : x480.toInt = a3.toInt + r472.toInt := by rw [ex480]; exact wk_add (show (-2147483648) ≤ a3.toInt + r472.toInt by omega) (show a3.toInt + r472.toInt ≤ 2147483647 by omega)
        refine lv_istore (lv' := [(11, .int x480), (10, .int r99), (0, .ref (ad 0)), (1, .int a1), (2, .int a2), (3, .int a3), (4, .int a4), (5, .int 0), (6, .int a6), (7, .int v145_7), (8, .int v145_8), (9, .int v145_9)]) hx hb dX12_leads_191 hl (by decide) rfl (fun ls hl => ?_)
        refine lv_iload hx hb dX12_leads_193 (lv_at hl 0 rfl) ?_
        refine lv_iload hx hb dX12_leads_195 (lv_at hl 8 rfl) ?_
        refine lv_icmp_gt (tgt := 241) hx hb dX12_leads_197 (by decide) (fun c481 => ?_) (fun c481 => ?_)
        · have c481 : a6.toInt < x480.toInt := wk_lt.mp c481
          exact J241 v145_7 v145_8 v145_9 r99 x480 f145_12__9_a1_toInt_217_toNat f145_12__9_a1_toInt_218_toNat x116 H locs ls w94 (show 0 ≤ a1.toInt from r64) (show a1.toInt ≤ 3 from t65) (show 0 ≤ a2.toInt from r66) (show a2.toInt ≤ 1073741824 from t67) (show 0 ≤ a3.toInt from r68) (show a3.toInt ≤ 120 from t69) (show 0 ≤ a4.toInt from r70) (show a4.toInt ≤ 9 from t71) (show 0 ≤ a6.toInt from r72) (show a6.toInt ≤ 120 from t73) (show 0 ≤ v145_8.toInt from r74) (show v145_8.toInt ≤ 1073741944 from t75) (show 0 ≤ v145_9.toInt from r76) (show v145_9.toInt ≤ 1 from t77) (show 0 ≤ r99.toInt by omega) (show r99.toInt ≤ 11 by omega) (show 0 ≤ x480.toInt by omega) (show x480.toInt ≤ 129 by omega) (show 0 ≤ f145_12__9_a1_toInt_217_toNat.toInt from r78) (show f145_12__9_a1_toInt_217_toNat.toInt ≤ 9 from t79) (show 0 ≤ f145_12__9_a1_toInt_218_toNat.toInt from r81) (show f145_12__9_a1_toInt_218_toNat.toInt ≤ 3 from t82) (show 1 ≤ x116.toInt by omega) (show x116.toInt ≤ 12 by omega)  hw hT hF c97 c98 c117 (lv_sub hl [2, 3, 4, 5, 6, 7, 8, 9, 10, 11, 1, 0] rfl)
        · have c481 : x480.toInt ≤ a6.toInt := wk_ltF c481
          refine lv_aload_n hx hb dX12_leads_200 rfl (lv_at hl 2 rfl) ?_
          refine lv_iload hx hb dX12_leads_201 (lv_at hl 0 rfl) ?_
          refine lv_aload_n hx hb dX12_leads_203 rfl (lv_at hl 2 rfl) ?_
          refine lv_iload hx hb dX12_leads_204 (lv_at hl 1 rfl) ?_
          refine lv_iload hx hb dX12_leads_206 (lv_at hl 6 rfl) ?_
          refine tk_Vi hC hK hw hT hA hE hSR kM_at0 (by decide) rfl (k_X12_otherOf_1 l adK adV dC dI cy ad B (by omega) (by omega) qr s1   r99 (show 0 ≤ r99.toInt by omega) (show r99.toInt ≤ 11 by omega) a4 (show 0 ≤ a4.toInt from r70) (show a4.toInt ≤ 9 from t71) w94 H.size hT ) (cwV 2 hC.2.2.2.2 uV_RX12_348 rfl rfl rfl (by decide +kernel) ⟨Nat.le_of_ble_eq_true rfl, Nat.le_of_ble_eq_true rfl⟩) rfl hl.1 rfl (Nat.le_of_ble_eq_true rfl) dX12_leads_208 (fun r482 w484 H locs hp483 hw => ?_)
          obtain ⟨rfl, hg491⟩ := hp483
          rcases hg491 with ⟨g486, g487⟩ | ⟨g488, g489, c490⟩
          · refine lv_iload hx hb dX12_leads_211 (lv_at hl 7 rfl) ?_
            refine lv_if_eq (tgt := 235) hx hb dX12_leads_213 (by decide) (fun _ => ?_) (fun c => absurd (by decide) c)
            refine lv_iconst (v := 0) hx hb dX12_leads_235 (by decide) ?_
            refine lv_iload hx hb dX12_leads_236 (lv_at hl 9 rfl) ?_
            refine tk_Vv hC hK hw hT hA hE hSR kM_at0 (by decide) rfl (k_X12_could_3 l adK adV dC dI cy ad B (by omega) (by omega) qr s1   x480 (show 0 ≤ x480.toInt by omega) (show x480.toInt ≤ 120 by omega) r482 (show 0 ≤ r482.toInt by omega) (show r482.toInt ≤ 9 by omega) v145_7 w94 H.size hT ) (cwV 4 hC.2.2.2.2 uV_RX12_439 rfl rfl rfl (by decide +kernel) ⟨Nat.le_of_ble_eq_true rfl, Nat.le_of_ble_eq_true rfl⟩) rfl hl.1 rfl (Nat.le_of_ble_eq_true rfl) dX12_leads_238 (fun w494 H locs hp493 hw => ?_)
            obtain ⟨hT, k495, hg496⟩ := hp493
            have hF := hF.tr k495 (by decide)
            have c497 := k495.gi kM_at12 rfl c97
            have c498 := k495.gi kM_at12 rfl c98
            have c499 := k495.gi kM_at12 (by decide) c117
            have c500 := k495.gi kM_at12 rfl c118
            have c501 := k495.gi kM_at12 rfl c425
            have c502 := k495.gi kM_at12 rfl c478
            clear hg496
            exact J241 v145_7 v145_8 v145_9 r99 x480 f145_12__9_a1_toInt_217_toNat f145_12__9_a1_toInt_218_toNat x116 H locs ls w494 (show 0 ≤ a1.toInt from r64) (show a1.toInt ≤ 3 from t65) (show 0 ≤ a2.toInt from r66) (show a2.toInt ≤ 1073741824 from t67) (show 0 ≤ a3.toInt from r68) (show a3.toInt ≤ 120 from t69) (show 0 ≤ a4.toInt from r70) (show a4.toInt ≤ 9 from t71) (show 0 ≤ a6.toInt from r72) (show a6.toInt ≤ 120 from t73) (show 0 ≤ v145_8.toInt from r74) (show v145_8.toInt ≤ 1073741944 from t75) (show 0 ≤ v145_9.toInt from r76) (show v145_9.toInt ≤ 1 from t77) (show 0 ≤ r99.toInt by omega) (show r99.toInt ≤ 11 by omega) (show 0 ≤ x480.toInt by omega) (show x480.toInt ≤ 129 by omega) (show 0 ≤ f145_12__9_a1_toInt_217_toNat.toInt from r78) (show f145_12__9_a1_toInt_217_toNat.toInt ≤ 9 from t79) (show 0 ≤ f145_12__9_a1_toInt_218_toNat.toInt from r81) (show f145_12__9_a1_toInt_218_toNat.toInt ≤ 3 from t82) (show 1 ≤ x116.toInt by omega) (show x116.toInt ≤ 12 by omega)  hw hT hF c497 c498 c499 (lv_sub hl [2, 3, 4, 5, 6, 7, 8, 9, 10, 11, 1, 0] rfl)
          · refine lv_iload hx hb dX12_leads_211 (lv_at hl 7 rfl) ?_
            refine lv_if_eq (tgt := 235) hx hb dX12_leads_213 (by decide) (fun _ => ?_) (fun c => absurd (by decide) c)
            refine lv_iconst (v := 0) hx hb dX12_leads_235 (by decide) ?_
            refine lv_iload hx hb dX12_leads_236 (lv_at hl 9 rfl) ?_
            refine tk_Vv hC hK hw hT hA hE hSR kM_at0 (by decide) rfl (k_X12_could_3 l adK adV dC dI cy ad B (by omega) (by omega) qr s1   x480 (show 0 ≤ x480.toInt by omega) (show x480.toInt ≤ 120 by omega) r482 (show 0 ≤ r482.toInt by omega) (show r482.toInt ≤ 9 by omega) v145_7 w94 H.size hT ) (cwV 4 hC.2.2.2.2 uV_RX12_439 rfl rfl rfl (by decide +kernel) ⟨Nat.le_of_ble_eq_true rfl, Nat.le_of_ble_eq_true rfl⟩) rfl hl.1 rfl (Nat.le_of_ble_eq_true rfl) dX12_leads_238 (fun w505 H locs hp504 hw => ?_)
            obtain ⟨hT, k506, hg507⟩ := hp504
            have hF := hF.tr k506 (by decide)
            have c508 := k506.gi kM_at12 rfl c97
            have c509 := k506.gi kM_at12 rfl c98
            have c510 := k506.gi kM_at12 (by decide) c117
            have c511 := k506.gi kM_at12 rfl c118
            have c512 := k506.gi kM_at12 rfl c425
            have c513 := k506.gi kM_at12 rfl c478
            clear hg507
            exact J241 v145_7 v145_8 v145_9 r99 x480 f145_12__9_a1_toInt_217_toNat f145_12__9_a1_toInt_218_toNat x116 H locs ls w505 (show 0 ≤ a1.toInt from r64) (show a1.toInt ≤ 3 from t65) (show 0 ≤ a2.toInt from r66) (show a2.toInt ≤ 1073741824 from t67) (show 0 ≤ a3.toInt from r68) (show a3.toInt ≤ 120 from t69) (show 0 ≤ a4.toInt from r70) (show a4.toInt ≤ 9 from t71) (show 0 ≤ a6.toInt from r72) (show a6.toInt ≤ 120 from t73) (show 0 ≤ v145_8.toInt from r74) (show v145_8.toInt ≤ 1073741944 from t75) (show 0 ≤ v145_9.toInt from r76) (show v145_9.toInt ≤ 1 from t77) (show 0 ≤ r99.toInt by omega) (show r99.toInt ≤ 11 by omega) (show 0 ≤ x480.toInt by omega) (show x480.toInt ≤ 129 by omega) (show 0 ≤ f145_12__9_a1_toInt_217_toNat.toInt from r78) (show f145_12__9_a1_toInt_217_toNat.toInt ≤ 9 from t79) (show 0 ≤ f145_12__9_a1_toInt_218_toNat.toInt from r81) (show f145_12__9_a1_toInt_218_toNat.toInt ≤ 3 from t82) (show 1 ≤ x116.toInt by omega) (show x116.toInt ≤ 12 by omega)  hw hT hF c508 c509 c510 (lv_sub hl [2, 3, 4, 5, 6, 7, 8, 9, 10, 11, 1, 0] rfl)
      · refine lv_if_ne (tgt := 182) hx hb dX12_leads_178 (by decide) (fun _ => ?_) (fun c => absurd c (by decide))
        refine lv_iload_n hx hb dX12_leads_182 rfl (lv_at hl 4 rfl) ?_
        refine lv_aload_n hx hb dX12_leads_183 rfl (lv_at hl 1 rfl) ?_
        refine lv_iload hx hb dX12_leads_184 (lv_at hl 0 rfl) ?_
        refine lv_iconst (v := 2) hx hb dX12_leads_186 (by decide) ?_
        refine tk_Vi hC hK hw hT hA hE hSR kM_at0 (by decide) rfl (k_X12_streetOf_6 l adK adV dC dI cy ad B (by omega) (by omega) qr s1   r99 (show 0 ≤ r99.toInt by omega) (show r99.toInt ≤ 11 by omega) w94 H.size hT ) (cwV 2 hC.2.2.2.2 uV_RX12_300 rfl rfl rfl (by decide +kernel) ⟨Nat.le_of_ble_eq_true rfl, Nat.le_of_ble_eq_true rfl⟩) rfl hl.1 rfl (Nat.le_of_ble_eq_true rfl) dX12_leads_187 (fun r514 w516 H locs hp515 hw => ?_)
        obtain ⟨rfl, hg521⟩ := hp515
        obtain ⟨g518, g519, c520⟩ := hg521
        refine lv_iadd hx hb dX12_leads_190 ?_
        refine lv_topi (fun x522 ex522 => ?_)
        have ex522 : x522.toInt = a3.toInt + r514.toInt := by rw [ex522]; exact wk_add (show (-2147483648) ≤ a3.toInt + r514.toInt by omega) (show a3.toInt + r514.toInt ≤ 2147483647 by omega)
        refine lv_istore (lv' := [(11, .int x522), (10, .int r99), (0, .ref (ad 0)), (1, .int a1), (2, .int a2), (3, .int a3), (4, .int a4), (5, .int 0), (6, .int a6), (7, .int v145_7), (8, .int v145_8), (9, .int v145_9)]) hx hb dX12_leads_191 hl (by decide) rfl (fun ls hl => ?_)
        refine lv_iload hx hb dX12_leads_193 (lv_at hl 0 rfl) ?_
        refine lv_iload hx hb dX12_leads_195 (lv_at hl 8 rfl) ?_
        refine lv_icmp_gt (tgt := 241) hx hb dX12_leads_197 (by decide) (fun c523 => ?_) (fun c523 => ?_)
        · have c523 : a6.toInt < x522.toInt := wk_lt.mp c523
          exact J241 v145_7 v145_8 v145_9 r99 x522 f145_12__9_a1_toInt_217_toNat f145_12__9_a1_toInt_218_toNat x116 H locs ls w94 (show 0 ≤ a1.toInt from r64) (show a1.toInt ≤ 3 from t65) (show 0 ≤ a2.toInt from r66) (show a2.toInt ≤ 1073741824 from t67) (show 0 ≤ a3.toInt from r68) (show a3.toInt ≤ 120 from t69) (show 0 ≤ a4.toInt from r70) (show a4.toInt ≤ 9 from t71) (show 0 ≤ a6.toInt from r72) (show a6.toInt ≤ 120 from t73) (show 0 ≤ v145_8.toInt from r74) (show v145_8.toInt ≤ 1073741944 from t75) (show 0 ≤ v145_9.toInt from r76) (show v145_9.toInt ≤ 1 from t77) (show 0 ≤ r99.toInt by omega) (show r99.toInt ≤ 11 by omega) (show 0 ≤ x522.toInt by omega) (show x522.toInt ≤ 129 by omega) (show 0 ≤ f145_12__9_a1_toInt_217_toNat.toInt from r78) (show f145_12__9_a1_toInt_217_toNat.toInt ≤ 9 from t79) (show 0 ≤ f145_12__9_a1_toInt_218_toNat.toInt from r81) (show f145_12__9_a1_toInt_218_toNat.toInt ≤ 3 from t82) (show 1 ≤ x116.toInt by omega) (show x116.toInt ≤ 12 by omega)  hw hT hF c97 c98 c117 (lv_sub hl [2, 3, 4, 5, 6, 7, 8, 9, 10, 11, 1, 0] rfl)
        · have c523 : x522.toInt ≤ a6.toInt := wk_ltF c523
          refine lv_aload_n hx hb dX12_leads_200 rfl (lv_at hl 2 rfl) ?_
          refine lv_iload hx hb dX12_leads_201 (lv_at hl 0 rfl) ?_
          refine lv_aload_n hx hb dX12_leads_203 rfl (lv_at hl 2 rfl) ?_
          refine lv_iload hx hb dX12_leads_204 (lv_at hl 1 rfl) ?_
          refine lv_iload hx hb dX12_leads_206 (lv_at hl 6 rfl) ?_
          refine tk_Vi hC hK hw hT hA hE hSR kM_at0 (by decide) rfl (k_X12_otherOf_1 l adK adV dC dI cy ad B (by omega) (by omega) qr s1   r99 (show 0 ≤ r99.toInt by omega) (show r99.toInt ≤ 11 by omega) a4 (show 0 ≤ a4.toInt from r70) (show a4.toInt ≤ 9 from t71) w94 H.size hT ) (cwV 2 hC.2.2.2.2 uV_RX12_348 rfl rfl rfl (by decide +kernel) ⟨Nat.le_of_ble_eq_true rfl, Nat.le_of_ble_eq_true rfl⟩) rfl hl.1 rfl (Nat.le_of_ble_eq_true rfl) dX12_leads_208 (fun r524 w526 H locs hp525 hw => ?_)
          obtain ⟨rfl, hg533⟩ := hp525
          rcases hg533 with ⟨g528, g529⟩ | ⟨g530, g531, c532⟩
          · refine lv_iload hx hb dX12_leads_211 (lv_at hl 7 rfl) ?_
            refine lv_if_eq (tgt := 235) hx hb dX12_leads_213 (by decide) (fun _ => ?_) (fun c => absurd (by decide) c)
            refine lv_iconst (v := 0) hx hb dX12_leads_235 (by decide) ?_
            refine lv_iload hx hb dX12_leads_236 (lv_at hl 9 rfl) ?_
            refine tk_Vv hC hK hw hT hA hE hSR kM_at0 (by decide) rfl (k_X12_could_3 l adK adV dC dI cy ad B (by omega) (by omega) qr s1   x522 (show 0 ≤ x522.toInt by omega) (show x522.toInt ≤ 120 by omega) r524 (show 0 ≤ r524.toInt by omega) (show r524.toInt ≤ 9 by omega) v145_7 w94 H.size hT ) (cwV 4 hC.2.2.2.2 uV_RX12_439 rfl rfl rfl (by decide +kernel) ⟨Nat.le_of_ble_eq_true rfl, Nat.le_of_ble_eq_true rfl⟩) rfl hl.1 rfl (Nat.le_of_ble_eq_true rfl) dX12_leads_238 (fun w536 H locs hp535 hw => ?_)
            obtain ⟨hT, k537, hg538⟩ := hp535
            have hF := hF.tr k537 (by decide)
            have c539 := k537.gi kM_at12 rfl c97
            have c540 := k537.gi kM_at12 rfl c98
            have c541 := k537.gi kM_at12 (by decide) c117
            have c542 := k537.gi kM_at12 rfl c118
            have c543 := k537.gi kM_at12 rfl c520
            clear hg538
            exact J241 v145_7 v145_8 v145_9 r99 x522 f145_12__9_a1_toInt_217_toNat f145_12__9_a1_toInt_218_toNat x116 H locs ls w536 (show 0 ≤ a1.toInt from r64) (show a1.toInt ≤ 3 from t65) (show 0 ≤ a2.toInt from r66) (show a2.toInt ≤ 1073741824 from t67) (show 0 ≤ a3.toInt from r68) (show a3.toInt ≤ 120 from t69) (show 0 ≤ a4.toInt from r70) (show a4.toInt ≤ 9 from t71) (show 0 ≤ a6.toInt from r72) (show a6.toInt ≤ 120 from t73) (show 0 ≤ v145_8.toInt from r74) (show v145_8.toInt ≤ 1073741944 from t75) (show 0 ≤ v145_9.toInt from r76) (show v145_9.toInt ≤ 1 from t77) (show 0 ≤ r99.toInt by omega) (show r99.toInt ≤ 11 by omega) (show 0 ≤ x522.toInt by omega) (show x522.toInt ≤ 129 by omega) (show 0 ≤ f145_12__9_a1_toInt_217_toNat.toInt from r78) (show f145_12__9_a1_toInt_217_toNat.toInt ≤ 9 from t79) (show 0 ≤ f145_12__9_a1_toInt_218_toNat.toInt from r81) (show f145_12__9_a1_toInt_218_toNat.toInt ≤ 3 from t82) (show 1 ≤ x116.toInt by omega) (show x116.toInt ≤ 12 by omega)  hw hT hF c539 c540 c541 (lv_sub hl [2, 3, 4, 5, 6, 7, 8, 9, 10, 11, 1, 0] rfl)
          · refine lv_iload hx hb dX12_leads_211 (lv_at hl 7 rfl) ?_
            refine lv_if_eq (tgt := 235) hx hb dX12_leads_213 (by decide) (fun _ => ?_) (fun c => absurd (by decide) c)
            refine lv_iconst (v := 0) hx hb dX12_leads_235 (by decide) ?_
            refine lv_iload hx hb dX12_leads_236 (lv_at hl 9 rfl) ?_
            refine tk_Vv hC hK hw hT hA hE hSR kM_at0 (by decide) rfl (k_X12_could_3 l adK adV dC dI cy ad B (by omega) (by omega) qr s1   x522 (show 0 ≤ x522.toInt by omega) (show x522.toInt ≤ 120 by omega) r524 (show 0 ≤ r524.toInt by omega) (show r524.toInt ≤ 9 by omega) v145_7 w94 H.size hT ) (cwV 4 hC.2.2.2.2 uV_RX12_439 rfl rfl rfl (by decide +kernel) ⟨Nat.le_of_ble_eq_true rfl, Nat.le_of_ble_eq_true rfl⟩) rfl hl.1 rfl (Nat.le_of_ble_eq_true rfl) dX12_leads_238 (fun w546 H locs hp545 hw => ?_)
            obtain ⟨hT, k547, hg548⟩ := hp545
            have hF := hF.tr k547 (by decide)
            have c549 := k547.gi kM_at12 rfl c97
            have c550 := k547.gi kM_at12 rfl c98
            have c551 := k547.gi kM_at12 (by decide) c117
            have c552 := k547.gi kM_at12 rfl c118
            have c553 := k547.gi kM_at12 rfl c520
            have c554 := k547.gi kM_at12 rfl c532
            clear hg548
            exact J241 v145_7 v145_8 v145_9 r99 x522 f145_12__9_a1_toInt_217_toNat f145_12__9_a1_toInt_218_toNat x116 H locs ls w546 (show 0 ≤ a1.toInt from r64) (show a1.toInt ≤ 3 from t65) (show 0 ≤ a2.toInt from r66) (show a2.toInt ≤ 1073741824 from t67) (show 0 ≤ a3.toInt from r68) (show a3.toInt ≤ 120 from t69) (show 0 ≤ a4.toInt from r70) (show a4.toInt ≤ 9 from t71) (show 0 ≤ a6.toInt from r72) (show a6.toInt ≤ 120 from t73) (show 0 ≤ v145_8.toInt from r74) (show v145_8.toInt ≤ 1073741944 from t75) (show 0 ≤ v145_9.toInt from r76) (show v145_9.toInt ≤ 1 from t77) (show 0 ≤ r99.toInt by omega) (show r99.toInt ≤ 11 by omega) (show 0 ≤ x522.toInt by omega) (show x522.toInt ≤ 129 by omega) (show 0 ≤ f145_12__9_a1_toInt_217_toNat.toInt from r78) (show f145_12__9_a1_toInt_217_toNat.toInt ≤ 9 from t79) (show 0 ≤ f145_12__9_a1_toInt_218_toNat.toInt from r81) (show f145_12__9_a1_toInt_218_toNat.toInt ≤ 3 from t82) (show 1 ≤ x116.toInt by omega) (show x116.toInt ≤ 12 by omega)  hw hT hF c549 c550 c551 (lv_sub hl [2, 3, 4, 5, 6, 7, 8, 9, 10, 11, 1, 0] rfl)
    · refine lv_istore (lv' := [(10, .int (-1)), (0, .ref (ad 0)), (1, .int a1), (2, .int a2), (3, .int a3), (4, .int a4), (5, .int 0), (6, .int a6), (7, .int v145_7), (8, .int v145_8), (9, .int v145_9)]) hx hb dX12_leads_161 hl (by decide) rfl (fun ls hl => ?_)
      refine lv_iload hx hb dX12_leads_163 (lv_at hl 0 rfl) ?_
      refine lv_if_lt (tgt := 181) hx hb dX12_leads_165 (by decide) (fun _ => ?_) (fun c => absurd (by decide) c)
      exact J181 v145_7 v145_8 v145_9 (-1) f145_12__9_a1_toInt_217_toNat f145_12__9_a1_toInt_218_toNat H locs ls w94 (show 0 ≤ a1.toInt from r64) (show a1.toInt ≤ 3 from t65) (show 0 ≤ a2.toInt from r66) (show a2.toInt ≤ 1073741824 from t67) (show 0 ≤ a3.toInt from r68) (show a3.toInt ≤ 120 from t69) (show 0 ≤ a4.toInt from r70) (show a4.toInt ≤ 9 from t71) (show 0 ≤ a6.toInt from r72) (show a6.toInt ≤ 120 from t73) (show 0 ≤ v145_8.toInt from r74) (show v145_8.toInt ≤ 1073741944 from t75) (show 0 ≤ v145_9.toInt from r76) (show v145_9.toInt ≤ 1 from t77) (by decide) (by decide) (show 0 ≤ f145_12__9_a1_toInt_217_toNat.toInt from r78) (show f145_12__9_a1_toInt_217_toNat.toInt ≤ 9 from t79) (show 0 ≤ f145_12__9_a1_toInt_218_toNat.toInt from r81) (show f145_12__9_a1_toInt_218_toNat.toInt ≤ 3 from t82)  hw hT hF c97 c98 (lv_sub hl [1, 2, 3, 4, 5, 6, 7, 8, 9, 10, 0] rfl)
  have J115 : ∀ (v115_7 : Int32) (v115_8 : Int32) (v115_9 : Int32) (f115_12__9_a1_toInt_217_toNat : Int32) (H : Heap) (locs : List Loc) (ls : Array Slot) (w555 : va_W), 0 ≤ a1.toInt → a1.toInt ≤ 3 → 0 ≤ a2.toInt → a2.toInt ≤ 1073741824 → 0 ≤ a3.toInt → a3.toInt ≤ 120 → 0 ≤ a4.toInt → a4.toInt ≤ 9 → 0 ≤ a6.toInt → a6.toInt ≤ 120 → 0 ≤ v115_8.toInt → v115_8.toInt ≤ 1073741944 → 0 ≤ v115_9.toInt → v115_9.toInt ≤ 1 → 0 ≤ f115_12__9_a1_toInt_217_toNat.toInt → f115_12__9_a1_toInt_217_toNat.toInt ≤ 9 → Wd dC dI A s.heap H locs w555 → TW ksM ad cy B qr 12 w555 → FE ksM [(72, 0, 12), (73, 0, 10), (76, 0, 2600)] w0 w555 → gi w555 12 (9 * a1.toInt + 217).toNat = f115_12__9_a1_toInt_217_toNat → lv_has ls 12 [(0, .ref (ad 0)), (1, .int a1), (2, .int a2), (3, .int a3), (4, .int a4), (5, .int 0), (6, .int a6), (7, .int v115_7), (8, .int v115_8), (9, .int v115_9)] → W p l e ({ frames := 5, cells := 0, slots := 0, locals := 103 }) s m (List.toArray [.ref (ad 0), .int a1, .int a2, .int a3, .int a4, .int 0, .int a6]) below meth c H locs 0 0 (MQ below (va_Qv (P_X12_leads_1 ad cy B qr s1 a1 a2 a3 a4 a6 w0) (fun u : va_W => wpost dC dI cy A u) A) (List.toArray [.ref (ad 0), .int a1, .int a2, .int a3, .int a4, .int 0, .int a6]) s 0 0 A) (F0 m 115 ls []) := by
    intro v115_7 v115_8 v115_9 f115_12__9_a1_toInt_217_toNat H locs ls w555 r556 t557 r558 t559 r560 t561 r562 t563 r564 t565 r566 t567 r568 t569 r570 t571 hw hT hF c572 hl
    refine lv_iload hx hb dX12_leads_115 (lv_at hl 5 rfl) ?_
    refine lv_if_eq (tgt := 135) hx hb dX12_leads_117 (by decide) (fun _ => ?_) (fun c => absurd (by decide) c)
    refine lv_aload_n hx hb dX12_leads_135 rfl (lv_at hl 0 rfl) ?_
    refine lv_aload_n hx hb dX12_leads_136 rfl (lv_at hl 0 rfl) ?_
    refine lv_iload_n hx hb dX12_leads_137 rfl (lv_at hl 1 rfl) ?_
    refine lv_iconst (v := 2) hx hb dX12_leads_138 (by decide) ?_
    refine tk_Vi hC hK hw hT hA hE hSR kM_at0 (by decide) rfl (k_X12_walkerOf_10 l adK adV dC dI cy ad B (by omega) (by omega) qr s1   a1 (show 0 ≤ a1.toInt from r556) (show a1.toInt ≤ 3 from t557) w555 H.size hT ) (cwV 2 hC.2.2.2.2 uV_RX12_372 rfl rfl rfl (by decide +kernel) ⟨Nat.le_of_ble_eq_true rfl, Nat.le_of_ble_eq_true rfl⟩) rfl hl.1 rfl (Nat.le_of_ble_eq_true rfl) dX12_leads_139 (fun r573 w575 H locs hp574 hw => ?_)
    obtain ⟨rfl, hg580⟩ := hp574
    obtain ⟨g577, g578, c579⟩ := hg580
    refine tk_Vv hC hK hw hT hA hE hSR kM_at0 (by decide) rfl (k_X12_takesMap_1 l adK adV dC dI cy ad B (by omega) (by omega) qr s1   r573 (show 0 ≤ r573.toInt by omega) (show r573.toInt ≤ 3 by omega) w555 H.size hT ) (cwV 1 hC.2.2.2.2 uV_RX12_351 rfl rfl rfl (by decide +kernel) ⟨Nat.le_of_ble_eq_true rfl, Nat.le_of_ble_eq_true rfl⟩) rfl hl.1 rfl (Nat.le_of_ble_eq_true rfl) dX12_leads_142 (fun w583 H locs hp582 hw => ?_)
    obtain ⟨hT, k584, hg585⟩ := hp582
    have hF := hF.tr k584 (by decide)
    have c586 := k584.gi kM_at12 rfl c572
    have c587 := k584.gi kM_at12 rfl c579
    clear hg585
    exact J145 v115_7 v115_8 v115_9 f115_12__9_a1_toInt_217_toNat r573 H locs ls w583 (show 0 ≤ a1.toInt from r556) (show a1.toInt ≤ 3 from t557) (show 0 ≤ a2.toInt from r558) (show a2.toInt ≤ 1073741824 from t559) (show 0 ≤ a3.toInt from r560) (show a3.toInt ≤ 120 from t561) (show 0 ≤ a4.toInt from r562) (show a4.toInt ≤ 9 from t563) (show 0 ≤ a6.toInt from r564) (show a6.toInt ≤ 120 from t565) (show 0 ≤ v115_8.toInt from r566) (show v115_8.toInt ≤ 1073741944 from t567) (show 0 ≤ v115_9.toInt from r568) (show v115_9.toInt ≤ 1 from t569) (show 0 ≤ f115_12__9_a1_toInt_217_toNat.toInt from r570) (show f115_12__9_a1_toInt_217_toNat.toInt ≤ 9 from t571) (show 0 ≤ r573.toInt by omega) (show r573.toInt ≤ 3 by omega)  hw hT hF c586 c587 (lv_sub hl [0, 1, 2, 3, 4, 5, 6, 7, 8, 9] rfl)
  refine lv_aload_n hx hb dX12_leads_0 rfl (lv_at hl 0 rfl) ?_
  refine tk_getA hC hK hw hT hinX12 kM_at0 (by decide) rfl 34 (by decide) (List.mem_cons_of_mem _ uw_7_7) rfl rfl dX12_leads_1 ?_
  refine lv_aload_n hx hb dX12_leads_4 rfl (lv_at hl 0 rfl) ?_
  refine lv_iload_n hx hb dX12_leads_5 rfl (lv_at hl 3 rfl) ?_
  refine lv_iload hx hb dX12_leads_6 (lv_at hl 4 rfl) ?_
  refine lv_iload hx hb dX12_leads_8 (lv_at hl 5 rfl) ?_
  refine tk_Vi hC hK hw hT hA hE hSR kM_at0 (by decide) rfl (k_X12_placeAt_3 l adK adV dC dI cy ad B (by omega) (by omega) qr s1   a3 (show 0 ≤ a3.toInt from ra3) (show a3.toInt ≤ 120 from ta3) a4 (show 0 ≤ a4.toInt from ra4) (show a4.toInt ≤ 9 from ta4) w0 s.heap.size hT ) (cwV 3 hC.2.2.2.2 uV_RX12_435 rfl rfl rfl (by decide +kernel) ⟨Nat.le_of_ble_eq_true rfl, Nat.le_of_ble_eq_true rfl⟩) rfl hl.1 rfl (Nat.le_of_ble_eq_true rfl) dX12_leads_10 (fun r588 w590 H locs hp589 hw => ?_)
  obtain ⟨rfl, hg594⟩ := hp589
  obtain ⟨g592, g593⟩ := hg594
  refine tk_iald hC hK hw hT kM_at17 rfl rfl (show 0 ≤ r588.toInt by omega) (show r588.toInt < 2600 by omega) dX12_leads_13 (fun x595 c596 rx595 tx595 => ?_)
  refine lv_istore (lv' := [(7, .int x595), (0, .ref (ad 0)), (1, .int a1), (2, .int a2), (3, .int a3), (4, .int a4), (5, .int 0), (6, .int a6)]) hx hb dX12_leads_14 hl (by decide) rfl (fun ls hl => ?_)
  refine lv_iload hx hb dX12_leads_16 (lv_at hl 0 rfl) ?_
  refine lv_ldcw (v := 100000000) hx hb hC.2.2.2.1 (hC.2.2.2.2 _ (List.mem_cons_of_mem _ uw_38_2)) dX12_leads_18 ?_
  refine lv_icmp_eq (tgt := 41) hx hb dX12_leads_21 (by decide) (fun c597 => ?_) (fun c597 => ?_)
  · have c597 : x595.toInt = (100000000 : Int) := wk_eq.mp c597
    exact J41 x595 H locs ls w0 (show 0 ≤ a1.toInt from ra1) (show a1.toInt ≤ 3 from ta1) (show 0 ≤ a2.toInt from ra2) (show a2.toInt ≤ 1073741824 from ta2) (show 0 ≤ a3.toInt from ra3) (show a3.toInt ≤ 120 from ta3) (show 0 ≤ a4.toInt from ra4) (show a4.toInt ≤ 9 from ta4) (show 0 ≤ a6.toInt from ra6) (show a6.toInt ≤ 120 from ta6)  hw hT hF  (lv_sub hl [1, 2, 3, 4, 5, 6, 7, 0] rfl)
  · have c597 : ¬ x595.toInt = (100000000 : Int) := wk_eqF c597
    refine lv_iload_n hx hb dX12_leads_24 rfl (lv_at hl 4 rfl) ?_
    refine lv_iload hx hb dX12_leads_25 (lv_at hl 7 rfl) ?_
    refine lv_icmp_eq (tgt := 41) hx hb dX12_leads_27 (by decide) (fun c598 => ?_) (fun c598 => ?_)
    · have c598 : a3.toInt = a6.toInt := wk_eq.mp c598
      exact J41 x595 H locs ls w0 (show 0 ≤ a1.toInt from ra1) (show a1.toInt ≤ 3 from ta1) (show 0 ≤ a2.toInt from ra2) (show a2.toInt ≤ 1073741824 from ta2) (show 0 ≤ a3.toInt from ra3) (show a3.toInt ≤ 120 from ta3) (show 0 ≤ a4.toInt from ra4) (show a4.toInt ≤ 9 from ta4) (show 0 ≤ a6.toInt from ra6) (show a6.toInt ≤ 120 from ta6)  hw hT hF  (lv_sub hl [1, 2, 3, 4, 5, 6, 7, 0] rfl)
    · have c598 : ¬ a3.toInt = a6.toInt := wk_eqF c598
      refine lv_iload hx hb dX12_leads_30 (lv_at hl 5 rfl) ?_
      refine lv_aload_n hx hb dX12_leads_32 rfl (lv_at hl 1 rfl) ?_
      refine lv_iload_n hx hb dX12_leads_33 rfl (lv_at hl 2 rfl) ?_
      refine lv_iconst (v := 1) hx hb dX12_leads_34 (by decide) ?_
      refine tk_Vi hC hK hw hT hA hE hSR kM_at0 (by decide) rfl (k_X12_walkerOf_3 l adK adV dC dI cy ad B (by omega) (by omega) qr s1   a1 (show 0 ≤ a1.toInt from ra1) (show a1.toInt ≤ 3 from ta1) w0 H.size hT ) (cwV 2 hC.2.2.2.2 uV_RX12_372 rfl rfl rfl (by decide +kernel) ⟨Nat.le_of_ble_eq_true rfl, Nat.le_of_ble_eq_true rfl⟩) rfl hl.1 rfl (Nat.le_of_ble_eq_true rfl) dX12_leads_35 (fun r599 w601 H locs hp600 hw => ?_)
      obtain ⟨rfl, hg606⟩ := hp600
      obtain ⟨g603, g604, c605⟩ := hg606
      refine lv_icmp_ne (tgt := 42) hx hb dX12_leads_38 (by decide) (fun c607 => ?_) (fun c607 => ?_)
      · have c607 : ¬ a4.toInt = r599.toInt := wk_eqF c607
        refine lv_iload_n hx hb dX12_leads_42 rfl (lv_at hl 3 rfl) ?_
        refine lv_iload_n hx hb dX12_leads_43 rfl (lv_at hl 4 rfl) ?_
        refine lv_iadd hx hb dX12_leads_44 ?_
        refine lv_topi (fun x608 ex608 => ?_)
        have ex608 : x608.toInt = a2.toInt + a3.toInt := by rw [ex608]; exact wk_add (show (-2147483648) ≤ a2.toInt + a3.toInt by omega) (show a2.toInt + a3.toInt ≤ 2147483647 by omega)
        refine lv_istore (lv' := [(8, .int x608), (7, .int x595), (0, .ref (ad 0)), (1, .int a1), (2, .int a2), (3, .int a3), (4, .int a4), (5, .int 0), (6, .int a6)]) hx hb dX12_leads_45 hl (by decide) rfl (fun ls hl => ?_)
        refine lv_iload hx hb dX12_leads_47 (lv_at hl 0 rfl) ?_
        refine lv_iconst (v := 1) hx hb dX12_leads_49 (by decide) ?_
        refine lv_iadd hx hb dX12_leads_50 ?_
        refine lv_topi (fun x609 ex609 => ?_)
        have ex609 : x609.toInt = x608.toInt + (1 : Int) := by rw [ex609]; exact wk_add (show (-2147483648) ≤ x608.toInt + (1 : Int) by omega) (show x608.toInt + (1 : Int) ≤ 2147483647 by omega)
        refine lv_bipush (v := 24) hx hb dX12_leads_51 (by decide) ?_
        refine lv_idiv hx hb dX12_leads_53 (by decide) ?_
        refine lv_topi (fun x610 ex610 => ?_)
        have ex610 : x610.toInt = x609.toInt / (24 : Int) := by rw [ex610]; exact wk_div (show 0 ≤ x609.toInt by omega) (show 0 < (24 : Int) by decide)
        refine lv_iload hx hb dX12_leads_54 (lv_at hl 0 rfl) ?_
        refine lv_bipush (v := 24) hx hb dX12_leads_56 (by decide) ?_
        refine lv_idiv hx hb dX12_leads_58 (by decide) ?_
        refine lv_topi (fun x611 ex611 => ?_)
        have ex611 : x611.toInt = x608.toInt / (24 : Int) := by rw [ex611]; exact wk_div (show 0 ≤ x608.toInt by omega) (show 0 < (24 : Int) by decide)
        refine lv_icmp_ne (tgt := 66) hx hb dX12_leads_59 (by decide) (fun c612 => ?_) (fun c612 => ?_)
        · have c612 : ¬ x610.toInt = x611.toInt := wk_eqF c612
          refine lv_iconst (v := 0) hx hb dX12_leads_66 (by decide) ?_
          refine lv_istore (lv' := [(9, .int 0), (8, .int x608), (7, .int x595), (0, .ref (ad 0)), (1, .int a1), (2, .int a2), (3, .int a3), (4, .int a4), (5, .int 0), (6, .int a6)]) hx hb dX12_leads_67 hl (by decide) rfl (fun ls hl => ?_)
          refine lv_aload_n hx hb dX12_leads_69 rfl (lv_at hl 3 rfl) ?_
          refine lv_iload_n hx hb dX12_leads_70 rfl (lv_at hl 6 rfl) ?_
          refine lv_iconst (v := 1) hx hb dX12_leads_71 (by decide) ?_
          refine lv_iadd hx hb dX12_leads_72 ?_
          refine lv_topi (fun x613 ex613 => ?_)
          have ex613 : x613.toInt = a3.toInt + (1 : Int) := by rw [ex613]; exact wk_add (show (-2147483648) ≤ a3.toInt + (1 : Int) by omega) (show a3.toInt + (1 : Int) ≤ 2147483647 by omega)
          refine lv_iload hx hb dX12_leads_73 (lv_at hl 7 rfl) ?_
          refine lv_iload hx hb dX12_leads_75 (lv_at hl 8 rfl) ?_
          refine lv_if_eq (tgt := 89) hx hb dX12_leads_77 (by decide) (fun _ => ?_) (fun c => absurd (by decide) c)
          refine lv_iconst (v := 0) hx hb dX12_leads_89 (by decide) ?_
          refine lv_iload hx hb dX12_leads_90 (lv_at hl 2 rfl) ?_
          refine tk_Vv hC hK hw hT hA hE hSR kM_at0 (by decide) rfl (k_X12_could_4 l adK adV dC dI cy ad B (by omega) (by omega) qr s1   x613 (show 1 ≤ x613.toInt by omega) (show x613.toInt ≤ 121 by omega) a4 (show 0 ≤ a4.toInt from ra4) (show a4.toInt ≤ 9 from ta4) x595 w0 H.size hT ) (cwV 4 hC.2.2.2.2 uV_RX12_439 rfl rfl rfl (by decide +kernel) ⟨Nat.le_of_ble_eq_true rfl, Nat.le_of_ble_eq_true rfl⟩) rfl hl.1 rfl (Nat.le_of_ble_eq_true rfl) dX12_leads_92 (fun w616 H locs hp615 hw => ?_)
          obtain ⟨hT, k617, hg618⟩ := hp615
          have hF := hF.tr k617 (by decide)
          have c619 := k617.gi kM_at12 rfl c605
          clear hg618
          refine lv_iload hx hb dX12_leads_95 (lv_at hl 8 rfl) ?_
          refine lv_if_ne (tgt := 115) hx hb dX12_leads_97 (by decide) (fun c => absurd (by decide) c) (fun _ => ?_)
          refine lv_aload_n hx hb dX12_leads_100 rfl (lv_at hl 3 rfl) ?_
          refine lv_iload_n hx hb dX12_leads_101 rfl (lv_at hl 6 rfl) ?_
          refine lv_iconst (v := 1) hx hb dX12_leads_102 (by decide) ?_
          refine lv_iadd hx hb dX12_leads_103 ?_
          refine lv_topi (fun x620 ex620 => ?_)
          have ex620 : x620.toInt = a3.toInt + (1 : Int) := by rw [ex620]; exact wk_add (show (-2147483648) ≤ a3.toInt + (1 : Int) by omega) (show a3.toInt + (1 : Int) ≤ 2147483647 by omega)
          refine lv_iload hx hb dX12_leads_104 (lv_at hl 7 rfl) ?_
          refine lv_iload hx hb dX12_leads_106 (lv_at hl 0 rfl) ?_
          refine lv_iload hx hb dX12_leads_108 (lv_at hl 2 rfl) ?_
          refine lv_iconst (v := 1) hx hb dX12_leads_110 (by decide) ?_
          refine lv_iadd hx hb dX12_leads_111 ?_
          have nx621 := wk_i32 x595
          refine lv_topi (fun x622 ex622 => ?_)
          refine tk_Vv hC hK hw hT hA hE hSR kM_at0 (by decide) rfl (k_X12_could_4 l adK adV dC dI cy ad B (by omega) (by omega) qr s1   x620 (show 1 ≤ x620.toInt by omega) (show x620.toInt ≤ 121 by omega) a4 (show 0 ≤ a4.toInt from ra4) (show a4.toInt ≤ 9 from ta4) x622 w616 H.size hT ) (cwV 4 hC.2.2.2.2 uV_RX12_439 rfl rfl rfl (by decide +kernel) ⟨Nat.le_of_ble_eq_true rfl, Nat.le_of_ble_eq_true rfl⟩) rfl hl.1 rfl (Nat.le_of_ble_eq_true rfl) dX12_leads_112 (fun w625 H locs hp624 hw => ?_)
          obtain ⟨hT, k626, hg627⟩ := hp624
          have hF := hF.tr k626 (by decide)
          have c628 := k626.gi kM_at12 rfl c619
          clear hg627
          exact J115 x595 x608 0 r599 H locs ls w625 (show 0 ≤ a1.toInt from ra1) (show a1.toInt ≤ 3 from ta1) (show 0 ≤ a2.toInt from ra2) (show a2.toInt ≤ 1073741824 from ta2) (show 0 ≤ a3.toInt from ra3) (show a3.toInt ≤ 120 from ta3) (show 0 ≤ a4.toInt from ra4) (show a4.toInt ≤ 9 from ta4) (show 0 ≤ a6.toInt from ra6) (show a6.toInt ≤ 120 from ta6) (show 0 ≤ x608.toInt by omega) (show x608.toInt ≤ 1073741944 by omega) (by decide) (by decide) (show 0 ≤ r599.toInt by omega) (show r599.toInt ≤ 9 by omega)  hw hT hF c628 (lv_sub hl [3, 4, 5, 6, 7, 8, 9, 2, 1, 0] rfl)
        · have c612 : x610.toInt = x611.toInt := wk_eq.mp c612
          refine lv_iconst (v := 1) hx hb dX12_leads_62 (by decide) ?_
          refine lv_goto (tgt := 67) hx hb dX12_leads_63 (by decide) ?_
          refine lv_istore (lv' := [(9, .int 1), (8, .int x608), (7, .int x595), (0, .ref (ad 0)), (1, .int a1), (2, .int a2), (3, .int a3), (4, .int a4), (5, .int 0), (6, .int a6)]) hx hb dX12_leads_67 hl (by decide) rfl (fun ls hl => ?_)
          refine lv_aload_n hx hb dX12_leads_69 rfl (lv_at hl 3 rfl) ?_
          refine lv_iload_n hx hb dX12_leads_70 rfl (lv_at hl 6 rfl) ?_
          refine lv_iconst (v := 1) hx hb dX12_leads_71 (by decide) ?_
          refine lv_iadd hx hb dX12_leads_72 ?_
          refine lv_topi (fun x629 ex629 => ?_)
          have ex629 : x629.toInt = a3.toInt + (1 : Int) := by rw [ex629]; exact wk_add (show (-2147483648) ≤ a3.toInt + (1 : Int) by omega) (show a3.toInt + (1 : Int) ≤ 2147483647 by omega)
          refine lv_iload hx hb dX12_leads_73 (lv_at hl 7 rfl) ?_
          refine lv_iload hx hb dX12_leads_75 (lv_at hl 8 rfl) ?_
          refine lv_if_eq (tgt := 89) hx hb dX12_leads_77 (by decide) (fun _ => ?_) (fun c => absurd (by decide) c)
          refine lv_iconst (v := 0) hx hb dX12_leads_89 (by decide) ?_
          refine lv_iload hx hb dX12_leads_90 (lv_at hl 2 rfl) ?_
          refine tk_Vv hC hK hw hT hA hE hSR kM_at0 (by decide) rfl (k_X12_could_4 l adK adV dC dI cy ad B (by omega) (by omega) qr s1   x629 (show 1 ≤ x629.toInt by omega) (show x629.toInt ≤ 121 by omega) a4 (show 0 ≤ a4.toInt from ra4) (show a4.toInt ≤ 9 from ta4) x595 w0 H.size hT ) (cwV 4 hC.2.2.2.2 uV_RX12_439 rfl rfl rfl (by decide +kernel) ⟨Nat.le_of_ble_eq_true rfl, Nat.le_of_ble_eq_true rfl⟩) rfl hl.1 rfl (Nat.le_of_ble_eq_true rfl) dX12_leads_92 (fun w632 H locs hp631 hw => ?_)
          obtain ⟨hT, k633, hg634⟩ := hp631
          have hF := hF.tr k633 (by decide)
          have c635 := k633.gi kM_at12 rfl c605
          clear hg634
          refine lv_iload hx hb dX12_leads_95 (lv_at hl 8 rfl) ?_
          refine lv_if_ne (tgt := 115) hx hb dX12_leads_97 (by decide) (fun c => absurd (by decide) c) (fun _ => ?_)
          refine lv_aload_n hx hb dX12_leads_100 rfl (lv_at hl 3 rfl) ?_
          refine lv_iload_n hx hb dX12_leads_101 rfl (lv_at hl 6 rfl) ?_
          refine lv_iconst (v := 1) hx hb dX12_leads_102 (by decide) ?_
          refine lv_iadd hx hb dX12_leads_103 ?_
          refine lv_topi (fun x636 ex636 => ?_)
          have ex636 : x636.toInt = a3.toInt + (1 : Int) := by rw [ex636]; exact wk_add (show (-2147483648) ≤ a3.toInt + (1 : Int) by omega) (show a3.toInt + (1 : Int) ≤ 2147483647 by omega)
          refine lv_iload hx hb dX12_leads_104 (lv_at hl 7 rfl) ?_
          refine lv_iload hx hb dX12_leads_106 (lv_at hl 0 rfl) ?_
          refine lv_iload hx hb dX12_leads_108 (lv_at hl 2 rfl) ?_
          refine lv_iconst (v := 1) hx hb dX12_leads_110 (by decide) ?_
          refine lv_iadd hx hb dX12_leads_111 ?_
          have nx637 := wk_i32 x595
          refine lv_topi (fun x638 ex638 => ?_)
          refine tk_Vv hC hK hw hT hA hE hSR kM_at0 (by decide) rfl (k_X12_could_5 l adK adV dC dI cy ad B (by omega) (by omega) qr s1   x636 (show 1 ≤ x636.toInt by omega) (show x636.toInt ≤ 121 by omega) a4 (show 0 ≤ a4.toInt from ra4) (show a4.toInt ≤ 9 from ta4) x638 w632 H.size hT ) (cwV 4 hC.2.2.2.2 uV_RX12_439 rfl rfl rfl (by decide +kernel) ⟨Nat.le_of_ble_eq_true rfl, Nat.le_of_ble_eq_true rfl⟩) rfl hl.1 rfl (Nat.le_of_ble_eq_true rfl) dX12_leads_112 (fun w641 H locs hp640 hw => ?_)
          obtain ⟨hT, k642, hg643⟩ := hp640
          have hF := hF.tr k642 (by decide)
          have c644 := k642.gi kM_at12 rfl c635
          clear hg643
          exact J115 x595 x608 1 r599 H locs ls w641 (show 0 ≤ a1.toInt from ra1) (show a1.toInt ≤ 3 from ta1) (show 0 ≤ a2.toInt from ra2) (show a2.toInt ≤ 1073741824 from ta2) (show 0 ≤ a3.toInt from ra3) (show a3.toInt ≤ 120 from ta3) (show 0 ≤ a4.toInt from ra4) (show a4.toInt ≤ 9 from ta4) (show 0 ≤ a6.toInt from ra6) (show a6.toInt ≤ 120 from ta6) (show 0 ≤ x608.toInt by omega) (show x608.toInt ≤ 1073741944 by omega) (by decide) (by decide) (show 0 ≤ r599.toInt by omega) (show r599.toInt ≤ 9 by omega)  hw hT hF c644 (lv_sub hl [3, 4, 5, 6, 7, 8, 9, 2, 1, 0] rfl)
      · have c607 : a4.toInt = r599.toInt := wk_eq.mp c607
        exact J41 x595 H locs ls w0 (show 0 ≤ a1.toInt from ra1) (show a1.toInt ≤ 3 from ta1) (show 0 ≤ a2.toInt from ra2) (show a2.toInt ≤ 1073741824 from ta2) (show 0 ≤ a3.toInt from ra3) (show a3.toInt ≤ 120 from ta3) (show 0 ≤ a4.toInt from ra4) (show a4.toInt ≤ 9 from ta4) (show 0 ≤ a6.toInt from ra6) (show a6.toInt ≤ 120 from ta6)  hw hT hF  (lv_sub hl [1, 2, 3, 4, 5, 6, 7, 0] rfl)
abbrev P_X12_placeAt_6 (ad : Nat → Nat) (cy : Nat → ClassId) (B : Int) (qr : Nat) (s1 : Int) (a1 : Int32) (a2 : Int32) (w0 : va_W) : Int32 → va_W → Prop := fun r u => w0 = u ∧ ((1 ≤ r.toInt ∧ r.toInt ≤ 2419))
set_option maxHeartbeats 4000000 in
set_option maxRecDepth 100000 in
theorem k_X12_placeAt_6 (l : Launch) (adK adV : Nat → Nat) (dC : Nat → ClassId) (dI : Nat → Nat → Nat) (cy : Nat → ClassId) (ad : Nat → Nat) (B : Int) (hB0 : 100000 ≤ B) (hB1 : B ≤ 1073741824) (qr : Nat) (s1 : Int)  (a1 : Int32) (ra1 : 0 ≤ a1.toInt) (ta1 : a1.toInt ≤ 120) (a2 : Int32) (ra2 : 0 ≤ a2.toInt) (ta2 : a2.toInt ≤ 9) (w0 : va_W) (sz : Nat) (hT : TW ksM ad cy B qr 12 w0)  : Met l yX12_placeAt (wu yX12_placeAt cX12_placeAt 4 (some .int)) ({ frames := 1, cells := 0, slots := 0, locals := 12 }) (va_Pc [.ref (ad 0), .int a1, .int a2, .int 1] (wpreS adK adV dC dI cy sz w0)) (va_Qi (P_X12_placeAt_6 ad cy B qr s1 a1 a2 w0) (fun u : va_W => wpost dC dI cy (va_A w0 sz) u) (va_A w0 sz)) 0 0 (va_A w0 sz) := by
  refine Met.ofW (cc := cX12_placeAt) (maxL := 4) (ret := (some .int)) (by decide) rfl ?_
  intro p e s m args below meth c s₁ Bk hml hv
  obtain ⟨rfl, ⟨hsz, hP, hK, hD0⟩, hE, hSR⟩ := hv
  have hx := Bk.exec
  have hb := Bk.bytes
  have hr := Bk.returns
  have hlocks := Bk.notSynchronized
  have hC : CallFix p m c cX12_placeAt 4 s _ (wu yX12_placeAt cX12_placeAt 4 (some .int)) RX12 := ⟨hx, hb, hml, findClass_of_methodNamed Bk.named, atoms_spec (ws := (wu yX12_placeAt cX12_placeAt 4 (some .int))) Bk.pre⟩
  subst hsz
  have hD := hD0.self (sz := s.heap.size)
  generalize hAe : va_A w0 s.heap.size = A at hD hE ⊢
  have hA : ∀ q : Nat, s.heap.size ≤ q → A q := fun q h => by rw [← hAe]; exact Or.inr h
  have hw : Wd dC dI A s.heap s.heap [] w0 := ⟨hP, hD, va_S.rf⟩
  have hF : FE ksM ([] : List (Nat × Nat × Nat)) w0 w0 := FE.rf
  have hl := lv_entry ([.ref (ad 0), .int a1, .int a2, .int 1]) (n := 4) (Nat.le_of_ble_eq_true rfl)
  rw [lg_entry_eq]
  generalize (lg_sl ([.ref (ad 0), .int a1, .int a2, .int 1]) ++ List.replicate (4 - (lg_sl ([.ref (ad 0), .int a1, .int a2, .int 1])).length) Slot.unset).toArray = ls at hl ⊢
  have hl : lv_has ls 4 [(0, .ref (ad 0)), (1, .int a1), (2, .int a2), (3, .int 1)] := hl
  generalize hloc : ([] : List Loc) = locs at hw ⊢
  refine lv_iload_n hx hb dX12_placeAt_0 rfl (lv_at hl 1 rfl) ?_
  refine lv_bipush (v := 10) hx hb dX12_placeAt_1 (by decide) ?_
  refine lv_imul hx hb dX12_placeAt_3 ?_
  refine lv_topi (fun x1 ex1 => ?_)
  have ex1 : x1.toInt = a1.toInt * (10 : Int) := by rw [ex1]; exact wk_mul (show (-2147483648) ≤ a1.toInt * (10 : Int) by omega) (show a1.toInt * (10 : Int) ≤ 2147483647 by omega)
  refine lv_iload_n hx hb dX12_placeAt_4 rfl (lv_at hl 2 rfl) ?_
  refine lv_iadd hx hb dX12_placeAt_5 ?_
  refine lv_topi (fun x2 ex2 => ?_)
  have ex2 : x2.toInt = x1.toInt + a2.toInt := by rw [ex2]; exact wk_add (show (-2147483648) ≤ x1.toInt + a2.toInt by omega) (show x1.toInt + a2.toInt ≤ 2147483647 by omega)
  refine lv_iconst (v := 2) hx hb dX12_placeAt_6 (by decide) ?_
  refine lv_imul hx hb dX12_placeAt_7 ?_
  refine lv_topi (fun x3 ex3 => ?_)
  have ex3 : x3.toInt = x2.toInt * (2 : Int) := by rw [ex3]; exact wk_mul (show (-2147483648) ≤ x2.toInt * (2 : Int) by omega) (show x2.toInt * (2 : Int) ≤ 2147483647 by omega)
  refine lv_iload_n hx hb dX12_placeAt_8 rfl (lv_at hl 3 rfl) ?_
  refine lv_if_eq (tgt := 16) hx hb dX12_placeAt_9 (by decide) (fun c => absurd c (by decide)) (fun _ => ?_)
  refine lv_iconst (v := 1) hx hb dX12_placeAt_12 (by decide) ?_
  refine lv_goto (tgt := 17) hx hb dX12_placeAt_13 (by decide) ?_
  refine lv_iadd hx hb dX12_placeAt_17 ?_
  refine lv_topi (fun x4 ex4 => ?_)
  have ex4 : x4.toInt = x3.toInt + (1 : Int) := by rw [ex4]; exact wk_add (show (-2147483648) ≤ x3.toInt + (1 : Int) by omega) (show x3.toInt + (1 : Int) ≤ 2147483647 by omega)
  exact tk_iret hC hr hlocks hK ⟨rfl, ⟨(show 1 ≤ x4.toInt by omega), (show x4.toInt ≤ 2419 by omega)⟩⟩ hw dX12_placeAt_18
abbrev P_X12_could_6 (ad : Nat → Nat) (cy : Nat → ClassId) (B : Int) (qr : Nat) (s1 : Int) (a1 : Int32) (a2 : Int32) (a4 : Int32) (w0 : va_W) : va_W → Prop := fun u => TW ksM ad cy B qr 12 u ∧ FE ksM [(76, 0, 2600)] w0 u ∧ ((True))
set_option maxHeartbeats 4000000 in
set_option maxRecDepth 100000 in
theorem k_X12_could_6 (l : Launch) (adK adV : Nat → Nat) (dC : Nat → ClassId) (dI : Nat → Nat → Nat) (cy : Nat → ClassId) (ad : Nat → Nat) (B : Int) (hB0 : 100000 ≤ B) (hB1 : B ≤ 1073741824) (qr : Nat) (s1 : Int)  (a1 : Int32) (ra1 : 0 ≤ a1.toInt) (ta1 : a1.toInt ≤ 120) (a2 : Int32) (ra2 : 0 ≤ a2.toInt) (ta2 : a2.toInt ≤ 9) (a4 : Int32) (w0 : va_W) (sz : Nat) (hT : TW ksM ad cy B qr 12 w0)  : Met l yX12_could (wu yX12_could cX12_could 6 none) ({ frames := 2, cells := 0, slots := 0, locals := 35 }) (va_Pc [.ref (ad 0), .int a1, .int a2, .int 1, .int a4] (wpreS adK adV dC dI cy sz w0)) (va_Qv (P_X12_could_6 ad cy B qr s1 a1 a2 a4 w0) (fun u : va_W => wpost dC dI cy (va_A w0 sz) u) (va_A w0 sz)) 0 0 (va_A w0 sz) := by
  refine Met.ofW (cc := cX12_could) (maxL := 6) (ret := none) (by decide) rfl ?_
  intro p e s m args below meth c s₁ Bk hml hv
  obtain ⟨rfl, ⟨hsz, hP, hK, hD0⟩, hE, hSR⟩ := hv
  have hx := Bk.exec
  have hb := Bk.bytes
  have hr := Bk.returns
  have hlocks := Bk.notSynchronized
  have hC : CallFix p m c cX12_could 6 s _ (wu yX12_could cX12_could 6 none) RX12 := ⟨hx, hb, hml, findClass_of_methodNamed Bk.named, atoms_spec (ws := (wu yX12_could cX12_could 6 none)) Bk.pre⟩
  subst hsz
  have hD := hD0.self (sz := s.heap.size)
  generalize hAe : va_A w0 s.heap.size = A at hD hE ⊢
  have hA : ∀ q : Nat, s.heap.size ≤ q → A q := fun q h => by rw [← hAe]; exact Or.inr h
  have hw : Wd dC dI A s.heap s.heap [] w0 := ⟨hP, hD, va_S.rf⟩
  have hF : FE ksM [(76, 0, 2600)] w0 w0 := FE.rf
  have hl := lv_entry ([.ref (ad 0), .int a1, .int a2, .int 1, .int a4]) (n := 6) (Nat.le_of_ble_eq_true rfl)
  rw [lg_entry_eq]
  generalize (lg_sl ([.ref (ad 0), .int a1, .int a2, .int 1, .int a4]) ++ List.replicate (6 - (lg_sl ([.ref (ad 0), .int a1, .int a2, .int 1, .int a4])).length) Slot.unset).toArray = ls at hl ⊢
  have hl : lv_has ls 6 [(0, .ref (ad 0)), (1, .int a1), (2, .int a2), (3, .int 1), (4, .int a4)] := hl
  generalize hloc : ([] : List Loc) = locs at hw ⊢
  have hinX12 : ∀ w ∈ u_ws RX12 TX12 42, w ∈ (wu yX12_could cX12_could 6 none) := fun _ h => List.mem_cons_of_mem _ (up_71 h)
  have J30 : ∀ (v30_5 : Int32) (H : Heap) (locs : List Loc) (ls : Array Slot) (w1 : va_W), 0 ≤ a1.toInt → a1.toInt ≤ 120 → 0 ≤ a2.toInt → a2.toInt ≤ 9 → 1 ≤ v30_5.toInt → v30_5.toInt ≤ 2419 → Wd dC dI A s.heap H locs w1 → TW ksM ad cy B qr 12 w1 → FE ksM [(76, 0, 2600)] w0 w1 → lv_has ls 6 [(0, .ref (ad 0)), (1, .int a1), (2, .int a2), (3, .int 1), (4, .int a4), (5, .int v30_5)] → W p l e ({ frames := 2, cells := 0, slots := 0, locals := 35 }) s m (List.toArray [.ref (ad 0), .int a1, .int a2, .int 1, .int a4]) below meth c H locs 0 0 (MQ below (va_Qv (P_X12_could_6 ad cy B qr s1 a1 a2 a4 w0) (fun u : va_W => wpost dC dI cy A u) A) (List.toArray [.ref (ad 0), .int a1, .int a2, .int 1, .int a4]) s 0 0 A) (F0 m 30 ls []) := by
    intro v30_5 H locs ls w1 r2 t3 r4 t5 r6 t7 hw hT hF hl
    exact tk_vret hC hr hlocks hK ⟨hT, hF, trivial⟩ hw dX12_could_30
  refine lv_aload_n hx hb dX12_could_0 rfl (lv_at hl 0 rfl) ?_
  refine lv_iload_n hx hb dX12_could_1 rfl (lv_at hl 1 rfl) ?_
  refine lv_iload_n hx hb dX12_could_2 rfl (lv_at hl 2 rfl) ?_
  refine lv_iload_n hx hb dX12_could_3 rfl (lv_at hl 3 rfl) ?_
  refine tk_Vi hC hK hw hT hA hE hSR kM_at0 (by decide) rfl (k_X12_placeAt_6 l adK adV dC dI cy ad B (by omega) (by omega) qr s1   a1 (show 0 ≤ a1.toInt from ra1) (show a1.toInt ≤ 120 from ta1) a2 (show 0 ≤ a2.toInt from ra2) (show a2.toInt ≤ 9 from ta2) w0 s.heap.size hT ) (cwV 3 hC.2.2.2.2 uV_RX12_435 rfl rfl rfl (by decide +kernel) ⟨Nat.le_of_ble_eq_true rfl, Nat.le_of_ble_eq_true rfl⟩) rfl hl.1 rfl (Nat.le_of_ble_eq_true rfl) dX12_could_4 (fun r8 w10 H locs hp9 hw => ?_)
  obtain ⟨rfl, hg14⟩ := hp9
  obtain ⟨g12, g13⟩ := hg14
  refine lv_istore (lv' := [(5, .int r8), (0, .ref (ad 0)), (1, .int a1), (2, .int a2), (3, .int 1), (4, .int a4)]) hx hb dX12_could_7 hl (by decide) rfl (fun ls hl => ?_)
  refine lv_iload hx hb dX12_could_9 (lv_at hl 5 rfl) ?_
  refine lv_aload_n hx hb dX12_could_11 rfl (lv_at hl 1 rfl) ?_
  refine tk_getA hC hK hw hT hinX12 kM_at0 (by decide) rfl 34 (by decide) (List.mem_cons_of_mem _ uw_7_7) rfl rfl dX12_could_12 ?_
  refine lv_iload hx hb dX12_could_15 (lv_at hl 0 rfl) ?_
  refine tk_iald hC hK hw hT kM_at17 rfl rfl (show 0 ≤ r8.toInt by omega) (show r8.toInt < 2600 by omega) dX12_could_17 (fun x15 c16 rx15 tx15 => ?_)
  refine lv_icmp_ge (tgt := 30) hx hb dX12_could_18 (by decide) (fun c17 => ?_) (fun c17 => ?_)
  · have c17 : x15.toInt ≤ a4.toInt := wk_le.mp c17
    exact J30 r8 H locs ls w0 (show 0 ≤ a1.toInt from ra1) (show a1.toInt ≤ 120 from ta1) (show 0 ≤ a2.toInt from ra2) (show a2.toInt ≤ 9 from ta2) (show 1 ≤ r8.toInt by omega) (show r8.toInt ≤ 2419 by omega)  hw hT hF  (lv_sub hl [1, 2, 3, 4, 5, 0] rfl)
  · have c17 : a4.toInt < x15.toInt := wk_leF c17
    refine lv_aload_n hx hb dX12_could_21 rfl (lv_at hl 1 rfl) ?_
    refine tk_getA hC hK hw hT hinX12 kM_at0 (by decide) rfl 34 (by decide) (List.mem_cons_of_mem _ uw_7_7) rfl rfl dX12_could_22 ?_
    refine lv_iload hx hb dX12_could_25 (lv_at hl 0 rfl) ?_
    refine lv_iload hx hb dX12_could_27 (lv_at hl 5 rfl) ?_
    refine tk_iast hC hK hw hT kM_at17 (by decide) rfl rfl (show 0 ≤ r8.toInt by omega) (show r8.toInt < 2600 by omega) (wk_i32 a4).1 (wk_i32 a4).2 dX12_could_29 (fun H locs w18 hw hT k20 c19 => ?_)
    have hF := hF.put kM_at17 (inE_of (a := 0) (b := 2600) (by decide) (show 0 ≤ r8.toInt.toNat by omega) (show r8.toInt.toNat ≤ 2600 by omega)) k20
    exact J30 r8 H locs ls w18 (show 0 ≤ a1.toInt from ra1) (show a1.toInt ≤ 120 from ta1) (show 0 ≤ a2.toInt from ra2) (show a2.toInt ≤ 9 from ta2) (show 1 ≤ r8.toInt by omega) (show r8.toInt ≤ 2419 by omega)  hw hT hF  (lv_sub hl [1, 2, 3, 4, 5, 0] rfl)
abbrev P_X12_leads_2 (ad : Nat → Nat) (cy : Nat → ClassId) (B : Int) (qr : Nat) (s1 : Int) (a1 : Int32) (a2 : Int32) (a3 : Int32) (a4 : Int32) (a6 : Int32) (w0 : va_W) : va_W → Prop := fun u => TW ksM ad cy B qr 12 u ∧ FE ksM [(72, 0, 12), (73, 0, 10), (76, 0, 2600)] w0 u ∧ ((True))
set_option maxHeartbeats 4000000 in
set_option maxRecDepth 100000 in
theorem k_X12_leads_2 (l : Launch) (adK adV : Nat → Nat) (dC : Nat → ClassId) (dI : Nat → Nat → Nat) (cy : Nat → ClassId) (ad : Nat → Nat) (B : Int) (hB0 : 100000 ≤ B) (hB1 : B ≤ 1073741824) (qr : Nat) (s1 : Int)  (a1 : Int32) (ra1 : 0 ≤ a1.toInt) (ta1 : a1.toInt ≤ 3) (a2 : Int32) (ra2 : 0 ≤ a2.toInt) (ta2 : a2.toInt ≤ 1073741824) (a3 : Int32) (ra3 : 0 ≤ a3.toInt) (ta3 : a3.toInt ≤ 120) (a4 : Int32) (ra4 : 0 ≤ a4.toInt) (ta4 : a4.toInt ≤ 9) (a6 : Int32) (ra6 : 0 ≤ a6.toInt) (ta6 : a6.toInt ≤ 120) (w0 : va_W) (sz : Nat) (hT : TW ksM ad cy B qr 12 w0)  : Met l yX12_leads (wu yX12_leads cX12_leads 12 none) ({ frames := 5, cells := 0, slots := 0, locals := 103 }) (va_Pc [.ref (ad 0), .int a1, .int a2, .int a3, .int a4, .int 1, .int a6] (wpreS adK adV dC dI cy sz w0)) (va_Qv (P_X12_leads_2 ad cy B qr s1 a1 a2 a3 a4 a6 w0) (fun u : va_W => wpost dC dI cy (va_A w0 sz) u) (va_A w0 sz)) 0 0 (va_A w0 sz) := by
  refine Met.ofW (cc := cX12_leads) (maxL := 12) (ret := none) (by decide) rfl ?_
  intro p e s m args below meth c s₁ Bk hml hv
  obtain ⟨rfl, ⟨hsz, hP, hK, hD0⟩, hE, hSR⟩ := hv
  have hx := Bk.exec
  have hb := Bk.bytes
  have hr := Bk.returns
  have hlocks := Bk.notSynchronized
  have hC : CallFix p m c cX12_leads 12 s _ (wu yX12_leads cX12_leads 12 none) RX12 := ⟨hx, hb, hml, findClass_of_methodNamed Bk.named, atoms_spec (ws := (wu yX12_leads cX12_leads 12 none)) Bk.pre⟩
  subst hsz
  have hD := hD0.self (sz := s.heap.size)
  generalize hAe : va_A w0 s.heap.size = A at hD hE ⊢
  have hA : ∀ q : Nat, s.heap.size ≤ q → A q := fun q h => by rw [← hAe]; exact Or.inr h
  have hw : Wd dC dI A s.heap s.heap [] w0 := ⟨hP, hD, va_S.rf⟩
  have hF : FE ksM [(72, 0, 12), (73, 0, 10), (76, 0, 2600)] w0 w0 := FE.rf
  have hl := lv_entry ([.ref (ad 0), .int a1, .int a2, .int a3, .int a4, .int 1, .int a6]) (n := 12) (Nat.le_of_ble_eq_true rfl)
  rw [lg_entry_eq]
  generalize (lg_sl ([.ref (ad 0), .int a1, .int a2, .int a3, .int a4, .int 1, .int a6]) ++ List.replicate (12 - (lg_sl ([.ref (ad 0), .int a1, .int a2, .int a3, .int a4, .int 1, .int a6])).length) Slot.unset).toArray = ls at hl ⊢
  have hl : lv_has ls 12 [(0, .ref (ad 0)), (1, .int a1), (2, .int a2), (3, .int a3), (4, .int a4), (5, .int 1), (6, .int a6)] := hl
  generalize hloc : ([] : List Loc) = locs at hw ⊢
  have hinX12 : ∀ w ∈ u_ws RX12 TX12 42, w ∈ (wu yX12_leads cX12_leads 12 none) := fun _ h => List.mem_cons_of_mem _ (up_71 h)
  have J41 : ∀ (v41_7 : Int32) (H : Heap) (locs : List Loc) (ls : Array Slot) (w1 : va_W), 0 ≤ a1.toInt → a1.toInt ≤ 3 → 0 ≤ a2.toInt → a2.toInt ≤ 1073741824 → 0 ≤ a3.toInt → a3.toInt ≤ 120 → 0 ≤ a4.toInt → a4.toInt ≤ 9 → 0 ≤ a6.toInt → a6.toInt ≤ 120 → Wd dC dI A s.heap H locs w1 → TW ksM ad cy B qr 12 w1 → FE ksM [(72, 0, 12), (73, 0, 10), (76, 0, 2600)] w0 w1 → lv_has ls 12 [(0, .ref (ad 0)), (1, .int a1), (2, .int a2), (3, .int a3), (4, .int a4), (5, .int 1), (6, .int a6), (7, .int v41_7)] → W p l e ({ frames := 5, cells := 0, slots := 0, locals := 103 }) s m (List.toArray [.ref (ad 0), .int a1, .int a2, .int a3, .int a4, .int 1, .int a6]) below meth c H locs 0 0 (MQ below (va_Qv (P_X12_leads_2 ad cy B qr s1 a1 a2 a3 a4 a6 w0) (fun u : va_W => wpost dC dI cy A u) A) (List.toArray [.ref (ad 0), .int a1, .int a2, .int a3, .int a4, .int 1, .int a6]) s 0 0 A) (F0 m 41 ls []) := by
    intro v41_7 H locs ls w1 r2 t3 r4 t5 r6 t7 r8 t9 r10 t11 hw hT hF hl
    exact tk_vret hC hr hlocks hK ⟨hT, hF, trivial⟩ hw dX12_leads_41
  have J181 : ∀ (v181_7 : Int32) (v181_8 : Int32) (v181_9 : Int32) (v181_10 : Int32) (f181_12__9_a1_toInt_217_toNat : Int32) (H : Heap) (locs : List Loc) (ls : Array Slot) (w12 : va_W), 0 ≤ a1.toInt → a1.toInt ≤ 3 → 0 ≤ a2.toInt → a2.toInt ≤ 1073741824 → 0 ≤ a3.toInt → a3.toInt ≤ 120 → 0 ≤ a4.toInt → a4.toInt ≤ 9 → 0 ≤ a6.toInt → a6.toInt ≤ 120 → 0 ≤ v181_8.toInt → v181_8.toInt ≤ 1073741944 → 0 ≤ v181_9.toInt → v181_9.toInt ≤ 1 → (-1) ≤ v181_10.toInt → v181_10.toInt ≤ 11 → 0 ≤ f181_12__9_a1_toInt_217_toNat.toInt → f181_12__9_a1_toInt_217_toNat.toInt ≤ 9 → Wd dC dI A s.heap H locs w12 → TW ksM ad cy B qr 12 w12 → FE ksM [(72, 0, 12), (73, 0, 10), (76, 0, 2600)] w0 w12 → gi w12 12 (9 * a1.toInt + 217).toNat = f181_12__9_a1_toInt_217_toNat → lv_has ls 12 [(0, .ref (ad 0)), (1, .int a1), (2, .int a2), (3, .int a3), (4, .int a4), (5, .int 1), (6, .int a6), (7, .int v181_7), (8, .int v181_8), (9, .int v181_9), (10, .int v181_10)] → W p l e ({ frames := 5, cells := 0, slots := 0, locals := 103 }) s m (List.toArray [.ref (ad 0), .int a1, .int a2, .int a3, .int a4, .int 1, .int a6]) below meth c H locs 0 0 (MQ below (va_Qv (P_X12_leads_2 ad cy B qr s1 a1 a2 a3 a4 a6 w0) (fun u : va_W => wpost dC dI cy A u) A) (List.toArray [.ref (ad 0), .int a1, .int a2, .int a3, .int a4, .int 1, .int a6]) s 0 0 A) (F0 m 181 ls []) := by
    intro v181_7 v181_8 v181_9 v181_10 f181_12__9_a1_toInt_217_toNat H locs ls w12 r13 t14 r15 t16 r17 t18 r19 t20 r21 t22 r23 t24 r25 t26 r27 t28 r29 t30 hw hT hF c31 hl
    exact tk_vret hC hr hlocks hK ⟨hT, hF, trivial⟩ hw dX12_leads_181
  have J241 : ∀ (v241_7 : Int32) (v241_8 : Int32) (v241_9 : Int32) (v241_10 : Int32) (v241_11 : Int32) (f241_12__9_a1_toInt_217_toNat : Int32) (f241_12_1 : Int32) (H : Heap) (locs : List Loc) (ls : Array Slot) (w32 : va_W), 0 ≤ a1.toInt → a1.toInt ≤ 3 → 0 ≤ a2.toInt → a2.toInt ≤ 1073741824 → 0 ≤ a3.toInt → a3.toInt ≤ 120 → 0 ≤ a4.toInt → a4.toInt ≤ 9 → 0 ≤ a6.toInt → a6.toInt ≤ 120 → 0 ≤ v241_8.toInt → v241_8.toInt ≤ 1073741944 → 0 ≤ v241_9.toInt → v241_9.toInt ≤ 1 → 0 ≤ v241_10.toInt → v241_10.toInt ≤ 11 → 0 ≤ v241_11.toInt → v241_11.toInt ≤ 129 → 0 ≤ f241_12__9_a1_toInt_217_toNat.toInt → f241_12__9_a1_toInt_217_toNat.toInt ≤ 9 → 1 ≤ f241_12_1.toInt → f241_12_1.toInt ≤ 12 → Wd dC dI A s.heap H locs w32 → TW ksM ad cy B qr 12 w32 → FE ksM [(72, 0, 12), (73, 0, 10), (76, 0, 2600)] w0 w32 → gi w32 12 (9 * a1.toInt + 217).toNat = f241_12__9_a1_toInt_217_toNat → gi w32 12 1 = f241_12_1 → lv_has ls 12 [(0, .ref (ad 0)), (1, .int a1), (2, .int a2), (3, .int a3), (4, .int a4), (5, .int 1), (6, .int a6), (7, .int v241_7), (8, .int v241_8), (9, .int v241_9), (10, .int v241_10), (11, .int v241_11)] → W p l e ({ frames := 5, cells := 0, slots := 0, locals := 103 }) s m (List.toArray [.ref (ad 0), .int a1, .int a2, .int a3, .int a4, .int 1, .int a6]) below meth c H locs 0 0 (MQ below (va_Qv (P_X12_leads_2 ad cy B qr s1 a1 a2 a3 a4 a6 w0) (fun u : va_W => wpost dC dI cy A u) A) (List.toArray [.ref (ad 0), .int a1, .int a2, .int a3, .int a4, .int 1, .int a6]) s 0 0 A) (F0 m 241 ls []) := by
    intro v241_7 v241_8 v241_9 v241_10 v241_11 f241_12__9_a1_toInt_217_toNat f241_12_1 H locs ls w32 r33 t34 r35 t36 r37 t38 r39 t40 r41 t42 r43 t44 r45 t46 r47 t48 r49 t50 r51 t52 r54 t55 hw hT hF c53 c56 hl
    exact tk_vret hC hr hlocks hK ⟨hT, hF, trivial⟩ hw dX12_leads_241
  have J145 : ∀ (v145_7 : Int32) (v145_8 : Int32) (v145_9 : Int32) (f145_12__9_a1_toInt_217_toNat : Int32) (H : Heap) (locs : List Loc) (ls : Array Slot) (w57 : va_W), 0 ≤ a1.toInt → a1.toInt ≤ 3 → 0 ≤ a2.toInt → a2.toInt ≤ 1073741824 → 0 ≤ a3.toInt → a3.toInt ≤ 120 → 0 ≤ a4.toInt → a4.toInt ≤ 9 → 0 ≤ a6.toInt → a6.toInt ≤ 120 → 0 ≤ v145_8.toInt → v145_8.toInt ≤ 1073741944 → 0 ≤ v145_9.toInt → v145_9.toInt ≤ 1 → 0 ≤ f145_12__9_a1_toInt_217_toNat.toInt → f145_12__9_a1_toInt_217_toNat.toInt ≤ 9 → Wd dC dI A s.heap H locs w57 → TW ksM ad cy B qr 12 w57 → FE ksM [(72, 0, 12), (73, 0, 10), (76, 0, 2600)] w0 w57 → gi w57 12 (9 * a1.toInt + 217).toNat = f145_12__9_a1_toInt_217_toNat → lv_has ls 12 [(0, .ref (ad 0)), (1, .int a1), (2, .int a2), (3, .int a3), (4, .int a4), (5, .int 1), (6, .int a6), (7, .int v145_7), (8, .int v145_8), (9, .int v145_9)] → W p l e ({ frames := 5, cells := 0, slots := 0, locals := 103 }) s m (List.toArray [.ref (ad 0), .int a1, .int a2, .int a3, .int a4, .int 1, .int a6]) below meth c H locs 0 0 (MQ below (va_Qv (P_X12_leads_2 ad cy B qr s1 a1 a2 a3 a4 a6 w0) (fun u : va_W => wpost dC dI cy A u) A) (List.toArray [.ref (ad 0), .int a1, .int a2, .int a3, .int a4, .int 1, .int a6]) s 0 0 A) (F0 m 145 ls []) := by
    intro v145_7 v145_8 v145_9 f145_12__9_a1_toInt_217_toNat H locs ls w57 r58 t59 r60 t61 r62 t63 r64 t65 r66 t67 r68 t69 r70 t71 r72 t73 hw hT hF c74 hl
    refine lv_aload_n hx hb dX12_leads_145 rfl (lv_at hl 0 rfl) ?_
    refine lv_aload_n hx hb dX12_leads_146 rfl (lv_at hl 0 rfl) ?_
    refine lv_iload_n hx hb dX12_leads_147 rfl (lv_at hl 1 rfl) ?_
    refine lv_iconst (v := 1) hx hb dX12_leads_148 (by decide) ?_
    refine tk_Vi hC hK hw hT hA hE hSR kM_at0 (by decide) rfl (k_X12_walkerOf_3 l adK adV dC dI cy ad B (by omega) (by omega) qr s1   a1 (show 0 ≤ a1.toInt from r58) (show a1.toInt ≤ 3 from t59) w57 H.size hT ) (cwV 2 hC.2.2.2.2 uV_RX12_372 rfl rfl rfl (by decide +kernel) ⟨Nat.le_of_ble_eq_true rfl, Nat.le_of_ble_eq_true rfl⟩) rfl hl.1 rfl (Nat.le_of_ble_eq_true rfl) dX12_leads_149 (fun r75 w77 H locs hp76 hw => ?_)
    obtain ⟨rfl, hg82⟩ := hp76
    obtain ⟨g79, g80, c81⟩ := hg82
    obtain rfl : f145_12__9_a1_toInt_217_toNat = r75 := c74.symm.trans c81
    refine tk_Vv hC hK hw hT hA hE hSR kM_at0 (by decide) rfl (k_X12_spreads_1 l adK adV dC dI cy ad B (by omega) (by omega) qr s1   f145_12__9_a1_toInt_217_toNat (show 0 ≤ f145_12__9_a1_toInt_217_toNat.toInt from r72) (show f145_12__9_a1_toInt_217_toNat.toInt ≤ 9 from t73) w57 H.size hT ) (cwV 1 hC.2.2.2.2 uV_RX12_354 rfl rfl rfl (by decide +kernel) ⟨Nat.le_of_ble_eq_true rfl, Nat.le_of_ble_eq_true rfl⟩) rfl hl.1 rfl (Nat.le_of_ble_eq_true rfl) dX12_leads_152 (fun w85 H locs hp84 hw => ?_)
    obtain ⟨hT, k86, hg87⟩ := hp84
    have hF := hF.tr k86 (by decide)
    have c88 := k86.gi kM_at12 rfl c74
    clear hg87
    refine lv_aload_n hx hb dX12_leads_155 rfl (lv_at hl 0 rfl) ?_
    refine lv_iload hx hb dX12_leads_156 (lv_at hl 4 rfl) ?_
    refine tk_Vi hC hK hw hT hA hE hSR kM_at0 (by decide) rfl (k_X12_streetFrom_1 l adK adV dC dI cy ad B (by omega) (by omega) qr s1   a4 (show 0 ≤ a4.toInt from r64) (show a4.toInt ≤ 9 from t65) w85 H.size hT ) (cwV 1 hC.2.2.2.2 uV_RX12_357 rfl rfl rfl (by decide +kernel) ⟨Nat.le_of_ble_eq_true rfl, Nat.le_of_ble_eq_true rfl⟩) rfl hl.1 rfl (Nat.le_of_ble_eq_true rfl) dX12_leads_158 (fun r89 w91 H locs hp90 hw => ?_)
    obtain ⟨rfl, hg109⟩ := hp90
    rcases hg109 with ⟨g93, g94, ⟨x95, c96, rx95, tx95⟩, c97, c98⟩ | ⟨g99, g100, ⟨x101, c102, rx101, tx101⟩, c103⟩ | ⟨g104, g105, ⟨x106, c107, rx106, tx106⟩, c108⟩ | rfl
    · refine lv_istore (lv' := [(10, .int r89), (0, .ref (ad 0)), (1, .int a1), (2, .int a2), (3, .int a3), (4, .int a4), (5, .int 1), (6, .int a6), (7, .int v145_7), (8, .int v145_8), (9, .int v145_9)]) hx hb dX12_leads_161 hl (by decide) rfl (fun ls hl => ?_)
      refine lv_iload hx hb dX12_leads_163 (lv_at hl 0 rfl) ?_
      refine lv_if_lt (tgt := 181) hx hb dX12_leads_165 (by decide) (fun c => absurd c (fun h => absurd (show r89.toInt < (0 : Int) from wk_lt.mp h) (by omega))) (fun _ => ?_)
      refine lv_aload_n hx hb dX12_leads_168 rfl (lv_at hl 1 rfl) ?_
      refine lv_iload hx hb dX12_leads_169 (lv_at hl 0 rfl) ?_
      refine lv_iload hx hb dX12_leads_171 (lv_at hl 5 rfl) ?_
      refine lv_iload hx hb dX12_leads_173 (lv_at hl 9 rfl) ?_
      refine tk_Vi hC hK hw hT hA hE hSR kM_at0 (by decide) rfl (k_X12_isOpen_3 l adK adV dC dI cy ad B (by omega) (by omega) qr s1   r89 (show 0 ≤ r89.toInt by omega) (show r89.toInt ≤ 11 by omega) a4 (show 0 ≤ a4.toInt from r64) (show a4.toInt ≤ 9 from t65) v145_8 (show 0 ≤ v145_8.toInt from r68) (show v145_8.toInt ≤ 1073741944 from t69) w85 H.size hT ) (cwV 3 hC.2.2.2.2 uV_RX12_334 rfl rfl rfl (by decide +kernel) ⟨Nat.le_of_ble_eq_true rfl, Nat.le_of_ble_eq_true rfl⟩) rfl hl.1 rfl (Nat.le_of_ble_eq_true rfl) dX12_leads_175 (fun r110 w112 H locs hp111 hw => ?_)
      obtain ⟨rfl, hg129⟩ := hp111
      rcases hg129 with ⟨rfl, hq114⟩ | ⟨rfl, c115, c116, hq117⟩ | ⟨rfl, c118, hq119⟩ | ⟨rfl, c120, hq121⟩ | ⟨rfl, c122, c123, hq124⟩ | ⟨rfl, c125, hq126⟩ | ⟨rfl, c127, hq128⟩
      · refine lv_if_ne (tgt := 182) hx hb dX12_leads_178 (by decide) (fun c => absurd (by decide) c) (fun _ => ?_)
        exact J181 v145_7 v145_8 v145_9 r89 f145_12__9_a1_toInt_217_toNat H locs ls w85 (show 0 ≤ a1.toInt from r58) (show a1.toInt ≤ 3 from t59) (show 0 ≤ a2.toInt from r60) (show a2.toInt ≤ 1073741824 from t61) (show 0 ≤ a3.toInt from r62) (show a3.toInt ≤ 120 from t63) (show 0 ≤ a4.toInt from r64) (show a4.toInt ≤ 9 from t65) (show 0 ≤ a6.toInt from r66) (show a6.toInt ≤ 120 from t67) (show 0 ≤ v145_8.toInt from r68) (show v145_8.toInt ≤ 1073741944 from t69) (show 0 ≤ v145_9.toInt from r70) (show v145_9.toInt ≤ 1 from t71) (show (-1) ≤ r89.toInt by omega) (show r89.toInt ≤ 11 by omega) (show 0 ≤ f145_12__9_a1_toInt_217_toNat.toInt from r72) (show f145_12__9_a1_toInt_217_toNat.toInt ≤ 9 from t73)  hw hT hF c88 (lv_sub hl [1, 2, 3, 4, 5, 6, 7, 8, 9, 10, 0] rfl)
      · refine lv_if_ne (tgt := 182) hx hb dX12_leads_178 (by decide) (fun c => absurd (by decide) c) (fun _ => ?_)
        exact J181 v145_7 v145_8 v145_9 r89 f145_12__9_a1_toInt_217_toNat H locs ls w85 (show 0 ≤ a1.toInt from r58) (show a1.toInt ≤ 3 from t59) (show 0 ≤ a2.toInt from r60) (show a2.toInt ≤ 1073741824 from t61) (show 0 ≤ a3.toInt from r62) (show a3.toInt ≤ 120 from t63) (show 0 ≤ a4.toInt from r64) (show a4.toInt ≤ 9 from t65) (show 0 ≤ a6.toInt from r66) (show a6.toInt ≤ 120 from t67) (show 0 ≤ v145_8.toInt from r68) (show v145_8.toInt ≤ 1073741944 from t69) (show 0 ≤ v145_9.toInt from r70) (show v145_9.toInt ≤ 1 from t71) (show (-1) ≤ r89.toInt by omega) (show r89.toInt ≤ 11 by omega) (show 0 ≤ f145_12__9_a1_toInt_217_toNat.toInt from r72) (show f145_12__9_a1_toInt_217_toNat.toInt ≤ 9 from t73)  hw hT hF c88 (lv_sub hl [1, 2, 3, 4, 5, 6, 7, 8, 9, 10, 0] rfl)
      · refine lv_if_ne (tgt := 182) hx hb dX12_leads_178 (by decide) (fun c => absurd (by decide) c) (fun _ => ?_)
        exact J181 v145_7 v145_8 v145_9 r89 f145_12__9_a1_toInt_217_toNat H locs ls w85 (show 0 ≤ a1.toInt from r58) (show a1.toInt ≤ 3 from t59) (show 0 ≤ a2.toInt from r60) (show a2.toInt ≤ 1073741824 from t61) (show 0 ≤ a3.toInt from r62) (show a3.toInt ≤ 120 from t63) (show 0 ≤ a4.toInt from r64) (show a4.toInt ≤ 9 from t65) (show 0 ≤ a6.toInt from r66) (show a6.toInt ≤ 120 from t67) (show 0 ≤ v145_8.toInt from r68) (show v145_8.toInt ≤ 1073741944 from t69) (show 0 ≤ v145_9.toInt from r70) (show v145_9.toInt ≤ 1 from t71) (show (-1) ≤ r89.toInt by omega) (show r89.toInt ≤ 11 by omega) (show 0 ≤ f145_12__9_a1_toInt_217_toNat.toInt from r72) (show f145_12__9_a1_toInt_217_toNat.toInt ≤ 9 from t73)  hw hT hF c88 (lv_sub hl [1, 2, 3, 4, 5, 6, 7, 8, 9, 10, 0] rfl)
      · refine lv_if_ne (tgt := 182) hx hb dX12_leads_178 (by decide) (fun c => absurd (by decide) c) (fun _ => ?_)
        exact J181 v145_7 v145_8 v145_9 r89 f145_12__9_a1_toInt_217_toNat H locs ls w85 (show 0 ≤ a1.toInt from r58) (show a1.toInt ≤ 3 from t59) (show 0 ≤ a2.toInt from r60) (show a2.toInt ≤ 1073741824 from t61) (show 0 ≤ a3.toInt from r62) (show a3.toInt ≤ 120 from t63) (show 0 ≤ a4.toInt from r64) (show a4.toInt ≤ 9 from t65) (show 0 ≤ a6.toInt from r66) (show a6.toInt ≤ 120 from t67) (show 0 ≤ v145_8.toInt from r68) (show v145_8.toInt ≤ 1073741944 from t69) (show 0 ≤ v145_9.toInt from r70) (show v145_9.toInt ≤ 1 from t71) (show (-1) ≤ r89.toInt by omega) (show r89.toInt ≤ 11 by omega) (show 0 ≤ f145_12__9_a1_toInt_217_toNat.toInt from r72) (show f145_12__9_a1_toInt_217_toNat.toInt ≤ 9 from t73)  hw hT hF c88 (lv_sub hl [1, 2, 3, 4, 5, 6, 7, 8, 9, 10, 0] rfl)
      · refine lv_if_ne (tgt := 182) hx hb dX12_leads_178 (by decide) (fun _ => ?_) (fun c => absurd c (by decide))
        refine lv_iload_n hx hb dX12_leads_182 rfl (lv_at hl 4 rfl) ?_
        refine lv_aload_n hx hb dX12_leads_183 rfl (lv_at hl 1 rfl) ?_
        refine lv_iload hx hb dX12_leads_184 (lv_at hl 0 rfl) ?_
        refine lv_iconst (v := 2) hx hb dX12_leads_186 (by decide) ?_
        refine tk_Vi hC hK hw hT hA hE hSR kM_at0 (by decide) rfl (k_X12_streetOf_6 l adK adV dC dI cy ad B (by omega) (by omega) qr s1   r89 (show 0 ≤ r89.toInt by omega) (show r89.toInt ≤ 11 by omega) w85 H.size hT ) (cwV 2 hC.2.2.2.2 uV_RX12_300 rfl rfl rfl (by decide +kernel) ⟨Nat.le_of_ble_eq_true rfl, Nat.le_of_ble_eq_true rfl⟩) rfl hl.1 rfl (Nat.le_of_ble_eq_true rfl) dX12_leads_187 (fun r130 w132 H locs hp131 hw => ?_)
        obtain ⟨rfl, hg137⟩ := hp131
        obtain ⟨g134, g135, c136⟩ := hg137
        refine lv_iadd hx hb dX12_leads_190 ?_
        refine lv_topi (fun x138 ex138 => ?_)
        have ex138 : x138.toInt = a3.toInt + r130.toInt := by rw [ex138]; exact wk_add (show (-2147483648) ≤ a3.toInt + r130.toInt by omega) (show a3.toInt + r130.toInt ≤ 2147483647 by omega)
        refine lv_istore (lv' := [(11, .int x138), (10, .int r89), (0, .ref (ad 0)), (1, .int a1), (2, .int a2), (3, .int a3), (4, .int a4), (5, .int 1), (6, .int a6), (7, .int v145_7), (8, .int v145_8), (9, .int v145_9)]) hx hb dX12_leads_191 hl (by decide) rfl (fun ls hl => ?_)
        refine lv_iload hx hb dX12_leads_193 (lv_at hl 0 rfl) ?_
        refine lv_iload hx hb dX12_leads_195 (lv_at hl 8 rfl) ?_
        refine lv_icmp_gt (tgt := 241) hx hb dX12_leads_197 (by decide) (fun c139 => ?_) (fun c139 => ?_)
        · have c139 : a6.toInt < x138.toInt := wk_lt.mp c139
          exact J241 v145_7 v145_8 v145_9 r89 x138 f145_12__9_a1_toInt_217_toNat x95 H locs ls w85 (show 0 ≤ a1.toInt from r58) (show a1.toInt ≤ 3 from t59) (show 0 ≤ a2.toInt from r60) (show a2.toInt ≤ 1073741824 from t61) (show 0 ≤ a3.toInt from r62) (show a3.toInt ≤ 120 from t63) (show 0 ≤ a4.toInt from r64) (show a4.toInt ≤ 9 from t65) (show 0 ≤ a6.toInt from r66) (show a6.toInt ≤ 120 from t67) (show 0 ≤ v145_8.toInt from r68) (show v145_8.toInt ≤ 1073741944 from t69) (show 0 ≤ v145_9.toInt from r70) (show v145_9.toInt ≤ 1 from t71) (show 0 ≤ r89.toInt by omega) (show r89.toInt ≤ 11 by omega) (show 0 ≤ x138.toInt by omega) (show x138.toInt ≤ 129 by omega) (show 0 ≤ f145_12__9_a1_toInt_217_toNat.toInt from r72) (show f145_12__9_a1_toInt_217_toNat.toInt ≤ 9 from t73) (show 1 ≤ x95.toInt by omega) (show x95.toInt ≤ 12 by omega)  hw hT hF c88 c96 (lv_sub hl [2, 3, 4, 5, 6, 7, 8, 9, 10, 11, 1, 0] rfl)
        · have c139 : x138.toInt ≤ a6.toInt := wk_ltF c139
          refine lv_aload_n hx hb dX12_leads_200 rfl (lv_at hl 2 rfl) ?_
          refine lv_iload hx hb dX12_leads_201 (lv_at hl 0 rfl) ?_
          refine lv_aload_n hx hb dX12_leads_203 rfl (lv_at hl 2 rfl) ?_
          refine lv_iload hx hb dX12_leads_204 (lv_at hl 1 rfl) ?_
          refine lv_iload hx hb dX12_leads_206 (lv_at hl 6 rfl) ?_
          refine tk_Vi hC hK hw hT hA hE hSR kM_at0 (by decide) rfl (k_X12_otherOf_1 l adK adV dC dI cy ad B (by omega) (by omega) qr s1   r89 (show 0 ≤ r89.toInt by omega) (show r89.toInt ≤ 11 by omega) a4 (show 0 ≤ a4.toInt from r64) (show a4.toInt ≤ 9 from t65) w85 H.size hT ) (cwV 2 hC.2.2.2.2 uV_RX12_348 rfl rfl rfl (by decide +kernel) ⟨Nat.le_of_ble_eq_true rfl, Nat.le_of_ble_eq_true rfl⟩) rfl hl.1 rfl (Nat.le_of_ble_eq_true rfl) dX12_leads_208 (fun r140 w142 H locs hp141 hw => ?_)
          obtain ⟨rfl, hg149⟩ := hp141
          rcases hg149 with ⟨g144, g145⟩ | ⟨g146, g147, c148⟩
          · refine lv_iload hx hb dX12_leads_211 (lv_at hl 7 rfl) ?_
            refine lv_if_eq (tgt := 235) hx hb dX12_leads_213 (by decide) (fun c => absurd c (by decide)) (fun _ => ?_)
            refine lv_iload_n hx hb dX12_leads_216 rfl (lv_at hl 4 rfl) ?_
            refine lv_iload hx hb dX12_leads_217 (lv_at hl 0 rfl) ?_
            refine lv_iadd hx hb dX12_leads_219 ?_
            refine lv_topi (fun x150 ex150 => ?_)
            have ex150 : x150.toInt = a2.toInt + x138.toInt := by rw [ex150]; exact wk_add (show (-2147483648) ≤ a2.toInt + x138.toInt by omega) (show a2.toInt + x138.toInt ≤ 2147483647 by omega)
            refine lv_bipush (v := 24) hx hb dX12_leads_220 (by decide) ?_
            refine lv_idiv hx hb dX12_leads_222 (by decide) ?_
            refine lv_topi (fun x151 ex151 => ?_)
            have ex151 : x151.toInt = x150.toInt / (24 : Int) := by rw [ex151]; exact wk_div (show 0 ≤ x150.toInt by omega) (show 0 < (24 : Int) by decide)
            refine lv_iload hx hb dX12_leads_223 (lv_at hl 10 rfl) ?_
            refine lv_bipush (v := 24) hx hb dX12_leads_225 (by decide) ?_
            refine lv_idiv hx hb dX12_leads_227 (by decide) ?_
            refine lv_topi (fun x152 ex152 => ?_)
            have ex152 : x152.toInt = v145_8.toInt / (24 : Int) := by rw [ex152]; exact wk_div (show 0 ≤ v145_8.toInt from r68) (show 0 < (24 : Int) by decide)
            refine lv_icmp_ne (tgt := 235) hx hb dX12_leads_228 (by decide) (fun c153 => ?_) (fun c153 => ?_)
            · have c153 : ¬ x151.toInt = x152.toInt := wk_eqF c153
              refine lv_iconst (v := 0) hx hb dX12_leads_235 (by decide) ?_
              refine lv_iload hx hb dX12_leads_236 (lv_at hl 9 rfl) ?_
              refine tk_Vv hC hK hw hT hA hE hSR kM_at0 (by decide) rfl (k_X12_could_3 l adK adV dC dI cy ad B (by omega) (by omega) qr s1   x138 (show 0 ≤ x138.toInt by omega) (show x138.toInt ≤ 120 by omega) r140 (show 0 ≤ r140.toInt by omega) (show r140.toInt ≤ 9 by omega) v145_7 w85 H.size hT ) (cwV 4 hC.2.2.2.2 uV_RX12_439 rfl rfl rfl (by decide +kernel) ⟨Nat.le_of_ble_eq_true rfl, Nat.le_of_ble_eq_true rfl⟩) rfl hl.1 rfl (Nat.le_of_ble_eq_true rfl) dX12_leads_238 (fun w156 H locs hp155 hw => ?_)
              obtain ⟨hT, k157, hg158⟩ := hp155
              have hF := hF.tr k157 (by decide)
              have c159 := k157.gi kM_at12 rfl c88
              have c160 := k157.gi kM_at12 (by decide) c96
              have c161 := k157.gi kM_at12 rfl c97
              have c162 := k157.gi kM_at12 rfl c98
              have c163 := k157.gi kM_at12 rfl c136
              clear hg158
              exact J241 v145_7 v145_8 v145_9 r89 x138 f145_12__9_a1_toInt_217_toNat x95 H locs ls w156 (show 0 ≤ a1.toInt from r58) (show a1.toInt ≤ 3 from t59) (show 0 ≤ a2.toInt from r60) (show a2.toInt ≤ 1073741824 from t61) (show 0 ≤ a3.toInt from r62) (show a3.toInt ≤ 120 from t63) (show 0 ≤ a4.toInt from r64) (show a4.toInt ≤ 9 from t65) (show 0 ≤ a6.toInt from r66) (show a6.toInt ≤ 120 from t67) (show 0 ≤ v145_8.toInt from r68) (show v145_8.toInt ≤ 1073741944 from t69) (show 0 ≤ v145_9.toInt from r70) (show v145_9.toInt ≤ 1 from t71) (show 0 ≤ r89.toInt by omega) (show r89.toInt ≤ 11 by omega) (show 0 ≤ x138.toInt by omega) (show x138.toInt ≤ 129 by omega) (show 0 ≤ f145_12__9_a1_toInt_217_toNat.toInt from r72) (show f145_12__9_a1_toInt_217_toNat.toInt ≤ 9 from t73) (show 1 ≤ x95.toInt by omega) (show x95.toInt ≤ 12 by omega)  hw hT hF c159 c160 (lv_sub hl [2, 3, 4, 5, 6, 7, 8, 9, 10, 11, 1, 0] rfl)
            · have c153 : x151.toInt = x152.toInt := wk_eq.mp c153
              refine lv_iconst (v := 1) hx hb dX12_leads_231 (by decide) ?_
              refine lv_goto (tgt := 236) hx hb dX12_leads_232 (by decide) ?_
              refine lv_iload hx hb dX12_leads_236 (lv_at hl 9 rfl) ?_
              refine tk_Vv hC hK hw hT hA hE hSR kM_at0 (by decide) rfl (k_X12_could_6 l adK adV dC dI cy ad B (by omega) (by omega) qr s1   x138 (show 0 ≤ x138.toInt by omega) (show x138.toInt ≤ 120 by omega) r140 (show 0 ≤ r140.toInt by omega) (show r140.toInt ≤ 9 by omega) v145_7 w85 H.size hT ) (cwV 4 hC.2.2.2.2 uV_RX12_439 rfl rfl rfl (by decide +kernel) ⟨Nat.le_of_ble_eq_true rfl, Nat.le_of_ble_eq_true rfl⟩) rfl hl.1 rfl (Nat.le_of_ble_eq_true rfl) dX12_leads_238 (fun w166 H locs hp165 hw => ?_)
              obtain ⟨hT, k167, hg168⟩ := hp165
              have hF := hF.tr k167 (by decide)
              have c169 := k167.gi kM_at12 rfl c88
              have c170 := k167.gi kM_at12 (by decide) c96
              have c171 := k167.gi kM_at12 rfl c97
              have c172 := k167.gi kM_at12 rfl c98
              have c173 := k167.gi kM_at12 rfl c136
              clear hg168
              exact J241 v145_7 v145_8 v145_9 r89 x138 f145_12__9_a1_toInt_217_toNat x95 H locs ls w166 (show 0 ≤ a1.toInt from r58) (show a1.toInt ≤ 3 from t59) (show 0 ≤ a2.toInt from r60) (show a2.toInt ≤ 1073741824 from t61) (show 0 ≤ a3.toInt from r62) (show a3.toInt ≤ 120 from t63) (show 0 ≤ a4.toInt from r64) (show a4.toInt ≤ 9 from t65) (show 0 ≤ a6.toInt from r66) (show a6.toInt ≤ 120 from t67) (show 0 ≤ v145_8.toInt from r68) (show v145_8.toInt ≤ 1073741944 from t69) (show 0 ≤ v145_9.toInt from r70) (show v145_9.toInt ≤ 1 from t71) (show 0 ≤ r89.toInt by omega) (show r89.toInt ≤ 11 by omega) (show 0 ≤ x138.toInt by omega) (show x138.toInt ≤ 129 by omega) (show 0 ≤ f145_12__9_a1_toInt_217_toNat.toInt from r72) (show f145_12__9_a1_toInt_217_toNat.toInt ≤ 9 from t73) (show 1 ≤ x95.toInt by omega) (show x95.toInt ≤ 12 by omega)  hw hT hF c169 c170 (lv_sub hl [2, 3, 4, 5, 6, 7, 8, 9, 10, 11, 1, 0] rfl)
          · refine lv_iload hx hb dX12_leads_211 (lv_at hl 7 rfl) ?_
            refine lv_if_eq (tgt := 235) hx hb dX12_leads_213 (by decide) (fun c => absurd c (by decide)) (fun _ => ?_)
            refine lv_iload_n hx hb dX12_leads_216 rfl (lv_at hl 4 rfl) ?_
            refine lv_iload hx hb dX12_leads_217 (lv_at hl 0 rfl) ?_
            refine lv_iadd hx hb dX12_leads_219 ?_
            refine lv_topi (fun x174 ex174 => ?_)
            have ex174 : x174.toInt = a2.toInt + x138.toInt := by rw [ex174]; exact wk_add (show (-2147483648) ≤ a2.toInt + x138.toInt by omega) (show a2.toInt + x138.toInt ≤ 2147483647 by omega)
            refine lv_bipush (v := 24) hx hb dX12_leads_220 (by decide) ?_
            refine lv_idiv hx hb dX12_leads_222 (by decide) ?_
            refine lv_topi (fun x175 ex175 => ?_)
            have ex175 : x175.toInt = x174.toInt / (24 : Int) := by rw [ex175]; exact wk_div (show 0 ≤ x174.toInt by omega) (show 0 < (24 : Int) by decide)
            refine lv_iload hx hb dX12_leads_223 (lv_at hl 10 rfl) ?_
            refine lv_bipush (v := 24) hx hb dX12_leads_225 (by decide) ?_
            refine lv_idiv hx hb dX12_leads_227 (by decide) ?_
            refine lv_topi (fun x176 ex176 => ?_)
            have ex176 : x176.toInt = v145_8.toInt / (24 : Int) := by rw [ex176]; exact wk_div (show 0 ≤ v145_8.toInt from r68) (show 0 < (24 : Int) by decide)
            refine lv_icmp_ne (tgt := 235) hx hb dX12_leads_228 (by decide) (fun c177 => ?_) (fun c177 => ?_)
            · have c177 : ¬ x175.toInt = x176.toInt := wk_eqF c177
              refine lv_iconst (v := 0) hx hb dX12_leads_235 (by decide) ?_
              refine lv_iload hx hb dX12_leads_236 (lv_at hl 9 rfl) ?_
              refine tk_Vv hC hK hw hT hA hE hSR kM_at0 (by decide) rfl (k_X12_could_3 l adK adV dC dI cy ad B (by omega) (by omega) qr s1   x138 (show 0 ≤ x138.toInt by omega) (show x138.toInt ≤ 120 by omega) r140 (show 0 ≤ r140.toInt by omega) (show r140.toInt ≤ 9 by omega) v145_7 w85 H.size hT ) (cwV 4 hC.2.2.2.2 uV_RX12_439 rfl rfl rfl (by decide +kernel) ⟨Nat.le_of_ble_eq_true rfl, Nat.le_of_ble_eq_true rfl⟩) rfl hl.1 rfl (Nat.le_of_ble_eq_true rfl) dX12_leads_238 (fun w180 H locs hp179 hw => ?_)
              obtain ⟨hT, k181, hg182⟩ := hp179
              have hF := hF.tr k181 (by decide)
              have c183 := k181.gi kM_at12 rfl c88
              have c184 := k181.gi kM_at12 (by decide) c96
              have c185 := k181.gi kM_at12 rfl c97
              have c186 := k181.gi kM_at12 rfl c98
              have c187 := k181.gi kM_at12 rfl c136
              clear hg182
              exact J241 v145_7 v145_8 v145_9 r89 x138 f145_12__9_a1_toInt_217_toNat x95 H locs ls w180 (show 0 ≤ a1.toInt from r58) (show a1.toInt ≤ 3 from t59) (show 0 ≤ a2.toInt from r60) (show a2.toInt ≤ 1073741824 from t61) (show 0 ≤ a3.toInt from r62) (show a3.toInt ≤ 120 from t63) (show 0 ≤ a4.toInt from r64) (show a4.toInt ≤ 9 from t65) (show 0 ≤ a6.toInt from r66) (show a6.toInt ≤ 120 from t67) (show 0 ≤ v145_8.toInt from r68) (show v145_8.toInt ≤ 1073741944 from t69) (show 0 ≤ v145_9.toInt from r70) (show v145_9.toInt ≤ 1 from t71) (show 0 ≤ r89.toInt by omega) (show r89.toInt ≤ 11 by omega) (show 0 ≤ x138.toInt by omega) (show x138.toInt ≤ 129 by omega) (show 0 ≤ f145_12__9_a1_toInt_217_toNat.toInt from r72) (show f145_12__9_a1_toInt_217_toNat.toInt ≤ 9 from t73) (show 1 ≤ x95.toInt by omega) (show x95.toInt ≤ 12 by omega)  hw hT hF c183 c184 (lv_sub hl [2, 3, 4, 5, 6, 7, 8, 9, 10, 11, 1, 0] rfl)
            · have c177 : x175.toInt = x176.toInt := wk_eq.mp c177
              refine lv_iconst (v := 1) hx hb dX12_leads_231 (by decide) ?_
              refine lv_goto (tgt := 236) hx hb dX12_leads_232 (by decide) ?_
              refine lv_iload hx hb dX12_leads_236 (lv_at hl 9 rfl) ?_
              refine tk_Vv hC hK hw hT hA hE hSR kM_at0 (by decide) rfl (k_X12_could_6 l adK adV dC dI cy ad B (by omega) (by omega) qr s1   x138 (show 0 ≤ x138.toInt by omega) (show x138.toInt ≤ 120 by omega) r140 (show 0 ≤ r140.toInt by omega) (show r140.toInt ≤ 9 by omega) v145_7 w85 H.size hT ) (cwV 4 hC.2.2.2.2 uV_RX12_439 rfl rfl rfl (by decide +kernel) ⟨Nat.le_of_ble_eq_true rfl, Nat.le_of_ble_eq_true rfl⟩) rfl hl.1 rfl (Nat.le_of_ble_eq_true rfl) dX12_leads_238 (fun w190 H locs hp189 hw => ?_)
              obtain ⟨hT, k191, hg192⟩ := hp189
              have hF := hF.tr k191 (by decide)
              have c193 := k191.gi kM_at12 rfl c88
              have c194 := k191.gi kM_at12 (by decide) c96
              have c195 := k191.gi kM_at12 rfl c97
              have c196 := k191.gi kM_at12 rfl c98
              have c197 := k191.gi kM_at12 rfl c136
              clear hg192
              exact J241 v145_7 v145_8 v145_9 r89 x138 f145_12__9_a1_toInt_217_toNat x95 H locs ls w190 (show 0 ≤ a1.toInt from r58) (show a1.toInt ≤ 3 from t59) (show 0 ≤ a2.toInt from r60) (show a2.toInt ≤ 1073741824 from t61) (show 0 ≤ a3.toInt from r62) (show a3.toInt ≤ 120 from t63) (show 0 ≤ a4.toInt from r64) (show a4.toInt ≤ 9 from t65) (show 0 ≤ a6.toInt from r66) (show a6.toInt ≤ 120 from t67) (show 0 ≤ v145_8.toInt from r68) (show v145_8.toInt ≤ 1073741944 from t69) (show 0 ≤ v145_9.toInt from r70) (show v145_9.toInt ≤ 1 from t71) (show 0 ≤ r89.toInt by omega) (show r89.toInt ≤ 11 by omega) (show 0 ≤ x138.toInt by omega) (show x138.toInt ≤ 129 by omega) (show 0 ≤ f145_12__9_a1_toInt_217_toNat.toInt from r72) (show f145_12__9_a1_toInt_217_toNat.toInt ≤ 9 from t73) (show 1 ≤ x95.toInt by omega) (show x95.toInt ≤ 12 by omega)  hw hT hF c193 c194 (lv_sub hl [2, 3, 4, 5, 6, 7, 8, 9, 10, 11, 1, 0] rfl)
      · refine lv_if_ne (tgt := 182) hx hb dX12_leads_178 (by decide) (fun _ => ?_) (fun c => absurd c (by decide))
        refine lv_iload_n hx hb dX12_leads_182 rfl (lv_at hl 4 rfl) ?_
        refine lv_aload_n hx hb dX12_leads_183 rfl (lv_at hl 1 rfl) ?_
        refine lv_iload hx hb dX12_leads_184 (lv_at hl 0 rfl) ?_
        refine lv_iconst (v := 2) hx hb dX12_leads_186 (by decide) ?_
        refine tk_Vi hC hK hw hT hA hE hSR kM_at0 (by decide) rfl (k_X12_streetOf_6 l adK adV dC dI cy ad B (by omega) (by omega) qr s1   r89 (show 0 ≤ r89.toInt by omega) (show r89.toInt ≤ 11 by omega) w85 H.size hT ) (cwV 2 hC.2.2.2.2 uV_RX12_300 rfl rfl rfl (by decide +kernel) ⟨Nat.le_of_ble_eq_true rfl, Nat.le_of_ble_eq_true rfl⟩) rfl hl.1 rfl (Nat.le_of_ble_eq_true rfl) dX12_leads_187 (fun r198 w200 H locs hp199 hw => ?_)
        obtain ⟨rfl, hg205⟩ := hp199
        obtain ⟨g202, g203, c204⟩ := hg205
        refine lv_iadd hx hb dX12_leads_190 ?_
        refine lv_topi (fun x206 ex206 => ?_)
        have ex206 : x206.toInt = a3.toInt + r198.toInt := by rw [ex206]; exact wk_add (show (-2147483648) ≤ a3.toInt + r198.toInt by omega) (show a3.toInt + r198.toInt ≤ 2147483647 by omega)
        refine lv_istore (lv' := [(11, .int x206), (10, .int r89), (0, .ref (ad 0)), (1, .int a1), (2, .int a2), (3, .int a3), (4, .int a4), (5, .int 1), (6, .int a6), (7, .int v145_7), (8, .int v145_8), (9, .int v145_9)]) hx hb dX12_leads_191 hl (by decide) rfl (fun ls hl => ?_)
        refine lv_iload hx hb dX12_leads_193 (lv_at hl 0 rfl) ?_
        refine lv_iload hx hb dX12_leads_195 (lv_at hl 8 rfl) ?_
        refine lv_icmp_gt (tgt := 241) hx hb dX12_leads_197 (by decide) (fun c207 => ?_) (fun c207 => ?_)
        · have c207 : a6.toInt < x206.toInt := wk_lt.mp c207
          exact J241 v145_7 v145_8 v145_9 r89 x206 f145_12__9_a1_toInt_217_toNat x95 H locs ls w85 (show 0 ≤ a1.toInt from r58) (show a1.toInt ≤ 3 from t59) (show 0 ≤ a2.toInt from r60) (show a2.toInt ≤ 1073741824 from t61) (show 0 ≤ a3.toInt from r62) (show a3.toInt ≤ 120 from t63) (show 0 ≤ a4.toInt from r64) (show a4.toInt ≤ 9 from t65) (show 0 ≤ a6.toInt from r66) (show a6.toInt ≤ 120 from t67) (show 0 ≤ v145_8.toInt from r68) (show v145_8.toInt ≤ 1073741944 from t69) (show 0 ≤ v145_9.toInt from r70) (show v145_9.toInt ≤ 1 from t71) (show 0 ≤ r89.toInt by omega) (show r89.toInt ≤ 11 by omega) (show 0 ≤ x206.toInt by omega) (show x206.toInt ≤ 129 by omega) (show 0 ≤ f145_12__9_a1_toInt_217_toNat.toInt from r72) (show f145_12__9_a1_toInt_217_toNat.toInt ≤ 9 from t73) (show 1 ≤ x95.toInt by omega) (show x95.toInt ≤ 12 by omega)  hw hT hF c88 c96 (lv_sub hl [2, 3, 4, 5, 6, 7, 8, 9, 10, 11, 1, 0] rfl)
        · have c207 : x206.toInt ≤ a6.toInt := wk_ltF c207
          refine lv_aload_n hx hb dX12_leads_200 rfl (lv_at hl 2 rfl) ?_
          refine lv_iload hx hb dX12_leads_201 (lv_at hl 0 rfl) ?_
          refine lv_aload_n hx hb dX12_leads_203 rfl (lv_at hl 2 rfl) ?_
          refine lv_iload hx hb dX12_leads_204 (lv_at hl 1 rfl) ?_
          refine lv_iload hx hb dX12_leads_206 (lv_at hl 6 rfl) ?_
          refine tk_Vi hC hK hw hT hA hE hSR kM_at0 (by decide) rfl (k_X12_otherOf_1 l adK adV dC dI cy ad B (by omega) (by omega) qr s1   r89 (show 0 ≤ r89.toInt by omega) (show r89.toInt ≤ 11 by omega) a4 (show 0 ≤ a4.toInt from r64) (show a4.toInt ≤ 9 from t65) w85 H.size hT ) (cwV 2 hC.2.2.2.2 uV_RX12_348 rfl rfl rfl (by decide +kernel) ⟨Nat.le_of_ble_eq_true rfl, Nat.le_of_ble_eq_true rfl⟩) rfl hl.1 rfl (Nat.le_of_ble_eq_true rfl) dX12_leads_208 (fun r208 w210 H locs hp209 hw => ?_)
          obtain ⟨rfl, hg217⟩ := hp209
          rcases hg217 with ⟨g212, g213⟩ | ⟨g214, g215, c216⟩
          · refine lv_iload hx hb dX12_leads_211 (lv_at hl 7 rfl) ?_
            refine lv_if_eq (tgt := 235) hx hb dX12_leads_213 (by decide) (fun c => absurd c (by decide)) (fun _ => ?_)
            refine lv_iload_n hx hb dX12_leads_216 rfl (lv_at hl 4 rfl) ?_
            refine lv_iload hx hb dX12_leads_217 (lv_at hl 0 rfl) ?_
            refine lv_iadd hx hb dX12_leads_219 ?_
            refine lv_topi (fun x218 ex218 => ?_)
            have ex218 : x218.toInt = a2.toInt + x206.toInt := by rw [ex218]; exact wk_add (show (-2147483648) ≤ a2.toInt + x206.toInt by omega) (show a2.toInt + x206.toInt ≤ 2147483647 by omega)
            refine lv_bipush (v := 24) hx hb dX12_leads_220 (by decide) ?_
            refine lv_idiv hx hb dX12_leads_222 (by decide) ?_
            refine lv_topi (fun x219 ex219 => ?_)
            have ex219 : x219.toInt = x218.toInt / (24 : Int) := by rw [ex219]; exact wk_div (show 0 ≤ x218.toInt by omega) (show 0 < (24 : Int) by decide)
            refine lv_iload hx hb dX12_leads_223 (lv_at hl 10 rfl) ?_
            refine lv_bipush (v := 24) hx hb dX12_leads_225 (by decide) ?_
            refine lv_idiv hx hb dX12_leads_227 (by decide) ?_
            refine lv_topi (fun x220 ex220 => ?_)
            have ex220 : x220.toInt = v145_8.toInt / (24 : Int) := by rw [ex220]; exact wk_div (show 0 ≤ v145_8.toInt from r68) (show 0 < (24 : Int) by decide)
            refine lv_icmp_ne (tgt := 235) hx hb dX12_leads_228 (by decide) (fun c221 => ?_) (fun c221 => ?_)
            · have c221 : ¬ x219.toInt = x220.toInt := wk_eqF c221
              refine lv_iconst (v := 0) hx hb dX12_leads_235 (by decide) ?_
              refine lv_iload hx hb dX12_leads_236 (lv_at hl 9 rfl) ?_
              refine tk_Vv hC hK hw hT hA hE hSR kM_at0 (by decide) rfl (k_X12_could_3 l adK adV dC dI cy ad B (by omega) (by omega) qr s1   x206 (show 0 ≤ x206.toInt by omega) (show x206.toInt ≤ 120 by omega) r208 (show 0 ≤ r208.toInt by omega) (show r208.toInt ≤ 9 by omega) v145_7 w85 H.size hT ) (cwV 4 hC.2.2.2.2 uV_RX12_439 rfl rfl rfl (by decide +kernel) ⟨Nat.le_of_ble_eq_true rfl, Nat.le_of_ble_eq_true rfl⟩) rfl hl.1 rfl (Nat.le_of_ble_eq_true rfl) dX12_leads_238 (fun w224 H locs hp223 hw => ?_)
              obtain ⟨hT, k225, hg226⟩ := hp223
              have hF := hF.tr k225 (by decide)
              have c227 := k225.gi kM_at12 rfl c88
              have c228 := k225.gi kM_at12 (by decide) c96
              have c229 := k225.gi kM_at12 rfl c97
              have c230 := k225.gi kM_at12 rfl c98
              have c231 := k225.gi kM_at12 rfl c204
              clear hg226
              exact J241 v145_7 v145_8 v145_9 r89 x206 f145_12__9_a1_toInt_217_toNat x95 H locs ls w224 (show 0 ≤ a1.toInt from r58) (show a1.toInt ≤ 3 from t59) (show 0 ≤ a2.toInt from r60) (show a2.toInt ≤ 1073741824 from t61) (show 0 ≤ a3.toInt from r62) (show a3.toInt ≤ 120 from t63) (show 0 ≤ a4.toInt from r64) (show a4.toInt ≤ 9 from t65) (show 0 ≤ a6.toInt from r66) (show a6.toInt ≤ 120 from t67) (show 0 ≤ v145_8.toInt from r68) (show v145_8.toInt ≤ 1073741944 from t69) (show 0 ≤ v145_9.toInt from r70) (show v145_9.toInt ≤ 1 from t71) (show 0 ≤ r89.toInt by omega) (show r89.toInt ≤ 11 by omega) (show 0 ≤ x206.toInt by omega) (show x206.toInt ≤ 129 by omega) (show 0 ≤ f145_12__9_a1_toInt_217_toNat.toInt from r72) (show f145_12__9_a1_toInt_217_toNat.toInt ≤ 9 from t73) (show 1 ≤ x95.toInt by omega) (show x95.toInt ≤ 12 by omega)  hw hT hF c227 c228 (lv_sub hl [2, 3, 4, 5, 6, 7, 8, 9, 10, 11, 1, 0] rfl)
            · have c221 : x219.toInt = x220.toInt := wk_eq.mp c221
              refine lv_iconst (v := 1) hx hb dX12_leads_231 (by decide) ?_
              refine lv_goto (tgt := 236) hx hb dX12_leads_232 (by decide) ?_
              refine lv_iload hx hb dX12_leads_236 (lv_at hl 9 rfl) ?_
              refine tk_Vv hC hK hw hT hA hE hSR kM_at0 (by decide) rfl (k_X12_could_6 l adK adV dC dI cy ad B (by omega) (by omega) qr s1   x206 (show 0 ≤ x206.toInt by omega) (show x206.toInt ≤ 120 by omega) r208 (show 0 ≤ r208.toInt by omega) (show r208.toInt ≤ 9 by omega) v145_7 w85 H.size hT ) (cwV 4 hC.2.2.2.2 uV_RX12_439 rfl rfl rfl (by decide +kernel) ⟨Nat.le_of_ble_eq_true rfl, Nat.le_of_ble_eq_true rfl⟩) rfl hl.1 rfl (Nat.le_of_ble_eq_true rfl) dX12_leads_238 (fun w234 H locs hp233 hw => ?_)
              obtain ⟨hT, k235, hg236⟩ := hp233
              have hF := hF.tr k235 (by decide)
              have c237 := k235.gi kM_at12 rfl c88
              have c238 := k235.gi kM_at12 (by decide) c96
              have c239 := k235.gi kM_at12 rfl c97
              have c240 := k235.gi kM_at12 rfl c98
              have c241 := k235.gi kM_at12 rfl c204
              clear hg236
              exact J241 v145_7 v145_8 v145_9 r89 x206 f145_12__9_a1_toInt_217_toNat x95 H locs ls w234 (show 0 ≤ a1.toInt from r58) (show a1.toInt ≤ 3 from t59) (show 0 ≤ a2.toInt from r60) (show a2.toInt ≤ 1073741824 from t61) (show 0 ≤ a3.toInt from r62) (show a3.toInt ≤ 120 from t63) (show 0 ≤ a4.toInt from r64) (show a4.toInt ≤ 9 from t65) (show 0 ≤ a6.toInt from r66) (show a6.toInt ≤ 120 from t67) (show 0 ≤ v145_8.toInt from r68) (show v145_8.toInt ≤ 1073741944 from t69) (show 0 ≤ v145_9.toInt from r70) (show v145_9.toInt ≤ 1 from t71) (show 0 ≤ r89.toInt by omega) (show r89.toInt ≤ 11 by omega) (show 0 ≤ x206.toInt by omega) (show x206.toInt ≤ 129 by omega) (show 0 ≤ f145_12__9_a1_toInt_217_toNat.toInt from r72) (show f145_12__9_a1_toInt_217_toNat.toInt ≤ 9 from t73) (show 1 ≤ x95.toInt by omega) (show x95.toInt ≤ 12 by omega)  hw hT hF c237 c238 (lv_sub hl [2, 3, 4, 5, 6, 7, 8, 9, 10, 11, 1, 0] rfl)
          · refine lv_iload hx hb dX12_leads_211 (lv_at hl 7 rfl) ?_
            refine lv_if_eq (tgt := 235) hx hb dX12_leads_213 (by decide) (fun c => absurd c (by decide)) (fun _ => ?_)
            refine lv_iload_n hx hb dX12_leads_216 rfl (lv_at hl 4 rfl) ?_
            refine lv_iload hx hb dX12_leads_217 (lv_at hl 0 rfl) ?_
            refine lv_iadd hx hb dX12_leads_219 ?_
            refine lv_topi (fun x242 ex242 => ?_)
            have ex242 : x242.toInt = a2.toInt + x206.toInt := by rw [ex242]; exact wk_add (show (-2147483648) ≤ a2.toInt + x206.toInt by omega) (show a2.toInt + x206.toInt ≤ 2147483647 by omega)
            refine lv_bipush (v := 24) hx hb dX12_leads_220 (by decide) ?_
            refine lv_idiv hx hb dX12_leads_222 (by decide) ?_
            refine lv_topi (fun x243 ex243 => ?_)
            have ex243 : x243.toInt = x242.toInt / (24 : Int) := by rw [ex243]; exact wk_div (show 0 ≤ x242.toInt by omega) (show 0 < (24 : Int) by decide)
            refine lv_iload hx hb dX12_leads_223 (lv_at hl 10 rfl) ?_
            refine lv_bipush (v := 24) hx hb dX12_leads_225 (by decide) ?_
            refine lv_idiv hx hb dX12_leads_227 (by decide) ?_
            refine lv_topi (fun x244 ex244 => ?_)
            have ex244 : x244.toInt = v145_8.toInt / (24 : Int) := by rw [ex244]; exact wk_div (show 0 ≤ v145_8.toInt from r68) (show 0 < (24 : Int) by decide)
            refine lv_icmp_ne (tgt := 235) hx hb dX12_leads_228 (by decide) (fun c245 => ?_) (fun c245 => ?_)
            · have c245 : ¬ x243.toInt = x244.toInt := wk_eqF c245
              refine lv_iconst (v := 0) hx hb dX12_leads_235 (by decide) ?_
              refine lv_iload hx hb dX12_leads_236 (lv_at hl 9 rfl) ?_
              refine tk_Vv hC hK hw hT hA hE hSR kM_at0 (by decide) rfl (k_X12_could_3 l adK adV dC dI cy ad B (by omega) (by omega) qr s1   x206 (show 0 ≤ x206.toInt by omega) (show x206.toInt ≤ 120 by omega) r208 (show 0 ≤ r208.toInt by omega) (show r208.toInt ≤ 9 by omega) v145_7 w85 H.size hT ) (cwV 4 hC.2.2.2.2 uV_RX12_439 rfl rfl rfl (by decide +kernel) ⟨Nat.le_of_ble_eq_true rfl, Nat.le_of_ble_eq_true rfl⟩) rfl hl.1 rfl (Nat.le_of_ble_eq_true rfl) dX12_leads_238 (fun w248 H locs hp247 hw => ?_)
              obtain ⟨hT, k249, hg250⟩ := hp247
              have hF := hF.tr k249 (by decide)
              have c251 := k249.gi kM_at12 rfl c88
              have c252 := k249.gi kM_at12 (by decide) c96
              have c253 := k249.gi kM_at12 rfl c97
              have c254 := k249.gi kM_at12 rfl c98
              have c255 := k249.gi kM_at12 rfl c204
              clear hg250
              exact J241 v145_7 v145_8 v145_9 r89 x206 f145_12__9_a1_toInt_217_toNat x95 H locs ls w248 (show 0 ≤ a1.toInt from r58) (show a1.toInt ≤ 3 from t59) (show 0 ≤ a2.toInt from r60) (show a2.toInt ≤ 1073741824 from t61) (show 0 ≤ a3.toInt from r62) (show a3.toInt ≤ 120 from t63) (show 0 ≤ a4.toInt from r64) (show a4.toInt ≤ 9 from t65) (show 0 ≤ a6.toInt from r66) (show a6.toInt ≤ 120 from t67) (show 0 ≤ v145_8.toInt from r68) (show v145_8.toInt ≤ 1073741944 from t69) (show 0 ≤ v145_9.toInt from r70) (show v145_9.toInt ≤ 1 from t71) (show 0 ≤ r89.toInt by omega) (show r89.toInt ≤ 11 by omega) (show 0 ≤ x206.toInt by omega) (show x206.toInt ≤ 129 by omega) (show 0 ≤ f145_12__9_a1_toInt_217_toNat.toInt from r72) (show f145_12__9_a1_toInt_217_toNat.toInt ≤ 9 from t73) (show 1 ≤ x95.toInt by omega) (show x95.toInt ≤ 12 by omega)  hw hT hF c251 c252 (lv_sub hl [2, 3, 4, 5, 6, 7, 8, 9, 10, 11, 1, 0] rfl)
            · have c245 : x243.toInt = x244.toInt := wk_eq.mp c245
              refine lv_iconst (v := 1) hx hb dX12_leads_231 (by decide) ?_
              refine lv_goto (tgt := 236) hx hb dX12_leads_232 (by decide) ?_
              refine lv_iload hx hb dX12_leads_236 (lv_at hl 9 rfl) ?_
              refine tk_Vv hC hK hw hT hA hE hSR kM_at0 (by decide) rfl (k_X12_could_6 l adK adV dC dI cy ad B (by omega) (by omega) qr s1   x206 (show 0 ≤ x206.toInt by omega) (show x206.toInt ≤ 120 by omega) r208 (show 0 ≤ r208.toInt by omega) (show r208.toInt ≤ 9 by omega) v145_7 w85 H.size hT ) (cwV 4 hC.2.2.2.2 uV_RX12_439 rfl rfl rfl (by decide +kernel) ⟨Nat.le_of_ble_eq_true rfl, Nat.le_of_ble_eq_true rfl⟩) rfl hl.1 rfl (Nat.le_of_ble_eq_true rfl) dX12_leads_238 (fun w258 H locs hp257 hw => ?_)
              obtain ⟨hT, k259, hg260⟩ := hp257
              have hF := hF.tr k259 (by decide)
              have c261 := k259.gi kM_at12 rfl c88
              have c262 := k259.gi kM_at12 (by decide) c96
              have c263 := k259.gi kM_at12 rfl c97
              have c264 := k259.gi kM_at12 rfl c98
              have c265 := k259.gi kM_at12 rfl c204
              clear hg260
              exact J241 v145_7 v145_8 v145_9 r89 x206 f145_12__9_a1_toInt_217_toNat x95 H locs ls w258 (show 0 ≤ a1.toInt from r58) (show a1.toInt ≤ 3 from t59) (show 0 ≤ a2.toInt from r60) (show a2.toInt ≤ 1073741824 from t61) (show 0 ≤ a3.toInt from r62) (show a3.toInt ≤ 120 from t63) (show 0 ≤ a4.toInt from r64) (show a4.toInt ≤ 9 from t65) (show 0 ≤ a6.toInt from r66) (show a6.toInt ≤ 120 from t67) (show 0 ≤ v145_8.toInt from r68) (show v145_8.toInt ≤ 1073741944 from t69) (show 0 ≤ v145_9.toInt from r70) (show v145_9.toInt ≤ 1 from t71) (show 0 ≤ r89.toInt by omega) (show r89.toInt ≤ 11 by omega) (show 0 ≤ x206.toInt by omega) (show x206.toInt ≤ 129 by omega) (show 0 ≤ f145_12__9_a1_toInt_217_toNat.toInt from r72) (show f145_12__9_a1_toInt_217_toNat.toInt ≤ 9 from t73) (show 1 ≤ x95.toInt by omega) (show x95.toInt ≤ 12 by omega)  hw hT hF c261 c262 (lv_sub hl [2, 3, 4, 5, 6, 7, 8, 9, 10, 11, 1, 0] rfl)
      · refine lv_if_ne (tgt := 182) hx hb dX12_leads_178 (by decide) (fun _ => ?_) (fun c => absurd c (by decide))
        refine lv_iload_n hx hb dX12_leads_182 rfl (lv_at hl 4 rfl) ?_
        refine lv_aload_n hx hb dX12_leads_183 rfl (lv_at hl 1 rfl) ?_
        refine lv_iload hx hb dX12_leads_184 (lv_at hl 0 rfl) ?_
        refine lv_iconst (v := 2) hx hb dX12_leads_186 (by decide) ?_
        refine tk_Vi hC hK hw hT hA hE hSR kM_at0 (by decide) rfl (k_X12_streetOf_6 l adK adV dC dI cy ad B (by omega) (by omega) qr s1   r89 (show 0 ≤ r89.toInt by omega) (show r89.toInt ≤ 11 by omega) w85 H.size hT ) (cwV 2 hC.2.2.2.2 uV_RX12_300 rfl rfl rfl (by decide +kernel) ⟨Nat.le_of_ble_eq_true rfl, Nat.le_of_ble_eq_true rfl⟩) rfl hl.1 rfl (Nat.le_of_ble_eq_true rfl) dX12_leads_187 (fun r266 w268 H locs hp267 hw => ?_)
        obtain ⟨rfl, hg273⟩ := hp267
        obtain ⟨g270, g271, c272⟩ := hg273
        refine lv_iadd hx hb dX12_leads_190 ?_
        refine lv_topi (fun x274 ex274 => ?_)
        have ex274 : x274.toInt = a3.toInt + r266.toInt := by rw [ex274]; exact wk_add (show (-2147483648) ≤ a3.toInt + r266.toInt by omega) (show a3.toInt + r266.toInt ≤ 2147483647 by omega)
        refine lv_istore (lv' := [(11, .int x274), (10, .int r89), (0, .ref (ad 0)), (1, .int a1), (2, .int a2), (3, .int a3), (4, .int a4), (5, .int 1), (6, .int a6), (7, .int v145_7), (8, .int v145_8), (9, .int v145_9)]) hx hb dX12_leads_191 hl (by decide) rfl (fun ls hl => ?_)
        refine lv_iload hx hb dX12_leads_193 (lv_at hl 0 rfl) ?_
        refine lv_iload hx hb dX12_leads_195 (lv_at hl 8 rfl) ?_
        refine lv_icmp_gt (tgt := 241) hx hb dX12_leads_197 (by decide) (fun c275 => ?_) (fun c275 => ?_)
        · have c275 : a6.toInt < x274.toInt := wk_lt.mp c275
          exact J241 v145_7 v145_8 v145_9 r89 x274 f145_12__9_a1_toInt_217_toNat x95 H locs ls w85 (show 0 ≤ a1.toInt from r58) (show a1.toInt ≤ 3 from t59) (show 0 ≤ a2.toInt from r60) (show a2.toInt ≤ 1073741824 from t61) (show 0 ≤ a3.toInt from r62) (show a3.toInt ≤ 120 from t63) (show 0 ≤ a4.toInt from r64) (show a4.toInt ≤ 9 from t65) (show 0 ≤ a6.toInt from r66) (show a6.toInt ≤ 120 from t67) (show 0 ≤ v145_8.toInt from r68) (show v145_8.toInt ≤ 1073741944 from t69) (show 0 ≤ v145_9.toInt from r70) (show v145_9.toInt ≤ 1 from t71) (show 0 ≤ r89.toInt by omega) (show r89.toInt ≤ 11 by omega) (show 0 ≤ x274.toInt by omega) (show x274.toInt ≤ 129 by omega) (show 0 ≤ f145_12__9_a1_toInt_217_toNat.toInt from r72) (show f145_12__9_a1_toInt_217_toNat.toInt ≤ 9 from t73) (show 1 ≤ x95.toInt by omega) (show x95.toInt ≤ 12 by omega)  hw hT hF c88 c96 (lv_sub hl [2, 3, 4, 5, 6, 7, 8, 9, 10, 11, 1, 0] rfl)
        · have c275 : x274.toInt ≤ a6.toInt := wk_ltF c275
          refine lv_aload_n hx hb dX12_leads_200 rfl (lv_at hl 2 rfl) ?_
          refine lv_iload hx hb dX12_leads_201 (lv_at hl 0 rfl) ?_
          refine lv_aload_n hx hb dX12_leads_203 rfl (lv_at hl 2 rfl) ?_
          refine lv_iload hx hb dX12_leads_204 (lv_at hl 1 rfl) ?_
          refine lv_iload hx hb dX12_leads_206 (lv_at hl 6 rfl) ?_
          refine tk_Vi hC hK hw hT hA hE hSR kM_at0 (by decide) rfl (k_X12_otherOf_1 l adK adV dC dI cy ad B (by omega) (by omega) qr s1   r89 (show 0 ≤ r89.toInt by omega) (show r89.toInt ≤ 11 by omega) a4 (show 0 ≤ a4.toInt from r64) (show a4.toInt ≤ 9 from t65) w85 H.size hT ) (cwV 2 hC.2.2.2.2 uV_RX12_348 rfl rfl rfl (by decide +kernel) ⟨Nat.le_of_ble_eq_true rfl, Nat.le_of_ble_eq_true rfl⟩) rfl hl.1 rfl (Nat.le_of_ble_eq_true rfl) dX12_leads_208 (fun r276 w278 H locs hp277 hw => ?_)
          obtain ⟨rfl, hg285⟩ := hp277
          rcases hg285 with ⟨g280, g281⟩ | ⟨g282, g283, c284⟩
          · refine lv_iload hx hb dX12_leads_211 (lv_at hl 7 rfl) ?_
            refine lv_if_eq (tgt := 235) hx hb dX12_leads_213 (by decide) (fun c => absurd c (by decide)) (fun _ => ?_)
            refine lv_iload_n hx hb dX12_leads_216 rfl (lv_at hl 4 rfl) ?_
            refine lv_iload hx hb dX12_leads_217 (lv_at hl 0 rfl) ?_
            refine lv_iadd hx hb dX12_leads_219 ?_
            refine lv_topi (fun x286 ex286 => ?_)
            have ex286 : x286.toInt = a2.toInt + x274.toInt := by rw [ex286]; exact wk_add (show (-2147483648) ≤ a2.toInt + x274.toInt by omega) (show a2.toInt + x274.toInt ≤ 2147483647 by omega)
            refine lv_bipush (v := 24) hx hb dX12_leads_220 (by decide) ?_
            refine lv_idiv hx hb dX12_leads_222 (by decide) ?_
            refine lv_topi (fun x287 ex287 => ?_)
            have ex287 : x287.toInt = x286.toInt / (24 : Int) := by rw [ex287]; exact wk_div (show 0 ≤ x286.toInt by omega) (show 0 < (24 : Int) by decide)
            refine lv_iload hx hb dX12_leads_223 (lv_at hl 10 rfl) ?_
            refine lv_bipush (v := 24) hx hb dX12_leads_225 (by decide) ?_
            refine lv_idiv hx hb dX12_leads_227 (by decide) ?_
            refine lv_topi (fun x288 ex288 => ?_)
            have ex288 : x288.toInt = v145_8.toInt / (24 : Int) := by rw [ex288]; exact wk_div (show 0 ≤ v145_8.toInt from r68) (show 0 < (24 : Int) by decide)
            refine lv_icmp_ne (tgt := 235) hx hb dX12_leads_228 (by decide) (fun c289 => ?_) (fun c289 => ?_)
            · have c289 : ¬ x287.toInt = x288.toInt := wk_eqF c289
              refine lv_iconst (v := 0) hx hb dX12_leads_235 (by decide) ?_
              refine lv_iload hx hb dX12_leads_236 (lv_at hl 9 rfl) ?_
              refine tk_Vv hC hK hw hT hA hE hSR kM_at0 (by decide) rfl (k_X12_could_3 l adK adV dC dI cy ad B (by omega) (by omega) qr s1   x274 (show 0 ≤ x274.toInt by omega) (show x274.toInt ≤ 120 by omega) r276 (show 0 ≤ r276.toInt by omega) (show r276.toInt ≤ 9 by omega) v145_7 w85 H.size hT ) (cwV 4 hC.2.2.2.2 uV_RX12_439 rfl rfl rfl (by decide +kernel) ⟨Nat.le_of_ble_eq_true rfl, Nat.le_of_ble_eq_true rfl⟩) rfl hl.1 rfl (Nat.le_of_ble_eq_true rfl) dX12_leads_238 (fun w292 H locs hp291 hw => ?_)
              obtain ⟨hT, k293, hg294⟩ := hp291
              have hF := hF.tr k293 (by decide)
              have c295 := k293.gi kM_at12 rfl c88
              have c296 := k293.gi kM_at12 (by decide) c96
              have c297 := k293.gi kM_at12 rfl c97
              have c298 := k293.gi kM_at12 rfl c98
              have c299 := k293.gi kM_at12 rfl c272
              clear hg294
              exact J241 v145_7 v145_8 v145_9 r89 x274 f145_12__9_a1_toInt_217_toNat x95 H locs ls w292 (show 0 ≤ a1.toInt from r58) (show a1.toInt ≤ 3 from t59) (show 0 ≤ a2.toInt from r60) (show a2.toInt ≤ 1073741824 from t61) (show 0 ≤ a3.toInt from r62) (show a3.toInt ≤ 120 from t63) (show 0 ≤ a4.toInt from r64) (show a4.toInt ≤ 9 from t65) (show 0 ≤ a6.toInt from r66) (show a6.toInt ≤ 120 from t67) (show 0 ≤ v145_8.toInt from r68) (show v145_8.toInt ≤ 1073741944 from t69) (show 0 ≤ v145_9.toInt from r70) (show v145_9.toInt ≤ 1 from t71) (show 0 ≤ r89.toInt by omega) (show r89.toInt ≤ 11 by omega) (show 0 ≤ x274.toInt by omega) (show x274.toInt ≤ 129 by omega) (show 0 ≤ f145_12__9_a1_toInt_217_toNat.toInt from r72) (show f145_12__9_a1_toInt_217_toNat.toInt ≤ 9 from t73) (show 1 ≤ x95.toInt by omega) (show x95.toInt ≤ 12 by omega)  hw hT hF c295 c296 (lv_sub hl [2, 3, 4, 5, 6, 7, 8, 9, 10, 11, 1, 0] rfl)
            · have c289 : x287.toInt = x288.toInt := wk_eq.mp c289
              refine lv_iconst (v := 1) hx hb dX12_leads_231 (by decide) ?_
              refine lv_goto (tgt := 236) hx hb dX12_leads_232 (by decide) ?_
              refine lv_iload hx hb dX12_leads_236 (lv_at hl 9 rfl) ?_
              refine tk_Vv hC hK hw hT hA hE hSR kM_at0 (by decide) rfl (k_X12_could_6 l adK adV dC dI cy ad B (by omega) (by omega) qr s1   x274 (show 0 ≤ x274.toInt by omega) (show x274.toInt ≤ 120 by omega) r276 (show 0 ≤ r276.toInt by omega) (show r276.toInt ≤ 9 by omega) v145_7 w85 H.size hT ) (cwV 4 hC.2.2.2.2 uV_RX12_439 rfl rfl rfl (by decide +kernel) ⟨Nat.le_of_ble_eq_true rfl, Nat.le_of_ble_eq_true rfl⟩) rfl hl.1 rfl (Nat.le_of_ble_eq_true rfl) dX12_leads_238 (fun w302 H locs hp301 hw => ?_)
              obtain ⟨hT, k303, hg304⟩ := hp301
              have hF := hF.tr k303 (by decide)
              have c305 := k303.gi kM_at12 rfl c88
              have c306 := k303.gi kM_at12 (by decide) c96
              have c307 := k303.gi kM_at12 rfl c97
              have c308 := k303.gi kM_at12 rfl c98
              have c309 := k303.gi kM_at12 rfl c272
              clear hg304
              exact J241 v145_7 v145_8 v145_9 r89 x274 f145_12__9_a1_toInt_217_toNat x95 H locs ls w302 (show 0 ≤ a1.toInt from r58) (show a1.toInt ≤ 3 from t59) (show 0 ≤ a2.toInt from r60) (show a2.toInt ≤ 1073741824 from t61) (show 0 ≤ a3.toInt from r62) (show a3.toInt ≤ 120 from t63) (show 0 ≤ a4.toInt from r64) (show a4.toInt ≤ 9 from t65) (show 0 ≤ a6.toInt from r66) (show a6.toInt ≤ 120 from t67) (show 0 ≤ v145_8.toInt from r68) (show v145_8.toInt ≤ 1073741944 from t69) (show 0 ≤ v145_9.toInt from r70) (show v145_9.toInt ≤ 1 from t71) (show 0 ≤ r89.toInt by omega) (show r89.toInt ≤ 11 by omega) (show 0 ≤ x274.toInt by omega) (show x274.toInt ≤ 129 by omega) (show 0 ≤ f145_12__9_a1_toInt_217_toNat.toInt from r72) (show f145_12__9_a1_toInt_217_toNat.toInt ≤ 9 from t73) (show 1 ≤ x95.toInt by omega) (show x95.toInt ≤ 12 by omega)  hw hT hF c305 c306 (lv_sub hl [2, 3, 4, 5, 6, 7, 8, 9, 10, 11, 1, 0] rfl)
          · refine lv_iload hx hb dX12_leads_211 (lv_at hl 7 rfl) ?_
            refine lv_if_eq (tgt := 235) hx hb dX12_leads_213 (by decide) (fun c => absurd c (by decide)) (fun _ => ?_)
            refine lv_iload_n hx hb dX12_leads_216 rfl (lv_at hl 4 rfl) ?_
            refine lv_iload hx hb dX12_leads_217 (lv_at hl 0 rfl) ?_
            refine lv_iadd hx hb dX12_leads_219 ?_
            refine lv_topi (fun x310 ex310 => ?_)
            have ex310 : x310.toInt = a2.toInt + x274.toInt := by rw [ex310]; exact wk_add (show (-2147483648) ≤ a2.toInt + x274.toInt by omega) (show a2.toInt + x274.toInt ≤ 2147483647 by omega)
            refine lv_bipush (v := 24) hx hb dX12_leads_220 (by decide) ?_
            refine lv_idiv hx hb dX12_leads_222 (by decide) ?_
            refine lv_topi (fun x311 ex311 => ?_)
            have ex311 : x311.toInt = x310.toInt / (24 : Int) := by rw [ex311]; exact wk_div (show 0 ≤ x310.toInt by omega) (show 0 < (24 : Int) by decide)
            refine lv_iload hx hb dX12_leads_223 (lv_at hl 10 rfl) ?_
            refine lv_bipush (v := 24) hx hb dX12_leads_225 (by decide) ?_
            refine lv_idiv hx hb dX12_leads_227 (by decide) ?_
            refine lv_topi (fun x312 ex312 => ?_)
            have ex312 : x312.toInt = v145_8.toInt / (24 : Int) := by rw [ex312]; exact wk_div (show 0 ≤ v145_8.toInt from r68) (show 0 < (24 : Int) by decide)
            refine lv_icmp_ne (tgt := 235) hx hb dX12_leads_228 (by decide) (fun c313 => ?_) (fun c313 => ?_)
            · have c313 : ¬ x311.toInt = x312.toInt := wk_eqF c313
              refine lv_iconst (v := 0) hx hb dX12_leads_235 (by decide) ?_
              refine lv_iload hx hb dX12_leads_236 (lv_at hl 9 rfl) ?_
              refine tk_Vv hC hK hw hT hA hE hSR kM_at0 (by decide) rfl (k_X12_could_3 l adK adV dC dI cy ad B (by omega) (by omega) qr s1   x274 (show 0 ≤ x274.toInt by omega) (show x274.toInt ≤ 120 by omega) r276 (show 0 ≤ r276.toInt by omega) (show r276.toInt ≤ 9 by omega) v145_7 w85 H.size hT ) (cwV 4 hC.2.2.2.2 uV_RX12_439 rfl rfl rfl (by decide +kernel) ⟨Nat.le_of_ble_eq_true rfl, Nat.le_of_ble_eq_true rfl⟩) rfl hl.1 rfl (Nat.le_of_ble_eq_true rfl) dX12_leads_238 (fun w316 H locs hp315 hw => ?_)
              obtain ⟨hT, k317, hg318⟩ := hp315
              have hF := hF.tr k317 (by decide)
              have c319 := k317.gi kM_at12 rfl c88
              have c320 := k317.gi kM_at12 (by decide) c96
              have c321 := k317.gi kM_at12 rfl c97
              have c322 := k317.gi kM_at12 rfl c98
              have c323 := k317.gi kM_at12 rfl c272
              clear hg318
              exact J241 v145_7 v145_8 v145_9 r89 x274 f145_12__9_a1_toInt_217_toNat x95 H locs ls w316 (show 0 ≤ a1.toInt from r58) (show a1.toInt ≤ 3 from t59) (show 0 ≤ a2.toInt from r60) (show a2.toInt ≤ 1073741824 from t61) (show 0 ≤ a3.toInt from r62) (show a3.toInt ≤ 120 from t63) (show 0 ≤ a4.toInt from r64) (show a4.toInt ≤ 9 from t65) (show 0 ≤ a6.toInt from r66) (show a6.toInt ≤ 120 from t67) (show 0 ≤ v145_8.toInt from r68) (show v145_8.toInt ≤ 1073741944 from t69) (show 0 ≤ v145_9.toInt from r70) (show v145_9.toInt ≤ 1 from t71) (show 0 ≤ r89.toInt by omega) (show r89.toInt ≤ 11 by omega) (show 0 ≤ x274.toInt by omega) (show x274.toInt ≤ 129 by omega) (show 0 ≤ f145_12__9_a1_toInt_217_toNat.toInt from r72) (show f145_12__9_a1_toInt_217_toNat.toInt ≤ 9 from t73) (show 1 ≤ x95.toInt by omega) (show x95.toInt ≤ 12 by omega)  hw hT hF c319 c320 (lv_sub hl [2, 3, 4, 5, 6, 7, 8, 9, 10, 11, 1, 0] rfl)
            · have c313 : x311.toInt = x312.toInt := wk_eq.mp c313
              refine lv_iconst (v := 1) hx hb dX12_leads_231 (by decide) ?_
              refine lv_goto (tgt := 236) hx hb dX12_leads_232 (by decide) ?_
              refine lv_iload hx hb dX12_leads_236 (lv_at hl 9 rfl) ?_
              refine tk_Vv hC hK hw hT hA hE hSR kM_at0 (by decide) rfl (k_X12_could_6 l adK adV dC dI cy ad B (by omega) (by omega) qr s1   x274 (show 0 ≤ x274.toInt by omega) (show x274.toInt ≤ 120 by omega) r276 (show 0 ≤ r276.toInt by omega) (show r276.toInt ≤ 9 by omega) v145_7 w85 H.size hT ) (cwV 4 hC.2.2.2.2 uV_RX12_439 rfl rfl rfl (by decide +kernel) ⟨Nat.le_of_ble_eq_true rfl, Nat.le_of_ble_eq_true rfl⟩) rfl hl.1 rfl (Nat.le_of_ble_eq_true rfl) dX12_leads_238 (fun w326 H locs hp325 hw => ?_)
              obtain ⟨hT, k327, hg328⟩ := hp325
              have hF := hF.tr k327 (by decide)
              have c329 := k327.gi kM_at12 rfl c88
              have c330 := k327.gi kM_at12 (by decide) c96
              have c331 := k327.gi kM_at12 rfl c97
              have c332 := k327.gi kM_at12 rfl c98
              have c333 := k327.gi kM_at12 rfl c272
              clear hg328
              exact J241 v145_7 v145_8 v145_9 r89 x274 f145_12__9_a1_toInt_217_toNat x95 H locs ls w326 (show 0 ≤ a1.toInt from r58) (show a1.toInt ≤ 3 from t59) (show 0 ≤ a2.toInt from r60) (show a2.toInt ≤ 1073741824 from t61) (show 0 ≤ a3.toInt from r62) (show a3.toInt ≤ 120 from t63) (show 0 ≤ a4.toInt from r64) (show a4.toInt ≤ 9 from t65) (show 0 ≤ a6.toInt from r66) (show a6.toInt ≤ 120 from t67) (show 0 ≤ v145_8.toInt from r68) (show v145_8.toInt ≤ 1073741944 from t69) (show 0 ≤ v145_9.toInt from r70) (show v145_9.toInt ≤ 1 from t71) (show 0 ≤ r89.toInt by omega) (show r89.toInt ≤ 11 by omega) (show 0 ≤ x274.toInt by omega) (show x274.toInt ≤ 129 by omega) (show 0 ≤ f145_12__9_a1_toInt_217_toNat.toInt from r72) (show f145_12__9_a1_toInt_217_toNat.toInt ≤ 9 from t73) (show 1 ≤ x95.toInt by omega) (show x95.toInt ≤ 12 by omega)  hw hT hF c329 c330 (lv_sub hl [2, 3, 4, 5, 6, 7, 8, 9, 10, 11, 1, 0] rfl)
    · refine lv_istore (lv' := [(10, .int r89), (0, .ref (ad 0)), (1, .int a1), (2, .int a2), (3, .int a3), (4, .int a4), (5, .int 1), (6, .int a6), (7, .int v145_7), (8, .int v145_8), (9, .int v145_9)]) hx hb dX12_leads_161 hl (by decide) rfl (fun ls hl => ?_)
      refine lv_iload hx hb dX12_leads_163 (lv_at hl 0 rfl) ?_
      refine lv_if_lt (tgt := 181) hx hb dX12_leads_165 (by decide) (fun c => absurd c (fun h => absurd (show r89.toInt < (0 : Int) from wk_lt.mp h) (by omega))) (fun _ => ?_)
      refine lv_aload_n hx hb dX12_leads_168 rfl (lv_at hl 1 rfl) ?_
      refine lv_iload hx hb dX12_leads_169 (lv_at hl 0 rfl) ?_
      refine lv_iload hx hb dX12_leads_171 (lv_at hl 5 rfl) ?_
      refine lv_iload hx hb dX12_leads_173 (lv_at hl 9 rfl) ?_
      refine tk_Vi hC hK hw hT hA hE hSR kM_at0 (by decide) rfl (k_X12_isOpen_3 l adK adV dC dI cy ad B (by omega) (by omega) qr s1   r89 (show 0 ≤ r89.toInt by omega) (show r89.toInt ≤ 11 by omega) a4 (show 0 ≤ a4.toInt from r64) (show a4.toInt ≤ 9 from t65) v145_8 (show 0 ≤ v145_8.toInt from r68) (show v145_8.toInt ≤ 1073741944 from t69) w85 H.size hT ) (cwV 3 hC.2.2.2.2 uV_RX12_334 rfl rfl rfl (by decide +kernel) ⟨Nat.le_of_ble_eq_true rfl, Nat.le_of_ble_eq_true rfl⟩) rfl hl.1 rfl (Nat.le_of_ble_eq_true rfl) dX12_leads_175 (fun r334 w336 H locs hp335 hw => ?_)
      obtain ⟨rfl, hg353⟩ := hp335
      rcases hg353 with ⟨rfl, hq338⟩ | ⟨rfl, c339, c340, hq341⟩ | ⟨rfl, c342, hq343⟩ | ⟨rfl, c344, hq345⟩ | ⟨rfl, c346, c347, hq348⟩ | ⟨rfl, c349, hq350⟩ | ⟨rfl, c351, hq352⟩
      · refine lv_if_ne (tgt := 182) hx hb dX12_leads_178 (by decide) (fun c => absurd (by decide) c) (fun _ => ?_)
        exact J181 v145_7 v145_8 v145_9 r89 f145_12__9_a1_toInt_217_toNat H locs ls w85 (show 0 ≤ a1.toInt from r58) (show a1.toInt ≤ 3 from t59) (show 0 ≤ a2.toInt from r60) (show a2.toInt ≤ 1073741824 from t61) (show 0 ≤ a3.toInt from r62) (show a3.toInt ≤ 120 from t63) (show 0 ≤ a4.toInt from r64) (show a4.toInt ≤ 9 from t65) (show 0 ≤ a6.toInt from r66) (show a6.toInt ≤ 120 from t67) (show 0 ≤ v145_8.toInt from r68) (show v145_8.toInt ≤ 1073741944 from t69) (show 0 ≤ v145_9.toInt from r70) (show v145_9.toInt ≤ 1 from t71) (show (-1) ≤ r89.toInt by omega) (show r89.toInt ≤ 11 by omega) (show 0 ≤ f145_12__9_a1_toInt_217_toNat.toInt from r72) (show f145_12__9_a1_toInt_217_toNat.toInt ≤ 9 from t73)  hw hT hF c88 (lv_sub hl [1, 2, 3, 4, 5, 6, 7, 8, 9, 10, 0] rfl)
      · refine lv_if_ne (tgt := 182) hx hb dX12_leads_178 (by decide) (fun c => absurd (by decide) c) (fun _ => ?_)
        exact J181 v145_7 v145_8 v145_9 r89 f145_12__9_a1_toInt_217_toNat H locs ls w85 (show 0 ≤ a1.toInt from r58) (show a1.toInt ≤ 3 from t59) (show 0 ≤ a2.toInt from r60) (show a2.toInt ≤ 1073741824 from t61) (show 0 ≤ a3.toInt from r62) (show a3.toInt ≤ 120 from t63) (show 0 ≤ a4.toInt from r64) (show a4.toInt ≤ 9 from t65) (show 0 ≤ a6.toInt from r66) (show a6.toInt ≤ 120 from t67) (show 0 ≤ v145_8.toInt from r68) (show v145_8.toInt ≤ 1073741944 from t69) (show 0 ≤ v145_9.toInt from r70) (show v145_9.toInt ≤ 1 from t71) (show (-1) ≤ r89.toInt by omega) (show r89.toInt ≤ 11 by omega) (show 0 ≤ f145_12__9_a1_toInt_217_toNat.toInt from r72) (show f145_12__9_a1_toInt_217_toNat.toInt ≤ 9 from t73)  hw hT hF c88 (lv_sub hl [1, 2, 3, 4, 5, 6, 7, 8, 9, 10, 0] rfl)
      · refine lv_if_ne (tgt := 182) hx hb dX12_leads_178 (by decide) (fun c => absurd (by decide) c) (fun _ => ?_)
        exact J181 v145_7 v145_8 v145_9 r89 f145_12__9_a1_toInt_217_toNat H locs ls w85 (show 0 ≤ a1.toInt from r58) (show a1.toInt ≤ 3 from t59) (show 0 ≤ a2.toInt from r60) (show a2.toInt ≤ 1073741824 from t61) (show 0 ≤ a3.toInt from r62) (show a3.toInt ≤ 120 from t63) (show 0 ≤ a4.toInt from r64) (show a4.toInt ≤ 9 from t65) (show 0 ≤ a6.toInt from r66) (show a6.toInt ≤ 120 from t67) (show 0 ≤ v145_8.toInt from r68) (show v145_8.toInt ≤ 1073741944 from t69) (show 0 ≤ v145_9.toInt from r70) (show v145_9.toInt ≤ 1 from t71) (show (-1) ≤ r89.toInt by omega) (show r89.toInt ≤ 11 by omega) (show 0 ≤ f145_12__9_a1_toInt_217_toNat.toInt from r72) (show f145_12__9_a1_toInt_217_toNat.toInt ≤ 9 from t73)  hw hT hF c88 (lv_sub hl [1, 2, 3, 4, 5, 6, 7, 8, 9, 10, 0] rfl)
      · refine lv_if_ne (tgt := 182) hx hb dX12_leads_178 (by decide) (fun c => absurd (by decide) c) (fun _ => ?_)
        exact J181 v145_7 v145_8 v145_9 r89 f145_12__9_a1_toInt_217_toNat H locs ls w85 (show 0 ≤ a1.toInt from r58) (show a1.toInt ≤ 3 from t59) (show 0 ≤ a2.toInt from r60) (show a2.toInt ≤ 1073741824 from t61) (show 0 ≤ a3.toInt from r62) (show a3.toInt ≤ 120 from t63) (show 0 ≤ a4.toInt from r64) (show a4.toInt ≤ 9 from t65) (show 0 ≤ a6.toInt from r66) (show a6.toInt ≤ 120 from t67) (show 0 ≤ v145_8.toInt from r68) (show v145_8.toInt ≤ 1073741944 from t69) (show 0 ≤ v145_9.toInt from r70) (show v145_9.toInt ≤ 1 from t71) (show (-1) ≤ r89.toInt by omega) (show r89.toInt ≤ 11 by omega) (show 0 ≤ f145_12__9_a1_toInt_217_toNat.toInt from r72) (show f145_12__9_a1_toInt_217_toNat.toInt ≤ 9 from t73)  hw hT hF c88 (lv_sub hl [1, 2, 3, 4, 5, 6, 7, 8, 9, 10, 0] rfl)
      · refine lv_if_ne (tgt := 182) hx hb dX12_leads_178 (by decide) (fun _ => ?_) (fun c => absurd c (by decide))
        refine lv_iload_n hx hb dX12_leads_182 rfl (lv_at hl 4 rfl) ?_
        refine lv_aload_n hx hb dX12_leads_183 rfl (lv_at hl 1 rfl) ?_
        refine lv_iload hx hb dX12_leads_184 (lv_at hl 0 rfl) ?_
        refine lv_iconst (v := 2) hx hb dX12_leads_186 (by decide) ?_
        refine tk_Vi hC hK hw hT hA hE hSR kM_at0 (by decide) rfl (k_X12_streetOf_6 l adK adV dC dI cy ad B (by omega) (by omega) qr s1   r89 (show 0 ≤ r89.toInt by omega) (show r89.toInt ≤ 11 by omega) w85 H.size hT ) (cwV 2 hC.2.2.2.2 uV_RX12_300 rfl rfl rfl (by decide +kernel) ⟨Nat.le_of_ble_eq_true rfl, Nat.le_of_ble_eq_true rfl⟩) rfl hl.1 rfl (Nat.le_of_ble_eq_true rfl) dX12_leads_187 (fun r354 w356 H locs hp355 hw => ?_)
        obtain ⟨rfl, hg361⟩ := hp355
        obtain ⟨g358, g359, c360⟩ := hg361
        refine lv_iadd hx hb dX12_leads_190 ?_
        refine lv_topi (fun x362 ex362 => ?_)
        have ex362 : x362.toInt = a3.toInt + r354.toInt := by rw [ex362]; exact wk_add (show (-2147483648) ≤ a3.toInt + r354.toInt by omega) (show a3.toInt + r354.toInt ≤ 2147483647 by omega)
        refine lv_istore (lv' := [(11, .int x362), (10, .int r89), (0, .ref (ad 0)), (1, .int a1), (2, .int a2), (3, .int a3), (4, .int a4), (5, .int 1), (6, .int a6), (7, .int v145_7), (8, .int v145_8), (9, .int v145_9)]) hx hb dX12_leads_191 hl (by decide) rfl (fun ls hl => ?_)
        refine lv_iload hx hb dX12_leads_193 (lv_at hl 0 rfl) ?_
        refine lv_iload hx hb dX12_leads_195 (lv_at hl 8 rfl) ?_
        refine lv_icmp_gt (tgt := 241) hx hb dX12_leads_197 (by decide) (fun c363 => ?_) (fun c363 => ?_)
        · have c363 : a6.toInt < x362.toInt := wk_lt.mp c363
          exact J241 v145_7 v145_8 v145_9 r89 x362 f145_12__9_a1_toInt_217_toNat x101 H locs ls w85 (show 0 ≤ a1.toInt from r58) (show a1.toInt ≤ 3 from t59) (show 0 ≤ a2.toInt from r60) (show a2.toInt ≤ 1073741824 from t61) (show 0 ≤ a3.toInt from r62) (show a3.toInt ≤ 120 from t63) (show 0 ≤ a4.toInt from r64) (show a4.toInt ≤ 9 from t65) (show 0 ≤ a6.toInt from r66) (show a6.toInt ≤ 120 from t67) (show 0 ≤ v145_8.toInt from r68) (show v145_8.toInt ≤ 1073741944 from t69) (show 0 ≤ v145_9.toInt from r70) (show v145_9.toInt ≤ 1 from t71) (show 0 ≤ r89.toInt by omega) (show r89.toInt ≤ 11 by omega) (show 0 ≤ x362.toInt by omega) (show x362.toInt ≤ 129 by omega) (show 0 ≤ f145_12__9_a1_toInt_217_toNat.toInt from r72) (show f145_12__9_a1_toInt_217_toNat.toInt ≤ 9 from t73) (show 1 ≤ x101.toInt by omega) (show x101.toInt ≤ 12 by omega)  hw hT hF c88 c102 (lv_sub hl [2, 3, 4, 5, 6, 7, 8, 9, 10, 11, 1, 0] rfl)
        · have c363 : x362.toInt ≤ a6.toInt := wk_ltF c363
          refine lv_aload_n hx hb dX12_leads_200 rfl (lv_at hl 2 rfl) ?_
          refine lv_iload hx hb dX12_leads_201 (lv_at hl 0 rfl) ?_
          refine lv_aload_n hx hb dX12_leads_203 rfl (lv_at hl 2 rfl) ?_
          refine lv_iload hx hb dX12_leads_204 (lv_at hl 1 rfl) ?_
          refine lv_iload hx hb dX12_leads_206 (lv_at hl 6 rfl) ?_
          refine tk_Vi hC hK hw hT hA hE hSR kM_at0 (by decide) rfl (k_X12_otherOf_1 l adK adV dC dI cy ad B (by omega) (by omega) qr s1   r89 (show 0 ≤ r89.toInt by omega) (show r89.toInt ≤ 11 by omega) a4 (show 0 ≤ a4.toInt from r64) (show a4.toInt ≤ 9 from t65) w85 H.size hT ) (cwV 2 hC.2.2.2.2 uV_RX12_348 rfl rfl rfl (by decide +kernel) ⟨Nat.le_of_ble_eq_true rfl, Nat.le_of_ble_eq_true rfl⟩) rfl hl.1 rfl (Nat.le_of_ble_eq_true rfl) dX12_leads_208 (fun r364 w366 H locs hp365 hw => ?_)
          obtain ⟨rfl, hg373⟩ := hp365
          rcases hg373 with ⟨g368, g369⟩ | ⟨g370, g371, c372⟩
          · refine lv_iload hx hb dX12_leads_211 (lv_at hl 7 rfl) ?_
            refine lv_if_eq (tgt := 235) hx hb dX12_leads_213 (by decide) (fun c => absurd c (by decide)) (fun _ => ?_)
            refine lv_iload_n hx hb dX12_leads_216 rfl (lv_at hl 4 rfl) ?_
            refine lv_iload hx hb dX12_leads_217 (lv_at hl 0 rfl) ?_
            refine lv_iadd hx hb dX12_leads_219 ?_
            refine lv_topi (fun x374 ex374 => ?_)
            have ex374 : x374.toInt = a2.toInt + x362.toInt := by rw [ex374]; exact wk_add (show (-2147483648) ≤ a2.toInt + x362.toInt by omega) (show a2.toInt + x362.toInt ≤ 2147483647 by omega)
            refine lv_bipush (v := 24) hx hb dX12_leads_220 (by decide) ?_
            refine lv_idiv hx hb dX12_leads_222 (by decide) ?_
            refine lv_topi (fun x375 ex375 => ?_)
            have ex375 : x375.toInt = x374.toInt / (24 : Int) := by rw [ex375]; exact wk_div (show 0 ≤ x374.toInt by omega) (show 0 < (24 : Int) by decide)
            refine lv_iload hx hb dX12_leads_223 (lv_at hl 10 rfl) ?_
            refine lv_bipush (v := 24) hx hb dX12_leads_225 (by decide) ?_
            refine lv_idiv hx hb dX12_leads_227 (by decide) ?_
            refine lv_topi (fun x376 ex376 => ?_)
            have ex376 : x376.toInt = v145_8.toInt / (24 : Int) := by rw [ex376]; exact wk_div (show 0 ≤ v145_8.toInt from r68) (show 0 < (24 : Int) by decide)
            refine lv_icmp_ne (tgt := 235) hx hb dX12_leads_228 (by decide) (fun c377 => ?_) (fun c377 => ?_)
            · have c377 : ¬ x375.toInt = x376.toInt := wk_eqF c377
              refine lv_iconst (v := 0) hx hb dX12_leads_235 (by decide) ?_
              refine lv_iload hx hb dX12_leads_236 (lv_at hl 9 rfl) ?_
              refine tk_Vv hC hK hw hT hA hE hSR kM_at0 (by decide) rfl (k_X12_could_3 l adK adV dC dI cy ad B (by omega) (by omega) qr s1   x362 (show 0 ≤ x362.toInt by omega) (show x362.toInt ≤ 120 by omega) r364 (show 0 ≤ r364.toInt by omega) (show r364.toInt ≤ 9 by omega) v145_7 w85 H.size hT ) (cwV 4 hC.2.2.2.2 uV_RX12_439 rfl rfl rfl (by decide +kernel) ⟨Nat.le_of_ble_eq_true rfl, Nat.le_of_ble_eq_true rfl⟩) rfl hl.1 rfl (Nat.le_of_ble_eq_true rfl) dX12_leads_238 (fun w380 H locs hp379 hw => ?_)
              obtain ⟨hT, k381, hg382⟩ := hp379
              have hF := hF.tr k381 (by decide)
              have c383 := k381.gi kM_at12 rfl c88
              have c384 := k381.gi kM_at12 (by decide) c102
              have c385 := k381.gi kM_at12 rfl c103
              have c386 := k381.gi kM_at12 rfl c347
              have c387 := k381.gi kM_at12 rfl c360
              clear hg382
              exact J241 v145_7 v145_8 v145_9 r89 x362 f145_12__9_a1_toInt_217_toNat x101 H locs ls w380 (show 0 ≤ a1.toInt from r58) (show a1.toInt ≤ 3 from t59) (show 0 ≤ a2.toInt from r60) (show a2.toInt ≤ 1073741824 from t61) (show 0 ≤ a3.toInt from r62) (show a3.toInt ≤ 120 from t63) (show 0 ≤ a4.toInt from r64) (show a4.toInt ≤ 9 from t65) (show 0 ≤ a6.toInt from r66) (show a6.toInt ≤ 120 from t67) (show 0 ≤ v145_8.toInt from r68) (show v145_8.toInt ≤ 1073741944 from t69) (show 0 ≤ v145_9.toInt from r70) (show v145_9.toInt ≤ 1 from t71) (show 0 ≤ r89.toInt by omega) (show r89.toInt ≤ 11 by omega) (show 0 ≤ x362.toInt by omega) (show x362.toInt ≤ 129 by omega) (show 0 ≤ f145_12__9_a1_toInt_217_toNat.toInt from r72) (show f145_12__9_a1_toInt_217_toNat.toInt ≤ 9 from t73) (show 1 ≤ x101.toInt by omega) (show x101.toInt ≤ 12 by omega)  hw hT hF c383 c384 (lv_sub hl [2, 3, 4, 5, 6, 7, 8, 9, 10, 11, 1, 0] rfl)
            · have c377 : x375.toInt = x376.toInt := wk_eq.mp c377
              refine lv_iconst (v := 1) hx hb dX12_leads_231 (by decide) ?_
              refine lv_goto (tgt := 236) hx hb dX12_leads_232 (by decide) ?_
              refine lv_iload hx hb dX12_leads_236 (lv_at hl 9 rfl) ?_
              refine tk_Vv hC hK hw hT hA hE hSR kM_at0 (by decide) rfl (k_X12_could_6 l adK adV dC dI cy ad B (by omega) (by omega) qr s1   x362 (show 0 ≤ x362.toInt by omega) (show x362.toInt ≤ 120 by omega) r364 (show 0 ≤ r364.toInt by omega) (show r364.toInt ≤ 9 by omega) v145_7 w85 H.size hT ) (cwV 4 hC.2.2.2.2 uV_RX12_439 rfl rfl rfl (by decide +kernel) ⟨Nat.le_of_ble_eq_true rfl, Nat.le_of_ble_eq_true rfl⟩) rfl hl.1 rfl (Nat.le_of_ble_eq_true rfl) dX12_leads_238 (fun w390 H locs hp389 hw => ?_)
              obtain ⟨hT, k391, hg392⟩ := hp389
              have hF := hF.tr k391 (by decide)
              have c393 := k391.gi kM_at12 rfl c88
              have c394 := k391.gi kM_at12 (by decide) c102
              have c395 := k391.gi kM_at12 rfl c103
              have c396 := k391.gi kM_at12 rfl c347
              have c397 := k391.gi kM_at12 rfl c360
              clear hg392
              exact J241 v145_7 v145_8 v145_9 r89 x362 f145_12__9_a1_toInt_217_toNat x101 H locs ls w390 (show 0 ≤ a1.toInt from r58) (show a1.toInt ≤ 3 from t59) (show 0 ≤ a2.toInt from r60) (show a2.toInt ≤ 1073741824 from t61) (show 0 ≤ a3.toInt from r62) (show a3.toInt ≤ 120 from t63) (show 0 ≤ a4.toInt from r64) (show a4.toInt ≤ 9 from t65) (show 0 ≤ a6.toInt from r66) (show a6.toInt ≤ 120 from t67) (show 0 ≤ v145_8.toInt from r68) (show v145_8.toInt ≤ 1073741944 from t69) (show 0 ≤ v145_9.toInt from r70) (show v145_9.toInt ≤ 1 from t71) (show 0 ≤ r89.toInt by omega) (show r89.toInt ≤ 11 by omega) (show 0 ≤ x362.toInt by omega) (show x362.toInt ≤ 129 by omega) (show 0 ≤ f145_12__9_a1_toInt_217_toNat.toInt from r72) (show f145_12__9_a1_toInt_217_toNat.toInt ≤ 9 from t73) (show 1 ≤ x101.toInt by omega) (show x101.toInt ≤ 12 by omega)  hw hT hF c393 c394 (lv_sub hl [2, 3, 4, 5, 6, 7, 8, 9, 10, 11, 1, 0] rfl)
          · refine lv_iload hx hb dX12_leads_211 (lv_at hl 7 rfl) ?_
            refine lv_if_eq (tgt := 235) hx hb dX12_leads_213 (by decide) (fun c => absurd c (by decide)) (fun _ => ?_)
            refine lv_iload_n hx hb dX12_leads_216 rfl (lv_at hl 4 rfl) ?_
            refine lv_iload hx hb dX12_leads_217 (lv_at hl 0 rfl) ?_
            refine lv_iadd hx hb dX12_leads_219 ?_
            refine lv_topi (fun x398 ex398 => ?_)
            have ex398 : x398.toInt = a2.toInt + x362.toInt := by rw [ex398]; exact wk_add (show (-2147483648) ≤ a2.toInt + x362.toInt by omega) (show a2.toInt + x362.toInt ≤ 2147483647 by omega)
            refine lv_bipush (v := 24) hx hb dX12_leads_220 (by decide) ?_
            refine lv_idiv hx hb dX12_leads_222 (by decide) ?_
            refine lv_topi (fun x399 ex399 => ?_)
            have ex399 : x399.toInt = x398.toInt / (24 : Int) := by rw [ex399]; exact wk_div (show 0 ≤ x398.toInt by omega) (show 0 < (24 : Int) by decide)
            refine lv_iload hx hb dX12_leads_223 (lv_at hl 10 rfl) ?_
            refine lv_bipush (v := 24) hx hb dX12_leads_225 (by decide) ?_
            refine lv_idiv hx hb dX12_leads_227 (by decide) ?_
            refine lv_topi (fun x400 ex400 => ?_)
            have ex400 : x400.toInt = v145_8.toInt / (24 : Int) := by rw [ex400]; exact wk_div (show 0 ≤ v145_8.toInt from r68) (show 0 < (24 : Int) by decide)
            refine lv_icmp_ne (tgt := 235) hx hb dX12_leads_228 (by decide) (fun c401 => ?_) (fun c401 => ?_)
            · have c401 : ¬ x399.toInt = x400.toInt := wk_eqF c401
              refine lv_iconst (v := 0) hx hb dX12_leads_235 (by decide) ?_
              refine lv_iload hx hb dX12_leads_236 (lv_at hl 9 rfl) ?_
              refine tk_Vv hC hK hw hT hA hE hSR kM_at0 (by decide) rfl (k_X12_could_3 l adK adV dC dI cy ad B (by omega) (by omega) qr s1   x362 (show 0 ≤ x362.toInt by omega) (show x362.toInt ≤ 120 by omega) r364 (show 0 ≤ r364.toInt by omega) (show r364.toInt ≤ 9 by omega) v145_7 w85 H.size hT ) (cwV 4 hC.2.2.2.2 uV_RX12_439 rfl rfl rfl (by decide +kernel) ⟨Nat.le_of_ble_eq_true rfl, Nat.le_of_ble_eq_true rfl⟩) rfl hl.1 rfl (Nat.le_of_ble_eq_true rfl) dX12_leads_238 (fun w404 H locs hp403 hw => ?_)
              obtain ⟨hT, k405, hg406⟩ := hp403
              have hF := hF.tr k405 (by decide)
              have c407 := k405.gi kM_at12 rfl c88
              have c408 := k405.gi kM_at12 (by decide) c102
              have c409 := k405.gi kM_at12 rfl c103
              have c410 := k405.gi kM_at12 rfl c347
              have c411 := k405.gi kM_at12 rfl c360
              clear hg406
              exact J241 v145_7 v145_8 v145_9 r89 x362 f145_12__9_a1_toInt_217_toNat x101 H locs ls w404 (show 0 ≤ a1.toInt from r58) (show a1.toInt ≤ 3 from t59) (show 0 ≤ a2.toInt from r60) (show a2.toInt ≤ 1073741824 from t61) (show 0 ≤ a3.toInt from r62) (show a3.toInt ≤ 120 from t63) (show 0 ≤ a4.toInt from r64) (show a4.toInt ≤ 9 from t65) (show 0 ≤ a6.toInt from r66) (show a6.toInt ≤ 120 from t67) (show 0 ≤ v145_8.toInt from r68) (show v145_8.toInt ≤ 1073741944 from t69) (show 0 ≤ v145_9.toInt from r70) (show v145_9.toInt ≤ 1 from t71) (show 0 ≤ r89.toInt by omega) (show r89.toInt ≤ 11 by omega) (show 0 ≤ x362.toInt by omega) (show x362.toInt ≤ 129 by omega) (show 0 ≤ f145_12__9_a1_toInt_217_toNat.toInt from r72) (show f145_12__9_a1_toInt_217_toNat.toInt ≤ 9 from t73) (show 1 ≤ x101.toInt by omega) (show x101.toInt ≤ 12 by omega)  hw hT hF c407 c408 (lv_sub hl [2, 3, 4, 5, 6, 7, 8, 9, 10, 11, 1, 0] rfl)
            · have c401 : x399.toInt = x400.toInt := wk_eq.mp c401
              refine lv_iconst (v := 1) hx hb dX12_leads_231 (by decide) ?_
              refine lv_goto (tgt := 236) hx hb dX12_leads_232 (by decide) ?_
              refine lv_iload hx hb dX12_leads_236 (lv_at hl 9 rfl) ?_
              refine tk_Vv hC hK hw hT hA hE hSR kM_at0 (by decide) rfl (k_X12_could_6 l adK adV dC dI cy ad B (by omega) (by omega) qr s1   x362 (show 0 ≤ x362.toInt by omega) (show x362.toInt ≤ 120 by omega) r364 (show 0 ≤ r364.toInt by omega) (show r364.toInt ≤ 9 by omega) v145_7 w85 H.size hT ) (cwV 4 hC.2.2.2.2 uV_RX12_439 rfl rfl rfl (by decide +kernel) ⟨Nat.le_of_ble_eq_true rfl, Nat.le_of_ble_eq_true rfl⟩) rfl hl.1 rfl (Nat.le_of_ble_eq_true rfl) dX12_leads_238 (fun w414 H locs hp413 hw => ?_)
              obtain ⟨hT, k415, hg416⟩ := hp413
              have hF := hF.tr k415 (by decide)
              have c417 := k415.gi kM_at12 rfl c88
              have c418 := k415.gi kM_at12 (by decide) c102
              have c419 := k415.gi kM_at12 rfl c103
              have c420 := k415.gi kM_at12 rfl c347
              have c421 := k415.gi kM_at12 rfl c360
              clear hg416
              exact J241 v145_7 v145_8 v145_9 r89 x362 f145_12__9_a1_toInt_217_toNat x101 H locs ls w414 (show 0 ≤ a1.toInt from r58) (show a1.toInt ≤ 3 from t59) (show 0 ≤ a2.toInt from r60) (show a2.toInt ≤ 1073741824 from t61) (show 0 ≤ a3.toInt from r62) (show a3.toInt ≤ 120 from t63) (show 0 ≤ a4.toInt from r64) (show a4.toInt ≤ 9 from t65) (show 0 ≤ a6.toInt from r66) (show a6.toInt ≤ 120 from t67) (show 0 ≤ v145_8.toInt from r68) (show v145_8.toInt ≤ 1073741944 from t69) (show 0 ≤ v145_9.toInt from r70) (show v145_9.toInt ≤ 1 from t71) (show 0 ≤ r89.toInt by omega) (show r89.toInt ≤ 11 by omega) (show 0 ≤ x362.toInt by omega) (show x362.toInt ≤ 129 by omega) (show 0 ≤ f145_12__9_a1_toInt_217_toNat.toInt from r72) (show f145_12__9_a1_toInt_217_toNat.toInt ≤ 9 from t73) (show 1 ≤ x101.toInt by omega) (show x101.toInt ≤ 12 by omega)  hw hT hF c417 c418 (lv_sub hl [2, 3, 4, 5, 6, 7, 8, 9, 10, 11, 1, 0] rfl)
      · refine lv_if_ne (tgt := 182) hx hb dX12_leads_178 (by decide) (fun _ => ?_) (fun c => absurd c (by decide))
        refine lv_iload_n hx hb dX12_leads_182 rfl (lv_at hl 4 rfl) ?_
        refine lv_aload_n hx hb dX12_leads_183 rfl (lv_at hl 1 rfl) ?_
        refine lv_iload hx hb dX12_leads_184 (lv_at hl 0 rfl) ?_
        refine lv_iconst (v := 2) hx hb dX12_leads_186 (by decide) ?_
        refine tk_Vi hC hK hw hT hA hE hSR kM_at0 (by decide) rfl (k_X12_streetOf_6 l adK adV dC dI cy ad B (by omega) (by omega) qr s1   r89 (show 0 ≤ r89.toInt by omega) (show r89.toInt ≤ 11 by omega) w85 H.size hT ) (cwV 2 hC.2.2.2.2 uV_RX12_300 rfl rfl rfl (by decide +kernel) ⟨Nat.le_of_ble_eq_true rfl, Nat.le_of_ble_eq_true rfl⟩) rfl hl.1 rfl (Nat.le_of_ble_eq_true rfl) dX12_leads_187 (fun r422 w424 H locs hp423 hw => ?_)
        obtain ⟨rfl, hg429⟩ := hp423
        obtain ⟨g426, g427, c428⟩ := hg429
        refine lv_iadd hx hb dX12_leads_190 ?_
        refine lv_topi (fun x430 ex430 => ?_)
        have ex430 : x430.toInt = a3.toInt + r422.toInt := by rw [ex430]; exact wk_add (show (-2147483648) ≤ a3.toInt + r422.toInt by omega) (show a3.toInt + r422.toInt ≤ 2147483647 by omega)
        refine lv_istore (lv' := [(11, .int x430), (10, .int r89), (0, .ref (ad 0)), (1, .int a1), (2, .int a2), (3, .int a3), (4, .int a4), (5, .int 1), (6, .int a6), (7, .int v145_7), (8, .int v145_8), (9, .int v145_9)]) hx hb dX12_leads_191 hl (by decide) rfl (fun ls hl => ?_)
        refine lv_iload hx hb dX12_leads_193 (lv_at hl 0 rfl) ?_
        refine lv_iload hx hb dX12_leads_195 (lv_at hl 8 rfl) ?_
        refine lv_icmp_gt (tgt := 241) hx hb dX12_leads_197 (by decide) (fun c431 => ?_) (fun c431 => ?_)
        · have c431 : a6.toInt < x430.toInt := wk_lt.mp c431
          exact J241 v145_7 v145_8 v145_9 r89 x430 f145_12__9_a1_toInt_217_toNat x101 H locs ls w85 (show 0 ≤ a1.toInt from r58) (show a1.toInt ≤ 3 from t59) (show 0 ≤ a2.toInt from r60) (show a2.toInt ≤ 1073741824 from t61) (show 0 ≤ a3.toInt from r62) (show a3.toInt ≤ 120 from t63) (show 0 ≤ a4.toInt from r64) (show a4.toInt ≤ 9 from t65) (show 0 ≤ a6.toInt from r66) (show a6.toInt ≤ 120 from t67) (show 0 ≤ v145_8.toInt from r68) (show v145_8.toInt ≤ 1073741944 from t69) (show 0 ≤ v145_9.toInt from r70) (show v145_9.toInt ≤ 1 from t71) (show 0 ≤ r89.toInt by omega) (show r89.toInt ≤ 11 by omega) (show 0 ≤ x430.toInt by omega) (show x430.toInt ≤ 129 by omega) (show 0 ≤ f145_12__9_a1_toInt_217_toNat.toInt from r72) (show f145_12__9_a1_toInt_217_toNat.toInt ≤ 9 from t73) (show 1 ≤ x101.toInt by omega) (show x101.toInt ≤ 12 by omega)  hw hT hF c88 c102 (lv_sub hl [2, 3, 4, 5, 6, 7, 8, 9, 10, 11, 1, 0] rfl)
        · have c431 : x430.toInt ≤ a6.toInt := wk_ltF c431
          refine lv_aload_n hx hb dX12_leads_200 rfl (lv_at hl 2 rfl) ?_
          refine lv_iload hx hb dX12_leads_201 (lv_at hl 0 rfl) ?_
          refine lv_aload_n hx hb dX12_leads_203 rfl (lv_at hl 2 rfl) ?_
          refine lv_iload hx hb dX12_leads_204 (lv_at hl 1 rfl) ?_
          refine lv_iload hx hb dX12_leads_206 (lv_at hl 6 rfl) ?_
          refine tk_Vi hC hK hw hT hA hE hSR kM_at0 (by decide) rfl (k_X12_otherOf_1 l adK adV dC dI cy ad B (by omega) (by omega) qr s1   r89 (show 0 ≤ r89.toInt by omega) (show r89.toInt ≤ 11 by omega) a4 (show 0 ≤ a4.toInt from r64) (show a4.toInt ≤ 9 from t65) w85 H.size hT ) (cwV 2 hC.2.2.2.2 uV_RX12_348 rfl rfl rfl (by decide +kernel) ⟨Nat.le_of_ble_eq_true rfl, Nat.le_of_ble_eq_true rfl⟩) rfl hl.1 rfl (Nat.le_of_ble_eq_true rfl) dX12_leads_208 (fun r432 w434 H locs hp433 hw => ?_)
          obtain ⟨rfl, hg441⟩ := hp433
          rcases hg441 with ⟨g436, g437⟩ | ⟨g438, g439, c440⟩
          · refine lv_iload hx hb dX12_leads_211 (lv_at hl 7 rfl) ?_
            refine lv_if_eq (tgt := 235) hx hb dX12_leads_213 (by decide) (fun c => absurd c (by decide)) (fun _ => ?_)
            refine lv_iload_n hx hb dX12_leads_216 rfl (lv_at hl 4 rfl) ?_
            refine lv_iload hx hb dX12_leads_217 (lv_at hl 0 rfl) ?_
            refine lv_iadd hx hb dX12_leads_219 ?_
            refine lv_topi (fun x442 ex442 => ?_)
            have ex442 : x442.toInt = a2.toInt + x430.toInt := by rw [ex442]; exact wk_add (show (-2147483648) ≤ a2.toInt + x430.toInt by omega) (show a2.toInt + x430.toInt ≤ 2147483647 by omega)
            refine lv_bipush (v := 24) hx hb dX12_leads_220 (by decide) ?_
            refine lv_idiv hx hb dX12_leads_222 (by decide) ?_
            refine lv_topi (fun x443 ex443 => ?_)
            have ex443 : x443.toInt = x442.toInt / (24 : Int) := by rw [ex443]; exact wk_div (show 0 ≤ x442.toInt by omega) (show 0 < (24 : Int) by decide)
            refine lv_iload hx hb dX12_leads_223 (lv_at hl 10 rfl) ?_
            refine lv_bipush (v := 24) hx hb dX12_leads_225 (by decide) ?_
            refine lv_idiv hx hb dX12_leads_227 (by decide) ?_
            refine lv_topi (fun x444 ex444 => ?_)
            have ex444 : x444.toInt = v145_8.toInt / (24 : Int) := by rw [ex444]; exact wk_div (show 0 ≤ v145_8.toInt from r68) (show 0 < (24 : Int) by decide)
            refine lv_icmp_ne (tgt := 235) hx hb dX12_leads_228 (by decide) (fun c445 => ?_) (fun c445 => ?_)
            · have c445 : ¬ x443.toInt = x444.toInt := wk_eqF c445
              refine lv_iconst (v := 0) hx hb dX12_leads_235 (by decide) ?_
              refine lv_iload hx hb dX12_leads_236 (lv_at hl 9 rfl) ?_
              refine tk_Vv hC hK hw hT hA hE hSR kM_at0 (by decide) rfl (k_X12_could_3 l adK adV dC dI cy ad B (by omega) (by omega) qr s1   x430 (show 0 ≤ x430.toInt by omega) (show x430.toInt ≤ 120 by omega) r432 (show 0 ≤ r432.toInt by omega) (show r432.toInt ≤ 9 by omega) v145_7 w85 H.size hT ) (cwV 4 hC.2.2.2.2 uV_RX12_439 rfl rfl rfl (by decide +kernel) ⟨Nat.le_of_ble_eq_true rfl, Nat.le_of_ble_eq_true rfl⟩) rfl hl.1 rfl (Nat.le_of_ble_eq_true rfl) dX12_leads_238 (fun w448 H locs hp447 hw => ?_)
              obtain ⟨hT, k449, hg450⟩ := hp447
              have hF := hF.tr k449 (by decide)
              have c451 := k449.gi kM_at12 rfl c88
              have c452 := k449.gi kM_at12 (by decide) c102
              have c453 := k449.gi kM_at12 rfl c103
              have c454 := k449.gi kM_at12 rfl c428
              clear hg450
              exact J241 v145_7 v145_8 v145_9 r89 x430 f145_12__9_a1_toInt_217_toNat x101 H locs ls w448 (show 0 ≤ a1.toInt from r58) (show a1.toInt ≤ 3 from t59) (show 0 ≤ a2.toInt from r60) (show a2.toInt ≤ 1073741824 from t61) (show 0 ≤ a3.toInt from r62) (show a3.toInt ≤ 120 from t63) (show 0 ≤ a4.toInt from r64) (show a4.toInt ≤ 9 from t65) (show 0 ≤ a6.toInt from r66) (show a6.toInt ≤ 120 from t67) (show 0 ≤ v145_8.toInt from r68) (show v145_8.toInt ≤ 1073741944 from t69) (show 0 ≤ v145_9.toInt from r70) (show v145_9.toInt ≤ 1 from t71) (show 0 ≤ r89.toInt by omega) (show r89.toInt ≤ 11 by omega) (show 0 ≤ x430.toInt by omega) (show x430.toInt ≤ 129 by omega) (show 0 ≤ f145_12__9_a1_toInt_217_toNat.toInt from r72) (show f145_12__9_a1_toInt_217_toNat.toInt ≤ 9 from t73) (show 1 ≤ x101.toInt by omega) (show x101.toInt ≤ 12 by omega)  hw hT hF c451 c452 (lv_sub hl [2, 3, 4, 5, 6, 7, 8, 9, 10, 11, 1, 0] rfl)
            · have c445 : x443.toInt = x444.toInt := wk_eq.mp c445
              refine lv_iconst (v := 1) hx hb dX12_leads_231 (by decide) ?_
              refine lv_goto (tgt := 236) hx hb dX12_leads_232 (by decide) ?_
              refine lv_iload hx hb dX12_leads_236 (lv_at hl 9 rfl) ?_
              refine tk_Vv hC hK hw hT hA hE hSR kM_at0 (by decide) rfl (k_X12_could_6 l adK adV dC dI cy ad B (by omega) (by omega) qr s1   x430 (show 0 ≤ x430.toInt by omega) (show x430.toInt ≤ 120 by omega) r432 (show 0 ≤ r432.toInt by omega) (show r432.toInt ≤ 9 by omega) v145_7 w85 H.size hT ) (cwV 4 hC.2.2.2.2 uV_RX12_439 rfl rfl rfl (by decide +kernel) ⟨Nat.le_of_ble_eq_true rfl, Nat.le_of_ble_eq_true rfl⟩) rfl hl.1 rfl (Nat.le_of_ble_eq_true rfl) dX12_leads_238 (fun w457 H locs hp456 hw => ?_)
              obtain ⟨hT, k458, hg459⟩ := hp456
              have hF := hF.tr k458 (by decide)
              have c460 := k458.gi kM_at12 rfl c88
              have c461 := k458.gi kM_at12 (by decide) c102
              have c462 := k458.gi kM_at12 rfl c103
              have c463 := k458.gi kM_at12 rfl c428
              clear hg459
              exact J241 v145_7 v145_8 v145_9 r89 x430 f145_12__9_a1_toInt_217_toNat x101 H locs ls w457 (show 0 ≤ a1.toInt from r58) (show a1.toInt ≤ 3 from t59) (show 0 ≤ a2.toInt from r60) (show a2.toInt ≤ 1073741824 from t61) (show 0 ≤ a3.toInt from r62) (show a3.toInt ≤ 120 from t63) (show 0 ≤ a4.toInt from r64) (show a4.toInt ≤ 9 from t65) (show 0 ≤ a6.toInt from r66) (show a6.toInt ≤ 120 from t67) (show 0 ≤ v145_8.toInt from r68) (show v145_8.toInt ≤ 1073741944 from t69) (show 0 ≤ v145_9.toInt from r70) (show v145_9.toInt ≤ 1 from t71) (show 0 ≤ r89.toInt by omega) (show r89.toInt ≤ 11 by omega) (show 0 ≤ x430.toInt by omega) (show x430.toInt ≤ 129 by omega) (show 0 ≤ f145_12__9_a1_toInt_217_toNat.toInt from r72) (show f145_12__9_a1_toInt_217_toNat.toInt ≤ 9 from t73) (show 1 ≤ x101.toInt by omega) (show x101.toInt ≤ 12 by omega)  hw hT hF c460 c461 (lv_sub hl [2, 3, 4, 5, 6, 7, 8, 9, 10, 11, 1, 0] rfl)
          · refine lv_iload hx hb dX12_leads_211 (lv_at hl 7 rfl) ?_
            refine lv_if_eq (tgt := 235) hx hb dX12_leads_213 (by decide) (fun c => absurd c (by decide)) (fun _ => ?_)
            refine lv_iload_n hx hb dX12_leads_216 rfl (lv_at hl 4 rfl) ?_
            refine lv_iload hx hb dX12_leads_217 (lv_at hl 0 rfl) ?_
            refine lv_iadd hx hb dX12_leads_219 ?_
            refine lv_topi (fun x464 ex464 => ?_)
            have ex464 : x464.toInt = a2.toInt + x430.toInt := by rw [ex464]; exact wk_add (show (-2147483648) ≤ a2.toInt + x430.toInt by omega) (show a2.toInt + x430.toInt ≤ 2147483647 by omega)
            refine lv_bipush (v := 24) hx hb dX12_leads_220 (by decide) ?_
            refine lv_idiv hx hb dX12_leads_222 (by decide) ?_
            refine lv_topi (fun x465 ex465 => ?_)
            have ex465 : x465.toInt = x464.toInt / (24 : Int) := by rw [ex465]; exact wk_div (show 0 ≤ x464.toInt by omega) (show 0 < (24 : Int) by decide)
            refine lv_iload hx hb dX12_leads_223 (lv_at hl 10 rfl) ?_
            refine lv_bipush (v := 24) hx hb dX12_leads_225 (by decide) ?_
            refine lv_idiv hx hb dX12_leads_227 (by decide) ?_
            refine lv_topi (fun x466 ex466 => ?_)
            have ex466 : x466.toInt = v145_8.toInt / (24 : Int) := by rw [ex466]; exact wk_div (show 0 ≤ v145_8.toInt from r68) (show 0 < (24 : Int) by decide)
            refine lv_icmp_ne (tgt := 235) hx hb dX12_leads_228 (by decide) (fun c467 => ?_) (fun c467 => ?_)
            · have c467 : ¬ x465.toInt = x466.toInt := wk_eqF c467
              refine lv_iconst (v := 0) hx hb dX12_leads_235 (by decide) ?_
              refine lv_iload hx hb dX12_leads_236 (lv_at hl 9 rfl) ?_
              refine tk_Vv hC hK hw hT hA hE hSR kM_at0 (by decide) rfl (k_X12_could_3 l adK adV dC dI cy ad B (by omega) (by omega) qr s1   x430 (show 0 ≤ x430.toInt by omega) (show x430.toInt ≤ 120 by omega) r432 (show 0 ≤ r432.toInt by omega) (show r432.toInt ≤ 9 by omega) v145_7 w85 H.size hT ) (cwV 4 hC.2.2.2.2 uV_RX12_439 rfl rfl rfl (by decide +kernel) ⟨Nat.le_of_ble_eq_true rfl, Nat.le_of_ble_eq_true rfl⟩) rfl hl.1 rfl (Nat.le_of_ble_eq_true rfl) dX12_leads_238 (fun w470 H locs hp469 hw => ?_)
              obtain ⟨hT, k471, hg472⟩ := hp469
              have hF := hF.tr k471 (by decide)
              have c473 := k471.gi kM_at12 rfl c88
              have c474 := k471.gi kM_at12 (by decide) c102
              have c475 := k471.gi kM_at12 rfl c103
              have c476 := k471.gi kM_at12 rfl c428
              clear hg472
              exact J241 v145_7 v145_8 v145_9 r89 x430 f145_12__9_a1_toInt_217_toNat x101 H locs ls w470 (show 0 ≤ a1.toInt from r58) (show a1.toInt ≤ 3 from t59) (show 0 ≤ a2.toInt from r60) (show a2.toInt ≤ 1073741824 from t61) (show 0 ≤ a3.toInt from r62) (show a3.toInt ≤ 120 from t63) (show 0 ≤ a4.toInt from r64) (show a4.toInt ≤ 9 from t65) (show 0 ≤ a6.toInt from r66) (show a6.toInt ≤ 120 from t67) (show 0 ≤ v145_8.toInt from r68) (show v145_8.toInt ≤ 1073741944 from t69) (show 0 ≤ v145_9.toInt from r70) (show v145_9.toInt ≤ 1 from t71) (show 0 ≤ r89.toInt by omega) (show r89.toInt ≤ 11 by omega) (show 0 ≤ x430.toInt by omega) (show x430.toInt ≤ 129 by omega) (show 0 ≤ f145_12__9_a1_toInt_217_toNat.toInt from r72) (show f145_12__9_a1_toInt_217_toNat.toInt ≤ 9 from t73) (show 1 ≤ x101.toInt by omega) (show x101.toInt ≤ 12 by omega)  hw hT hF c473 c474 (lv_sub hl [2, 3, 4, 5, 6, 7, 8, 9, 10, 11, 1, 0] rfl)
            · have c467 : x465.toInt = x466.toInt := wk_eq.mp c467
              refine lv_iconst (v := 1) hx hb dX12_leads_231 (by decide) ?_
              refine lv_goto (tgt := 236) hx hb dX12_leads_232 (by decide) ?_
              refine lv_iload hx hb dX12_leads_236 (lv_at hl 9 rfl) ?_
              refine tk_Vv hC hK hw hT hA hE hSR kM_at0 (by decide) rfl (k_X12_could_6 l adK adV dC dI cy ad B (by omega) (by omega) qr s1   x430 (show 0 ≤ x430.toInt by omega) (show x430.toInt ≤ 120 by omega) r432 (show 0 ≤ r432.toInt by omega) (show r432.toInt ≤ 9 by omega) v145_7 w85 H.size hT ) (cwV 4 hC.2.2.2.2 uV_RX12_439 rfl rfl rfl (by decide +kernel) ⟨Nat.le_of_ble_eq_true rfl, Nat.le_of_ble_eq_true rfl⟩) rfl hl.1 rfl (Nat.le_of_ble_eq_true rfl) dX12_leads_238 (fun w479 H locs hp478 hw => ?_)
              obtain ⟨hT, k480, hg481⟩ := hp478
              have hF := hF.tr k480 (by decide)
              have c482 := k480.gi kM_at12 rfl c88
              have c483 := k480.gi kM_at12 (by decide) c102
              have c484 := k480.gi kM_at12 rfl c103
              have c485 := k480.gi kM_at12 rfl c428
              clear hg481
              exact J241 v145_7 v145_8 v145_9 r89 x430 f145_12__9_a1_toInt_217_toNat x101 H locs ls w479 (show 0 ≤ a1.toInt from r58) (show a1.toInt ≤ 3 from t59) (show 0 ≤ a2.toInt from r60) (show a2.toInt ≤ 1073741824 from t61) (show 0 ≤ a3.toInt from r62) (show a3.toInt ≤ 120 from t63) (show 0 ≤ a4.toInt from r64) (show a4.toInt ≤ 9 from t65) (show 0 ≤ a6.toInt from r66) (show a6.toInt ≤ 120 from t67) (show 0 ≤ v145_8.toInt from r68) (show v145_8.toInt ≤ 1073741944 from t69) (show 0 ≤ v145_9.toInt from r70) (show v145_9.toInt ≤ 1 from t71) (show 0 ≤ r89.toInt by omega) (show r89.toInt ≤ 11 by omega) (show 0 ≤ x430.toInt by omega) (show x430.toInt ≤ 129 by omega) (show 0 ≤ f145_12__9_a1_toInt_217_toNat.toInt from r72) (show f145_12__9_a1_toInt_217_toNat.toInt ≤ 9 from t73) (show 1 ≤ x101.toInt by omega) (show x101.toInt ≤ 12 by omega)  hw hT hF c482 c483 (lv_sub hl [2, 3, 4, 5, 6, 7, 8, 9, 10, 11, 1, 0] rfl)
      · refine lv_if_ne (tgt := 182) hx hb dX12_leads_178 (by decide) (fun _ => ?_) (fun c => absurd c (by decide))
        refine lv_iload_n hx hb dX12_leads_182 rfl (lv_at hl 4 rfl) ?_
        refine lv_aload_n hx hb dX12_leads_183 rfl (lv_at hl 1 rfl) ?_
        refine lv_iload hx hb dX12_leads_184 (lv_at hl 0 rfl) ?_
        refine lv_iconst (v := 2) hx hb dX12_leads_186 (by decide) ?_
        refine tk_Vi hC hK hw hT hA hE hSR kM_at0 (by decide) rfl (k_X12_streetOf_6 l adK adV dC dI cy ad B (by omega) (by omega) qr s1   r89 (show 0 ≤ r89.toInt by omega) (show r89.toInt ≤ 11 by omega) w85 H.size hT ) (cwV 2 hC.2.2.2.2 uV_RX12_300 rfl rfl rfl (by decide +kernel) ⟨Nat.le_of_ble_eq_true rfl, Nat.le_of_ble_eq_true rfl⟩) rfl hl.1 rfl (Nat.le_of_ble_eq_true rfl) dX12_leads_187 (fun r486 w488 H locs hp487 hw => ?_)
        obtain ⟨rfl, hg493⟩ := hp487
        obtain ⟨g490, g491, c492⟩ := hg493
        refine lv_iadd hx hb dX12_leads_190 ?_
        refine lv_topi (fun x494 ex494 => ?_)
        have ex494 : x494.toInt = a3.toInt + r486.toInt := by rw [ex494]; exact wk_add (show (-2147483648) ≤ a3.toInt + r486.toInt by omega) (show a3.toInt + r486.toInt ≤ 2147483647 by omega)
        refine lv_istore (lv' := [(11, .int x494), (10, .int r89), (0, .ref (ad 0)), (1, .int a1), (2, .int a2), (3, .int a3), (4, .int a4), (5, .int 1), (6, .int a6), (7, .int v145_7), (8, .int v145_8), (9, .int v145_9)]) hx hb dX12_leads_191 hl (by decide) rfl (fun ls hl => ?_)
        refine lv_iload hx hb dX12_leads_193 (lv_at hl 0 rfl) ?_
        refine lv_iload hx hb dX12_leads_195 (lv_at hl 8 rfl) ?_
        refine lv_icmp_gt (tgt := 241) hx hb dX12_leads_197 (by decide) (fun c495 => ?_) (fun c495 => ?_)
        · have c495 : a6.toInt < x494.toInt := wk_lt.mp c495
          exact J241 v145_7 v145_8 v145_9 r89 x494 f145_12__9_a1_toInt_217_toNat x101 H locs ls w85 (show 0 ≤ a1.toInt from r58) (show a1.toInt ≤ 3 from t59) (show 0 ≤ a2.toInt from r60) (show a2.toInt ≤ 1073741824 from t61) (show 0 ≤ a3.toInt from r62) (show a3.toInt ≤ 120 from t63) (show 0 ≤ a4.toInt from r64) (show a4.toInt ≤ 9 from t65) (show 0 ≤ a6.toInt from r66) (show a6.toInt ≤ 120 from t67) (show 0 ≤ v145_8.toInt from r68) (show v145_8.toInt ≤ 1073741944 from t69) (show 0 ≤ v145_9.toInt from r70) (show v145_9.toInt ≤ 1 from t71) (show 0 ≤ r89.toInt by omega) (show r89.toInt ≤ 11 by omega) (show 0 ≤ x494.toInt by omega) (show x494.toInt ≤ 129 by omega) (show 0 ≤ f145_12__9_a1_toInt_217_toNat.toInt from r72) (show f145_12__9_a1_toInt_217_toNat.toInt ≤ 9 from t73) (show 1 ≤ x101.toInt by omega) (show x101.toInt ≤ 12 by omega)  hw hT hF c88 c102 (lv_sub hl [2, 3, 4, 5, 6, 7, 8, 9, 10, 11, 1, 0] rfl)
        · have c495 : x494.toInt ≤ a6.toInt := wk_ltF c495
          refine lv_aload_n hx hb dX12_leads_200 rfl (lv_at hl 2 rfl) ?_
          refine lv_iload hx hb dX12_leads_201 (lv_at hl 0 rfl) ?_
          refine lv_aload_n hx hb dX12_leads_203 rfl (lv_at hl 2 rfl) ?_
          refine lv_iload hx hb dX12_leads_204 (lv_at hl 1 rfl) ?_
          refine lv_iload hx hb dX12_leads_206 (lv_at hl 6 rfl) ?_
          refine tk_Vi hC hK hw hT hA hE hSR kM_at0 (by decide) rfl (k_X12_otherOf_1 l adK adV dC dI cy ad B (by omega) (by omega) qr s1   r89 (show 0 ≤ r89.toInt by omega) (show r89.toInt ≤ 11 by omega) a4 (show 0 ≤ a4.toInt from r64) (show a4.toInt ≤ 9 from t65) w85 H.size hT ) (cwV 2 hC.2.2.2.2 uV_RX12_348 rfl rfl rfl (by decide +kernel) ⟨Nat.le_of_ble_eq_true rfl, Nat.le_of_ble_eq_true rfl⟩) rfl hl.1 rfl (Nat.le_of_ble_eq_true rfl) dX12_leads_208 (fun r496 w498 H locs hp497 hw => ?_)
          obtain ⟨rfl, hg505⟩ := hp497
          rcases hg505 with ⟨g500, g501⟩ | ⟨g502, g503, c504⟩
          · refine lv_iload hx hb dX12_leads_211 (lv_at hl 7 rfl) ?_
            refine lv_if_eq (tgt := 235) hx hb dX12_leads_213 (by decide) (fun c => absurd c (by decide)) (fun _ => ?_)
            refine lv_iload_n hx hb dX12_leads_216 rfl (lv_at hl 4 rfl) ?_
            refine lv_iload hx hb dX12_leads_217 (lv_at hl 0 rfl) ?_
            refine lv_iadd hx hb dX12_leads_219 ?_
            refine lv_topi (fun x506 ex506 => ?_)
            have ex506 : x506.toInt = a2.toInt + x494.toInt := by rw [ex506]; exact wk_add (show (-2147483648) ≤ a2.toInt + x494.toInt by omega) (show a2.toInt + x494.toInt ≤ 2147483647 by omega)
            refine lv_bipush (v := 24) hx hb dX12_leads_220 (by decide) ?_
            refine lv_idiv hx hb dX12_leads_222 (by decide) ?_
            refine lv_topi (fun x507 ex507 => ?_)
            have ex507 : x507.toInt = x506.toInt / (24 : Int) := by rw [ex507]; exact wk_div (show 0 ≤ x506.toInt by omega) (show 0 < (24 : Int) by decide)
            refine lv_iload hx hb dX12_leads_223 (lv_at hl 10 rfl) ?_
            refine lv_bipush (v := 24) hx hb dX12_leads_225 (by decide) ?_
            refine lv_idiv hx hb dX12_leads_227 (by decide) ?_
            refine lv_topi (fun x508 ex508 => ?_)
            have ex508 : x508.toInt = v145_8.toInt / (24 : Int) := by rw [ex508]; exact wk_div (show 0 ≤ v145_8.toInt from r68) (show 0 < (24 : Int) by decide)
            refine lv_icmp_ne (tgt := 235) hx hb dX12_leads_228 (by decide) (fun c509 => ?_) (fun c509 => ?_)
            · have c509 : ¬ x507.toInt = x508.toInt := wk_eqF c509
              refine lv_iconst (v := 0) hx hb dX12_leads_235 (by decide) ?_
              refine lv_iload hx hb dX12_leads_236 (lv_at hl 9 rfl) ?_
              refine tk_Vv hC hK hw hT hA hE hSR kM_at0 (by decide) rfl (k_X12_could_3 l adK adV dC dI cy ad B (by omega) (by omega) qr s1   x494 (show 0 ≤ x494.toInt by omega) (show x494.toInt ≤ 120 by omega) r496 (show 0 ≤ r496.toInt by omega) (show r496.toInt ≤ 9 by omega) v145_7 w85 H.size hT ) (cwV 4 hC.2.2.2.2 uV_RX12_439 rfl rfl rfl (by decide +kernel) ⟨Nat.le_of_ble_eq_true rfl, Nat.le_of_ble_eq_true rfl⟩) rfl hl.1 rfl (Nat.le_of_ble_eq_true rfl) dX12_leads_238 (fun w512 H locs hp511 hw => ?_)
              obtain ⟨hT, k513, hg514⟩ := hp511
              have hF := hF.tr k513 (by decide)
              have c515 := k513.gi kM_at12 rfl c88
              have c516 := k513.gi kM_at12 (by decide) c102
              have c517 := k513.gi kM_at12 rfl c103
              have c518 := k513.gi kM_at12 rfl c351
              have c519 := k513.gi kM_at12 rfl c492
              clear hg514
              exact J241 v145_7 v145_8 v145_9 r89 x494 f145_12__9_a1_toInt_217_toNat x101 H locs ls w512 (show 0 ≤ a1.toInt from r58) (show a1.toInt ≤ 3 from t59) (show 0 ≤ a2.toInt from r60) (show a2.toInt ≤ 1073741824 from t61) (show 0 ≤ a3.toInt from r62) (show a3.toInt ≤ 120 from t63) (show 0 ≤ a4.toInt from r64) (show a4.toInt ≤ 9 from t65) (show 0 ≤ a6.toInt from r66) (show a6.toInt ≤ 120 from t67) (show 0 ≤ v145_8.toInt from r68) (show v145_8.toInt ≤ 1073741944 from t69) (show 0 ≤ v145_9.toInt from r70) (show v145_9.toInt ≤ 1 from t71) (show 0 ≤ r89.toInt by omega) (show r89.toInt ≤ 11 by omega) (show 0 ≤ x494.toInt by omega) (show x494.toInt ≤ 129 by omega) (show 0 ≤ f145_12__9_a1_toInt_217_toNat.toInt from r72) (show f145_12__9_a1_toInt_217_toNat.toInt ≤ 9 from t73) (show 1 ≤ x101.toInt by omega) (show x101.toInt ≤ 12 by omega)  hw hT hF c515 c516 (lv_sub hl [2, 3, 4, 5, 6, 7, 8, 9, 10, 11, 1, 0] rfl)
            · have c509 : x507.toInt = x508.toInt := wk_eq.mp c509
              refine lv_iconst (v := 1) hx hb dX12_leads_231 (by decide) ?_
              refine lv_goto (tgt := 236) hx hb dX12_leads_232 (by decide) ?_
              refine lv_iload hx hb dX12_leads_236 (lv_at hl 9 rfl) ?_
              refine tk_Vv hC hK hw hT hA hE hSR kM_at0 (by decide) rfl (k_X12_could_6 l adK adV dC dI cy ad B (by omega) (by omega) qr s1   x494 (show 0 ≤ x494.toInt by omega) (show x494.toInt ≤ 120 by omega) r496 (show 0 ≤ r496.toInt by omega) (show r496.toInt ≤ 9 by omega) v145_7 w85 H.size hT ) (cwV 4 hC.2.2.2.2 uV_RX12_439 rfl rfl rfl (by decide +kernel) ⟨Nat.le_of_ble_eq_true rfl, Nat.le_of_ble_eq_true rfl⟩) rfl hl.1 rfl (Nat.le_of_ble_eq_true rfl) dX12_leads_238 (fun w522 H locs hp521 hw => ?_)
              obtain ⟨hT, k523, hg524⟩ := hp521
              have hF := hF.tr k523 (by decide)
              have c525 := k523.gi kM_at12 rfl c88
              have c526 := k523.gi kM_at12 (by decide) c102
              have c527 := k523.gi kM_at12 rfl c103
              have c528 := k523.gi kM_at12 rfl c351
              have c529 := k523.gi kM_at12 rfl c492
              clear hg524
              exact J241 v145_7 v145_8 v145_9 r89 x494 f145_12__9_a1_toInt_217_toNat x101 H locs ls w522 (show 0 ≤ a1.toInt from r58) (show a1.toInt ≤ 3 from t59) (show 0 ≤ a2.toInt from r60) (show a2.toInt ≤ 1073741824 from t61) (show 0 ≤ a3.toInt from r62) (show a3.toInt ≤ 120 from t63) (show 0 ≤ a4.toInt from r64) (show a4.toInt ≤ 9 from t65) (show 0 ≤ a6.toInt from r66) (show a6.toInt ≤ 120 from t67) (show 0 ≤ v145_8.toInt from r68) (show v145_8.toInt ≤ 1073741944 from t69) (show 0 ≤ v145_9.toInt from r70) (show v145_9.toInt ≤ 1 from t71) (show 0 ≤ r89.toInt by omega) (show r89.toInt ≤ 11 by omega) (show 0 ≤ x494.toInt by omega) (show x494.toInt ≤ 129 by omega) (show 0 ≤ f145_12__9_a1_toInt_217_toNat.toInt from r72) (show f145_12__9_a1_toInt_217_toNat.toInt ≤ 9 from t73) (show 1 ≤ x101.toInt by omega) (show x101.toInt ≤ 12 by omega)  hw hT hF c525 c526 (lv_sub hl [2, 3, 4, 5, 6, 7, 8, 9, 10, 11, 1, 0] rfl)
          · refine lv_iload hx hb dX12_leads_211 (lv_at hl 7 rfl) ?_
            refine lv_if_eq (tgt := 235) hx hb dX12_leads_213 (by decide) (fun c => absurd c (by decide)) (fun _ => ?_)
            refine lv_iload_n hx hb dX12_leads_216 rfl (lv_at hl 4 rfl) ?_
            refine lv_iload hx hb dX12_leads_217 (lv_at hl 0 rfl) ?_
            refine lv_iadd hx hb dX12_leads_219 ?_
            refine lv_topi (fun x530 ex530 => ?_)
            have ex530 : x530.toInt = a2.toInt + x494.toInt := by rw [ex530]; exact wk_add (show (-2147483648) ≤ a2.toInt + x494.toInt by omega) (show a2.toInt + x494.toInt ≤ 2147483647 by omega)
            refine lv_bipush (v := 24) hx hb dX12_leads_220 (by decide) ?_
            refine lv_idiv hx hb dX12_leads_222 (by decide) ?_
            refine lv_topi (fun x531 ex531 => ?_)
            have ex531 : x531.toInt = x530.toInt / (24 : Int) := by rw [ex531]; exact wk_div (show 0 ≤ x530.toInt by omega) (show 0 < (24 : Int) by decide)
            refine lv_iload hx hb dX12_leads_223 (lv_at hl 10 rfl) ?_
            refine lv_bipush (v := 24) hx hb dX12_leads_225 (by decide) ?_
            refine lv_idiv hx hb dX12_leads_227 (by decide) ?_
            refine lv_topi (fun x532 ex532 => ?_)
            have ex532 : x532.toInt = v145_8.toInt / (24 : Int) := by rw [ex532]; exact wk_div (show 0 ≤ v145_8.toInt from r68) (show 0 < (24 : Int) by decide)
            refine lv_icmp_ne (tgt := 235) hx hb dX12_leads_228 (by decide) (fun c533 => ?_) (fun c533 => ?_)
            · have c533 : ¬ x531.toInt = x532.toInt := wk_eqF c533
              refine lv_iconst (v := 0) hx hb dX12_leads_235 (by decide) ?_
              refine lv_iload hx hb dX12_leads_236 (lv_at hl 9 rfl) ?_
              refine tk_Vv hC hK hw hT hA hE hSR kM_at0 (by decide) rfl (k_X12_could_3 l adK adV dC dI cy ad B (by omega) (by omega) qr s1   x494 (show 0 ≤ x494.toInt by omega) (show x494.toInt ≤ 120 by omega) r496 (show 0 ≤ r496.toInt by omega) (show r496.toInt ≤ 9 by omega) v145_7 w85 H.size hT ) (cwV 4 hC.2.2.2.2 uV_RX12_439 rfl rfl rfl (by decide +kernel) ⟨Nat.le_of_ble_eq_true rfl, Nat.le_of_ble_eq_true rfl⟩) rfl hl.1 rfl (Nat.le_of_ble_eq_true rfl) dX12_leads_238 (fun w536 H locs hp535 hw => ?_)
              obtain ⟨hT, k537, hg538⟩ := hp535
              have hF := hF.tr k537 (by decide)
              have c539 := k537.gi kM_at12 rfl c88
              have c540 := k537.gi kM_at12 (by decide) c102
              have c541 := k537.gi kM_at12 rfl c103
              have c542 := k537.gi kM_at12 rfl c351
              have c543 := k537.gi kM_at12 rfl c492
              clear hg538
              exact J241 v145_7 v145_8 v145_9 r89 x494 f145_12__9_a1_toInt_217_toNat x101 H locs ls w536 (show 0 ≤ a1.toInt from r58) (show a1.toInt ≤ 3 from t59) (show 0 ≤ a2.toInt from r60) (show a2.toInt ≤ 1073741824 from t61) (show 0 ≤ a3.toInt from r62) (show a3.toInt ≤ 120 from t63) (show 0 ≤ a4.toInt from r64) (show a4.toInt ≤ 9 from t65) (show 0 ≤ a6.toInt from r66) (show a6.toInt ≤ 120 from t67) (show 0 ≤ v145_8.toInt from r68) (show v145_8.toInt ≤ 1073741944 from t69) (show 0 ≤ v145_9.toInt from r70) (show v145_9.toInt ≤ 1 from t71) (show 0 ≤ r89.toInt by omega) (show r89.toInt ≤ 11 by omega) (show 0 ≤ x494.toInt by omega) (show x494.toInt ≤ 129 by omega) (show 0 ≤ f145_12__9_a1_toInt_217_toNat.toInt from r72) (show f145_12__9_a1_toInt_217_toNat.toInt ≤ 9 from t73) (show 1 ≤ x101.toInt by omega) (show x101.toInt ≤ 12 by omega)  hw hT hF c539 c540 (lv_sub hl [2, 3, 4, 5, 6, 7, 8, 9, 10, 11, 1, 0] rfl)
            · have c533 : x531.toInt = x532.toInt := wk_eq.mp c533
              refine lv_iconst (v := 1) hx hb dX12_leads_231 (by decide) ?_
              refine lv_goto (tgt := 236) hx hb dX12_leads_232 (by decide) ?_
              refine lv_iload hx hb dX12_leads_236 (lv_at hl 9 rfl) ?_
              refine tk_Vv hC hK hw hT hA hE hSR kM_at0 (by decide) rfl (k_X12_could_6 l adK adV dC dI cy ad B (by omega) (by omega) qr s1   x494 (show 0 ≤ x494.toInt by omega) (show x494.toInt ≤ 120 by omega) r496 (show 0 ≤ r496.toInt by omega) (show r496.toInt ≤ 9 by omega) v145_7 w85 H.size hT ) (cwV 4 hC.2.2.2.2 uV_RX12_439 rfl rfl rfl (by decide +kernel) ⟨Nat.le_of_ble_eq_true rfl, Nat.le_of_ble_eq_true rfl⟩) rfl hl.1 rfl (Nat.le_of_ble_eq_true rfl) dX12_leads_238 (fun w546 H locs hp545 hw => ?_)
              obtain ⟨hT, k547, hg548⟩ := hp545
              have hF := hF.tr k547 (by decide)
              have c549 := k547.gi kM_at12 rfl c88
              have c550 := k547.gi kM_at12 (by decide) c102
              have c551 := k547.gi kM_at12 rfl c103
              have c552 := k547.gi kM_at12 rfl c351
              have c553 := k547.gi kM_at12 rfl c492
              clear hg548
              exact J241 v145_7 v145_8 v145_9 r89 x494 f145_12__9_a1_toInt_217_toNat x101 H locs ls w546 (show 0 ≤ a1.toInt from r58) (show a1.toInt ≤ 3 from t59) (show 0 ≤ a2.toInt from r60) (show a2.toInt ≤ 1073741824 from t61) (show 0 ≤ a3.toInt from r62) (show a3.toInt ≤ 120 from t63) (show 0 ≤ a4.toInt from r64) (show a4.toInt ≤ 9 from t65) (show 0 ≤ a6.toInt from r66) (show a6.toInt ≤ 120 from t67) (show 0 ≤ v145_8.toInt from r68) (show v145_8.toInt ≤ 1073741944 from t69) (show 0 ≤ v145_9.toInt from r70) (show v145_9.toInt ≤ 1 from t71) (show 0 ≤ r89.toInt by omega) (show r89.toInt ≤ 11 by omega) (show 0 ≤ x494.toInt by omega) (show x494.toInt ≤ 129 by omega) (show 0 ≤ f145_12__9_a1_toInt_217_toNat.toInt from r72) (show f145_12__9_a1_toInt_217_toNat.toInt ≤ 9 from t73) (show 1 ≤ x101.toInt by omega) (show x101.toInt ≤ 12 by omega)  hw hT hF c549 c550 (lv_sub hl [2, 3, 4, 5, 6, 7, 8, 9, 10, 11, 1, 0] rfl)
    · refine lv_istore (lv' := [(10, .int r89), (0, .ref (ad 0)), (1, .int a1), (2, .int a2), (3, .int a3), (4, .int a4), (5, .int 1), (6, .int a6), (7, .int v145_7), (8, .int v145_8), (9, .int v145_9)]) hx hb dX12_leads_161 hl (by decide) rfl (fun ls hl => ?_)
      refine lv_iload hx hb dX12_leads_163 (lv_at hl 0 rfl) ?_
      refine lv_if_lt (tgt := 181) hx hb dX12_leads_165 (by decide) (fun c => absurd c (fun h => absurd (show r89.toInt < (0 : Int) from wk_lt.mp h) (by omega))) (fun _ => ?_)
      refine lv_aload_n hx hb dX12_leads_168 rfl (lv_at hl 1 rfl) ?_
      refine lv_iload hx hb dX12_leads_169 (lv_at hl 0 rfl) ?_
      refine lv_iload hx hb dX12_leads_171 (lv_at hl 5 rfl) ?_
      refine lv_iload hx hb dX12_leads_173 (lv_at hl 9 rfl) ?_
      refine tk_Vi hC hK hw hT hA hE hSR kM_at0 (by decide) rfl (k_X12_isOpen_3 l adK adV dC dI cy ad B (by omega) (by omega) qr s1   r89 (show 0 ≤ r89.toInt by omega) (show r89.toInt ≤ 11 by omega) a4 (show 0 ≤ a4.toInt from r64) (show a4.toInt ≤ 9 from t65) v145_8 (show 0 ≤ v145_8.toInt from r68) (show v145_8.toInt ≤ 1073741944 from t69) w85 H.size hT ) (cwV 3 hC.2.2.2.2 uV_RX12_334 rfl rfl rfl (by decide +kernel) ⟨Nat.le_of_ble_eq_true rfl, Nat.le_of_ble_eq_true rfl⟩) rfl hl.1 rfl (Nat.le_of_ble_eq_true rfl) dX12_leads_175 (fun r554 w556 H locs hp555 hw => ?_)
      obtain ⟨rfl, hg573⟩ := hp555
      rcases hg573 with ⟨rfl, hq558⟩ | ⟨rfl, c559, c560, hq561⟩ | ⟨rfl, c562, hq563⟩ | ⟨rfl, c564, hq565⟩ | ⟨rfl, c566, c567, hq568⟩ | ⟨rfl, c569, hq570⟩ | ⟨rfl, c571, hq572⟩
      · refine lv_if_ne (tgt := 182) hx hb dX12_leads_178 (by decide) (fun c => absurd (by decide) c) (fun _ => ?_)
        exact J181 v145_7 v145_8 v145_9 r89 f145_12__9_a1_toInt_217_toNat H locs ls w85 (show 0 ≤ a1.toInt from r58) (show a1.toInt ≤ 3 from t59) (show 0 ≤ a2.toInt from r60) (show a2.toInt ≤ 1073741824 from t61) (show 0 ≤ a3.toInt from r62) (show a3.toInt ≤ 120 from t63) (show 0 ≤ a4.toInt from r64) (show a4.toInt ≤ 9 from t65) (show 0 ≤ a6.toInt from r66) (show a6.toInt ≤ 120 from t67) (show 0 ≤ v145_8.toInt from r68) (show v145_8.toInt ≤ 1073741944 from t69) (show 0 ≤ v145_9.toInt from r70) (show v145_9.toInt ≤ 1 from t71) (show (-1) ≤ r89.toInt by omega) (show r89.toInt ≤ 11 by omega) (show 0 ≤ f145_12__9_a1_toInt_217_toNat.toInt from r72) (show f145_12__9_a1_toInt_217_toNat.toInt ≤ 9 from t73)  hw hT hF c88 (lv_sub hl [1, 2, 3, 4, 5, 6, 7, 8, 9, 10, 0] rfl)
      · refine lv_if_ne (tgt := 182) hx hb dX12_leads_178 (by decide) (fun c => absurd (by decide) c) (fun _ => ?_)
        exact J181 v145_7 v145_8 v145_9 r89 f145_12__9_a1_toInt_217_toNat H locs ls w85 (show 0 ≤ a1.toInt from r58) (show a1.toInt ≤ 3 from t59) (show 0 ≤ a2.toInt from r60) (show a2.toInt ≤ 1073741824 from t61) (show 0 ≤ a3.toInt from r62) (show a3.toInt ≤ 120 from t63) (show 0 ≤ a4.toInt from r64) (show a4.toInt ≤ 9 from t65) (show 0 ≤ a6.toInt from r66) (show a6.toInt ≤ 120 from t67) (show 0 ≤ v145_8.toInt from r68) (show v145_8.toInt ≤ 1073741944 from t69) (show 0 ≤ v145_9.toInt from r70) (show v145_9.toInt ≤ 1 from t71) (show (-1) ≤ r89.toInt by omega) (show r89.toInt ≤ 11 by omega) (show 0 ≤ f145_12__9_a1_toInt_217_toNat.toInt from r72) (show f145_12__9_a1_toInt_217_toNat.toInt ≤ 9 from t73)  hw hT hF c88 (lv_sub hl [1, 2, 3, 4, 5, 6, 7, 8, 9, 10, 0] rfl)
      · refine lv_if_ne (tgt := 182) hx hb dX12_leads_178 (by decide) (fun c => absurd (by decide) c) (fun _ => ?_)
        exact J181 v145_7 v145_8 v145_9 r89 f145_12__9_a1_toInt_217_toNat H locs ls w85 (show 0 ≤ a1.toInt from r58) (show a1.toInt ≤ 3 from t59) (show 0 ≤ a2.toInt from r60) (show a2.toInt ≤ 1073741824 from t61) (show 0 ≤ a3.toInt from r62) (show a3.toInt ≤ 120 from t63) (show 0 ≤ a4.toInt from r64) (show a4.toInt ≤ 9 from t65) (show 0 ≤ a6.toInt from r66) (show a6.toInt ≤ 120 from t67) (show 0 ≤ v145_8.toInt from r68) (show v145_8.toInt ≤ 1073741944 from t69) (show 0 ≤ v145_9.toInt from r70) (show v145_9.toInt ≤ 1 from t71) (show (-1) ≤ r89.toInt by omega) (show r89.toInt ≤ 11 by omega) (show 0 ≤ f145_12__9_a1_toInt_217_toNat.toInt from r72) (show f145_12__9_a1_toInt_217_toNat.toInt ≤ 9 from t73)  hw hT hF c88 (lv_sub hl [1, 2, 3, 4, 5, 6, 7, 8, 9, 10, 0] rfl)
      · refine lv_if_ne (tgt := 182) hx hb dX12_leads_178 (by decide) (fun c => absurd (by decide) c) (fun _ => ?_)
        exact J181 v145_7 v145_8 v145_9 r89 f145_12__9_a1_toInt_217_toNat H locs ls w85 (show 0 ≤ a1.toInt from r58) (show a1.toInt ≤ 3 from t59) (show 0 ≤ a2.toInt from r60) (show a2.toInt ≤ 1073741824 from t61) (show 0 ≤ a3.toInt from r62) (show a3.toInt ≤ 120 from t63) (show 0 ≤ a4.toInt from r64) (show a4.toInt ≤ 9 from t65) (show 0 ≤ a6.toInt from r66) (show a6.toInt ≤ 120 from t67) (show 0 ≤ v145_8.toInt from r68) (show v145_8.toInt ≤ 1073741944 from t69) (show 0 ≤ v145_9.toInt from r70) (show v145_9.toInt ≤ 1 from t71) (show (-1) ≤ r89.toInt by omega) (show r89.toInt ≤ 11 by omega) (show 0 ≤ f145_12__9_a1_toInt_217_toNat.toInt from r72) (show f145_12__9_a1_toInt_217_toNat.toInt ≤ 9 from t73)  hw hT hF c88 (lv_sub hl [1, 2, 3, 4, 5, 6, 7, 8, 9, 10, 0] rfl)
      · refine lv_if_ne (tgt := 182) hx hb dX12_leads_178 (by decide) (fun _ => ?_) (fun c => absurd c (by decide))
        refine lv_iload_n hx hb dX12_leads_182 rfl (lv_at hl 4 rfl) ?_
        refine lv_aload_n hx hb dX12_leads_183 rfl (lv_at hl 1 rfl) ?_
        refine lv_iload hx hb dX12_leads_184 (lv_at hl 0 rfl) ?_
        refine lv_iconst (v := 2) hx hb dX12_leads_186 (by decide) ?_
        refine tk_Vi hC hK hw hT hA hE hSR kM_at0 (by decide) rfl (k_X12_streetOf_6 l adK adV dC dI cy ad B (by omega) (by omega) qr s1   r89 (show 0 ≤ r89.toInt by omega) (show r89.toInt ≤ 11 by omega) w85 H.size hT ) (cwV 2 hC.2.2.2.2 uV_RX12_300 rfl rfl rfl (by decide +kernel) ⟨Nat.le_of_ble_eq_true rfl, Nat.le_of_ble_eq_true rfl⟩) rfl hl.1 rfl (Nat.le_of_ble_eq_true rfl) dX12_leads_187 (fun r574 w576 H locs hp575 hw => ?_)
        obtain ⟨rfl, hg581⟩ := hp575
        obtain ⟨g578, g579, c580⟩ := hg581
        refine lv_iadd hx hb dX12_leads_190 ?_
        refine lv_topi (fun x582 ex582 => ?_)
        have ex582 : x582.toInt = a3.toInt + r574.toInt := by rw [ex582]; exact wk_add (show (-2147483648) ≤ a3.toInt + r574.toInt by omega) (show a3.toInt + r574.toInt ≤ 2147483647 by omega)
        refine lv_istore (lv' := [(11, .int x582), (10, .int r89), (0, .ref (ad 0)), (1, .int a1), (2, .int a2), (3, .int a3), (4, .int a4), (5, .int 1), (6, .int a6), (7, .int v145_7), (8, .int v145_8), (9, .int v145_9)]) hx hb dX12_leads_191 hl (by decide) rfl (fun ls hl => ?_)
        refine lv_iload hx hb dX12_leads_193 (lv_at hl 0 rfl) ?_
        refine lv_iload hx hb dX12_leads_195 (lv_at hl 8 rfl) ?_
        refine lv_icmp_gt (tgt := 241) hx hb dX12_leads_197 (by decide) (fun c583 => ?_) (fun c583 => ?_)
        · have c583 : a6.toInt < x582.toInt := wk_lt.mp c583
          exact J241 v145_7 v145_8 v145_9 r89 x582 f145_12__9_a1_toInt_217_toNat x106 H locs ls w85 (show 0 ≤ a1.toInt from r58) (show a1.toInt ≤ 3 from t59) (show 0 ≤ a2.toInt from r60) (show a2.toInt ≤ 1073741824 from t61) (show 0 ≤ a3.toInt from r62) (show a3.toInt ≤ 120 from t63) (show 0 ≤ a4.toInt from r64) (show a4.toInt ≤ 9 from t65) (show 0 ≤ a6.toInt from r66) (show a6.toInt ≤ 120 from t67) (show 0 ≤ v145_8.toInt from r68) (show v145_8.toInt ≤ 1073741944 from t69) (show 0 ≤ v145_9.toInt from r70) (show v145_9.toInt ≤ 1 from t71) (show 0 ≤ r89.toInt by omega) (show r89.toInt ≤ 11 by omega) (show 0 ≤ x582.toInt by omega) (show x582.toInt ≤ 129 by omega) (show 0 ≤ f145_12__9_a1_toInt_217_toNat.toInt from r72) (show f145_12__9_a1_toInt_217_toNat.toInt ≤ 9 from t73) (show 1 ≤ x106.toInt by omega) (show x106.toInt ≤ 12 by omega)  hw hT hF c88 c107 (lv_sub hl [2, 3, 4, 5, 6, 7, 8, 9, 10, 11, 1, 0] rfl)
        · have c583 : x582.toInt ≤ a6.toInt := wk_ltF c583
          refine lv_aload_n hx hb dX12_leads_200 rfl (lv_at hl 2 rfl) ?_
          refine lv_iload hx hb dX12_leads_201 (lv_at hl 0 rfl) ?_
          refine lv_aload_n hx hb dX12_leads_203 rfl (lv_at hl 2 rfl) ?_
          refine lv_iload hx hb dX12_leads_204 (lv_at hl 1 rfl) ?_
          refine lv_iload hx hb dX12_leads_206 (lv_at hl 6 rfl) ?_
          refine tk_Vi hC hK hw hT hA hE hSR kM_at0 (by decide) rfl (k_X12_otherOf_1 l adK adV dC dI cy ad B (by omega) (by omega) qr s1   r89 (show 0 ≤ r89.toInt by omega) (show r89.toInt ≤ 11 by omega) a4 (show 0 ≤ a4.toInt from r64) (show a4.toInt ≤ 9 from t65) w85 H.size hT ) (cwV 2 hC.2.2.2.2 uV_RX12_348 rfl rfl rfl (by decide +kernel) ⟨Nat.le_of_ble_eq_true rfl, Nat.le_of_ble_eq_true rfl⟩) rfl hl.1 rfl (Nat.le_of_ble_eq_true rfl) dX12_leads_208 (fun r584 w586 H locs hp585 hw => ?_)
          obtain ⟨rfl, hg593⟩ := hp585
          rcases hg593 with ⟨g588, g589⟩ | ⟨g590, g591, c592⟩
          · refine lv_iload hx hb dX12_leads_211 (lv_at hl 7 rfl) ?_
            refine lv_if_eq (tgt := 235) hx hb dX12_leads_213 (by decide) (fun c => absurd c (by decide)) (fun _ => ?_)
            refine lv_iload_n hx hb dX12_leads_216 rfl (lv_at hl 4 rfl) ?_
            refine lv_iload hx hb dX12_leads_217 (lv_at hl 0 rfl) ?_
            refine lv_iadd hx hb dX12_leads_219 ?_
            refine lv_topi (fun x594 ex594 => ?_)
            have ex594 : x594.toInt = a2.toInt + x582.toInt := by rw [ex594]; exact wk_add (show (-2147483648) ≤ a2.toInt + x582.toInt by omega) (show a2.toInt + x582.toInt ≤ 2147483647 by omega)
            refine lv_bipush (v := 24) hx hb dX12_leads_220 (by decide) ?_
            refine lv_idiv hx hb dX12_leads_222 (by decide) ?_
            refine lv_topi (fun x595 ex595 => ?_)
            have ex595 : x595.toInt = x594.toInt / (24 : Int) := by rw [ex595]; exact wk_div (show 0 ≤ x594.toInt by omega) (show 0 < (24 : Int) by decide)
            refine lv_iload hx hb dX12_leads_223 (lv_at hl 10 rfl) ?_
            refine lv_bipush (v := 24) hx hb dX12_leads_225 (by decide) ?_
            refine lv_idiv hx hb dX12_leads_227 (by decide) ?_
            refine lv_topi (fun x596 ex596 => ?_)
            have ex596 : x596.toInt = v145_8.toInt / (24 : Int) := by rw [ex596]; exact wk_div (show 0 ≤ v145_8.toInt from r68) (show 0 < (24 : Int) by decide)
            refine lv_icmp_ne (tgt := 235) hx hb dX12_leads_228 (by decide) (fun c597 => ?_) (fun c597 => ?_)
            · have c597 : ¬ x595.toInt = x596.toInt := wk_eqF c597
              refine lv_iconst (v := 0) hx hb dX12_leads_235 (by decide) ?_
              refine lv_iload hx hb dX12_leads_236 (lv_at hl 9 rfl) ?_
              refine tk_Vv hC hK hw hT hA hE hSR kM_at0 (by decide) rfl (k_X12_could_3 l adK adV dC dI cy ad B (by omega) (by omega) qr s1   x582 (show 0 ≤ x582.toInt by omega) (show x582.toInt ≤ 120 by omega) r584 (show 0 ≤ r584.toInt by omega) (show r584.toInt ≤ 9 by omega) v145_7 w85 H.size hT ) (cwV 4 hC.2.2.2.2 uV_RX12_439 rfl rfl rfl (by decide +kernel) ⟨Nat.le_of_ble_eq_true rfl, Nat.le_of_ble_eq_true rfl⟩) rfl hl.1 rfl (Nat.le_of_ble_eq_true rfl) dX12_leads_238 (fun w600 H locs hp599 hw => ?_)
              obtain ⟨hT, k601, hg602⟩ := hp599
              have hF := hF.tr k601 (by decide)
              have c603 := k601.gi kM_at12 rfl c88
              have c604 := k601.gi kM_at12 (by decide) c107
              have c605 := k601.gi kM_at12 rfl c108
              have c606 := k601.gi kM_at12 rfl c566
              have c607 := k601.gi kM_at12 rfl c580
              clear hg602
              exact J241 v145_7 v145_8 v145_9 r89 x582 f145_12__9_a1_toInt_217_toNat x106 H locs ls w600 (show 0 ≤ a1.toInt from r58) (show a1.toInt ≤ 3 from t59) (show 0 ≤ a2.toInt from r60) (show a2.toInt ≤ 1073741824 from t61) (show 0 ≤ a3.toInt from r62) (show a3.toInt ≤ 120 from t63) (show 0 ≤ a4.toInt from r64) (show a4.toInt ≤ 9 from t65) (show 0 ≤ a6.toInt from r66) (show a6.toInt ≤ 120 from t67) (show 0 ≤ v145_8.toInt from r68) (show v145_8.toInt ≤ 1073741944 from t69) (show 0 ≤ v145_9.toInt from r70) (show v145_9.toInt ≤ 1 from t71) (show 0 ≤ r89.toInt by omega) (show r89.toInt ≤ 11 by omega) (show 0 ≤ x582.toInt by omega) (show x582.toInt ≤ 129 by omega) (show 0 ≤ f145_12__9_a1_toInt_217_toNat.toInt from r72) (show f145_12__9_a1_toInt_217_toNat.toInt ≤ 9 from t73) (show 1 ≤ x106.toInt by omega) (show x106.toInt ≤ 12 by omega)  hw hT hF c603 c604 (lv_sub hl [2, 3, 4, 5, 6, 7, 8, 9, 10, 11, 1, 0] rfl)
            · have c597 : x595.toInt = x596.toInt := wk_eq.mp c597
              refine lv_iconst (v := 1) hx hb dX12_leads_231 (by decide) ?_
              refine lv_goto (tgt := 236) hx hb dX12_leads_232 (by decide) ?_
              refine lv_iload hx hb dX12_leads_236 (lv_at hl 9 rfl) ?_
              refine tk_Vv hC hK hw hT hA hE hSR kM_at0 (by decide) rfl (k_X12_could_6 l adK adV dC dI cy ad B (by omega) (by omega) qr s1   x582 (show 0 ≤ x582.toInt by omega) (show x582.toInt ≤ 120 by omega) r584 (show 0 ≤ r584.toInt by omega) (show r584.toInt ≤ 9 by omega) v145_7 w85 H.size hT ) (cwV 4 hC.2.2.2.2 uV_RX12_439 rfl rfl rfl (by decide +kernel) ⟨Nat.le_of_ble_eq_true rfl, Nat.le_of_ble_eq_true rfl⟩) rfl hl.1 rfl (Nat.le_of_ble_eq_true rfl) dX12_leads_238 (fun w610 H locs hp609 hw => ?_)
              obtain ⟨hT, k611, hg612⟩ := hp609
              have hF := hF.tr k611 (by decide)
              have c613 := k611.gi kM_at12 rfl c88
              have c614 := k611.gi kM_at12 (by decide) c107
              have c615 := k611.gi kM_at12 rfl c108
              have c616 := k611.gi kM_at12 rfl c566
              have c617 := k611.gi kM_at12 rfl c580
              clear hg612
              exact J241 v145_7 v145_8 v145_9 r89 x582 f145_12__9_a1_toInt_217_toNat x106 H locs ls w610 (show 0 ≤ a1.toInt from r58) (show a1.toInt ≤ 3 from t59) (show 0 ≤ a2.toInt from r60) (show a2.toInt ≤ 1073741824 from t61) (show 0 ≤ a3.toInt from r62) (show a3.toInt ≤ 120 from t63) (show 0 ≤ a4.toInt from r64) (show a4.toInt ≤ 9 from t65) (show 0 ≤ a6.toInt from r66) (show a6.toInt ≤ 120 from t67) (show 0 ≤ v145_8.toInt from r68) (show v145_8.toInt ≤ 1073741944 from t69) (show 0 ≤ v145_9.toInt from r70) (show v145_9.toInt ≤ 1 from t71) (show 0 ≤ r89.toInt by omega) (show r89.toInt ≤ 11 by omega) (show 0 ≤ x582.toInt by omega) (show x582.toInt ≤ 129 by omega) (show 0 ≤ f145_12__9_a1_toInt_217_toNat.toInt from r72) (show f145_12__9_a1_toInt_217_toNat.toInt ≤ 9 from t73) (show 1 ≤ x106.toInt by omega) (show x106.toInt ≤ 12 by omega)  hw hT hF c613 c614 (lv_sub hl [2, 3, 4, 5, 6, 7, 8, 9, 10, 11, 1, 0] rfl)
          · refine lv_iload hx hb dX12_leads_211 (lv_at hl 7 rfl) ?_
            refine lv_if_eq (tgt := 235) hx hb dX12_leads_213 (by decide) (fun c => absurd c (by decide)) (fun _ => ?_)
            refine lv_iload_n hx hb dX12_leads_216 rfl (lv_at hl 4 rfl) ?_
            refine lv_iload hx hb dX12_leads_217 (lv_at hl 0 rfl) ?_
            refine lv_iadd hx hb dX12_leads_219 ?_
            refine lv_topi (fun x618 ex618 => ?_)
            have ex618 : x618.toInt = a2.toInt + x582.toInt := by rw [ex618]; exact wk_add (show (-2147483648) ≤ a2.toInt + x582.toInt by omega) (show a2.toInt + x582.toInt ≤ 2147483647 by omega)
            refine lv_bipush (v := 24) hx hb dX12_leads_220 (by decide) ?_
            refine lv_idiv hx hb dX12_leads_222 (by decide) ?_
            refine lv_topi (fun x619 ex619 => ?_)
            have ex619 : x619.toInt = x618.toInt / (24 : Int) := by rw [ex619]; exact wk_div (show 0 ≤ x618.toInt by omega) (show 0 < (24 : Int) by decide)
            refine lv_iload hx hb dX12_leads_223 (lv_at hl 10 rfl) ?_
            refine lv_bipush (v := 24) hx hb dX12_leads_225 (by decide) ?_
            refine lv_idiv hx hb dX12_leads_227 (by decide) ?_
            refine lv_topi (fun x620 ex620 => ?_)
            have ex620 : x620.toInt = v145_8.toInt / (24 : Int) := by rw [ex620]; exact wk_div (show 0 ≤ v145_8.toInt from r68) (show 0 < (24 : Int) by decide)
            refine lv_icmp_ne (tgt := 235) hx hb dX12_leads_228 (by decide) (fun c621 => ?_) (fun c621 => ?_)
            · have c621 : ¬ x619.toInt = x620.toInt := wk_eqF c621
              refine lv_iconst (v := 0) hx hb dX12_leads_235 (by decide) ?_
              refine lv_iload hx hb dX12_leads_236 (lv_at hl 9 rfl) ?_
              refine tk_Vv hC hK hw hT hA hE hSR kM_at0 (by decide) rfl (k_X12_could_3 l adK adV dC dI cy ad B (by omega) (by omega) qr s1   x582 (show 0 ≤ x582.toInt by omega) (show x582.toInt ≤ 120 by omega) r584 (show 0 ≤ r584.toInt by omega) (show r584.toInt ≤ 9 by omega) v145_7 w85 H.size hT ) (cwV 4 hC.2.2.2.2 uV_RX12_439 rfl rfl rfl (by decide +kernel) ⟨Nat.le_of_ble_eq_true rfl, Nat.le_of_ble_eq_true rfl⟩) rfl hl.1 rfl (Nat.le_of_ble_eq_true rfl) dX12_leads_238 (fun w624 H locs hp623 hw => ?_)
              obtain ⟨hT, k625, hg626⟩ := hp623
              have hF := hF.tr k625 (by decide)
              have c627 := k625.gi kM_at12 rfl c88
              have c628 := k625.gi kM_at12 (by decide) c107
              have c629 := k625.gi kM_at12 rfl c108
              have c630 := k625.gi kM_at12 rfl c566
              have c631 := k625.gi kM_at12 rfl c580
              clear hg626
              exact J241 v145_7 v145_8 v145_9 r89 x582 f145_12__9_a1_toInt_217_toNat x106 H locs ls w624 (show 0 ≤ a1.toInt from r58) (show a1.toInt ≤ 3 from t59) (show 0 ≤ a2.toInt from r60) (show a2.toInt ≤ 1073741824 from t61) (show 0 ≤ a3.toInt from r62) (show a3.toInt ≤ 120 from t63) (show 0 ≤ a4.toInt from r64) (show a4.toInt ≤ 9 from t65) (show 0 ≤ a6.toInt from r66) (show a6.toInt ≤ 120 from t67) (show 0 ≤ v145_8.toInt from r68) (show v145_8.toInt ≤ 1073741944 from t69) (show 0 ≤ v145_9.toInt from r70) (show v145_9.toInt ≤ 1 from t71) (show 0 ≤ r89.toInt by omega) (show r89.toInt ≤ 11 by omega) (show 0 ≤ x582.toInt by omega) (show x582.toInt ≤ 129 by omega) (show 0 ≤ f145_12__9_a1_toInt_217_toNat.toInt from r72) (show f145_12__9_a1_toInt_217_toNat.toInt ≤ 9 from t73) (show 1 ≤ x106.toInt by omega) (show x106.toInt ≤ 12 by omega)  hw hT hF c627 c628 (lv_sub hl [2, 3, 4, 5, 6, 7, 8, 9, 10, 11, 1, 0] rfl)
            · have c621 : x619.toInt = x620.toInt := wk_eq.mp c621
              refine lv_iconst (v := 1) hx hb dX12_leads_231 (by decide) ?_
              refine lv_goto (tgt := 236) hx hb dX12_leads_232 (by decide) ?_
              refine lv_iload hx hb dX12_leads_236 (lv_at hl 9 rfl) ?_
              refine tk_Vv hC hK hw hT hA hE hSR kM_at0 (by decide) rfl (k_X12_could_6 l adK adV dC dI cy ad B (by omega) (by omega) qr s1   x582 (show 0 ≤ x582.toInt by omega) (show x582.toInt ≤ 120 by omega) r584 (show 0 ≤ r584.toInt by omega) (show r584.toInt ≤ 9 by omega) v145_7 w85 H.size hT ) (cwV 4 hC.2.2.2.2 uV_RX12_439 rfl rfl rfl (by decide +kernel) ⟨Nat.le_of_ble_eq_true rfl, Nat.le_of_ble_eq_true rfl⟩) rfl hl.1 rfl (Nat.le_of_ble_eq_true rfl) dX12_leads_238 (fun w634 H locs hp633 hw => ?_)
              obtain ⟨hT, k635, hg636⟩ := hp633
              have hF := hF.tr k635 (by decide)
              have c637 := k635.gi kM_at12 rfl c88
              have c638 := k635.gi kM_at12 (by decide) c107
              have c639 := k635.gi kM_at12 rfl c108
              have c640 := k635.gi kM_at12 rfl c566
              have c641 := k635.gi kM_at12 rfl c580
              clear hg636
              exact J241 v145_7 v145_8 v145_9 r89 x582 f145_12__9_a1_toInt_217_toNat x106 H locs ls w634 (show 0 ≤ a1.toInt from r58) (show a1.toInt ≤ 3 from t59) (show 0 ≤ a2.toInt from r60) (show a2.toInt ≤ 1073741824 from t61) (show 0 ≤ a3.toInt from r62) (show a3.toInt ≤ 120 from t63) (show 0 ≤ a4.toInt from r64) (show a4.toInt ≤ 9 from t65) (show 0 ≤ a6.toInt from r66) (show a6.toInt ≤ 120 from t67) (show 0 ≤ v145_8.toInt from r68) (show v145_8.toInt ≤ 1073741944 from t69) (show 0 ≤ v145_9.toInt from r70) (show v145_9.toInt ≤ 1 from t71) (show 0 ≤ r89.toInt by omega) (show r89.toInt ≤ 11 by omega) (show 0 ≤ x582.toInt by omega) (show x582.toInt ≤ 129 by omega) (show 0 ≤ f145_12__9_a1_toInt_217_toNat.toInt from r72) (show f145_12__9_a1_toInt_217_toNat.toInt ≤ 9 from t73) (show 1 ≤ x106.toInt by omega) (show x106.toInt ≤ 12 by omega)  hw hT hF c637 c638 (lv_sub hl [2, 3, 4, 5, 6, 7, 8, 9, 10, 11, 1, 0] rfl)
      · refine lv_if_ne (tgt := 182) hx hb dX12_leads_178 (by decide) (fun _ => ?_) (fun c => absurd c (by decide))
        refine lv_iload_n hx hb dX12_leads_182 rfl (lv_at hl 4 rfl) ?_
        refine lv_aload_n hx hb dX12_leads_183 rfl (lv_at hl 1 rfl) ?_
        refine lv_iload hx hb dX12_leads_184 (lv_at hl 0 rfl) ?_
        refine lv_iconst (v := 2) hx hb dX12_leads_186 (by decide) ?_
        refine tk_Vi hC hK hw hT hA hE hSR kM_at0 (by decide) rfl (k_X12_streetOf_6 l adK adV dC dI cy ad B (by omega) (by omega) qr s1   r89 (show 0 ≤ r89.toInt by omega) (show r89.toInt ≤ 11 by omega) w85 H.size hT ) (cwV 2 hC.2.2.2.2 uV_RX12_300 rfl rfl rfl (by decide +kernel) ⟨Nat.le_of_ble_eq_true rfl, Nat.le_of_ble_eq_true rfl⟩) rfl hl.1 rfl (Nat.le_of_ble_eq_true rfl) dX12_leads_187 (fun r642 w644 H locs hp643 hw => ?_)
        obtain ⟨rfl, hg649⟩ := hp643
        obtain ⟨g646, g647, c648⟩ := hg649
        refine lv_iadd hx hb dX12_leads_190 ?_
        refine lv_topi (fun x650 ex650 => ?_)
        have ex650 : x650.toInt = a3.toInt + r642.toInt := by rw [ex650]; exact wk_add (show (-2147483648) ≤ a3.toInt + r642.toInt by omega) (show a3.toInt + r642.toInt ≤ 2147483647 by omega)
        refine lv_istore (lv' := [(11, .int x650), (10, .int r89), (0, .ref (ad 0)), (1, .int a1), (2, .int a2), (3, .int a3), (4, .int a4), (5, .int 1), (6, .int a6), (7, .int v145_7), (8, .int v145_8), (9, .int v145_9)]) hx hb dX12_leads_191 hl (by decide) rfl (fun ls hl => ?_)
        refine lv_iload hx hb dX12_leads_193 (lv_at hl 0 rfl) ?_
        refine lv_iload hx hb dX12_leads_195 (lv_at hl 8 rfl) ?_
        refine lv_icmp_gt (tgt := 241) hx hb dX12_leads_197 (by decide) (fun c651 => ?_) (fun c651 => ?_)
        · have c651 : a6.toInt < x650.toInt := wk_lt.mp c651
          exact J241 v145_7 v145_8 v145_9 r89 x650 f145_12__9_a1_toInt_217_toNat x106 H locs ls w85 (show 0 ≤ a1.toInt from r58) (show a1.toInt ≤ 3 from t59) (show 0 ≤ a2.toInt from r60) (show a2.toInt ≤ 1073741824 from t61) (show 0 ≤ a3.toInt from r62) (show a3.toInt ≤ 120 from t63) (show 0 ≤ a4.toInt from r64) (show a4.toInt ≤ 9 from t65) (show 0 ≤ a6.toInt from r66) (show a6.toInt ≤ 120 from t67) (show 0 ≤ v145_8.toInt from r68) (show v145_8.toInt ≤ 1073741944 from t69) (show 0 ≤ v145_9.toInt from r70) (show v145_9.toInt ≤ 1 from t71) (show 0 ≤ r89.toInt by omega) (show r89.toInt ≤ 11 by omega) (show 0 ≤ x650.toInt by omega) (show x650.toInt ≤ 129 by omega) (show 0 ≤ f145_12__9_a1_toInt_217_toNat.toInt from r72) (show f145_12__9_a1_toInt_217_toNat.toInt ≤ 9 from t73) (show 1 ≤ x106.toInt by omega) (show x106.toInt ≤ 12 by omega)  hw hT hF c88 c107 (lv_sub hl [2, 3, 4, 5, 6, 7, 8, 9, 10, 11, 1, 0] rfl)
        · have c651 : x650.toInt ≤ a6.toInt := wk_ltF c651
          refine lv_aload_n hx hb dX12_leads_200 rfl (lv_at hl 2 rfl) ?_
          refine lv_iload hx hb dX12_leads_201 (lv_at hl 0 rfl) ?_
          refine lv_aload_n hx hb dX12_leads_203 rfl (lv_at hl 2 rfl) ?_
          refine lv_iload hx hb dX12_leads_204 (lv_at hl 1 rfl) ?_
          refine lv_iload hx hb dX12_leads_206 (lv_at hl 6 rfl) ?_
          refine tk_Vi hC hK hw hT hA hE hSR kM_at0 (by decide) rfl (k_X12_otherOf_1 l adK adV dC dI cy ad B (by omega) (by omega) qr s1   r89 (show 0 ≤ r89.toInt by omega) (show r89.toInt ≤ 11 by omega) a4 (show 0 ≤ a4.toInt from r64) (show a4.toInt ≤ 9 from t65) w85 H.size hT ) (cwV 2 hC.2.2.2.2 uV_RX12_348 rfl rfl rfl (by decide +kernel) ⟨Nat.le_of_ble_eq_true rfl, Nat.le_of_ble_eq_true rfl⟩) rfl hl.1 rfl (Nat.le_of_ble_eq_true rfl) dX12_leads_208 (fun r652 w654 H locs hp653 hw => ?_)
          obtain ⟨rfl, hg661⟩ := hp653
          rcases hg661 with ⟨g656, g657⟩ | ⟨g658, g659, c660⟩
          · refine lv_iload hx hb dX12_leads_211 (lv_at hl 7 rfl) ?_
            refine lv_if_eq (tgt := 235) hx hb dX12_leads_213 (by decide) (fun c => absurd c (by decide)) (fun _ => ?_)
            refine lv_iload_n hx hb dX12_leads_216 rfl (lv_at hl 4 rfl) ?_
            refine lv_iload hx hb dX12_leads_217 (lv_at hl 0 rfl) ?_
            refine lv_iadd hx hb dX12_leads_219 ?_
            refine lv_topi (fun x662 ex662 => ?_)
            have ex662 : x662.toInt = a2.toInt + x650.toInt := by rw [ex662]; exact wk_add (show (-2147483648) ≤ a2.toInt + x650.toInt by omega) (show a2.toInt + x650.toInt ≤ 2147483647 by omega)
            refine lv_bipush (v := 24) hx hb dX12_leads_220 (by decide) ?_
            refine lv_idiv hx hb dX12_leads_222 (by decide) ?_
            refine lv_topi (fun x663 ex663 => ?_)
            have ex663 : x663.toInt = x662.toInt / (24 : Int) := by rw [ex663]; exact wk_div (show 0 ≤ x662.toInt by omega) (show 0 < (24 : Int) by decide)
            refine lv_iload hx hb dX12_leads_223 (lv_at hl 10 rfl) ?_
            refine lv_bipush (v := 24) hx hb dX12_leads_225 (by decide) ?_
            refine lv_idiv hx hb dX12_leads_227 (by decide) ?_
            refine lv_topi (fun x664 ex664 => ?_)
            have ex664 : x664.toInt = v145_8.toInt / (24 : Int) := by rw [ex664]; exact wk_div (show 0 ≤ v145_8.toInt from r68) (show 0 < (24 : Int) by decide)
            refine lv_icmp_ne (tgt := 235) hx hb dX12_leads_228 (by decide) (fun c665 => ?_) (fun c665 => ?_)
            · have c665 : ¬ x663.toInt = x664.toInt := wk_eqF c665
              refine lv_iconst (v := 0) hx hb dX12_leads_235 (by decide) ?_
              refine lv_iload hx hb dX12_leads_236 (lv_at hl 9 rfl) ?_
              refine tk_Vv hC hK hw hT hA hE hSR kM_at0 (by decide) rfl (k_X12_could_3 l adK adV dC dI cy ad B (by omega) (by omega) qr s1   x650 (show 0 ≤ x650.toInt by omega) (show x650.toInt ≤ 120 by omega) r652 (show 0 ≤ r652.toInt by omega) (show r652.toInt ≤ 9 by omega) v145_7 w85 H.size hT ) (cwV 4 hC.2.2.2.2 uV_RX12_439 rfl rfl rfl (by decide +kernel) ⟨Nat.le_of_ble_eq_true rfl, Nat.le_of_ble_eq_true rfl⟩) rfl hl.1 rfl (Nat.le_of_ble_eq_true rfl) dX12_leads_238 (fun w668 H locs hp667 hw => ?_)
              obtain ⟨hT, k669, hg670⟩ := hp667
              have hF := hF.tr k669 (by decide)
              have c671 := k669.gi kM_at12 rfl c88
              have c672 := k669.gi kM_at12 (by decide) c107
              have c673 := k669.gi kM_at12 rfl c108
              have c674 := k669.gi kM_at12 rfl c569
              have c675 := k669.gi kM_at12 rfl c648
              clear hg670
              exact J241 v145_7 v145_8 v145_9 r89 x650 f145_12__9_a1_toInt_217_toNat x106 H locs ls w668 (show 0 ≤ a1.toInt from r58) (show a1.toInt ≤ 3 from t59) (show 0 ≤ a2.toInt from r60) (show a2.toInt ≤ 1073741824 from t61) (show 0 ≤ a3.toInt from r62) (show a3.toInt ≤ 120 from t63) (show 0 ≤ a4.toInt from r64) (show a4.toInt ≤ 9 from t65) (show 0 ≤ a6.toInt from r66) (show a6.toInt ≤ 120 from t67) (show 0 ≤ v145_8.toInt from r68) (show v145_8.toInt ≤ 1073741944 from t69) (show 0 ≤ v145_9.toInt from r70) (show v145_9.toInt ≤ 1 from t71) (show 0 ≤ r89.toInt by omega) (show r89.toInt ≤ 11 by omega) (show 0 ≤ x650.toInt by omega) (show x650.toInt ≤ 129 by omega) (show 0 ≤ f145_12__9_a1_toInt_217_toNat.toInt from r72) (show f145_12__9_a1_toInt_217_toNat.toInt ≤ 9 from t73) (show 1 ≤ x106.toInt by omega) (show x106.toInt ≤ 12 by omega)  hw hT hF c671 c672 (lv_sub hl [2, 3, 4, 5, 6, 7, 8, 9, 10, 11, 1, 0] rfl)
            · have c665 : x663.toInt = x664.toInt := wk_eq.mp c665
              refine lv_iconst (v := 1) hx hb dX12_leads_231 (by decide) ?_
              refine lv_goto (tgt := 236) hx hb dX12_leads_232 (by decide) ?_
              refine lv_iload hx hb dX12_leads_236 (lv_at hl 9 rfl) ?_
              refine tk_Vv hC hK hw hT hA hE hSR kM_at0 (by decide) rfl (k_X12_could_6 l adK adV dC dI cy ad B (by omega) (by omega) qr s1   x650 (show 0 ≤ x650.toInt by omega) (show x650.toInt ≤ 120 by omega) r652 (show 0 ≤ r652.toInt by omega) (show r652.toInt ≤ 9 by omega) v145_7 w85 H.size hT ) (cwV 4 hC.2.2.2.2 uV_RX12_439 rfl rfl rfl (by decide +kernel) ⟨Nat.le_of_ble_eq_true rfl, Nat.le_of_ble_eq_true rfl⟩) rfl hl.1 rfl (Nat.le_of_ble_eq_true rfl) dX12_leads_238 (fun w678 H locs hp677 hw => ?_)
              obtain ⟨hT, k679, hg680⟩ := hp677
              have hF := hF.tr k679 (by decide)
              have c681 := k679.gi kM_at12 rfl c88
              have c682 := k679.gi kM_at12 (by decide) c107
              have c683 := k679.gi kM_at12 rfl c108
              have c684 := k679.gi kM_at12 rfl c569
              have c685 := k679.gi kM_at12 rfl c648
              clear hg680
              exact J241 v145_7 v145_8 v145_9 r89 x650 f145_12__9_a1_toInt_217_toNat x106 H locs ls w678 (show 0 ≤ a1.toInt from r58) (show a1.toInt ≤ 3 from t59) (show 0 ≤ a2.toInt from r60) (show a2.toInt ≤ 1073741824 from t61) (show 0 ≤ a3.toInt from r62) (show a3.toInt ≤ 120 from t63) (show 0 ≤ a4.toInt from r64) (show a4.toInt ≤ 9 from t65) (show 0 ≤ a6.toInt from r66) (show a6.toInt ≤ 120 from t67) (show 0 ≤ v145_8.toInt from r68) (show v145_8.toInt ≤ 1073741944 from t69) (show 0 ≤ v145_9.toInt from r70) (show v145_9.toInt ≤ 1 from t71) (show 0 ≤ r89.toInt by omega) (show r89.toInt ≤ 11 by omega) (show 0 ≤ x650.toInt by omega) (show x650.toInt ≤ 129 by omega) (show 0 ≤ f145_12__9_a1_toInt_217_toNat.toInt from r72) (show f145_12__9_a1_toInt_217_toNat.toInt ≤ 9 from t73) (show 1 ≤ x106.toInt by omega) (show x106.toInt ≤ 12 by omega)  hw hT hF c681 c682 (lv_sub hl [2, 3, 4, 5, 6, 7, 8, 9, 10, 11, 1, 0] rfl)
          · refine lv_iload hx hb dX12_leads_211 (lv_at hl 7 rfl) ?_
            refine lv_if_eq (tgt := 235) hx hb dX12_leads_213 (by decide) (fun c => absurd c (by decide)) (fun _ => ?_)
            refine lv_iload_n hx hb dX12_leads_216 rfl (lv_at hl 4 rfl) ?_
            refine lv_iload hx hb dX12_leads_217 (lv_at hl 0 rfl) ?_
            refine lv_iadd hx hb dX12_leads_219 ?_
            refine lv_topi (fun x686 ex686 => ?_)
            have ex686 : x686.toInt = a2.toInt + x650.toInt := by rw [ex686]; exact wk_add (show (-2147483648) ≤ a2.toInt + x650.toInt by omega) (show a2.toInt + x650.toInt ≤ 2147483647 by omega)
            refine lv_bipush (v := 24) hx hb dX12_leads_220 (by decide) ?_
            refine lv_idiv hx hb dX12_leads_222 (by decide) ?_
            refine lv_topi (fun x687 ex687 => ?_)
            have ex687 : x687.toInt = x686.toInt / (24 : Int) := by rw [ex687]; exact wk_div (show 0 ≤ x686.toInt by omega) (show 0 < (24 : Int) by decide)
            refine lv_iload hx hb dX12_leads_223 (lv_at hl 10 rfl) ?_
            refine lv_bipush (v := 24) hx hb dX12_leads_225 (by decide) ?_
            refine lv_idiv hx hb dX12_leads_227 (by decide) ?_
            refine lv_topi (fun x688 ex688 => ?_)
            have ex688 : x688.toInt = v145_8.toInt / (24 : Int) := by rw [ex688]; exact wk_div (show 0 ≤ v145_8.toInt from r68) (show 0 < (24 : Int) by decide)
            refine lv_icmp_ne (tgt := 235) hx hb dX12_leads_228 (by decide) (fun c689 => ?_) (fun c689 => ?_)
            · have c689 : ¬ x687.toInt = x688.toInt := wk_eqF c689
              refine lv_iconst (v := 0) hx hb dX12_leads_235 (by decide) ?_
              refine lv_iload hx hb dX12_leads_236 (lv_at hl 9 rfl) ?_
              refine tk_Vv hC hK hw hT hA hE hSR kM_at0 (by decide) rfl (k_X12_could_3 l adK adV dC dI cy ad B (by omega) (by omega) qr s1   x650 (show 0 ≤ x650.toInt by omega) (show x650.toInt ≤ 120 by omega) r652 (show 0 ≤ r652.toInt by omega) (show r652.toInt ≤ 9 by omega) v145_7 w85 H.size hT ) (cwV 4 hC.2.2.2.2 uV_RX12_439 rfl rfl rfl (by decide +kernel) ⟨Nat.le_of_ble_eq_true rfl, Nat.le_of_ble_eq_true rfl⟩) rfl hl.1 rfl (Nat.le_of_ble_eq_true rfl) dX12_leads_238 (fun w692 H locs hp691 hw => ?_)
              obtain ⟨hT, k693, hg694⟩ := hp691
              have hF := hF.tr k693 (by decide)
              have c695 := k693.gi kM_at12 rfl c88
              have c696 := k693.gi kM_at12 (by decide) c107
              have c697 := k693.gi kM_at12 rfl c108
              have c698 := k693.gi kM_at12 rfl c569
              have c699 := k693.gi kM_at12 rfl c648
              clear hg694
              exact J241 v145_7 v145_8 v145_9 r89 x650 f145_12__9_a1_toInt_217_toNat x106 H locs ls w692 (show 0 ≤ a1.toInt from r58) (show a1.toInt ≤ 3 from t59) (show 0 ≤ a2.toInt from r60) (show a2.toInt ≤ 1073741824 from t61) (show 0 ≤ a3.toInt from r62) (show a3.toInt ≤ 120 from t63) (show 0 ≤ a4.toInt from r64) (show a4.toInt ≤ 9 from t65) (show 0 ≤ a6.toInt from r66) (show a6.toInt ≤ 120 from t67) (show 0 ≤ v145_8.toInt from r68) (show v145_8.toInt ≤ 1073741944 from t69) (show 0 ≤ v145_9.toInt from r70) (show v145_9.toInt ≤ 1 from t71) (show 0 ≤ r89.toInt by omega) (show r89.toInt ≤ 11 by omega) (show 0 ≤ x650.toInt by omega) (show x650.toInt ≤ 129 by omega) (show 0 ≤ f145_12__9_a1_toInt_217_toNat.toInt from r72) (show f145_12__9_a1_toInt_217_toNat.toInt ≤ 9 from t73) (show 1 ≤ x106.toInt by omega) (show x106.toInt ≤ 12 by omega)  hw hT hF c695 c696 (lv_sub hl [2, 3, 4, 5, 6, 7, 8, 9, 10, 11, 1, 0] rfl)
            · have c689 : x687.toInt = x688.toInt := wk_eq.mp c689
              refine lv_iconst (v := 1) hx hb dX12_leads_231 (by decide) ?_
              refine lv_goto (tgt := 236) hx hb dX12_leads_232 (by decide) ?_
              refine lv_iload hx hb dX12_leads_236 (lv_at hl 9 rfl) ?_
              refine tk_Vv hC hK hw hT hA hE hSR kM_at0 (by decide) rfl (k_X12_could_6 l adK adV dC dI cy ad B (by omega) (by omega) qr s1   x650 (show 0 ≤ x650.toInt by omega) (show x650.toInt ≤ 120 by omega) r652 (show 0 ≤ r652.toInt by omega) (show r652.toInt ≤ 9 by omega) v145_7 w85 H.size hT ) (cwV 4 hC.2.2.2.2 uV_RX12_439 rfl rfl rfl (by decide +kernel) ⟨Nat.le_of_ble_eq_true rfl, Nat.le_of_ble_eq_true rfl⟩) rfl hl.1 rfl (Nat.le_of_ble_eq_true rfl) dX12_leads_238 (fun w702 H locs hp701 hw => ?_)
              obtain ⟨hT, k703, hg704⟩ := hp701
              have hF := hF.tr k703 (by decide)
              have c705 := k703.gi kM_at12 rfl c88
              have c706 := k703.gi kM_at12 (by decide) c107
              have c707 := k703.gi kM_at12 rfl c108
              have c708 := k703.gi kM_at12 rfl c569
              have c709 := k703.gi kM_at12 rfl c648
              clear hg704
              exact J241 v145_7 v145_8 v145_9 r89 x650 f145_12__9_a1_toInt_217_toNat x106 H locs ls w702 (show 0 ≤ a1.toInt from r58) (show a1.toInt ≤ 3 from t59) (show 0 ≤ a2.toInt from r60) (show a2.toInt ≤ 1073741824 from t61) (show 0 ≤ a3.toInt from r62) (show a3.toInt ≤ 120 from t63) (show 0 ≤ a4.toInt from r64) (show a4.toInt ≤ 9 from t65) (show 0 ≤ a6.toInt from r66) (show a6.toInt ≤ 120 from t67) (show 0 ≤ v145_8.toInt from r68) (show v145_8.toInt ≤ 1073741944 from t69) (show 0 ≤ v145_9.toInt from r70) (show v145_9.toInt ≤ 1 from t71) (show 0 ≤ r89.toInt by omega) (show r89.toInt ≤ 11 by omega) (show 0 ≤ x650.toInt by omega) (show x650.toInt ≤ 129 by omega) (show 0 ≤ f145_12__9_a1_toInt_217_toNat.toInt from r72) (show f145_12__9_a1_toInt_217_toNat.toInt ≤ 9 from t73) (show 1 ≤ x106.toInt by omega) (show x106.toInt ≤ 12 by omega)  hw hT hF c705 c706 (lv_sub hl [2, 3, 4, 5, 6, 7, 8, 9, 10, 11, 1, 0] rfl)
      · refine lv_if_ne (tgt := 182) hx hb dX12_leads_178 (by decide) (fun _ => ?_) (fun c => absurd c (by decide))
        refine lv_iload_n hx hb dX12_leads_182 rfl (lv_at hl 4 rfl) ?_
        refine lv_aload_n hx hb dX12_leads_183 rfl (lv_at hl 1 rfl) ?_
        refine lv_iload hx hb dX12_leads_184 (lv_at hl 0 rfl) ?_
        refine lv_iconst (v := 2) hx hb dX12_leads_186 (by decide) ?_
        refine tk_Vi hC hK hw hT hA hE hSR kM_at0 (by decide) rfl (k_X12_streetOf_6 l adK adV dC dI cy ad B (by omega) (by omega) qr s1   r89 (show 0 ≤ r89.toInt by omega) (show r89.toInt ≤ 11 by omega) w85 H.size hT ) (cwV 2 hC.2.2.2.2 uV_RX12_300 rfl rfl rfl (by decide +kernel) ⟨Nat.le_of_ble_eq_true rfl, Nat.le_of_ble_eq_true rfl⟩) rfl hl.1 rfl (Nat.le_of_ble_eq_true rfl) dX12_leads_187 (fun r710 w712 H locs hp711 hw => ?_)
        obtain ⟨rfl, hg717⟩ := hp711
        obtain ⟨g714, g715, c716⟩ := hg717
        refine lv_iadd hx hb dX12_leads_190 ?_
        refine lv_topi (fun x718 ex718 => ?_)
        have ex718 : x718.toInt = a3.toInt + r710.toInt := by rw [ex718]; exact wk_add (show (-2147483648) ≤ a3.toInt + r710.toInt by omega) (show a3.toInt + r710.toInt ≤ 2147483647 by omega)
        refine lv_istore (lv' := [(11, .int x718), (10, .int r89), (0, .ref (ad 0)), (1, .int a1), (2, .int a2), (3, .int a3), (4, .int a4), (5, .int 1), (6, .int a6), (7, .int v145_7), (8, .int v145_8), (9, .int v145_9)]) hx hb dX12_leads_191 hl (by decide) rfl (fun ls hl => ?_)
        refine lv_iload hx hb dX12_leads_193 (lv_at hl 0 rfl) ?_
        refine lv_iload hx hb dX12_leads_195 (lv_at hl 8 rfl) ?_
        refine lv_icmp_gt (tgt := 241) hx hb dX12_leads_197 (by decide) (fun c719 => ?_) (fun c719 => ?_)
        · have c719 : a6.toInt < x718.toInt := wk_lt.mp c719
          exact J241 v145_7 v145_8 v145_9 r89 x718 f145_12__9_a1_toInt_217_toNat x106 H locs ls w85 (show 0 ≤ a1.toInt from r58) (show a1.toInt ≤ 3 from t59) (show 0 ≤ a2.toInt from r60) (show a2.toInt ≤ 1073741824 from t61) (show 0 ≤ a3.toInt from r62) (show a3.toInt ≤ 120 from t63) (show 0 ≤ a4.toInt from r64) (show a4.toInt ≤ 9 from t65) (show 0 ≤ a6.toInt from r66) (show a6.toInt ≤ 120 from t67) (show 0 ≤ v145_8.toInt from r68) (show v145_8.toInt ≤ 1073741944 from t69) (show 0 ≤ v145_9.toInt from r70) (show v145_9.toInt ≤ 1 from t71) (show 0 ≤ r89.toInt by omega) (show r89.toInt ≤ 11 by omega) (show 0 ≤ x718.toInt by omega) (show x718.toInt ≤ 129 by omega) (show 0 ≤ f145_12__9_a1_toInt_217_toNat.toInt from r72) (show f145_12__9_a1_toInt_217_toNat.toInt ≤ 9 from t73) (show 1 ≤ x106.toInt by omega) (show x106.toInt ≤ 12 by omega)  hw hT hF c88 c107 (lv_sub hl [2, 3, 4, 5, 6, 7, 8, 9, 10, 11, 1, 0] rfl)
        · have c719 : x718.toInt ≤ a6.toInt := wk_ltF c719
          refine lv_aload_n hx hb dX12_leads_200 rfl (lv_at hl 2 rfl) ?_
          refine lv_iload hx hb dX12_leads_201 (lv_at hl 0 rfl) ?_
          refine lv_aload_n hx hb dX12_leads_203 rfl (lv_at hl 2 rfl) ?_
          refine lv_iload hx hb dX12_leads_204 (lv_at hl 1 rfl) ?_
          refine lv_iload hx hb dX12_leads_206 (lv_at hl 6 rfl) ?_
          refine tk_Vi hC hK hw hT hA hE hSR kM_at0 (by decide) rfl (k_X12_otherOf_1 l adK adV dC dI cy ad B (by omega) (by omega) qr s1   r89 (show 0 ≤ r89.toInt by omega) (show r89.toInt ≤ 11 by omega) a4 (show 0 ≤ a4.toInt from r64) (show a4.toInt ≤ 9 from t65) w85 H.size hT ) (cwV 2 hC.2.2.2.2 uV_RX12_348 rfl rfl rfl (by decide +kernel) ⟨Nat.le_of_ble_eq_true rfl, Nat.le_of_ble_eq_true rfl⟩) rfl hl.1 rfl (Nat.le_of_ble_eq_true rfl) dX12_leads_208 (fun r720 w722 H locs hp721 hw => ?_)
          obtain ⟨rfl, hg729⟩ := hp721
          rcases hg729 with ⟨g724, g725⟩ | ⟨g726, g727, c728⟩
          · refine lv_iload hx hb dX12_leads_211 (lv_at hl 7 rfl) ?_
            refine lv_if_eq (tgt := 235) hx hb dX12_leads_213 (by decide) (fun c => absurd c (by decide)) (fun _ => ?_)
            refine lv_iload_n hx hb dX12_leads_216 rfl (lv_at hl 4 rfl) ?_
            refine lv_iload hx hb dX12_leads_217 (lv_at hl 0 rfl) ?_
            refine lv_iadd hx hb dX12_leads_219 ?_
            refine lv_topi (fun x730 ex730 => ?_)
            have ex730 : x730.toInt = a2.toInt + x718.toInt := by rw [ex730]; exact wk_add (show (-2147483648) ≤ a2.toInt + x718.toInt by omega) (show a2.toInt + x718.toInt ≤ 2147483647 by omega)
            refine lv_bipush (v := 24) hx hb dX12_leads_220 (by decide) ?_
            refine lv_idiv hx hb dX12_leads_222 (by decide) ?_
            refine lv_topi (fun x731 ex731 => ?_)
            have ex731 : x731.toInt = x730.toInt / (24 : Int) := by rw [ex731]; exact wk_div (show 0 ≤ x730.toInt by omega) (show 0 < (24 : Int) by decide)
            refine lv_iload hx hb dX12_leads_223 (lv_at hl 10 rfl) ?_
            refine lv_bipush (v := 24) hx hb dX12_leads_225 (by decide) ?_
            refine lv_idiv hx hb dX12_leads_227 (by decide) ?_
            refine lv_topi (fun x732 ex732 => ?_)
            have ex732 : x732.toInt = v145_8.toInt / (24 : Int) := by rw [ex732]; exact wk_div (show 0 ≤ v145_8.toInt from r68) (show 0 < (24 : Int) by decide)
            refine lv_icmp_ne (tgt := 235) hx hb dX12_leads_228 (by decide) (fun c733 => ?_) (fun c733 => ?_)
            · have c733 : ¬ x731.toInt = x732.toInt := wk_eqF c733
              refine lv_iconst (v := 0) hx hb dX12_leads_235 (by decide) ?_
              refine lv_iload hx hb dX12_leads_236 (lv_at hl 9 rfl) ?_
              refine tk_Vv hC hK hw hT hA hE hSR kM_at0 (by decide) rfl (k_X12_could_3 l adK adV dC dI cy ad B (by omega) (by omega) qr s1   x718 (show 0 ≤ x718.toInt by omega) (show x718.toInt ≤ 120 by omega) r720 (show 0 ≤ r720.toInt by omega) (show r720.toInt ≤ 9 by omega) v145_7 w85 H.size hT ) (cwV 4 hC.2.2.2.2 uV_RX12_439 rfl rfl rfl (by decide +kernel) ⟨Nat.le_of_ble_eq_true rfl, Nat.le_of_ble_eq_true rfl⟩) rfl hl.1 rfl (Nat.le_of_ble_eq_true rfl) dX12_leads_238 (fun w736 H locs hp735 hw => ?_)
              obtain ⟨hT, k737, hg738⟩ := hp735
              have hF := hF.tr k737 (by decide)
              have c739 := k737.gi kM_at12 rfl c88
              have c740 := k737.gi kM_at12 (by decide) c107
              have c741 := k737.gi kM_at12 rfl c108
              have c742 := k737.gi kM_at12 rfl c716
              clear hg738
              exact J241 v145_7 v145_8 v145_9 r89 x718 f145_12__9_a1_toInt_217_toNat x106 H locs ls w736 (show 0 ≤ a1.toInt from r58) (show a1.toInt ≤ 3 from t59) (show 0 ≤ a2.toInt from r60) (show a2.toInt ≤ 1073741824 from t61) (show 0 ≤ a3.toInt from r62) (show a3.toInt ≤ 120 from t63) (show 0 ≤ a4.toInt from r64) (show a4.toInt ≤ 9 from t65) (show 0 ≤ a6.toInt from r66) (show a6.toInt ≤ 120 from t67) (show 0 ≤ v145_8.toInt from r68) (show v145_8.toInt ≤ 1073741944 from t69) (show 0 ≤ v145_9.toInt from r70) (show v145_9.toInt ≤ 1 from t71) (show 0 ≤ r89.toInt by omega) (show r89.toInt ≤ 11 by omega) (show 0 ≤ x718.toInt by omega) (show x718.toInt ≤ 129 by omega) (show 0 ≤ f145_12__9_a1_toInt_217_toNat.toInt from r72) (show f145_12__9_a1_toInt_217_toNat.toInt ≤ 9 from t73) (show 1 ≤ x106.toInt by omega) (show x106.toInt ≤ 12 by omega)  hw hT hF c739 c740 (lv_sub hl [2, 3, 4, 5, 6, 7, 8, 9, 10, 11, 1, 0] rfl)
            · have c733 : x731.toInt = x732.toInt := wk_eq.mp c733
              refine lv_iconst (v := 1) hx hb dX12_leads_231 (by decide) ?_
              refine lv_goto (tgt := 236) hx hb dX12_leads_232 (by decide) ?_
              refine lv_iload hx hb dX12_leads_236 (lv_at hl 9 rfl) ?_
              refine tk_Vv hC hK hw hT hA hE hSR kM_at0 (by decide) rfl (k_X12_could_6 l adK adV dC dI cy ad B (by omega) (by omega) qr s1   x718 (show 0 ≤ x718.toInt by omega) (show x718.toInt ≤ 120 by omega) r720 (show 0 ≤ r720.toInt by omega) (show r720.toInt ≤ 9 by omega) v145_7 w85 H.size hT ) (cwV 4 hC.2.2.2.2 uV_RX12_439 rfl rfl rfl (by decide +kernel) ⟨Nat.le_of_ble_eq_true rfl, Nat.le_of_ble_eq_true rfl⟩) rfl hl.1 rfl (Nat.le_of_ble_eq_true rfl) dX12_leads_238 (fun w745 H locs hp744 hw => ?_)
              obtain ⟨hT, k746, hg747⟩ := hp744
              have hF := hF.tr k746 (by decide)
              have c748 := k746.gi kM_at12 rfl c88
              have c749 := k746.gi kM_at12 (by decide) c107
              have c750 := k746.gi kM_at12 rfl c108
              have c751 := k746.gi kM_at12 rfl c716
              clear hg747
              exact J241 v145_7 v145_8 v145_9 r89 x718 f145_12__9_a1_toInt_217_toNat x106 H locs ls w745 (show 0 ≤ a1.toInt from r58) (show a1.toInt ≤ 3 from t59) (show 0 ≤ a2.toInt from r60) (show a2.toInt ≤ 1073741824 from t61) (show 0 ≤ a3.toInt from r62) (show a3.toInt ≤ 120 from t63) (show 0 ≤ a4.toInt from r64) (show a4.toInt ≤ 9 from t65) (show 0 ≤ a6.toInt from r66) (show a6.toInt ≤ 120 from t67) (show 0 ≤ v145_8.toInt from r68) (show v145_8.toInt ≤ 1073741944 from t69) (show 0 ≤ v145_9.toInt from r70) (show v145_9.toInt ≤ 1 from t71) (show 0 ≤ r89.toInt by omega) (show r89.toInt ≤ 11 by omega) (show 0 ≤ x718.toInt by omega) (show x718.toInt ≤ 129 by omega) (show 0 ≤ f145_12__9_a1_toInt_217_toNat.toInt from r72) (show f145_12__9_a1_toInt_217_toNat.toInt ≤ 9 from t73) (show 1 ≤ x106.toInt by omega) (show x106.toInt ≤ 12 by omega)  hw hT hF c748 c749 (lv_sub hl [2, 3, 4, 5, 6, 7, 8, 9, 10, 11, 1, 0] rfl)
          · refine lv_iload hx hb dX12_leads_211 (lv_at hl 7 rfl) ?_
            refine lv_if_eq (tgt := 235) hx hb dX12_leads_213 (by decide) (fun c => absurd c (by decide)) (fun _ => ?_)
            refine lv_iload_n hx hb dX12_leads_216 rfl (lv_at hl 4 rfl) ?_
            refine lv_iload hx hb dX12_leads_217 (lv_at hl 0 rfl) ?_
            refine lv_iadd hx hb dX12_leads_219 ?_
            refine lv_topi (fun x752 ex752 => ?_)
            have ex752 : x752.toInt = a2.toInt + x718.toInt := by rw [ex752]; exact wk_add (show (-2147483648) ≤ a2.toInt + x718.toInt by omega) (show a2.toInt + x718.toInt ≤ 2147483647 by omega)
            refine lv_bipush (v := 24) hx hb dX12_leads_220 (by decide) ?_
            refine lv_idiv hx hb dX12_leads_222 (by decide) ?_
            refine lv_topi (fun x753 ex753 => ?_)
            have ex753 : x753.toInt = x752.toInt / (24 : Int) := by rw [ex753]; exact wk_div (show 0 ≤ x752.toInt by omega) (show 0 < (24 : Int) by decide)
            refine lv_iload hx hb dX12_leads_223 (lv_at hl 10 rfl) ?_
            refine lv_bipush (v := 24) hx hb dX12_leads_225 (by decide) ?_
            refine lv_idiv hx hb dX12_leads_227 (by decide) ?_
            refine lv_topi (fun x754 ex754 => ?_)
            have ex754 : x754.toInt = v145_8.toInt / (24 : Int) := by rw [ex754]; exact wk_div (show 0 ≤ v145_8.toInt from r68) (show 0 < (24 : Int) by decide)
            refine lv_icmp_ne (tgt := 235) hx hb dX12_leads_228 (by decide) (fun c755 => ?_) (fun c755 => ?_)
            · have c755 : ¬ x753.toInt = x754.toInt := wk_eqF c755
              refine lv_iconst (v := 0) hx hb dX12_leads_235 (by decide) ?_
              refine lv_iload hx hb dX12_leads_236 (lv_at hl 9 rfl) ?_
              refine tk_Vv hC hK hw hT hA hE hSR kM_at0 (by decide) rfl (k_X12_could_3 l adK adV dC dI cy ad B (by omega) (by omega) qr s1   x718 (show 0 ≤ x718.toInt by omega) (show x718.toInt ≤ 120 by omega) r720 (show 0 ≤ r720.toInt by omega) (show r720.toInt ≤ 9 by omega) v145_7 w85 H.size hT ) (cwV 4 hC.2.2.2.2 uV_RX12_439 rfl rfl rfl (by decide +kernel) ⟨Nat.le_of_ble_eq_true rfl, Nat.le_of_ble_eq_true rfl⟩) rfl hl.1 rfl (Nat.le_of_ble_eq_true rfl) dX12_leads_238 (fun w758 H locs hp757 hw => ?_)
              obtain ⟨hT, k759, hg760⟩ := hp757
              have hF := hF.tr k759 (by decide)
              have c761 := k759.gi kM_at12 rfl c88
              have c762 := k759.gi kM_at12 (by decide) c107
              have c763 := k759.gi kM_at12 rfl c108
              have c764 := k759.gi kM_at12 rfl c716
              have c765 := k759.gi kM_at12 rfl c728
              clear hg760
              exact J241 v145_7 v145_8 v145_9 r89 x718 f145_12__9_a1_toInt_217_toNat x106 H locs ls w758 (show 0 ≤ a1.toInt from r58) (show a1.toInt ≤ 3 from t59) (show 0 ≤ a2.toInt from r60) (show a2.toInt ≤ 1073741824 from t61) (show 0 ≤ a3.toInt from r62) (show a3.toInt ≤ 120 from t63) (show 0 ≤ a4.toInt from r64) (show a4.toInt ≤ 9 from t65) (show 0 ≤ a6.toInt from r66) (show a6.toInt ≤ 120 from t67) (show 0 ≤ v145_8.toInt from r68) (show v145_8.toInt ≤ 1073741944 from t69) (show 0 ≤ v145_9.toInt from r70) (show v145_9.toInt ≤ 1 from t71) (show 0 ≤ r89.toInt by omega) (show r89.toInt ≤ 11 by omega) (show 0 ≤ x718.toInt by omega) (show x718.toInt ≤ 129 by omega) (show 0 ≤ f145_12__9_a1_toInt_217_toNat.toInt from r72) (show f145_12__9_a1_toInt_217_toNat.toInt ≤ 9 from t73) (show 1 ≤ x106.toInt by omega) (show x106.toInt ≤ 12 by omega)  hw hT hF c761 c762 (lv_sub hl [2, 3, 4, 5, 6, 7, 8, 9, 10, 11, 1, 0] rfl)
            · have c755 : x753.toInt = x754.toInt := wk_eq.mp c755
              refine lv_iconst (v := 1) hx hb dX12_leads_231 (by decide) ?_
              refine lv_goto (tgt := 236) hx hb dX12_leads_232 (by decide) ?_
              refine lv_iload hx hb dX12_leads_236 (lv_at hl 9 rfl) ?_
              refine tk_Vv hC hK hw hT hA hE hSR kM_at0 (by decide) rfl (k_X12_could_6 l adK adV dC dI cy ad B (by omega) (by omega) qr s1   x718 (show 0 ≤ x718.toInt by omega) (show x718.toInt ≤ 120 by omega) r720 (show 0 ≤ r720.toInt by omega) (show r720.toInt ≤ 9 by omega) v145_7 w85 H.size hT ) (cwV 4 hC.2.2.2.2 uV_RX12_439 rfl rfl rfl (by decide +kernel) ⟨Nat.le_of_ble_eq_true rfl, Nat.le_of_ble_eq_true rfl⟩) rfl hl.1 rfl (Nat.le_of_ble_eq_true rfl) dX12_leads_238 (fun w768 H locs hp767 hw => ?_)
              obtain ⟨hT, k769, hg770⟩ := hp767
              have hF := hF.tr k769 (by decide)
              have c771 := k769.gi kM_at12 rfl c88
              have c772 := k769.gi kM_at12 (by decide) c107
              have c773 := k769.gi kM_at12 rfl c108
              have c774 := k769.gi kM_at12 rfl c716
              have c775 := k769.gi kM_at12 rfl c728
              clear hg770
              exact J241 v145_7 v145_8 v145_9 r89 x718 f145_12__9_a1_toInt_217_toNat x106 H locs ls w768 (show 0 ≤ a1.toInt from r58) (show a1.toInt ≤ 3 from t59) (show 0 ≤ a2.toInt from r60) (show a2.toInt ≤ 1073741824 from t61) (show 0 ≤ a3.toInt from r62) (show a3.toInt ≤ 120 from t63) (show 0 ≤ a4.toInt from r64) (show a4.toInt ≤ 9 from t65) (show 0 ≤ a6.toInt from r66) (show a6.toInt ≤ 120 from t67) (show 0 ≤ v145_8.toInt from r68) (show v145_8.toInt ≤ 1073741944 from t69) (show 0 ≤ v145_9.toInt from r70) (show v145_9.toInt ≤ 1 from t71) (show 0 ≤ r89.toInt by omega) (show r89.toInt ≤ 11 by omega) (show 0 ≤ x718.toInt by omega) (show x718.toInt ≤ 129 by omega) (show 0 ≤ f145_12__9_a1_toInt_217_toNat.toInt from r72) (show f145_12__9_a1_toInt_217_toNat.toInt ≤ 9 from t73) (show 1 ≤ x106.toInt by omega) (show x106.toInt ≤ 12 by omega)  hw hT hF c771 c772 (lv_sub hl [2, 3, 4, 5, 6, 7, 8, 9, 10, 11, 1, 0] rfl)
    · refine lv_istore (lv' := [(10, .int (-1)), (0, .ref (ad 0)), (1, .int a1), (2, .int a2), (3, .int a3), (4, .int a4), (5, .int 1), (6, .int a6), (7, .int v145_7), (8, .int v145_8), (9, .int v145_9)]) hx hb dX12_leads_161 hl (by decide) rfl (fun ls hl => ?_)
      refine lv_iload hx hb dX12_leads_163 (lv_at hl 0 rfl) ?_
      refine lv_if_lt (tgt := 181) hx hb dX12_leads_165 (by decide) (fun _ => ?_) (fun c => absurd (by decide) c)
      exact J181 v145_7 v145_8 v145_9 (-1) f145_12__9_a1_toInt_217_toNat H locs ls w85 (show 0 ≤ a1.toInt from r58) (show a1.toInt ≤ 3 from t59) (show 0 ≤ a2.toInt from r60) (show a2.toInt ≤ 1073741824 from t61) (show 0 ≤ a3.toInt from r62) (show a3.toInt ≤ 120 from t63) (show 0 ≤ a4.toInt from r64) (show a4.toInt ≤ 9 from t65) (show 0 ≤ a6.toInt from r66) (show a6.toInt ≤ 120 from t67) (show 0 ≤ v145_8.toInt from r68) (show v145_8.toInt ≤ 1073741944 from t69) (show 0 ≤ v145_9.toInt from r70) (show v145_9.toInt ≤ 1 from t71) (by decide) (by decide) (show 0 ≤ f145_12__9_a1_toInt_217_toNat.toInt from r72) (show f145_12__9_a1_toInt_217_toNat.toInt ≤ 9 from t73)  hw hT hF c88 (lv_sub hl [1, 2, 3, 4, 5, 6, 7, 8, 9, 10, 0] rfl)
  have J115 : ∀ (v115_7 : Int32) (v115_8 : Int32) (v115_9 : Int32) (f115_12__9_a1_toInt_217_toNat : Int32) (H : Heap) (locs : List Loc) (ls : Array Slot) (w776 : va_W), 0 ≤ a1.toInt → a1.toInt ≤ 3 → 0 ≤ a2.toInt → a2.toInt ≤ 1073741824 → 0 ≤ a3.toInt → a3.toInt ≤ 120 → 0 ≤ a4.toInt → a4.toInt ≤ 9 → 0 ≤ a6.toInt → a6.toInt ≤ 120 → 0 ≤ v115_8.toInt → v115_8.toInt ≤ 1073741944 → 0 ≤ v115_9.toInt → v115_9.toInt ≤ 1 → 0 ≤ f115_12__9_a1_toInt_217_toNat.toInt → f115_12__9_a1_toInt_217_toNat.toInt ≤ 9 → Wd dC dI A s.heap H locs w776 → TW ksM ad cy B qr 12 w776 → FE ksM [(72, 0, 12), (73, 0, 10), (76, 0, 2600)] w0 w776 → gi w776 12 (9 * a1.toInt + 217).toNat = f115_12__9_a1_toInt_217_toNat → lv_has ls 12 [(0, .ref (ad 0)), (1, .int a1), (2, .int a2), (3, .int a3), (4, .int a4), (5, .int 1), (6, .int a6), (7, .int v115_7), (8, .int v115_8), (9, .int v115_9)] → W p l e ({ frames := 5, cells := 0, slots := 0, locals := 103 }) s m (List.toArray [.ref (ad 0), .int a1, .int a2, .int a3, .int a4, .int 1, .int a6]) below meth c H locs 0 0 (MQ below (va_Qv (P_X12_leads_2 ad cy B qr s1 a1 a2 a3 a4 a6 w0) (fun u : va_W => wpost dC dI cy A u) A) (List.toArray [.ref (ad 0), .int a1, .int a2, .int a3, .int a4, .int 1, .int a6]) s 0 0 A) (F0 m 115 ls []) := by
    intro v115_7 v115_8 v115_9 f115_12__9_a1_toInt_217_toNat H locs ls w776 r777 t778 r779 t780 r781 t782 r783 t784 r785 t786 r787 t788 r789 t790 r791 t792 hw hT hF c793 hl
    refine lv_iload hx hb dX12_leads_115 (lv_at hl 5 rfl) ?_
    refine lv_if_eq (tgt := 135) hx hb dX12_leads_117 (by decide) (fun c => absurd c (by decide)) (fun _ => ?_)
    refine lv_aload_n hx hb dX12_leads_120 rfl (lv_at hl 0 rfl) ?_
    refine lv_iload hx hb dX12_leads_121 (lv_at hl 8 rfl) ?_
    refine lv_bipush (v := 24) hx hb dX12_leads_123 (by decide) ?_
    refine lv_idiv hx hb dX12_leads_125 (by decide) ?_
    refine lv_topi (fun x794 ex794 => ?_)
    have ex794 : x794.toInt = v115_8.toInt / (24 : Int) := by rw [ex794]; exact wk_div (show 0 ≤ v115_8.toInt from r787) (show 0 < (24 : Int) by decide)
    refine lv_bipush (v := 7) hx hb dX12_leads_126 (by decide) ?_
    refine lv_irem hx hb dX12_leads_128 (by decide) ?_
    refine lv_topi (fun x795 ex795 => ?_)
    have ex795 : x795.toInt = x794.toInt % (7 : Int) := by rw [ex795]; exact wk_rem (show 0 ≤ x794.toInt by omega) (show 0 < (7 : Int) by decide)
    refine tk_Vv hC hK hw hT hA hE hSR kM_at0 (by decide) rfl (k_X12_takesDay_1 l adK adV dC dI cy ad B (by omega) (by omega) qr s1   x795 (show 0 ≤ x795.toInt by omega) (show x795.toInt ≤ 6 by omega) w776 H.size hT ) (cwV 1 hC.2.2.2.2 uV_RX12_381 rfl rfl rfl (by decide +kernel) ⟨Nat.le_of_ble_eq_true rfl, Nat.le_of_ble_eq_true rfl⟩) rfl hl.1 rfl (Nat.le_of_ble_eq_true rfl) dX12_leads_129 (fun w798 H locs hp797 hw => ?_)
    obtain ⟨hT, k799, hg800⟩ := hp797
    have hF := hF.tr k799 (by decide)
    have c801 := k799.gi kM_at12 rfl c793
    clear hg800
    refine lv_goto (tgt := 145) hx hb dX12_leads_132 (by decide) ?_
    exact J145 v115_7 v115_8 v115_9 f115_12__9_a1_toInt_217_toNat H locs ls w798 (show 0 ≤ a1.toInt from r777) (show a1.toInt ≤ 3 from t778) (show 0 ≤ a2.toInt from r779) (show a2.toInt ≤ 1073741824 from t780) (show 0 ≤ a3.toInt from r781) (show a3.toInt ≤ 120 from t782) (show 0 ≤ a4.toInt from r783) (show a4.toInt ≤ 9 from t784) (show 0 ≤ a6.toInt from r785) (show a6.toInt ≤ 120 from t786) (show 0 ≤ v115_8.toInt from r787) (show v115_8.toInt ≤ 1073741944 from t788) (show 0 ≤ v115_9.toInt from r789) (show v115_9.toInt ≤ 1 from t790) (show 0 ≤ f115_12__9_a1_toInt_217_toNat.toInt from r791) (show f115_12__9_a1_toInt_217_toNat.toInt ≤ 9 from t792)  hw hT hF c801 (lv_sub hl [0, 1, 2, 3, 4, 5, 6, 7, 8, 9] rfl)
  refine lv_aload_n hx hb dX12_leads_0 rfl (lv_at hl 0 rfl) ?_
  refine tk_getA hC hK hw hT hinX12 kM_at0 (by decide) rfl 34 (by decide) (List.mem_cons_of_mem _ uw_7_7) rfl rfl dX12_leads_1 ?_
  refine lv_aload_n hx hb dX12_leads_4 rfl (lv_at hl 0 rfl) ?_
  refine lv_iload_n hx hb dX12_leads_5 rfl (lv_at hl 3 rfl) ?_
  refine lv_iload hx hb dX12_leads_6 (lv_at hl 4 rfl) ?_
  refine lv_iload hx hb dX12_leads_8 (lv_at hl 5 rfl) ?_
  refine tk_Vi hC hK hw hT hA hE hSR kM_at0 (by decide) rfl (k_X12_placeAt_6 l adK adV dC dI cy ad B (by omega) (by omega) qr s1   a3 (show 0 ≤ a3.toInt from ra3) (show a3.toInt ≤ 120 from ta3) a4 (show 0 ≤ a4.toInt from ra4) (show a4.toInt ≤ 9 from ta4) w0 s.heap.size hT ) (cwV 3 hC.2.2.2.2 uV_RX12_435 rfl rfl rfl (by decide +kernel) ⟨Nat.le_of_ble_eq_true rfl, Nat.le_of_ble_eq_true rfl⟩) rfl hl.1 rfl (Nat.le_of_ble_eq_true rfl) dX12_leads_10 (fun r802 w804 H locs hp803 hw => ?_)
  obtain ⟨rfl, hg808⟩ := hp803
  obtain ⟨g806, g807⟩ := hg808
  refine tk_iald hC hK hw hT kM_at17 rfl rfl (show 0 ≤ r802.toInt by omega) (show r802.toInt < 2600 by omega) dX12_leads_13 (fun x809 c810 rx809 tx809 => ?_)
  refine lv_istore (lv' := [(7, .int x809), (0, .ref (ad 0)), (1, .int a1), (2, .int a2), (3, .int a3), (4, .int a4), (5, .int 1), (6, .int a6)]) hx hb dX12_leads_14 hl (by decide) rfl (fun ls hl => ?_)
  refine lv_iload hx hb dX12_leads_16 (lv_at hl 0 rfl) ?_
  refine lv_ldcw (v := 100000000) hx hb hC.2.2.2.1 (hC.2.2.2.2 _ (List.mem_cons_of_mem _ uw_38_2)) dX12_leads_18 ?_
  refine lv_icmp_eq (tgt := 41) hx hb dX12_leads_21 (by decide) (fun c811 => ?_) (fun c811 => ?_)
  · have c811 : x809.toInt = (100000000 : Int) := wk_eq.mp c811
    exact J41 x809 H locs ls w0 (show 0 ≤ a1.toInt from ra1) (show a1.toInt ≤ 3 from ta1) (show 0 ≤ a2.toInt from ra2) (show a2.toInt ≤ 1073741824 from ta2) (show 0 ≤ a3.toInt from ra3) (show a3.toInt ≤ 120 from ta3) (show 0 ≤ a4.toInt from ra4) (show a4.toInt ≤ 9 from ta4) (show 0 ≤ a6.toInt from ra6) (show a6.toInt ≤ 120 from ta6)  hw hT hF  (lv_sub hl [1, 2, 3, 4, 5, 6, 7, 0] rfl)
  · have c811 : ¬ x809.toInt = (100000000 : Int) := wk_eqF c811
    refine lv_iload_n hx hb dX12_leads_24 rfl (lv_at hl 4 rfl) ?_
    refine lv_iload hx hb dX12_leads_25 (lv_at hl 7 rfl) ?_
    refine lv_icmp_eq (tgt := 41) hx hb dX12_leads_27 (by decide) (fun c812 => ?_) (fun c812 => ?_)
    · have c812 : a3.toInt = a6.toInt := wk_eq.mp c812
      exact J41 x809 H locs ls w0 (show 0 ≤ a1.toInt from ra1) (show a1.toInt ≤ 3 from ta1) (show 0 ≤ a2.toInt from ra2) (show a2.toInt ≤ 1073741824 from ta2) (show 0 ≤ a3.toInt from ra3) (show a3.toInt ≤ 120 from ta3) (show 0 ≤ a4.toInt from ra4) (show a4.toInt ≤ 9 from ta4) (show 0 ≤ a6.toInt from ra6) (show a6.toInt ≤ 120 from ta6)  hw hT hF  (lv_sub hl [1, 2, 3, 4, 5, 6, 7, 0] rfl)
    · have c812 : ¬ a3.toInt = a6.toInt := wk_eqF c812
      refine lv_iload hx hb dX12_leads_30 (lv_at hl 5 rfl) ?_
      refine lv_aload_n hx hb dX12_leads_32 rfl (lv_at hl 1 rfl) ?_
      refine lv_iload_n hx hb dX12_leads_33 rfl (lv_at hl 2 rfl) ?_
      refine lv_iconst (v := 1) hx hb dX12_leads_34 (by decide) ?_
      refine tk_Vi hC hK hw hT hA hE hSR kM_at0 (by decide) rfl (k_X12_walkerOf_3 l adK adV dC dI cy ad B (by omega) (by omega) qr s1   a1 (show 0 ≤ a1.toInt from ra1) (show a1.toInt ≤ 3 from ta1) w0 H.size hT ) (cwV 2 hC.2.2.2.2 uV_RX12_372 rfl rfl rfl (by decide +kernel) ⟨Nat.le_of_ble_eq_true rfl, Nat.le_of_ble_eq_true rfl⟩) rfl hl.1 rfl (Nat.le_of_ble_eq_true rfl) dX12_leads_35 (fun r813 w815 H locs hp814 hw => ?_)
      obtain ⟨rfl, hg820⟩ := hp814
      obtain ⟨g817, g818, c819⟩ := hg820
      refine lv_icmp_ne (tgt := 42) hx hb dX12_leads_38 (by decide) (fun c821 => ?_) (fun c821 => ?_)
      · have c821 : ¬ a4.toInt = r813.toInt := wk_eqF c821
        refine lv_iload_n hx hb dX12_leads_42 rfl (lv_at hl 3 rfl) ?_
        refine lv_iload_n hx hb dX12_leads_43 rfl (lv_at hl 4 rfl) ?_
        refine lv_iadd hx hb dX12_leads_44 ?_
        refine lv_topi (fun x822 ex822 => ?_)
        have ex822 : x822.toInt = a2.toInt + a3.toInt := by rw [ex822]; exact wk_add (show (-2147483648) ≤ a2.toInt + a3.toInt by omega) (show a2.toInt + a3.toInt ≤ 2147483647 by omega)
        refine lv_istore (lv' := [(8, .int x822), (7, .int x809), (0, .ref (ad 0)), (1, .int a1), (2, .int a2), (3, .int a3), (4, .int a4), (5, .int 1), (6, .int a6)]) hx hb dX12_leads_45 hl (by decide) rfl (fun ls hl => ?_)
        refine lv_iload hx hb dX12_leads_47 (lv_at hl 0 rfl) ?_
        refine lv_iconst (v := 1) hx hb dX12_leads_49 (by decide) ?_
        refine lv_iadd hx hb dX12_leads_50 ?_
        refine lv_topi (fun x823 ex823 => ?_)
        have ex823 : x823.toInt = x822.toInt + (1 : Int) := by rw [ex823]; exact wk_add (show (-2147483648) ≤ x822.toInt + (1 : Int) by omega) (show x822.toInt + (1 : Int) ≤ 2147483647 by omega)
        refine lv_bipush (v := 24) hx hb dX12_leads_51 (by decide) ?_
        refine lv_idiv hx hb dX12_leads_53 (by decide) ?_
        refine lv_topi (fun x824 ex824 => ?_)
        have ex824 : x824.toInt = x823.toInt / (24 : Int) := by rw [ex824]; exact wk_div (show 0 ≤ x823.toInt by omega) (show 0 < (24 : Int) by decide)
        refine lv_iload hx hb dX12_leads_54 (lv_at hl 0 rfl) ?_
        refine lv_bipush (v := 24) hx hb dX12_leads_56 (by decide) ?_
        refine lv_idiv hx hb dX12_leads_58 (by decide) ?_
        refine lv_topi (fun x825 ex825 => ?_)
        have ex825 : x825.toInt = x822.toInt / (24 : Int) := by rw [ex825]; exact wk_div (show 0 ≤ x822.toInt by omega) (show 0 < (24 : Int) by decide)
        refine lv_icmp_ne (tgt := 66) hx hb dX12_leads_59 (by decide) (fun c826 => ?_) (fun c826 => ?_)
        · have c826 : ¬ x824.toInt = x825.toInt := wk_eqF c826
          refine lv_iconst (v := 0) hx hb dX12_leads_66 (by decide) ?_
          refine lv_istore (lv' := [(9, .int 0), (8, .int x822), (7, .int x809), (0, .ref (ad 0)), (1, .int a1), (2, .int a2), (3, .int a3), (4, .int a4), (5, .int 1), (6, .int a6)]) hx hb dX12_leads_67 hl (by decide) rfl (fun ls hl => ?_)
          refine lv_aload_n hx hb dX12_leads_69 rfl (lv_at hl 3 rfl) ?_
          refine lv_iload_n hx hb dX12_leads_70 rfl (lv_at hl 6 rfl) ?_
          refine lv_iconst (v := 1) hx hb dX12_leads_71 (by decide) ?_
          refine lv_iadd hx hb dX12_leads_72 ?_
          refine lv_topi (fun x827 ex827 => ?_)
          have ex827 : x827.toInt = a3.toInt + (1 : Int) := by rw [ex827]; exact wk_add (show (-2147483648) ≤ a3.toInt + (1 : Int) by omega) (show a3.toInt + (1 : Int) ≤ 2147483647 by omega)
          refine lv_iload hx hb dX12_leads_73 (lv_at hl 7 rfl) ?_
          refine lv_iload hx hb dX12_leads_75 (lv_at hl 8 rfl) ?_
          refine lv_if_eq (tgt := 89) hx hb dX12_leads_77 (by decide) (fun c => absurd c (by decide)) (fun _ => ?_)
          refine lv_iload hx hb dX12_leads_80 (lv_at hl 0 rfl) ?_
          refine lv_if_eq (tgt := 89) hx hb dX12_leads_82 (by decide) (fun _ => ?_) (fun c => absurd (by decide) c)
          refine lv_iconst (v := 0) hx hb dX12_leads_89 (by decide) ?_
          refine lv_iload hx hb dX12_leads_90 (lv_at hl 2 rfl) ?_
          refine tk_Vv hC hK hw hT hA hE hSR kM_at0 (by decide) rfl (k_X12_could_4 l adK adV dC dI cy ad B (by omega) (by omega) qr s1   x827 (show 1 ≤ x827.toInt by omega) (show x827.toInt ≤ 121 by omega) a4 (show 0 ≤ a4.toInt from ra4) (show a4.toInt ≤ 9 from ta4) x809 w0 H.size hT ) (cwV 4 hC.2.2.2.2 uV_RX12_439 rfl rfl rfl (by decide +kernel) ⟨Nat.le_of_ble_eq_true rfl, Nat.le_of_ble_eq_true rfl⟩) rfl hl.1 rfl (Nat.le_of_ble_eq_true rfl) dX12_leads_92 (fun w830 H locs hp829 hw => ?_)
          obtain ⟨hT, k831, hg832⟩ := hp829
          have hF := hF.tr k831 (by decide)
          have c833 := k831.gi kM_at12 rfl c819
          clear hg832
          refine lv_iload hx hb dX12_leads_95 (lv_at hl 8 rfl) ?_
          refine lv_if_ne (tgt := 115) hx hb dX12_leads_97 (by decide) (fun _ => ?_) (fun c => absurd c (by decide))
          exact J115 x809 x822 0 r813 H locs ls w830 (show 0 ≤ a1.toInt from ra1) (show a1.toInt ≤ 3 from ta1) (show 0 ≤ a2.toInt from ra2) (show a2.toInt ≤ 1073741824 from ta2) (show 0 ≤ a3.toInt from ra3) (show a3.toInt ≤ 120 from ta3) (show 0 ≤ a4.toInt from ra4) (show a4.toInt ≤ 9 from ta4) (show 0 ≤ a6.toInt from ra6) (show a6.toInt ≤ 120 from ta6) (show 0 ≤ x822.toInt by omega) (show x822.toInt ≤ 1073741944 by omega) (by decide) (by decide) (show 0 ≤ r813.toInt by omega) (show r813.toInt ≤ 9 by omega)  hw hT hF c833 (lv_sub hl [3, 4, 5, 6, 7, 8, 9, 2, 1, 0] rfl)
        · have c826 : x824.toInt = x825.toInt := wk_eq.mp c826
          refine lv_iconst (v := 1) hx hb dX12_leads_62 (by decide) ?_
          refine lv_goto (tgt := 67) hx hb dX12_leads_63 (by decide) ?_
          refine lv_istore (lv' := [(9, .int 1), (8, .int x822), (7, .int x809), (0, .ref (ad 0)), (1, .int a1), (2, .int a2), (3, .int a3), (4, .int a4), (5, .int 1), (6, .int a6)]) hx hb dX12_leads_67 hl (by decide) rfl (fun ls hl => ?_)
          refine lv_aload_n hx hb dX12_leads_69 rfl (lv_at hl 3 rfl) ?_
          refine lv_iload_n hx hb dX12_leads_70 rfl (lv_at hl 6 rfl) ?_
          refine lv_iconst (v := 1) hx hb dX12_leads_71 (by decide) ?_
          refine lv_iadd hx hb dX12_leads_72 ?_
          refine lv_topi (fun x834 ex834 => ?_)
          have ex834 : x834.toInt = a3.toInt + (1 : Int) := by rw [ex834]; exact wk_add (show (-2147483648) ≤ a3.toInt + (1 : Int) by omega) (show a3.toInt + (1 : Int) ≤ 2147483647 by omega)
          refine lv_iload hx hb dX12_leads_73 (lv_at hl 7 rfl) ?_
          refine lv_iload hx hb dX12_leads_75 (lv_at hl 8 rfl) ?_
          refine lv_if_eq (tgt := 89) hx hb dX12_leads_77 (by decide) (fun c => absurd c (by decide)) (fun _ => ?_)
          refine lv_iload hx hb dX12_leads_80 (lv_at hl 0 rfl) ?_
          refine lv_if_eq (tgt := 89) hx hb dX12_leads_82 (by decide) (fun c => absurd c (by decide)) (fun _ => ?_)
          refine lv_iconst (v := 1) hx hb dX12_leads_85 (by decide) ?_
          refine lv_goto (tgt := 90) hx hb dX12_leads_86 (by decide) ?_
          refine lv_iload hx hb dX12_leads_90 (lv_at hl 2 rfl) ?_
          refine tk_Vv hC hK hw hT hA hE hSR kM_at0 (by decide) rfl (k_X12_could_5 l adK adV dC dI cy ad B (by omega) (by omega) qr s1   x834 (show 1 ≤ x834.toInt by omega) (show x834.toInt ≤ 121 by omega) a4 (show 0 ≤ a4.toInt from ra4) (show a4.toInt ≤ 9 from ta4) x809 w0 H.size hT ) (cwV 4 hC.2.2.2.2 uV_RX12_439 rfl rfl rfl (by decide +kernel) ⟨Nat.le_of_ble_eq_true rfl, Nat.le_of_ble_eq_true rfl⟩) rfl hl.1 rfl (Nat.le_of_ble_eq_true rfl) dX12_leads_92 (fun w837 H locs hp836 hw => ?_)
          obtain ⟨hT, k838, hg839⟩ := hp836
          have hF := hF.tr k838 (by decide)
          have c840 := k838.gi kM_at12 rfl c819
          clear hg839
          refine lv_iload hx hb dX12_leads_95 (lv_at hl 8 rfl) ?_
          refine lv_if_ne (tgt := 115) hx hb dX12_leads_97 (by decide) (fun _ => ?_) (fun c => absurd c (by decide))
          exact J115 x809 x822 1 r813 H locs ls w837 (show 0 ≤ a1.toInt from ra1) (show a1.toInt ≤ 3 from ta1) (show 0 ≤ a2.toInt from ra2) (show a2.toInt ≤ 1073741824 from ta2) (show 0 ≤ a3.toInt from ra3) (show a3.toInt ≤ 120 from ta3) (show 0 ≤ a4.toInt from ra4) (show a4.toInt ≤ 9 from ta4) (show 0 ≤ a6.toInt from ra6) (show a6.toInt ≤ 120 from ta6) (show 0 ≤ x822.toInt by omega) (show x822.toInt ≤ 1073741944 by omega) (by decide) (by decide) (show 0 ≤ r813.toInt by omega) (show r813.toInt ≤ 9 by omega)  hw hT hF c840 (lv_sub hl [3, 4, 5, 6, 7, 8, 9, 2, 1, 0] rfl)
      · have c821 : a4.toInt = r813.toInt := wk_eq.mp c821
        exact J41 x809 H locs ls w0 (show 0 ≤ a1.toInt from ra1) (show a1.toInt ≤ 3 from ta1) (show 0 ≤ a2.toInt from ra2) (show a2.toInt ≤ 1073741824 from ta2) (show 0 ≤ a3.toInt from ra3) (show a3.toInt ≤ 120 from ta3) (show 0 ≤ a4.toInt from ra4) (show a4.toInt ≤ 9 from ta4) (show 0 ≤ a6.toInt from ra6) (show a6.toInt ≤ 120 from ta6)  hw hT hF  (lv_sub hl [1, 2, 3, 4, 5, 6, 7, 0] rfl)
abbrev P_X12_questions_1 (ad : Nat → Nat) (cy : Nat → ClassId) (B : Int) (qr : Nat) (s1 : Int) (a1 : Int32) (a2 : Int32) (w0 : va_W) : Int32 → va_W → Prop := fun r u => TW ksM ad cy B qr 12 u ∧ FE ksM [(72, 0, 12), (73, 0, 10), (76, 0, 2600)] w0 u ∧ ((r.toInt ≤ 99999999 ∧ 0 ≤ a1.toInt ∧ a1.toInt ≤ 3 ∧ 0 ≤ a2.toInt ∧ a2.toInt ≤ 120 ∧ (∃ y : Int32, gi u 12 5 = y ∧ 1 ≤ y.toInt ∧ y.toInt ≤ 4)) ∨ (r = (-2) ∧ 0 ≤ a1.toInt ∧ a1.toInt ≤ 3 ∧ 0 ≤ a2.toInt ∧ a2.toInt ≤ 120 ∧ (∃ y : Int32, gi u 12 5 = y ∧ 1 ≤ y.toInt ∧ y.toInt ≤ 4)) ∨ (r = (-1)))
set_option maxHeartbeats 4000000 in
set_option maxRecDepth 100000 in
theorem k_X12_questions_1 (l : Launch) (adK adV : Nat → Nat) (dC : Nat → ClassId) (dI : Nat → Nat → Nat) (cy : Nat → ClassId) (ad : Nat → Nat) (B : Int) (hB0 : 100000 ≤ B) (hB1 : B ≤ 1073741824) (qr : Nat) (s1 : Int)  (a1 : Int32) (a2 : Int32) (w0 : va_W) (sz : Nat) (hT : TW ksM ad cy B qr 12 w0)  : Met l yX12_questions (wu yX12_questions cX12_questions 8 (some .int)) ({ frames := 6, cells := 0, slots := 0, locals := 134 }) (va_Pc [.ref (ad 0), .int a1, .int a2] (wpreS adK adV dC dI cy sz w0)) (va_Qi (P_X12_questions_1 ad cy B qr s1 a1 a2 w0) (fun u : va_W => wpost dC dI cy (va_A w0 sz) u) (va_A w0 sz)) 0 0 (va_A w0 sz) := by
  refine Met.ofW (cc := cX12_questions) (maxL := 8) (ret := (some .int)) (by decide) rfl ?_
  intro p e s m args below meth c s₁ Bk hml hv
  obtain ⟨rfl, ⟨hsz, hP, hK, hD0⟩, hE, hSR⟩ := hv
  have hx := Bk.exec
  have hb := Bk.bytes
  have hr := Bk.returns
  have hlocks := Bk.notSynchronized
  have hC : CallFix p m c cX12_questions 8 s _ (wu yX12_questions cX12_questions 8 (some .int)) RX12 := ⟨hx, hb, hml, findClass_of_methodNamed Bk.named, atoms_spec (ws := (wu yX12_questions cX12_questions 8 (some .int))) Bk.pre⟩
  subst hsz
  have hD := hD0.self (sz := s.heap.size)
  generalize hAe : va_A w0 s.heap.size = A at hD hE ⊢
  have hA : ∀ q : Nat, s.heap.size ≤ q → A q := fun q h => by rw [← hAe]; exact Or.inr h
  have hw : Wd dC dI A s.heap s.heap [] w0 := ⟨hP, hD, va_S.rf⟩
  have hF : FE ksM [(72, 0, 12), (73, 0, 10), (76, 0, 2600)] w0 w0 := FE.rf
  have hl := lv_entry ([.ref (ad 0), .int a1, .int a2]) (n := 8) (Nat.le_of_ble_eq_true rfl)
  rw [lg_entry_eq]
  generalize (lg_sl ([.ref (ad 0), .int a1, .int a2]) ++ List.replicate (8 - (lg_sl ([.ref (ad 0), .int a1, .int a2])).length) Slot.unset).toArray = ls at hl ⊢
  have hl : lv_has ls 8 [(0, .ref (ad 0)), (1, .int a1), (2, .int a2)] := hl
  generalize hloc : ([] : List Loc) = locs at hw ⊢
  have hinX12 : ∀ w ∈ u_ws RX12 TX12 42, w ∈ (wu yX12_questions cX12_questions 8 (some .int)) := fun _ h => List.mem_cons_of_mem _ (up_71 h)
  have J20 : ∀ (H : Heap) (locs : List Loc) (ls : Array Slot) (w1 : va_W), Wd dC dI A s.heap H locs w1 → TW ksM ad cy B qr 12 w1 → FE ksM [(72, 0, 12), (73, 0, 10), (76, 0, 2600)] w0 w1 → lv_has ls 8 [(0, .ref (ad 0)), (1, .int a1), (2, .int a2)] → W p l e ({ frames := 6, cells := 0, slots := 0, locals := 134 }) s m (List.toArray [.ref (ad 0), .int a1, .int a2]) below meth c H locs 0 0 (MQ below (va_Qi (P_X12_questions_1 ad cy B qr s1 a1 a2 w0) (fun u : va_W => wpost dC dI cy A u) A) (List.toArray [.ref (ad 0), .int a1, .int a2]) s 0 0 A) (F0 m 20 ls []) := by
    intro H locs ls w1 hw hT hF hl
    refine lv_iconst (v := (-1)) hx hb dX12_questions_20 (by decide) ?_
    exact tk_iret hC hr hlocks hK ⟨hT, hF, (Or.inr (Or.inr rfl))⟩ hw dX12_questions_21
  have L70 : ∀ (n70 : Nat) (v70_3 : Int32) (v70_4 : Int32) (f70_12__9_a1_toInt_216_toNat : Int32) (f70_12_5 : Int32) (H : Heap) (locs : List Loc) (ls : Array Slot) (w2 : va_W), 0 ≤ a1.toInt → a1.toInt ≤ 3 → 0 ≤ a2.toInt → a2.toInt ≤ 120 → v70_3.toInt ≤ 100000000 → 0 ≤ v70_4.toInt → v70_4.toInt ≤ 121 → 0 ≤ f70_12__9_a1_toInt_216_toNat.toInt → f70_12__9_a1_toInt_216_toNat.toInt ≤ 9 → 1 ≤ f70_12_5.toInt → f70_12_5.toInt ≤ 4 → (121 - v70_4.toInt).toNat < n70 → Wd dC dI A s.heap H locs w2 → TW ksM ad cy B qr 12 w2 → FE ksM [(72, 0, 12), (73, 0, 10), (76, 0, 2600)] w0 w2 → gi w2 12 (9 * a1.toInt + 216).toNat = f70_12__9_a1_toInt_216_toNat → gi w2 12 5 = f70_12_5 → lv_has ls 8 [(0, .ref (ad 0)), (1, .int a1), (2, .int a2), (3, .int v70_3), (4, .int v70_4)] → W p l e ({ frames := 6, cells := 0, slots := 0, locals := 134 }) s m (List.toArray [.ref (ad 0), .int a1, .int a2]) below meth c H locs 0 0 (MQ below (va_Qi (P_X12_questions_1 ad cy B qr s1 a1 a2 w0) (fun u : va_W => wpost dC dI cy A u) A) (List.toArray [.ref (ad 0), .int a1, .int a2]) s 0 0 A) (F0 m 70 ls []) := by
    intro n70
    induction n70 with
    | zero => intro v70_3 v70_4 f70_12__9_a1_toInt_216_toNat f70_12_5 H locs ls w2 r3 t4 r5 t6 t7 r8 t9 r10 t11 r13 t14 hm70 hw hT hF c12 c15 hl; omega
    | succ n70 ih70 =>
      intro v70_3 v70_4 f70_12__9_a1_toInt_216_toNat f70_12_5 H locs ls w2 r3 t4 r5 t6 t7 r8 t9 r10 t11 r13 t14 hm70 hw hT hF c12 c15 hl
      have L79 : ∀ (n79 : Nat) (v79_3 : Int32) (v79_5 : Int32) (H : Heap) (locs : List Loc) (ls : Array Slot) (w16 : va_W), 0 ≤ a1.toInt → a1.toInt ≤ 3 → 0 ≤ a2.toInt → a2.toInt ≤ 120 → v79_3.toInt ≤ 100000000 → 0 ≤ v70_4.toInt → v70_4.toInt ≤ 120 → 0 ≤ v79_5.toInt → v79_5.toInt ≤ 10 → 0 ≤ f70_12__9_a1_toInt_216_toNat.toInt → f70_12__9_a1_toInt_216_toNat.toInt ≤ 9 → 1 ≤ f70_12_5.toInt → f70_12_5.toInt ≤ 4 → (10 - v79_5.toInt).toNat < n79 → Wd dC dI A s.heap H locs w16 → TW ksM ad cy B qr 12 w16 → FE ksM [(72, 0, 12), (73, 0, 10), (76, 0, 2600)] w0 w16 → gi w16 12 (9 * a1.toInt + 216).toNat = f70_12__9_a1_toInt_216_toNat → gi w16 12 5 = f70_12_5 → lv_has ls 8 [(0, .ref (ad 0)), (1, .int a1), (2, .int a2), (3, .int v79_3), (4, .int v70_4), (5, .int v79_5)] → W p l e ({ frames := 6, cells := 0, slots := 0, locals := 134 }) s m (List.toArray [.ref (ad 0), .int a1, .int a2]) below meth c H locs 0 0 (MQ below (va_Qi (P_X12_questions_1 ad cy B qr s1 a1 a2 w0) (fun u : va_W => wpost dC dI cy A u) A) (List.toArray [.ref (ad 0), .int a1, .int a2]) s 0 0 A) (F0 m 79 ls []) := by
        intro n79
        induction n79 with
        | zero => intro v79_3 v79_5 H locs ls w16 r17 t18 r19 t20 t21 r22 t23 r24 t25 r26 t27 r29 t30 hm79 hw hT hF c28 c31 hl; omega
        | succ n79 ih79 =>
          intro v79_3 v79_5 H locs ls w16 r17 t18 r19 t20 t21 r22 t23 r24 t25 r26 t27 r29 t30 hm79 hw hT hF c28 c31 hl
          have L93 : ∀ (n93 : Nat) (v93_3 : Int32) (v93_6 : Int32) (f93_12_0 : Int32) (H : Heap) (locs : List Loc) (ls : Array Slot) (w32 : va_W), 0 ≤ a1.toInt → a1.toInt ≤ 3 → 0 ≤ a2.toInt → a2.toInt ≤ 120 → v93_3.toInt ≤ 100000000 → 0 ≤ v70_4.toInt → v70_4.toInt ≤ 120 → 0 ≤ v79_5.toInt → v79_5.toInt ≤ 9 → 0 ≤ v93_6.toInt → v93_6.toInt ≤ 2 → 0 ≤ f70_12__9_a1_toInt_216_toNat.toInt → f70_12__9_a1_toInt_216_toNat.toInt ≤ 9 → 1 ≤ f93_12_0.toInt → f93_12_0.toInt ≤ 10 → 1 ≤ f70_12_5.toInt → f70_12_5.toInt ≤ 4 → (2 - v93_6.toInt).toNat < n93 → Wd dC dI A s.heap H locs w32 → TW ksM ad cy B qr 12 w32 → FE ksM [(72, 0, 12), (73, 0, 10), (76, 0, 2600)] w0 w32 → gi w32 12 (9 * a1.toInt + 216).toNat = f70_12__9_a1_toInt_216_toNat → gi w32 12 0 = f93_12_0 → gi w32 12 5 = f70_12_5 → lv_has ls 8 [(0, .ref (ad 0)), (1, .int a1), (2, .int a2), (3, .int v93_3), (4, .int v70_4), (5, .int v79_5), (6, .int v93_6)] → W p l e ({ frames := 6, cells := 0, slots := 0, locals := 134 }) s m (List.toArray [.ref (ad 0), .int a1, .int a2]) below meth c H locs 0 0 (MQ below (va_Qi (P_X12_questions_1 ad cy B qr s1 a1 a2 w0) (fun u : va_W => wpost dC dI cy A u) A) (List.toArray [.ref (ad 0), .int a1, .int a2]) s 0 0 A) (F0 m 93 ls []) := by
            intro n93
            induction n93 with
            | zero => intro v93_3 v93_6 f93_12_0 H locs ls w32 r33 t34 r35 t36 t37 r38 t39 r40 t41 r42 t43 r44 t45 r47 t48 r50 t51 hm93 hw hT hF c46 c49 c52 hl; omega
            | succ n93 ih93 =>
              intro v93_3 v93_6 f93_12_0 H locs ls w32 r33 t34 r35 t36 t37 r38 t39 r40 t41 r42 t43 r44 t45 r47 t48 r50 t51 hm93 hw hT hF c46 c49 c52 hl
              have J174 : ∀ (v174_7 : Int32) (f174_12__9_a1_toInt_217_toNat : Int32) (H : Heap) (locs : List Loc) (ls : Array Slot) (w53 : va_W), 0 ≤ a1.toInt → a1.toInt ≤ 3 → 0 ≤ a2.toInt → a2.toInt ≤ 120 → v93_3.toInt ≤ 100000000 → 0 ≤ v70_4.toInt → v70_4.toInt ≤ 120 → 0 ≤ v79_5.toInt → v79_5.toInt ≤ 9 → 0 ≤ v93_6.toInt → v93_6.toInt ≤ 1 → 0 ≤ f70_12__9_a1_toInt_216_toNat.toInt → f70_12__9_a1_toInt_216_toNat.toInt ≤ 9 → 0 ≤ f174_12__9_a1_toInt_217_toNat.toInt → f174_12__9_a1_toInt_217_toNat.toInt ≤ 9 → 1 ≤ f93_12_0.toInt → f93_12_0.toInt ≤ 10 → 1 ≤ f70_12_5.toInt → f70_12_5.toInt ≤ 4 → Wd dC dI A s.heap H locs w53 → TW ksM ad cy B qr 12 w53 → FE ksM [(72, 0, 12), (73, 0, 10), (76, 0, 2600)] w0 w53 → gi w53 12 (9 * a1.toInt + 216).toNat = f70_12__9_a1_toInt_216_toNat → gi w53 12 (9 * a1.toInt + 217).toNat = f174_12__9_a1_toInt_217_toNat → gi w53 12 0 = f93_12_0 → gi w53 12 5 = f70_12_5 → lv_has ls 8 [(0, .ref (ad 0)), (1, .int a1), (2, .int a2), (3, .int v93_3), (4, .int v70_4), (5, .int v79_5), (6, .int v93_6), (7, .int v174_7)] → W p l e ({ frames := 6, cells := 0, slots := 0, locals := 134 }) s m (List.toArray [.ref (ad 0), .int a1, .int a2]) below meth c H locs 0 0 (MQ below (va_Qi (P_X12_questions_1 ad cy B qr s1 a1 a2 w0) (fun u : va_W => wpost dC dI cy A u) A) (List.toArray [.ref (ad 0), .int a1, .int a2]) s 0 0 A) (F0 m 174 ls []) := by
                intro v174_7 f174_12__9_a1_toInt_217_toNat H locs ls w53 r54 t55 r56 t57 t58 r59 t60 r61 t62 r63 t64 r65 t66 r68 t69 r71 t72 r74 t75 hw hT hF c67 c70 c73 c76 hl
                refine lv_iload_n hx hb dX12_questions_174 rfl (lv_at hl 3 rfl) ?_
                refine lv_istore_n (lv' := [(3, .int v93_3), (0, .ref (ad 0)), (1, .int a1), (2, .int a2), (4, .int v70_4), (5, .int v79_5), (6, .int v93_6), (7, .int v174_7)]) hx hb dX12_questions_175 rfl hl (by decide) rfl (fun ls hl => ?_)
                obtain ⟨x77, ex77⟩ : ∃ y : Int32, y = v93_6 + Int32.ofInt 1 := ⟨_, rfl⟩
                refine lv_iinc (v := x77) (lv' := [(6, .int x77), (3, .int v93_3), (0, .ref (ad 0)), (1, .int a1), (2, .int a2), (4, .int v70_4), (5, .int v79_5), (7, .int v174_7)]) hx hb dX12_questions_176 hl (k := 6) rfl ex77.symm (by decide) rfl (fun ls hl => ?_)
                have ex77 : x77.toInt = v93_6.toInt + 1 := by rw [ex77]; exact wk_add (y := 1) (show -2147483648 ≤ v93_6.toInt + 1 by omega) (show v93_6.toInt + 1 ≤ 2147483647 by omega)
                refine lv_goto (tgt := 93) hx hb dX12_questions_179 (by decide) ?_
                exact ih93 v93_3 x77 f93_12_0 H locs ls w53 (show 0 ≤ a1.toInt from r54) (show a1.toInt ≤ 3 from t55) (show 0 ≤ a2.toInt from r56) (show a2.toInt ≤ 120 from t57) (show v93_3.toInt ≤ 100000000 from t58) (show 0 ≤ v70_4.toInt from r59) (show v70_4.toInt ≤ 120 from t60) (show 0 ≤ v79_5.toInt from r61) (show v79_5.toInt ≤ 9 from t62) (show 0 ≤ x77.toInt by omega) (show x77.toInt ≤ 2 by omega) (show 0 ≤ f70_12__9_a1_toInt_216_toNat.toInt from r65) (show f70_12__9_a1_toInt_216_toNat.toInt ≤ 9 from t66) (show 1 ≤ f93_12_0.toInt from r71) (show f93_12_0.toInt ≤ 10 from t72) (show 1 ≤ f70_12_5.toInt from r74) (show f70_12_5.toInt ≤ 4 from t75) (show (2 - x77.toInt).toNat < n93 by omega) hw hT hF c67 c73 c76 (lv_sub hl [2, 3, 4, 1, 5, 6, 0] rfl)
              refine lv_iload hx hb dX12_questions_93 (lv_at hl 6 rfl) ?_
              refine lv_iconst (v := 2) hx hb dX12_questions_95 (by decide) ?_
              refine lv_icmp_ge (tgt := 182) hx hb dX12_questions_96 (by decide) (fun c78 => ?_) (fun c78 => ?_)
              · have c78 : (2 : Int) ≤ v93_6.toInt := wk_le.mp c78
                obtain ⟨x79, ex79⟩ : ∃ y : Int32, y = v79_5 + Int32.ofInt 1 := ⟨_, rfl⟩
                refine lv_iinc (v := x79) (lv' := [(5, .int x79), (0, .ref (ad 0)), (1, .int a1), (2, .int a2), (3, .int v93_3), (4, .int v70_4), (6, .int v93_6)]) hx hb dX12_questions_182 hl (k := 5) rfl ex79.symm (by decide) rfl (fun ls hl => ?_)
                have ex79 : x79.toInt = v79_5.toInt + 1 := by rw [ex79]; exact wk_add (y := 1) (show -2147483648 ≤ v79_5.toInt + 1 by omega) (show v79_5.toInt + 1 ≤ 2147483647 by omega)
                refine lv_goto (tgt := 79) hx hb dX12_questions_185 (by decide) ?_
                exact ih79 v93_3 x79 H locs ls w32 (show 0 ≤ a1.toInt from r33) (show a1.toInt ≤ 3 from t34) (show 0 ≤ a2.toInt from r35) (show a2.toInt ≤ 120 from t36) (show v93_3.toInt ≤ 100000000 from t37) (show 0 ≤ v70_4.toInt from r38) (show v70_4.toInt ≤ 120 from t39) (show 0 ≤ x79.toInt by omega) (show x79.toInt ≤ 10 by omega) (show 0 ≤ f70_12__9_a1_toInt_216_toNat.toInt from r44) (show f70_12__9_a1_toInt_216_toNat.toInt ≤ 9 from t45) (show 1 ≤ f70_12_5.toInt from r50) (show f70_12_5.toInt ≤ 4 from t51) (show (10 - x79.toInt).toNat < n79 by omega) hw hT hF c46 c52 (lv_sub hl [1, 2, 3, 4, 5, 0] rfl)
              · have c78 : v93_6.toInt < (2 : Int) := wk_leF c78
                refine lv_aload_n hx hb dX12_questions_99 rfl (lv_at hl 0 rfl) ?_
                refine lv_iload_n hx hb dX12_questions_100 rfl (lv_at hl 1 rfl) ?_
                refine lv_aload_n hx hb dX12_questions_101 rfl (lv_at hl 0 rfl) ?_
                refine lv_iload_n hx hb dX12_questions_102 rfl (lv_at hl 1 rfl) ?_
                refine lv_iconst (v := 4) hx hb dX12_questions_103 (by decide) ?_
                refine tk_Vi hC hK hw hT hA hE hSR kM_at0 (by decide) rfl (k_X12_walkerOf_4 l adK adV dC dI cy ad B (by omega) (by omega) qr s1   a1 (show 0 ≤ a1.toInt from r33) (show a1.toInt ≤ 3 from t34) w32 H.size hT ) (cwV 2 hC.2.2.2.2 uV_RX12_372 rfl rfl rfl (by decide +kernel) ⟨Nat.le_of_ble_eq_true rfl, Nat.le_of_ble_eq_true rfl⟩) rfl hl.1 rfl (Nat.le_of_ble_eq_true rfl) dX12_questions_104 (fun r80 w82 H locs hp81 hw => ?_)
                obtain ⟨rfl, hg87⟩ := hp81
                obtain ⟨g84, g85, c86⟩ := hg87
                refine lv_iload hx hb dX12_questions_107 (lv_at hl 4 rfl) ?_
                refine lv_iload hx hb dX12_questions_109 (lv_at hl 5 rfl) ?_
                refine lv_iload hx hb dX12_questions_111 (lv_at hl 6 rfl) ?_
                refine lv_iconst (v := 1) hx hb dX12_questions_113 (by decide) ?_
                refine lv_icmp_ne (tgt := 121) hx hb dX12_questions_114 (by decide) (fun c88 => ?_) (fun c88 => ?_)
                · have c88 : ¬ v93_6.toInt = (1 : Int) := wk_eqF c88
                  refine lv_iconst (v := 0) hx hb dX12_questions_121 (by decide) ?_
                  refine lv_iload_n hx hb dX12_questions_122 rfl (lv_at hl 2 rfl) ?_
                  refine tk_Vv hC hK hw hT hA hE hSR kM_at0 (by decide) rfl (k_X12_leads_1 l adK adV dC dI cy ad B (by omega) (by omega) qr s1   a1 (show 0 ≤ a1.toInt from r33) (show a1.toInt ≤ 3 from t34) r80 (show 0 ≤ r80.toInt by omega) (show r80.toInt ≤ 1073741824 by omega) v70_4 (show 0 ≤ v70_4.toInt from r38) (show v70_4.toInt ≤ 120 from t39) v79_5 (show 0 ≤ v79_5.toInt from r40) (show v79_5.toInt ≤ 9 from t41) a2 (show 0 ≤ a2.toInt from r35) (show a2.toInt ≤ 120 from t36) w32 H.size hT ) (cwV 6 hC.2.2.2.2 uV_RX12_445 rfl rfl rfl (by decide +kernel) ⟨Nat.le_of_ble_eq_true rfl, Nat.le_of_ble_eq_true rfl⟩) rfl hl.1 rfl (Nat.le_of_ble_eq_true rfl) dX12_questions_123 (fun w91 H locs hp90 hw => ?_)
                  obtain ⟨hT, k92, hg93⟩ := hp90
                  have hF := hF.tr k92 (by decide)
                  have c94 := k92.gi kM_at12 rfl c46
                  have c95 := k92.gi kM_at12 (by decide) c49
                  have c96 := k92.gi kM_at12 (by decide) c52
                  clear hg93
                  refine lv_aload_n hx hb dX12_questions_126 rfl (lv_at hl 0 rfl) ?_
                  refine tk_getA hC hK hw hT hinX12 kM_at0 (by decide) rfl 34 (by decide) (List.mem_cons_of_mem _ uw_7_7) rfl rfl dX12_questions_127 ?_
                  refine lv_aload_n hx hb dX12_questions_130 rfl (lv_at hl 0 rfl) ?_
                  refine lv_iload hx hb dX12_questions_131 (lv_at hl 4 rfl) ?_
                  refine lv_iload hx hb dX12_questions_133 (lv_at hl 5 rfl) ?_
                  refine lv_iload hx hb dX12_questions_135 (lv_at hl 6 rfl) ?_
                  refine lv_iconst (v := 1) hx hb dX12_questions_137 (by decide) ?_
                  refine lv_icmp_ne (tgt := 145) hx hb dX12_questions_138 (by decide) (fun _ => ?_) (fun c => absurd (show v93_6.toInt = (1 : Int) from wk_eq.mp c) (by omega))
                  refine lv_iconst (v := 0) hx hb dX12_questions_145 (by decide) ?_
                  refine tk_Vi hC hK hw hT hA hE hSR kM_at0 (by decide) rfl (k_X12_placeAt_3 l adK adV dC dI cy ad B (by omega) (by omega) qr s1   v70_4 (show 0 ≤ v70_4.toInt from r38) (show v70_4.toInt ≤ 120 from t39) v79_5 (show 0 ≤ v79_5.toInt from r40) (show v79_5.toInt ≤ 9 from t41) w91 H.size hT ) (cwV 3 hC.2.2.2.2 uV_RX12_435 rfl rfl rfl (by decide +kernel) ⟨Nat.le_of_ble_eq_true rfl, Nat.le_of_ble_eq_true rfl⟩) rfl hl.1 rfl (Nat.le_of_ble_eq_true rfl) dX12_questions_146 (fun r97 w99 H locs hp98 hw => ?_)
                  obtain ⟨rfl, hg103⟩ := hp98
                  obtain ⟨g101, g102⟩ := hg103
                  refine tk_iald hC hK hw hT kM_at17 rfl rfl (show 0 ≤ r97.toInt by omega) (show r97.toInt < 2600 by omega) dX12_questions_149 (fun x104 c105 rx104 tx104 => ?_)
                  refine lv_istore (lv' := [(7, .int x104), (0, .ref (ad 0)), (1, .int a1), (2, .int a2), (3, .int v93_3), (4, .int v70_4), (5, .int v79_5), (6, .int v93_6)]) hx hb dX12_questions_150 hl (by decide) rfl (fun ls hl => ?_)
                  refine lv_iload hx hb dX12_questions_152 (lv_at hl 6 rfl) ?_
                  refine lv_aload_n hx hb dX12_questions_154 rfl (lv_at hl 1 rfl) ?_
                  refine lv_iload_n hx hb dX12_questions_155 rfl (lv_at hl 2 rfl) ?_
                  refine lv_iconst (v := 1) hx hb dX12_questions_156 (by decide) ?_
                  refine tk_Vi hC hK hw hT hA hE hSR kM_at0 (by decide) rfl (k_X12_walkerOf_3 l adK adV dC dI cy ad B (by omega) (by omega) qr s1   a1 (show 0 ≤ a1.toInt from r33) (show a1.toInt ≤ 3 from t34) w91 H.size hT ) (cwV 2 hC.2.2.2.2 uV_RX12_372 rfl rfl rfl (by decide +kernel) ⟨Nat.le_of_ble_eq_true rfl, Nat.le_of_ble_eq_true rfl⟩) rfl hl.1 rfl (Nat.le_of_ble_eq_true rfl) dX12_questions_157 (fun r106 w108 H locs hp107 hw => ?_)
                  obtain ⟨rfl, hg113⟩ := hp107
                  obtain ⟨g110, g111, c112⟩ := hg113
                  refine lv_icmp_ne (tgt := 174) hx hb dX12_questions_160 (by decide) (fun c114 => ?_) (fun c114 => ?_)
                  · have c114 : ¬ v79_5.toInt = r106.toInt := wk_eqF c114
                    exact J174 x104 r106 H locs ls w91 (show 0 ≤ a1.toInt from r33) (show a1.toInt ≤ 3 from t34) (show 0 ≤ a2.toInt from r35) (show a2.toInt ≤ 120 from t36) (show v93_3.toInt ≤ 100000000 from t37) (show 0 ≤ v70_4.toInt from r38) (show v70_4.toInt ≤ 120 from t39) (show 0 ≤ v79_5.toInt from r40) (show v79_5.toInt ≤ 9 from t41) (show 0 ≤ v93_6.toInt from r42) (show v93_6.toInt ≤ 1 by omega) (show 0 ≤ f70_12__9_a1_toInt_216_toNat.toInt from r44) (show f70_12__9_a1_toInt_216_toNat.toInt ≤ 9 from t45) (show 0 ≤ r106.toInt by omega) (show r106.toInt ≤ 9 by omega) (show 1 ≤ f93_12_0.toInt from r47) (show f93_12_0.toInt ≤ 10 from t48) (show 1 ≤ f70_12_5.toInt from r50) (show f70_12_5.toInt ≤ 4 from t51)  hw hT hF c94 c112 c95 c96 (lv_sub hl [1, 2, 3, 4, 5, 6, 7, 0] rfl)
                  · have c114 : v79_5.toInt = r106.toInt := wk_eq.mp c114
                    refine lv_iload hx hb dX12_questions_163 (lv_at hl 0 rfl) ?_
                    refine lv_iload_n hx hb dX12_questions_165 rfl (lv_at hl 4 rfl) ?_
                    refine lv_icmp_ge (tgt := 174) hx hb dX12_questions_166 (by decide) (fun c115 => ?_) (fun c115 => ?_)
                    · have c115 : v93_3.toInt ≤ x104.toInt := wk_le.mp c115
                      exact J174 x104 r106 H locs ls w91 (show 0 ≤ a1.toInt from r33) (show a1.toInt ≤ 3 from t34) (show 0 ≤ a2.toInt from r35) (show a2.toInt ≤ 120 from t36) (show v93_3.toInt ≤ 100000000 from t37) (show 0 ≤ v70_4.toInt from r38) (show v70_4.toInt ≤ 120 from t39) (show 0 ≤ v79_5.toInt from r40) (show v79_5.toInt ≤ 9 from t41) (show 0 ≤ v93_6.toInt from r42) (show v93_6.toInt ≤ 1 by omega) (show 0 ≤ f70_12__9_a1_toInt_216_toNat.toInt from r44) (show f70_12__9_a1_toInt_216_toNat.toInt ≤ 9 from t45) (show 0 ≤ r106.toInt by omega) (show r106.toInt ≤ 9 by omega) (show 1 ≤ f93_12_0.toInt from r47) (show f93_12_0.toInt ≤ 10 from t48) (show 1 ≤ f70_12_5.toInt from r50) (show f70_12_5.toInt ≤ 4 from t51)  hw hT hF c94 c112 c95 c96 (lv_sub hl [1, 2, 3, 4, 5, 6, 7, 0] rfl)
                    · have c115 : x104.toInt < v93_3.toInt := wk_leF c115
                      refine lv_iload hx hb dX12_questions_169 (lv_at hl 0 rfl) ?_
                      refine lv_goto (tgt := 175) hx hb dX12_questions_171 (by decide) ?_
                      refine lv_istore_n (lv' := [(3, .int x104), (7, .int x104), (0, .ref (ad 0)), (1, .int a1), (2, .int a2), (4, .int v70_4), (5, .int v79_5), (6, .int v93_6)]) hx hb dX12_questions_175 rfl hl (by decide) rfl (fun ls hl => ?_)
                      obtain ⟨x116, ex116⟩ : ∃ y : Int32, y = v93_6 + Int32.ofInt 1 := ⟨_, rfl⟩
                      refine lv_iinc (v := x116) (lv' := [(6, .int x116), (3, .int x104), (7, .int x104), (0, .ref (ad 0)), (1, .int a1), (2, .int a2), (4, .int v70_4), (5, .int v79_5)]) hx hb dX12_questions_176 hl (k := 7) rfl ex116.symm (by decide) rfl (fun ls hl => ?_)
                      have ex116 : x116.toInt = v93_6.toInt + 1 := by rw [ex116]; exact wk_add (y := 1) (show -2147483648 ≤ v93_6.toInt + 1 by omega) (show v93_6.toInt + 1 ≤ 2147483647 by omega)
                      refine lv_goto (tgt := 93) hx hb dX12_questions_179 (by decide) ?_
                      exact ih93 x104 x116 f93_12_0 H locs ls w91 (show 0 ≤ a1.toInt from r33) (show a1.toInt ≤ 3 from t34) (show 0 ≤ a2.toInt from r35) (show a2.toInt ≤ 120 from t36) (show x104.toInt ≤ 100000000 by omega) (show 0 ≤ v70_4.toInt from r38) (show v70_4.toInt ≤ 120 from t39) (show 0 ≤ v79_5.toInt from r40) (show v79_5.toInt ≤ 9 from t41) (show 0 ≤ x116.toInt by omega) (show x116.toInt ≤ 2 by omega) (show 0 ≤ f70_12__9_a1_toInt_216_toNat.toInt from r44) (show f70_12__9_a1_toInt_216_toNat.toInt ≤ 9 from t45) (show 1 ≤ f93_12_0.toInt from r47) (show f93_12_0.toInt ≤ 10 from t48) (show 1 ≤ f70_12_5.toInt from r50) (show f70_12_5.toInt ≤ 4 from t51) (show (2 - x116.toInt).toNat < n93 by omega) hw hT hF c94 c95 c96 (lv_sub hl [3, 4, 5, 1, 6, 7, 0] rfl)
                · have c88 : v93_6.toInt = (1 : Int) := wk_eq.mp c88
                  refine lv_iconst (v := 1) hx hb dX12_questions_117 (by decide) ?_
                  refine lv_goto (tgt := 122) hx hb dX12_questions_118 (by decide) ?_
                  refine lv_iload_n hx hb dX12_questions_122 rfl (lv_at hl 2 rfl) ?_
                  refine tk_Vv hC hK hw hT hA hE hSR kM_at0 (by decide) rfl (k_X12_leads_2 l adK adV dC dI cy ad B (by omega) (by omega) qr s1   a1 (show 0 ≤ a1.toInt from r33) (show a1.toInt ≤ 3 from t34) r80 (show 0 ≤ r80.toInt by omega) (show r80.toInt ≤ 1073741824 by omega) v70_4 (show 0 ≤ v70_4.toInt from r38) (show v70_4.toInt ≤ 120 from t39) v79_5 (show 0 ≤ v79_5.toInt from r40) (show v79_5.toInt ≤ 9 from t41) a2 (show 0 ≤ a2.toInt from r35) (show a2.toInt ≤ 120 from t36) w32 H.size hT ) (cwV 6 hC.2.2.2.2 uV_RX12_445 rfl rfl rfl (by decide +kernel) ⟨Nat.le_of_ble_eq_true rfl, Nat.le_of_ble_eq_true rfl⟩) rfl hl.1 rfl (Nat.le_of_ble_eq_true rfl) dX12_questions_123 (fun w119 H locs hp118 hw => ?_)
                  obtain ⟨hT, k120, hg121⟩ := hp118
                  have hF := hF.tr k120 (by decide)
                  have c122 := k120.gi kM_at12 rfl c46
                  have c123 := k120.gi kM_at12 (by decide) c49
                  have c124 := k120.gi kM_at12 (by decide) c52
                  clear hg121
                  refine lv_aload_n hx hb dX12_questions_126 rfl (lv_at hl 0 rfl) ?_
                  refine tk_getA hC hK hw hT hinX12 kM_at0 (by decide) rfl 34 (by decide) (List.mem_cons_of_mem _ uw_7_7) rfl rfl dX12_questions_127 ?_
                  refine lv_aload_n hx hb dX12_questions_130 rfl (lv_at hl 0 rfl) ?_
                  refine lv_iload hx hb dX12_questions_131 (lv_at hl 4 rfl) ?_
                  refine lv_iload hx hb dX12_questions_133 (lv_at hl 5 rfl) ?_
                  refine lv_iload hx hb dX12_questions_135 (lv_at hl 6 rfl) ?_
                  refine lv_iconst (v := 1) hx hb dX12_questions_137 (by decide) ?_
                  refine lv_icmp_ne (tgt := 145) hx hb dX12_questions_138 (by decide) (fun c => (c (wk_eq.mpr (show v93_6.toInt = (1 : Int) by omega))).elim) (fun _ => ?_)
                  refine lv_iconst (v := 1) hx hb dX12_questions_141 (by decide) ?_
                  refine lv_goto (tgt := 146) hx hb dX12_questions_142 (by decide) ?_
                  refine tk_Vi hC hK hw hT hA hE hSR kM_at0 (by decide) rfl (k_X12_placeAt_6 l adK adV dC dI cy ad B (by omega) (by omega) qr s1   v70_4 (show 0 ≤ v70_4.toInt from r38) (show v70_4.toInt ≤ 120 from t39) v79_5 (show 0 ≤ v79_5.toInt from r40) (show v79_5.toInt ≤ 9 from t41) w119 H.size hT ) (cwV 3 hC.2.2.2.2 uV_RX12_435 rfl rfl rfl (by decide +kernel) ⟨Nat.le_of_ble_eq_true rfl, Nat.le_of_ble_eq_true rfl⟩) rfl hl.1 rfl (Nat.le_of_ble_eq_true rfl) dX12_questions_146 (fun r125 w127 H locs hp126 hw => ?_)
                  obtain ⟨rfl, hg131⟩ := hp126
                  obtain ⟨g129, g130⟩ := hg131
                  refine tk_iald hC hK hw hT kM_at17 rfl rfl (show 0 ≤ r125.toInt by omega) (show r125.toInt < 2600 by omega) dX12_questions_149 (fun x132 c133 rx132 tx132 => ?_)
                  refine lv_istore (lv' := [(7, .int x132), (0, .ref (ad 0)), (1, .int a1), (2, .int a2), (3, .int v93_3), (4, .int v70_4), (5, .int v79_5), (6, .int v93_6)]) hx hb dX12_questions_150 hl (by decide) rfl (fun ls hl => ?_)
                  refine lv_iload hx hb dX12_questions_152 (lv_at hl 6 rfl) ?_
                  refine lv_aload_n hx hb dX12_questions_154 rfl (lv_at hl 1 rfl) ?_
                  refine lv_iload_n hx hb dX12_questions_155 rfl (lv_at hl 2 rfl) ?_
                  refine lv_iconst (v := 1) hx hb dX12_questions_156 (by decide) ?_
                  refine tk_Vi hC hK hw hT hA hE hSR kM_at0 (by decide) rfl (k_X12_walkerOf_3 l adK adV dC dI cy ad B (by omega) (by omega) qr s1   a1 (show 0 ≤ a1.toInt from r33) (show a1.toInt ≤ 3 from t34) w119 H.size hT ) (cwV 2 hC.2.2.2.2 uV_RX12_372 rfl rfl rfl (by decide +kernel) ⟨Nat.le_of_ble_eq_true rfl, Nat.le_of_ble_eq_true rfl⟩) rfl hl.1 rfl (Nat.le_of_ble_eq_true rfl) dX12_questions_157 (fun r134 w136 H locs hp135 hw => ?_)
                  obtain ⟨rfl, hg141⟩ := hp135
                  obtain ⟨g138, g139, c140⟩ := hg141
                  refine lv_icmp_ne (tgt := 174) hx hb dX12_questions_160 (by decide) (fun c142 => ?_) (fun c142 => ?_)
                  · have c142 : ¬ v79_5.toInt = r134.toInt := wk_eqF c142
                    exact J174 x132 r134 H locs ls w119 (show 0 ≤ a1.toInt from r33) (show a1.toInt ≤ 3 from t34) (show 0 ≤ a2.toInt from r35) (show a2.toInt ≤ 120 from t36) (show v93_3.toInt ≤ 100000000 from t37) (show 0 ≤ v70_4.toInt from r38) (show v70_4.toInt ≤ 120 from t39) (show 0 ≤ v79_5.toInt from r40) (show v79_5.toInt ≤ 9 from t41) (show 0 ≤ v93_6.toInt from r42) (show v93_6.toInt ≤ 1 by omega) (show 0 ≤ f70_12__9_a1_toInt_216_toNat.toInt from r44) (show f70_12__9_a1_toInt_216_toNat.toInt ≤ 9 from t45) (show 0 ≤ r134.toInt by omega) (show r134.toInt ≤ 9 by omega) (show 1 ≤ f93_12_0.toInt from r47) (show f93_12_0.toInt ≤ 10 from t48) (show 1 ≤ f70_12_5.toInt from r50) (show f70_12_5.toInt ≤ 4 from t51)  hw hT hF c122 c140 c123 c124 (lv_sub hl [1, 2, 3, 4, 5, 6, 7, 0] rfl)
                  · have c142 : v79_5.toInt = r134.toInt := wk_eq.mp c142
                    refine lv_iload hx hb dX12_questions_163 (lv_at hl 0 rfl) ?_
                    refine lv_iload_n hx hb dX12_questions_165 rfl (lv_at hl 4 rfl) ?_
                    refine lv_icmp_ge (tgt := 174) hx hb dX12_questions_166 (by decide) (fun c143 => ?_) (fun c143 => ?_)
                    · have c143 : v93_3.toInt ≤ x132.toInt := wk_le.mp c143
                      exact J174 x132 r134 H locs ls w119 (show 0 ≤ a1.toInt from r33) (show a1.toInt ≤ 3 from t34) (show 0 ≤ a2.toInt from r35) (show a2.toInt ≤ 120 from t36) (show v93_3.toInt ≤ 100000000 from t37) (show 0 ≤ v70_4.toInt from r38) (show v70_4.toInt ≤ 120 from t39) (show 0 ≤ v79_5.toInt from r40) (show v79_5.toInt ≤ 9 from t41) (show 0 ≤ v93_6.toInt from r42) (show v93_6.toInt ≤ 1 by omega) (show 0 ≤ f70_12__9_a1_toInt_216_toNat.toInt from r44) (show f70_12__9_a1_toInt_216_toNat.toInt ≤ 9 from t45) (show 0 ≤ r134.toInt by omega) (show r134.toInt ≤ 9 by omega) (show 1 ≤ f93_12_0.toInt from r47) (show f93_12_0.toInt ≤ 10 from t48) (show 1 ≤ f70_12_5.toInt from r50) (show f70_12_5.toInt ≤ 4 from t51)  hw hT hF c122 c140 c123 c124 (lv_sub hl [1, 2, 3, 4, 5, 6, 7, 0] rfl)
                    · have c143 : x132.toInt < v93_3.toInt := wk_leF c143
                      refine lv_iload hx hb dX12_questions_169 (lv_at hl 0 rfl) ?_
                      refine lv_goto (tgt := 175) hx hb dX12_questions_171 (by decide) ?_
                      refine lv_istore_n (lv' := [(3, .int x132), (7, .int x132), (0, .ref (ad 0)), (1, .int a1), (2, .int a2), (4, .int v70_4), (5, .int v79_5), (6, .int v93_6)]) hx hb dX12_questions_175 rfl hl (by decide) rfl (fun ls hl => ?_)
                      obtain ⟨x144, ex144⟩ : ∃ y : Int32, y = v93_6 + Int32.ofInt 1 := ⟨_, rfl⟩
                      refine lv_iinc (v := x144) (lv' := [(6, .int x144), (3, .int x132), (7, .int x132), (0, .ref (ad 0)), (1, .int a1), (2, .int a2), (4, .int v70_4), (5, .int v79_5)]) hx hb dX12_questions_176 hl (k := 7) rfl ex144.symm (by decide) rfl (fun ls hl => ?_)
                      have ex144 : x144.toInt = v93_6.toInt + 1 := by rw [ex144]; exact wk_add (y := 1) (show -2147483648 ≤ v93_6.toInt + 1 by omega) (show v93_6.toInt + 1 ≤ 2147483647 by omega)
                      refine lv_goto (tgt := 93) hx hb dX12_questions_179 (by decide) ?_
                      exact ih93 x132 x144 f93_12_0 H locs ls w119 (show 0 ≤ a1.toInt from r33) (show a1.toInt ≤ 3 from t34) (show 0 ≤ a2.toInt from r35) (show a2.toInt ≤ 120 from t36) (show x132.toInt ≤ 100000000 by omega) (show 0 ≤ v70_4.toInt from r38) (show v70_4.toInt ≤ 120 from t39) (show 0 ≤ v79_5.toInt from r40) (show v79_5.toInt ≤ 9 from t41) (show 0 ≤ x144.toInt by omega) (show x144.toInt ≤ 2 by omega) (show 0 ≤ f70_12__9_a1_toInt_216_toNat.toInt from r44) (show f70_12__9_a1_toInt_216_toNat.toInt ≤ 9 from t45) (show 1 ≤ f93_12_0.toInt from r47) (show f93_12_0.toInt ≤ 10 from t48) (show 1 ≤ f70_12_5.toInt from r50) (show f70_12_5.toInt ≤ 4 from t51) (show (2 - x144.toInt).toNat < n93 by omega) hw hT hF c122 c123 c124 (lv_sub hl [3, 4, 5, 1, 6, 7, 0] rfl)
          refine lv_iload hx hb dX12_questions_79 (lv_at hl 5 rfl) ?_
          refine lv_aload_n hx hb dX12_questions_81 rfl (lv_at hl 0 rfl) ?_
          refine tk_getA hC hK hw hT hinX12 kM_at0 (by decide) rfl 26 (by decide) (List.mem_cons_of_mem _ uw_7_1) rfl rfl dX12_questions_82 ?_
          refine lv_iconst (v := 0) hx hb dX12_questions_85 (by decide) ?_
          refine tk_ialdR hC hK hw hT kM_at12 rfl (by decide) (by decide) dX12_questions_86 (fun x145 c146 Ex145 => ?_)
          have bx145 := tk_rgI rfl 0 1 1 0 10 (by decide +kernel) ⟨0, by decide, by decide⟩ Ex145
          have c146 : gi w16 12 0 = x145 := c146
          refine lv_icmp_ge (tgt := 188) hx hb dX12_questions_87 (by decide) (fun c147 => ?_) (fun c147 => ?_)
          · have c147 : x145.toInt ≤ v79_5.toInt := wk_le.mp c147
            obtain ⟨x148, ex148⟩ : ∃ y : Int32, y = v70_4 + Int32.ofInt 1 := ⟨_, rfl⟩
            refine lv_iinc (v := x148) (lv' := [(4, .int x148), (0, .ref (ad 0)), (1, .int a1), (2, .int a2), (3, .int v79_3), (5, .int v79_5)]) hx hb dX12_questions_188 hl (k := 4) rfl ex148.symm (by decide) rfl (fun ls hl => ?_)
            have ex148 : x148.toInt = v70_4.toInt + 1 := by rw [ex148]; exact wk_add (y := 1) (show -2147483648 ≤ v70_4.toInt + 1 by omega) (show v70_4.toInt + 1 ≤ 2147483647 by omega)
            refine lv_goto (tgt := 70) hx hb dX12_questions_191 (by decide) ?_
            exact ih70 v79_3 x148 f70_12__9_a1_toInt_216_toNat f70_12_5 H locs ls w16 (show 0 ≤ a1.toInt from r17) (show a1.toInt ≤ 3 from t18) (show 0 ≤ a2.toInt from r19) (show a2.toInt ≤ 120 from t20) (show v79_3.toInt ≤ 100000000 from t21) (show 0 ≤ x148.toInt by omega) (show x148.toInt ≤ 121 by omega) (show 0 ≤ f70_12__9_a1_toInt_216_toNat.toInt from r26) (show f70_12__9_a1_toInt_216_toNat.toInt ≤ 9 from t27) (show 1 ≤ f70_12_5.toInt from r29) (show f70_12_5.toInt ≤ 4 from t30) (show (121 - x148.toInt).toNat < n70 by omega) hw hT hF c28 c31 (lv_sub hl [1, 2, 3, 4, 0] rfl)
          · have c147 : v79_5.toInt < x145.toInt := wk_leF c147
            refine lv_iconst (v := 0) hx hb dX12_questions_90 (by decide) ?_
            refine lv_istore (lv' := [(6, .int 0), (0, .ref (ad 0)), (1, .int a1), (2, .int a2), (3, .int v79_3), (4, .int v70_4), (5, .int v79_5)]) hx hb dX12_questions_91 hl (by decide) rfl (fun ls hl => ?_)
            exact L93 ((2 - (0 : Int)).toNat + 1) v79_3 0 x145 H locs ls w16 (show 0 ≤ a1.toInt from r17) (show a1.toInt ≤ 3 from t18) (show 0 ≤ a2.toInt from r19) (show a2.toInt ≤ 120 from t20) (show v79_3.toInt ≤ 100000000 from t21) (show 0 ≤ v70_4.toInt from r22) (show v70_4.toInt ≤ 120 from t23) (show 0 ≤ v79_5.toInt from r24) (show v79_5.toInt ≤ 9 by omega) (by decide) (by decide) (show 0 ≤ f70_12__9_a1_toInt_216_toNat.toInt from r26) (show f70_12__9_a1_toInt_216_toNat.toInt ≤ 9 from t27) (show 1 ≤ x145.toInt by omega) (show x145.toInt ≤ 10 by omega) (show 1 ≤ f70_12_5.toInt from r29) (show f70_12_5.toInt ≤ 4 from t30) (Nat.lt_succ_self _) hw hT hF c28 c146 c31 (lv_sub hl [1, 2, 3, 4, 5, 6, 0] rfl)
      refine lv_iload hx hb dX12_questions_70 (lv_at hl 4 rfl) ?_
      refine lv_iload_n hx hb dX12_questions_72 rfl (lv_at hl 2 rfl) ?_
      refine lv_icmp_gt (tgt := 194) hx hb dX12_questions_73 (by decide) (fun c149 => ?_) (fun c149 => ?_)
      · have c149 : a2.toInt < v70_4.toInt := wk_lt.mp c149
        refine lv_iload_n hx hb dX12_questions_194 rfl (lv_at hl 3 rfl) ?_
        refine lv_ldcw (v := 100000000) hx hb hC.2.2.2.1 (hC.2.2.2.2 _ (List.mem_cons_of_mem _ uw_38_2)) dX12_questions_195 ?_
        refine lv_icmp_ne (tgt := 206) hx hb dX12_questions_198 (by decide) (fun c150 => ?_) (fun c150 => ?_)
        · have c150 : ¬ v70_3.toInt = (100000000 : Int) := wk_eqF c150
          refine lv_iload_n hx hb dX12_questions_206 rfl (lv_at hl 3 rfl) ?_
          exact tk_iret hC hr hlocks hK ⟨hT, hF, (Or.inl ⟨(show v70_3.toInt ≤ 99999999 by omega), (show 0 ≤ a1.toInt from r3), (show a1.toInt ≤ 3 from t4), (show 0 ≤ a2.toInt from r5), (show a2.toInt ≤ 120 from t6), ⟨f70_12_5, c15, (show 1 ≤ f70_12_5.toInt from r13), (show f70_12_5.toInt ≤ 4 from t14)⟩⟩)⟩ hw dX12_questions_207
        · have c150 : v70_3.toInt = (100000000 : Int) := wk_eq.mp c150
          refine lv_bipush (v := (-2)) hx hb dX12_questions_201 (by decide) ?_
          refine lv_goto (tgt := 207) hx hb dX12_questions_203 (by decide) ?_
          exact tk_iret hC hr hlocks hK ⟨hT, hF, (Or.inr (Or.inl ⟨rfl, (show 0 ≤ a1.toInt from r3), (show a1.toInt ≤ 3 from t4), (show 0 ≤ a2.toInt from r5), (show a2.toInt ≤ 120 from t6), ⟨f70_12_5, c15, (show 1 ≤ f70_12_5.toInt from r13), (show f70_12_5.toInt ≤ 4 from t14)⟩⟩))⟩ hw dX12_questions_207
      · have c149 : v70_4.toInt ≤ a2.toInt := wk_ltF c149
        refine lv_iconst (v := 0) hx hb dX12_questions_76 (by decide) ?_
        refine lv_istore (lv' := [(5, .int 0), (0, .ref (ad 0)), (1, .int a1), (2, .int a2), (3, .int v70_3), (4, .int v70_4)]) hx hb dX12_questions_77 hl (by decide) rfl (fun ls hl => ?_)
        exact L79 ((10 - (0 : Int)).toNat + 1) v70_3 0 H locs ls w2 (show 0 ≤ a1.toInt from r3) (show a1.toInt ≤ 3 from t4) (show 0 ≤ a2.toInt from r5) (show a2.toInt ≤ 120 from t6) (show v70_3.toInt ≤ 100000000 from t7) (show 0 ≤ v70_4.toInt from r8) (show v70_4.toInt ≤ 120 by omega) (by decide) (by decide) (show 0 ≤ f70_12__9_a1_toInt_216_toNat.toInt from r10) (show f70_12__9_a1_toInt_216_toNat.toInt ≤ 9 from t11) (show 1 ≤ f70_12_5.toInt from r13) (show f70_12_5.toInt ≤ 4 from t14) (Nat.lt_succ_self _) hw hT hF c12 c15 (lv_sub hl [1, 2, 3, 4, 5, 0] rfl)
  have L24 : ∀ (n24 : Nat) (v24_3 : Int32) (f24_12_5 : Int32) (H : Heap) (locs : List Loc) (ls : Array Slot) (w151 : va_W), 0 ≤ a1.toInt → a1.toInt ≤ 3 → 0 ≤ a2.toInt → a2.toInt ≤ 120 → 0 ≤ v24_3.toInt → v24_3.toInt ≤ 2600 → 1 ≤ f24_12_5.toInt → f24_12_5.toInt ≤ 4 → (2600 - v24_3.toInt).toNat < n24 → Wd dC dI A s.heap H locs w151 → TW ksM ad cy B qr 12 w151 → FE ksM [(72, 0, 12), (73, 0, 10), (76, 0, 2600)] w0 w151 → gi w151 12 5 = f24_12_5 → lv_has ls 8 [(0, .ref (ad 0)), (1, .int a1), (2, .int a2), (3, .int v24_3)] → W p l e ({ frames := 6, cells := 0, slots := 0, locals := 134 }) s m (List.toArray [.ref (ad 0), .int a1, .int a2]) below meth c H locs 0 0 (MQ below (va_Qi (P_X12_questions_1 ad cy B qr s1 a1 a2 w0) (fun u : va_W => wpost dC dI cy A u) A) (List.toArray [.ref (ad 0), .int a1, .int a2]) s 0 0 A) (F0 m 24 ls []) := by
    intro n24
    induction n24 with
    | zero => intro v24_3 f24_12_5 H locs ls w151 r152 t153 r154 t155 r156 t157 r158 t159 hm24 hw hT hF c160 hl; omega
    | succ n24 ih24 =>
      intro v24_3 f24_12_5 H locs ls w151 r152 t153 r154 t155 r156 t157 r158 t159 hm24 hw hT hF c160 hl
      refine lv_iload_n hx hb dX12_questions_24 rfl (lv_at hl 3 rfl) ?_
      refine lv_sipush (v := 2600) hx hb dX12_questions_25 (by decide) ?_
      refine lv_icmp_ge (tgt := 46) hx hb dX12_questions_28 (by decide) (fun c161 => ?_) (fun c161 => ?_)
      · have c161 : (2600 : Int) ≤ v24_3.toInt := wk_le.mp c161
        refine lv_aload_n hx hb dX12_questions_46 rfl (lv_at hl 0 rfl) ?_
        refine lv_iconst (v := 0) hx hb dX12_questions_47 (by decide) ?_
        refine lv_aload_n hx hb dX12_questions_48 rfl (lv_at hl 0 rfl) ?_
        refine lv_iload_n hx hb dX12_questions_49 rfl (lv_at hl 1 rfl) ?_
        refine lv_iconst (v := 0) hx hb dX12_questions_50 (by decide) ?_
        refine tk_Vi hC hK hw hT hA hE hSR kM_at0 (by decide) rfl (k_X12_walkerOf_2 l adK adV dC dI cy ad B (by omega) (by omega) qr s1   a1 (show 0 ≤ a1.toInt from r152) (show a1.toInt ≤ 3 from t153) w151 H.size hT ) (cwV 2 hC.2.2.2.2 uV_RX12_372 rfl rfl rfl (by decide +kernel) ⟨Nat.le_of_ble_eq_true rfl, Nat.le_of_ble_eq_true rfl⟩) rfl hl.1 rfl (Nat.le_of_ble_eq_true rfl) dX12_questions_51 (fun r162 w164 H locs hp163 hw => ?_)
        obtain ⟨rfl, hg169⟩ := hp163
        obtain ⟨g166, g167, c168⟩ := hg169
        refine lv_aload_n hx hb dX12_questions_54 rfl (lv_at hl 0 rfl) ?_
        refine lv_iload_n hx hb dX12_questions_55 rfl (lv_at hl 1 rfl) ?_
        refine tk_Vi hC hK hw hT hA hE hSR kM_at0 (by decide) rfl (k_X12_askedToday_1 l adK adV dC dI cy ad B (by omega) (by omega) qr s1   a1 (show 0 ≤ a1.toInt from r152) (show a1.toInt ≤ 3 from t153) w151 H.size hT ) (cwV 1 hC.2.2.2.2 uV_RX12_375 rfl rfl rfl (by decide +kernel) ⟨Nat.le_of_ble_eq_true rfl, Nat.le_of_ble_eq_true rfl⟩) rfl hl.1 rfl (Nat.le_of_ble_eq_true rfl) dX12_questions_56 (fun r170 w172 H locs hp171 hw => ?_)
        obtain ⟨rfl, hg174⟩ := hp171
        rcases hg174 with rfl | rfl
        · refine lv_iconst (v := 0) hx hb dX12_questions_59 (by decide) ?_
          refine tk_Vv hC hK hw hT hA hE hSR kM_at0 (by decide) rfl (k_X12_could_1 l adK adV dC dI cy ad B (by omega) (by omega) qr s1   r162 (show 0 ≤ r162.toInt by omega) (show r162.toInt ≤ 9 by omega) w151 H.size hT ) (cwV 4 hC.2.2.2.2 uV_RX12_439 rfl rfl rfl (by decide +kernel) ⟨Nat.le_of_ble_eq_true rfl, Nat.le_of_ble_eq_true rfl⟩) rfl hl.1 rfl (Nat.le_of_ble_eq_true rfl) dX12_questions_60 (fun w177 H locs hp176 hw => ?_)
          obtain ⟨hT, k178, hg179⟩ := hp176
          have hF := hF.tr k178 (by decide)
          have c180 := k178.gi kM_at12 (by decide) c160
          have c181 := k178.gi kM_at12 rfl c168
          clear hg179
          refine lv_ldcw (v := 100000000) hx hb hC.2.2.2.1 (hC.2.2.2.2 _ (List.mem_cons_of_mem _ uw_38_2)) dX12_questions_63 ?_
          refine lv_istore_n (lv' := [(3, .int 100000000), (0, .ref (ad 0)), (1, .int a1), (2, .int a2)]) hx hb dX12_questions_66 rfl hl (by decide) rfl (fun ls hl => ?_)
          refine lv_iconst (v := 0) hx hb dX12_questions_67 (by decide) ?_
          refine lv_istore (lv' := [(4, .int 0), (3, .int 100000000), (0, .ref (ad 0)), (1, .int a1), (2, .int a2)]) hx hb dX12_questions_68 hl (by decide) rfl (fun ls hl => ?_)
          exact L70 ((121 - (0 : Int)).toNat + 1) 100000000 0 r162 f24_12_5 H locs ls w177 (show 0 ≤ a1.toInt from r152) (show a1.toInt ≤ 3 from t153) (show 0 ≤ a2.toInt from r154) (show a2.toInt ≤ 120 from t155) (by decide) (by decide) (by decide) (show 0 ≤ r162.toInt by omega) (show r162.toInt ≤ 9 by omega) (show 1 ≤ f24_12_5.toInt from r158) (show f24_12_5.toInt ≤ 4 from t159) (Nat.lt_succ_self _) hw hT hF c181 c180 (lv_sub hl [2, 3, 4, 1, 0] rfl)
        · refine lv_iconst (v := 0) hx hb dX12_questions_59 (by decide) ?_
          refine tk_Vv hC hK hw hT hA hE hSR kM_at0 (by decide) rfl (k_X12_could_2 l adK adV dC dI cy ad B (by omega) (by omega) qr s1   r162 (show 0 ≤ r162.toInt by omega) (show r162.toInt ≤ 9 by omega) w151 H.size hT ) (cwV 4 hC.2.2.2.2 uV_RX12_439 rfl rfl rfl (by decide +kernel) ⟨Nat.le_of_ble_eq_true rfl, Nat.le_of_ble_eq_true rfl⟩) rfl hl.1 rfl (Nat.le_of_ble_eq_true rfl) dX12_questions_60 (fun w184 H locs hp183 hw => ?_)
          obtain ⟨hT, k185, hg186⟩ := hp183
          have hF := hF.tr k185 (by decide)
          have c187 := k185.gi kM_at12 (by decide) c160
          have c188 := k185.gi kM_at12 rfl c168
          clear hg186
          refine lv_ldcw (v := 100000000) hx hb hC.2.2.2.1 (hC.2.2.2.2 _ (List.mem_cons_of_mem _ uw_38_2)) dX12_questions_63 ?_
          refine lv_istore_n (lv' := [(3, .int 100000000), (0, .ref (ad 0)), (1, .int a1), (2, .int a2)]) hx hb dX12_questions_66 rfl hl (by decide) rfl (fun ls hl => ?_)
          refine lv_iconst (v := 0) hx hb dX12_questions_67 (by decide) ?_
          refine lv_istore (lv' := [(4, .int 0), (3, .int 100000000), (0, .ref (ad 0)), (1, .int a1), (2, .int a2)]) hx hb dX12_questions_68 hl (by decide) rfl (fun ls hl => ?_)
          exact L70 ((121 - (0 : Int)).toNat + 1) 100000000 0 r162 f24_12_5 H locs ls w184 (show 0 ≤ a1.toInt from r152) (show a1.toInt ≤ 3 from t153) (show 0 ≤ a2.toInt from r154) (show a2.toInt ≤ 120 from t155) (by decide) (by decide) (by decide) (show 0 ≤ r162.toInt by omega) (show r162.toInt ≤ 9 by omega) (show 1 ≤ f24_12_5.toInt from r158) (show f24_12_5.toInt ≤ 4 from t159) (Nat.lt_succ_self _) hw hT hF c188 c187 (lv_sub hl [2, 3, 4, 1, 0] rfl)
      · have c161 : v24_3.toInt < (2600 : Int) := wk_leF c161
        refine lv_aload_n hx hb dX12_questions_31 rfl (lv_at hl 0 rfl) ?_
        refine tk_getA hC hK hw hT hinX12 kM_at0 (by decide) rfl 34 (by decide) (List.mem_cons_of_mem _ uw_7_7) rfl rfl dX12_questions_32 ?_
        refine lv_iload_n hx hb dX12_questions_35 rfl (lv_at hl 3 rfl) ?_
        refine lv_ldcw (v := 100000000) hx hb hC.2.2.2.1 (hC.2.2.2.2 _ (List.mem_cons_of_mem _ uw_38_2)) dX12_questions_36 ?_
        refine tk_iast hC hK hw hT kM_at17 (by decide) rfl rfl (show 0 ≤ v24_3.toInt from r156) (show v24_3.toInt < 2600 from c161) (by decide) (by decide) dX12_questions_39 (fun H locs w189 hw hT k191 c190 => ?_)
        have hF := hF.put kM_at17 (inE_of (a := 0) (b := 2600) (by decide) (show 0 ≤ v24_3.toInt.toNat by omega) (show v24_3.toInt.toNat ≤ 2600 by omega)) k191
        have c192 := k191.gi (Or.inl (tk_ne kM_at12 kM_at17 (by decide))) c160
        obtain ⟨x193, ex193⟩ : ∃ y : Int32, y = v24_3 + Int32.ofInt 1 := ⟨_, rfl⟩
        refine lv_iinc (v := x193) (lv' := [(3, .int x193), (0, .ref (ad 0)), (1, .int a1), (2, .int a2)]) hx hb dX12_questions_40 hl (k := 3) rfl ex193.symm (by decide) rfl (fun ls hl => ?_)
        have ex193 : x193.toInt = v24_3.toInt + 1 := by rw [ex193]; exact wk_add (y := 1) (show -2147483648 ≤ v24_3.toInt + 1 by omega) (show v24_3.toInt + 1 ≤ 2147483647 by omega)
        refine lv_goto (tgt := 24) hx hb dX12_questions_43 (by decide) ?_
        exact ih24 x193 f24_12_5 H locs ls w189 (show 0 ≤ a1.toInt from r152) (show a1.toInt ≤ 3 from t153) (show 0 ≤ a2.toInt from r154) (show a2.toInt ≤ 120 from t155) (show 0 ≤ x193.toInt by omega) (show x193.toInt ≤ 2600 by omega) (show 1 ≤ f24_12_5.toInt from r158) (show f24_12_5.toInt ≤ 4 from t159) (show (2600 - x193.toInt).toNat < n24 by omega) hw hT hF c192 (lv_sub hl [1, 2, 3, 0] rfl)
  refine lv_aload_n hx hb dX12_questions_0 rfl (lv_at hl 0 rfl) ?_
  refine lv_iload_n hx hb dX12_questions_1 rfl (lv_at hl 1 rfl) ?_
  refine tk_Vi hC hK hw hT hA hE hSR kM_at0 (by decide) rfl (k_X12_isWalker_1 l adK adV dC dI cy ad B (by omega) (by omega) qr s1   a1 w0 s.heap.size hT ) (cwV 1 hC.2.2.2.2 uV_RX12_367 rfl rfl rfl (by decide +kernel) ⟨Nat.le_of_ble_eq_true rfl, Nat.le_of_ble_eq_true rfl⟩) rfl hl.1 rfl (Nat.le_of_ble_eq_true rfl) dX12_questions_2 (fun r194 w196 H locs hp195 hw => ?_)
  obtain ⟨rfl, hg202⟩ := hp195
  rcases hg202 with rfl | ⟨rfl, g198, g199, ⟨x200, c201, rx200, tx200⟩⟩
  · refine lv_if_eq (tgt := 20) hx hb dX12_questions_5 (by decide) (fun _ => ?_) (fun c => absurd (by decide) c)
    exact J20  H locs ls w0   hw hT hF  (lv_sub hl [0, 1, 2] rfl)
  · refine lv_if_eq (tgt := 20) hx hb dX12_questions_5 (by decide) (fun c => absurd c (by decide)) (fun _ => ?_)
    refine lv_iload_n hx hb dX12_questions_8 rfl (lv_at hl 2 rfl) ?_
    refine lv_i2l hx hb dX12_questions_9 rfl ?_
    refine lv_topl (fun x203 ex203 => ?_)
    have ex203 : x203.toInt = a2.toInt := by rw [ex203]; exact wk_i2l _
    have bx203 := wk_i32 a2
    refine lv_lconst (v := 0) hx hb dX12_questions_10 (by decide) ?_
    refine lv_ldc2 (v := 120) hx hb hC.2.2.2.1 (hC.2.2.2.2 _ (List.mem_cons_of_mem _ uw_57_5)) dX12_questions_11 ?_
    refine tk_Si hC hK hw hT hA hE hSR (k_X12_in_17 l adK adV dC dI cy ad B (by omega) (by omega) qr s1   x203 (show (-2147483648) ≤ x203.toInt by omega) (show x203.toInt ≤ 2147483647 by omega) w0 H.size hT ) (va_cwS 3 hC.2.2.2.2 uS_RX12_122 rfl rfl rfl (by decide +kernel) ⟨Nat.le_of_ble_eq_true rfl, Nat.le_of_ble_eq_true rfl⟩) rfl hl.1 rfl (Nat.le_of_ble_eq_true rfl) dX12_questions_14 (fun r204 w206 H locs hp205 hw => ?_)
    obtain ⟨rfl, hg210⟩ := hp205
    rcases hg210 with rfl | ⟨rfl, g208, g209⟩
    · refine lv_if_ne (tgt := 22) hx hb dX12_questions_17 (by decide) (fun c => absurd (by decide) c) (fun _ => ?_)
      exact J20  H locs ls w0   hw hT hF  (lv_sub hl [0, 1, 2] rfl)
    · refine lv_if_ne (tgt := 22) hx hb dX12_questions_17 (by decide) (fun _ => ?_) (fun c => absurd c (by decide))
      refine lv_iconst (v := 0) hx hb dX12_questions_22 (by decide) ?_
      refine lv_istore_n (lv' := [(3, .int 0), (0, .ref (ad 0)), (1, .int a1), (2, .int a2)]) hx hb dX12_questions_23 rfl hl (by decide) rfl (fun ls hl => ?_)
      exact L24 ((2600 - (0 : Int)).toNat + 1) 0 x200 H locs ls w0 (show 0 ≤ a1.toInt by omega) (show a1.toInt ≤ 3 by omega) (show 0 ≤ a2.toInt by omega) (show a2.toInt ≤ 120 by omega) (by decide) (by decide) (show 1 ≤ x200.toInt by omega) (show x200.toInt ≤ 4 by omega) (Nat.lt_succ_self _) hw hT hF c201 (lv_sub hl [1, 2, 3, 0] rfl)
abbrev P_X12_bits_1 (ad : Nat → Nat) (cy : Nat → ClassId) (B : Int) (qr : Nat) (s1 : Int) (a0 : Int32) (w0 : va_W) : Int32 → va_W → Prop := fun r u => w0 = u ∧ ((True))
set_option maxHeartbeats 4000000 in
set_option maxRecDepth 100000 in
theorem k_X12_bits_1 (l : Launch) (adK adV : Nat → Nat) (dC : Nat → ClassId) (dI : Nat → Nat → Nat) (cy : Nat → ClassId) (ad : Nat → Nat) (B : Int) (hB0 : 100000 ≤ B) (hB1 : B ≤ 1073741824) (qr : Nat) (s1 : Int)  (a0 : Int32) (ra0 : 0 ≤ a0.toInt) (ta0 : a0.toInt ≤ 63) (w0 : va_W) (sz : Nat) (hT : TW ksM ad cy B qr 12 w0)  : Met l yX12_bits (wu yX12_bits cX12_bits 3 (some .int)) ({ frames := 1, cells := 0, slots := 0, locals := 12 }) (va_Pc [.int a0] (wpreS adK adV dC dI cy sz w0)) (va_Qi (P_X12_bits_1 ad cy B qr s1 a0 w0) (fun u : va_W => wpost dC dI cy (va_A w0 sz) u) (va_A w0 sz)) 0 0 (va_A w0 sz) := by
  refine Met.ofW (cc := cX12_bits) (maxL := 3) (ret := (some .int)) (by decide) rfl ?_
  intro p e s m args below meth c s₁ Bk hml hv
  obtain ⟨rfl, ⟨hsz, hP, hK, hD0⟩, hE, hSR⟩ := hv
  have hx := Bk.exec
  have hb := Bk.bytes
  have hr := Bk.returns
  have hlocks := Bk.notSynchronized
  have hC : CallFix p m c cX12_bits 3 s _ (wu yX12_bits cX12_bits 3 (some .int)) RX12 := ⟨hx, hb, hml, findClass_of_methodNamed Bk.named, atoms_spec (ws := (wu yX12_bits cX12_bits 3 (some .int))) Bk.pre⟩
  subst hsz
  have hD := hD0.self (sz := s.heap.size)
  generalize hAe : va_A w0 s.heap.size = A at hD hE ⊢
  have hA : ∀ q : Nat, s.heap.size ≤ q → A q := fun q h => by rw [← hAe]; exact Or.inr h
  have hw : Wd dC dI A s.heap s.heap [] w0 := ⟨hP, hD, va_S.rf⟩
  have hF : FE ksM ([] : List (Nat × Nat × Nat)) w0 w0 := FE.rf
  have hl := lv_entry ([.int a0]) (n := 3) (Nat.le_of_ble_eq_true rfl)
  rw [lg_entry_eq]
  generalize (lg_sl ([.int a0]) ++ List.replicate (3 - (lg_sl ([.int a0])).length) Slot.unset).toArray = ls at hl ⊢
  have hl : lv_has ls 3 [(0, .int a0)] := hl
  generalize hloc : ([] : List Loc) = locs at hw ⊢
  have L4 : ∀ (n4 : Nat) (v4_1 : Int32) (v4_2 : Int32) (H : Heap) (locs : List Loc) (ls : Array Slot), 0 ≤ a0.toInt → a0.toInt ≤ 63 → 0 ≤ v4_2.toInt → v4_2.toInt ≤ 63 → (v4_2.toInt - 0).toNat < n4 → Wd dC dI A s.heap H locs w0 → lv_has ls 3 [(0, .int a0), (1, .int v4_1), (2, .int v4_2)] → W p l e ({ frames := 1, cells := 0, slots := 0, locals := 12 }) s m (List.toArray [.int a0]) below meth c H locs 0 0 (MQ below (va_Qi (P_X12_bits_1 ad cy B qr s1 a0 w0) (fun u : va_W => wpost dC dI cy A u) A) (List.toArray [.int a0]) s 0 0 A) (F0 m 4 ls []) := by
    intro n4
    induction n4 with
    | zero => intro v4_1 v4_2 H locs ls r1 t2 r3 t4 hm4 hw hl; omega
    | succ n4 ih4 =>
      intro v4_1 v4_2 H locs ls r1 t2 r3 t4 hm4 hw hl
      refine lv_iload_n hx hb dX12_bits_4 rfl (lv_at hl 2 rfl) ?_
      refine lv_if_eq (tgt := 20) hx hb dX12_bits_5 (by decide) (fun c5 => ?_) (fun c5 => ?_)
      · have c5 : v4_2.toInt = (0 : Int) := wk_eq.mp c5
        refine lv_iload_n hx hb dX12_bits_20 rfl (lv_at hl 1 rfl) ?_
        exact tk_iret hC hr hlocks hK ⟨rfl, trivial⟩ hw dX12_bits_21
      · have c5 : ¬ v4_2.toInt = (0 : Int) := wk_eqF c5
        have nx7 := wk_i32 v4_1
        obtain ⟨x6, ex6⟩ : ∃ y : Int32, y = v4_1 + Int32.ofInt 1 := ⟨_, rfl⟩
        refine lv_iinc (v := x6) (lv' := [(1, .int x6), (0, .int a0), (2, .int v4_2)]) hx hb dX12_bits_8 hl (k := 1) rfl ex6.symm (by decide) rfl (fun ls hl => ?_)
        refine lv_iload_n hx hb dX12_bits_11 rfl (lv_at hl 2 rfl) ?_
        refine lv_iload_n hx hb dX12_bits_12 rfl (lv_at hl 2 rfl) ?_
        refine lv_iconst (v := 1) hx hb dX12_bits_13 (by decide) ?_
        refine lv_isub hx hb dX12_bits_14 ?_
        refine lv_topi (fun x8 ex8 => ?_)
        have ex8 : x8.toInt = v4_2.toInt - (1 : Int) := by rw [ex8]; exact wk_sub (show (-2147483648) ≤ v4_2.toInt - (1 : Int) by omega) (show v4_2.toInt - (1 : Int) ≤ 2147483647 by omega)
        refine lv_iand hx hb dX12_bits_15 ?_
        refine lv_topi (fun x9 ex9 => ?_)
        have bx9 : 0 ≤ x9.toInt ∧ x9.toInt ≤ x8.toInt := by rw [ex9]; exact wk_and (by omega)
        refine lv_istore_n (lv' := [(2, .int x9), (1, .int x6), (0, .int a0)]) hx hb dX12_bits_16 rfl hl (by decide) rfl (fun ls hl => ?_)
        refine lv_goto (tgt := 4) hx hb dX12_bits_17 (by decide) ?_
        exact ih4 x6 x9 H locs ls  (show 0 ≤ a0.toInt from r1) (show a0.toInt ≤ 63 from t2) (show 0 ≤ x9.toInt by omega) (show x9.toInt ≤ 63 by omega) (show (x9.toInt - 0).toNat < n4 by omega) hw   (lv_sub hl [2, 1, 0] rfl)
  refine lv_iconst (v := 0) hx hb dX12_bits_0 (by decide) ?_
  refine lv_istore_n (lv' := [(1, .int 0), (0, .int a0)]) hx hb dX12_bits_1 rfl hl (by decide) rfl (fun ls hl => ?_)
  refine lv_iload_n hx hb dX12_bits_2 rfl (lv_at hl 1 rfl) ?_
  refine lv_istore_n (lv' := [(2, .int a0), (1, .int 0), (0, .int a0)]) hx hb dX12_bits_3 rfl hl (by decide) rfl (fun ls hl => ?_)
  exact L4 ((a0.toInt - 0).toNat + 1) 0 a0 s.heap locs ls  (show 0 ≤ a0.toInt from ra0) (show a0.toInt ≤ 63 from ta0) (show 0 ≤ a0.toInt from ra0) (show a0.toInt ≤ 63 from ta0) (Nat.lt_succ_self _) hw   (lv_sub hl [2, 1, 0] rfl)
abbrev P_X12_bits_2 (ad : Nat → Nat) (cy : Nat → ClassId) (B : Int) (qr : Nat) (s1 : Int) (a0 : Int32) (w0 : va_W) : Int32 → va_W → Prop := fun r u => w0 = u ∧ ((True))
set_option maxHeartbeats 4000000 in
set_option maxRecDepth 100000 in
theorem k_X12_bits_2 (l : Launch) (adK adV : Nat → Nat) (dC : Nat → ClassId) (dI : Nat → Nat → Nat) (cy : Nat → ClassId) (ad : Nat → Nat) (B : Int) (hB0 : 100000 ≤ B) (hB1 : B ≤ 1073741824) (qr : Nat) (s1 : Int)  (a0 : Int32) (ra0 : 1 ≤ a0.toInt) (ta0 : a0.toInt ≤ 63) (w0 : va_W) (sz : Nat) (hT : TW ksM ad cy B qr 12 w0)  : Met l yX12_bits (wu yX12_bits cX12_bits 3 (some .int)) ({ frames := 1, cells := 0, slots := 0, locals := 12 }) (va_Pc [.int a0] (wpreS adK adV dC dI cy sz w0)) (va_Qi (P_X12_bits_2 ad cy B qr s1 a0 w0) (fun u : va_W => wpost dC dI cy (va_A w0 sz) u) (va_A w0 sz)) 0 0 (va_A w0 sz) := by
  refine Met.ofW (cc := cX12_bits) (maxL := 3) (ret := (some .int)) (by decide) rfl ?_
  intro p e s m args below meth c s₁ Bk hml hv
  obtain ⟨rfl, ⟨hsz, hP, hK, hD0⟩, hE, hSR⟩ := hv
  have hx := Bk.exec
  have hb := Bk.bytes
  have hr := Bk.returns
  have hlocks := Bk.notSynchronized
  have hC : CallFix p m c cX12_bits 3 s _ (wu yX12_bits cX12_bits 3 (some .int)) RX12 := ⟨hx, hb, hml, findClass_of_methodNamed Bk.named, atoms_spec (ws := (wu yX12_bits cX12_bits 3 (some .int))) Bk.pre⟩
  subst hsz
  have hD := hD0.self (sz := s.heap.size)
  generalize hAe : va_A w0 s.heap.size = A at hD hE ⊢
  have hA : ∀ q : Nat, s.heap.size ≤ q → A q := fun q h => by rw [← hAe]; exact Or.inr h
  have hw : Wd dC dI A s.heap s.heap [] w0 := ⟨hP, hD, va_S.rf⟩
  have hF : FE ksM ([] : List (Nat × Nat × Nat)) w0 w0 := FE.rf
  have hl := lv_entry ([.int a0]) (n := 3) (Nat.le_of_ble_eq_true rfl)
  rw [lg_entry_eq]
  generalize (lg_sl ([.int a0]) ++ List.replicate (3 - (lg_sl ([.int a0])).length) Slot.unset).toArray = ls at hl ⊢
  have hl : lv_has ls 3 [(0, .int a0)] := hl
  generalize hloc : ([] : List Loc) = locs at hw ⊢
  have L4 : ∀ (n4 : Nat) (v4_1 : Int32) (v4_2 : Int32) (H : Heap) (locs : List Loc) (ls : Array Slot), 1 ≤ a0.toInt → a0.toInt ≤ 63 → 0 ≤ v4_2.toInt → v4_2.toInt ≤ 63 → (v4_2.toInt - 0).toNat < n4 → Wd dC dI A s.heap H locs w0 → lv_has ls 3 [(0, .int a0), (1, .int v4_1), (2, .int v4_2)] → W p l e ({ frames := 1, cells := 0, slots := 0, locals := 12 }) s m (List.toArray [.int a0]) below meth c H locs 0 0 (MQ below (va_Qi (P_X12_bits_2 ad cy B qr s1 a0 w0) (fun u : va_W => wpost dC dI cy A u) A) (List.toArray [.int a0]) s 0 0 A) (F0 m 4 ls []) := by
    intro n4
    induction n4 with
    | zero => intro v4_1 v4_2 H locs ls r1 t2 r3 t4 hm4 hw hl; omega
    | succ n4 ih4 =>
      intro v4_1 v4_2 H locs ls r1 t2 r3 t4 hm4 hw hl
      refine lv_iload_n hx hb dX12_bits_4 rfl (lv_at hl 2 rfl) ?_
      refine lv_if_eq (tgt := 20) hx hb dX12_bits_5 (by decide) (fun c5 => ?_) (fun c5 => ?_)
      · have c5 : v4_2.toInt = (0 : Int) := wk_eq.mp c5
        refine lv_iload_n hx hb dX12_bits_20 rfl (lv_at hl 1 rfl) ?_
        exact tk_iret hC hr hlocks hK ⟨rfl, trivial⟩ hw dX12_bits_21
      · have c5 : ¬ v4_2.toInt = (0 : Int) := wk_eqF c5
        have nx7 := wk_i32 v4_1
        obtain ⟨x6, ex6⟩ : ∃ y : Int32, y = v4_1 + Int32.ofInt 1 := ⟨_, rfl⟩
        refine lv_iinc (v := x6) (lv' := [(1, .int x6), (0, .int a0), (2, .int v4_2)]) hx hb dX12_bits_8 hl (k := 1) rfl ex6.symm (by decide) rfl (fun ls hl => ?_)
        refine lv_iload_n hx hb dX12_bits_11 rfl (lv_at hl 2 rfl) ?_
        refine lv_iload_n hx hb dX12_bits_12 rfl (lv_at hl 2 rfl) ?_
        refine lv_iconst (v := 1) hx hb dX12_bits_13 (by decide) ?_
        refine lv_isub hx hb dX12_bits_14 ?_
        refine lv_topi (fun x8 ex8 => ?_)
        have ex8 : x8.toInt = v4_2.toInt - (1 : Int) := by rw [ex8]; exact wk_sub (show (-2147483648) ≤ v4_2.toInt - (1 : Int) by omega) (show v4_2.toInt - (1 : Int) ≤ 2147483647 by omega)
        refine lv_iand hx hb dX12_bits_15 ?_
        refine lv_topi (fun x9 ex9 => ?_)
        have bx9 : 0 ≤ x9.toInt ∧ x9.toInt ≤ x8.toInt := by rw [ex9]; exact wk_and (by omega)
        refine lv_istore_n (lv' := [(2, .int x9), (1, .int x6), (0, .int a0)]) hx hb dX12_bits_16 rfl hl (by decide) rfl (fun ls hl => ?_)
        refine lv_goto (tgt := 4) hx hb dX12_bits_17 (by decide) ?_
        exact ih4 x6 x9 H locs ls  (show 1 ≤ a0.toInt from r1) (show a0.toInt ≤ 63 from t2) (show 0 ≤ x9.toInt by omega) (show x9.toInt ≤ 63 by omega) (show (x9.toInt - 0).toNat < n4 by omega) hw   (lv_sub hl [2, 1, 0] rfl)
  refine lv_iconst (v := 0) hx hb dX12_bits_0 (by decide) ?_
  refine lv_istore_n (lv' := [(1, .int 0), (0, .int a0)]) hx hb dX12_bits_1 rfl hl (by decide) rfl (fun ls hl => ?_)
  refine lv_iload_n hx hb dX12_bits_2 rfl (lv_at hl 1 rfl) ?_
  refine lv_istore_n (lv' := [(2, .int a0), (1, .int 0), (0, .int a0)]) hx hb dX12_bits_3 rfl hl (by decide) rfl (fun ls hl => ?_)
  exact L4 ((a0.toInt - 0).toNat + 1) 0 a0 s.heap locs ls  (show 1 ≤ a0.toInt from ra0) (show a0.toInt ≤ 63 from ta0) (show 0 ≤ a0.toInt from Int.le_trans (by decide) ra0) (show a0.toInt ≤ 63 from ta0) (Nat.lt_succ_self _) hw   (lv_sub hl [2, 1, 0] rfl)
