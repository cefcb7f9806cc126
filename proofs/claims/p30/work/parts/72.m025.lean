abbrev P_X12_round_3 (ad : Nat → Nat) (cy : Nat → ClassId) (B : Int) (qr : Nat) (s1 : Int) (a1 : Int32) (a2 : Int32) (w0 : va_W) : Int32 → va_W → Prop := fun r u => TW ksM ad cy (B + 2709) qr 12 u ∧ FE ksM [(12, 24, 24), (12, 27, 27), (12, 30, 30), (12, 31, 31), (69, 0, 64), (70, 0, 10), (71, 0, 295), (71, 216, 243), (71, 220, 247), (71, 221, 248), (71, 222, 249), (71, 223, 250), (71, 224, 251), (72, 0, 12), (73, 0, 10), (74, 0, 296), (75, 0, 301)] w0 u ∧ (((-298) ≤ r.toInt ∧ r.toInt ≤ 300 ∧ 0 ≤ a1.toInt ∧ a1.toInt ≤ 3 ∧ 0 ≤ a2.toInt ∧ a2.toInt ≤ 1 ∧ (∃ y : Int32, gi u 0 27 = y ∧ 1 ≤ y.toInt ∧ y.toInt ≤ 1) ∧ (∃ y : Int32, gi u 0 30 = y ∧ 0 ≤ y.toInt ∧ y.toInt ≤ 0) ∧ (SA w0 u)) ∨ (r = (-1) ∧ (∃ y : Int32, gi u 0 27 = y ∧ 1 ≤ y.toInt ∧ y.toInt ≤ 1) ∧ (∃ y : Int32, gi u 0 30 = y ∧ 0 ≤ y.toInt ∧ y.toInt ≤ 0) ∧ (SA w0 u)))
set_option maxHeartbeats 4000000 in
set_option maxRecDepth 100000 in
theorem k_X12_round_3 (l : Launch) (adK adV : Nat → Nat) (dC : Nat → ClassId) (dI : Nat → Nat → Nat) (cy : Nat → ClassId) (ad : Nat → Nat) (B : Int) (hB0 : 100000 ≤ B) (hB1 : B ≤ 1073739115) (qr : Nat) (s1 : Int)  (a1 : Int32) (a2 : Int32) (w0 : va_W) (sz : Nat) (hT : TW ksM ad cy B qr 12 w0) (cf0_ : gi w0 0 27 = 1) (cf1_ : gi w0 0 30 = 0) (hRW : RW w0) : Met l yX12_round (wu yX12_round cX12_round 6 (some .int)) ({ frames := 9, cells := 0, slots := 0, locals := 194 }) (va_Pc [.ref (ad 0), .int a1, .int a2] (wpreS adK adV dC dI cy sz w0)) (va_Qi (P_X12_round_3 ad cy B qr s1 a1 a2 w0) (fun u : va_W => wpost dC dI cy (va_A w0 sz) u) (va_A w0 sz)) 0 0 (va_A w0 sz) := by
  refine Met.ofW (cc := cX12_round) (maxL := 6) (ret := (some .int)) (by decide) rfl ?_
  intro p e s m args below meth c s₁ Bk hml hv
  obtain ⟨rfl, ⟨hsz, hP, hK, hD0⟩, hE, hSR⟩ := hv
  have hx := Bk.exec
  have hb := Bk.bytes
  have hr := Bk.returns
  have hlocks := Bk.notSynchronized
  have hC : CallFix p m c cX12_round 6 s _ (wu yX12_round cX12_round 6 (some .int)) RX12 := ⟨hx, hb, hml, findClass_of_methodNamed Bk.named, atoms_spec (ws := (wu yX12_round cX12_round 6 (some .int))) Bk.pre⟩
  subst hsz
  have hD := hD0.self (sz := s.heap.size)
  generalize hAe : va_A w0 s.heap.size = A at hD hE ⊢
  have hA : ∀ q : Nat, s.heap.size ≤ q → A q := fun q h => by rw [← hAe]; exact Or.inr h
  have hw : Wd dC dI A s.heap s.heap [] w0 := ⟨hP, hD, va_S.rf⟩
  have hF : FE ksM [(12, 24, 24), (12, 27, 27), (12, 30, 30), (12, 31, 31), (69, 0, 64), (70, 0, 10), (71, 0, 295), (71, 216, 243), (71, 220, 247), (71, 221, 248), (71, 222, 249), (71, 223, 250), (71, 224, 251), (72, 0, 12), (73, 0, 10), (74, 0, 296), (75, 0, 301)] w0 w0 := FE.rf
  have hSA : SA w0 w0 := fun _ _ => rfl
  have hl := lv_entry ([.ref (ad 0), .int a1, .int a2]) (n := 6) (Nat.le_of_ble_eq_true rfl)
  rw [lg_entry_eq]
  generalize (lg_sl ([.ref (ad 0), .int a1, .int a2]) ++ List.replicate (6 - (lg_sl ([.ref (ad 0), .int a1, .int a2])).length) Slot.unset).toArray = ls at hl ⊢
  have hl : lv_has ls 6 [(0, .ref (ad 0)), (1, .int a1), (2, .int a2)] := hl
  generalize hloc : ([] : List Loc) = locs at hw ⊢
  have hinX12 : ∀ w ∈ u_ws RX12 TX12 42, w ∈ (wu yX12_round cX12_round 6 (some .int)) := fun _ h => List.mem_cons_of_mem _ (up_71 h)
  have J18 : ∀ (H : Heap) (locs : List Loc) (ls : Array Slot) (w1 : va_W), Wd dC dI A s.heap H locs w1 → TW ksM ad cy B qr 12 w1 → FE ksM [(12, 24, 24), (12, 27, 27), (12, 30, 30), (12, 31, 31), (69, 0, 64), (70, 0, 10), (71, 0, 295), (71, 216, 243), (71, 220, 247), (71, 221, 248), (71, 222, 249), (71, 223, 250), (71, 224, 251), (72, 0, 12), (73, 0, 10), (74, 0, 296), (75, 0, 301)] w0 w1 → RW w1 → SA w0 w1 → gi w1 0 27 = 1 → gi w1 0 30 = 0 → lv_has ls 6 [(0, .ref (ad 0)), (1, .int a1), (2, .int a2)] → W p l e ({ frames := 9, cells := 0, slots := 0, locals := 194 }) s m (List.toArray [.ref (ad 0), .int a1, .int a2]) below meth c H locs 0 0 (MQ below (va_Qi (P_X12_round_3 ad cy B qr s1 a1 a2 w0) (fun u : va_W => wpost dC dI cy A u) A) (List.toArray [.ref (ad 0), .int a1, .int a2]) s 0 0 A) (F0 m 18 ls []) := by
    intro H locs ls w1 hw hT hF hRW hSA c2 c3 hl
    refine lv_iconst (v := (-1)) hx hb dX12_round_18 (by decide) ?_
    exact tk_iret hC hr hlocks hK ⟨(hT.up (show B ≤ (B + 2709) by omega)), hF, (Or.inr ⟨rfl, ⟨1, c2, (by decide), (by decide)⟩, ⟨0, c3, (by decide), (by decide)⟩, (by exact hSA)⟩)⟩ hw dX12_round_19
  have J159 : ∀ (v159_3 : Int32) (v159_4 : Int32) (f159_12_5 : Int32) (f159_16_0 : Int32) (H : Heap) (locs : List Loc) (ls : Array Slot) (w4 : va_W), 0 ≤ a1.toInt → a1.toInt ≤ 3 → 0 ≤ a2.toInt → a2.toInt ≤ 1 → (-298) ≤ v159_3.toInt → v159_3.toInt ≤ 300 → 1 ≤ v159_4.toInt → v159_4.toInt ≤ 301 → 1 ≤ f159_12_5.toInt → f159_12_5.toInt ≤ 4 → 0 ≤ f159_16_0.toInt → f159_16_0.toInt ≤ 18479 → Wd dC dI A s.heap H locs w4 → TW ksM ad cy (B + 2709) qr 12 w4 → FE ksM [(12, 24, 24), (12, 27, 27), (12, 30, 30), (12, 31, 31), (69, 0, 64), (70, 0, 10), (71, 0, 295), (71, 216, 243), (71, 220, 247), (71, 221, 248), (71, 222, 249), (71, 223, 250), (71, 224, 251), (72, 0, 12), (73, 0, 10), (74, 0, 296), (75, 0, 301)] w0 w4 → RW w4 → KBk w0 w4 → gi w4 0 27 = 0 → gi w4 0 30 = 1 → gi w4 12 5 = f159_12_5 → gi w4 16 0 = f159_16_0 → lv_has ls 6 [(0, .ref (ad 0)), (1, .int a1), (2, .int a2), (3, .int v159_3), (4, .int v159_4)] → W p l e ({ frames := 9, cells := 0, slots := 0, locals := 194 }) s m (List.toArray [.ref (ad 0), .int a1, .int a2]) below meth c H locs 0 0 (MQ below (va_Qi (P_X12_round_3 ad cy B qr s1 a1 a2 w0) (fun u : va_W => wpost dC dI cy A u) A) (List.toArray [.ref (ad 0), .int a1, .int a2]) s 0 0 A) (F0 m 159 ls []) := by
    intro v159_3 v159_4 f159_12_5 f159_16_0 H locs ls w4 r5 t6 r7 t8 r9 t10 r11 t12 r15 t16 r18 t19 hw hT hF hRW hKB c13 c14 c17 c20 hl
    refine lv_aload_n hx hb dX12_round_159 rfl (lv_at hl 0 rfl) ?_
    refine lv_iconst (v := 0) hx hb dX12_round_160 (by decide) ?_
    refine tk_putz hC hK hw hT hinX12 tyX12_ok nmX12 kM_at0 (by decide) rfl rfl 30 (by decide) (List.mem_cons_of_mem _ uw_47_4) rfl rfl rfl rfl (by decide) (by decide) dX12_round_161 (fun H locs w21 hw hT k23 c22 => ?_)
    have hRW := RW_F1 k23 (by decide) (by decide) (by decide) hRW
    have hKB := KB_F1 k23 (by decide) hKB
    have hF := hF.put kM_at0 (k := 30) (by decide) k23
    have c24 := k23.gi (Or.inr (by decide)) c13
    have c25 := k23.gi (Or.inr (by decide)) c17
    have c26 := k23.gi (Or.inr (by decide)) c20
    refine lv_aload_n hx hb dX12_round_164 rfl (lv_at hl 0 rfl) ?_
    refine lv_iconst (v := 1) hx hb dX12_round_165 (by decide) ?_
    refine tk_putz hC hK hw hT hinX12 tyX12_ok nmX12 kM_at0 (by decide) rfl rfl 27 (by decide) (List.mem_cons_of_mem _ uw_7_2) rfl rfl rfl rfl (by decide) (by decide) dX12_round_166 (fun H locs w27 hw hT k29 c28 => ?_)
    have hRW := RW_F1 k29 (by decide) (by decide) (by decide) hRW
    have hKB := KB_F1 k29 (by decide) hKB
    have hF := hF.put kM_at0 (k := 27) (by decide) k29
    have c30 := k29.gi (Or.inr (by decide)) c25
    have c31 := k29.gi (Or.inr (by decide)) c26
    have c32 := k29.gi (Or.inr (by decide)) c22
    refine lv_aload_n hx hb dX12_round_169 rfl (lv_at hl 0 rfl) ?_
    refine tk_Vv hC hK hw hT hA hE hSR kM_at0 (by decide) rfl (k_X12_putsBack_1 l adK adV dC dI cy ad (B + 2709) (by omega) (by omega) qr s1    w27 H.size hT ) (cwV 0 hC.2.2.2.2 uV_RX12_429 rfl rfl rfl (by decide +kernel) ⟨Nat.le_of_ble_eq_true rfl, Nat.le_of_ble_eq_true rfl⟩) rfl hl.1 rfl (Nat.le_of_ble_eq_true rfl) dX12_round_170 (fun w35 H locs hp34 hw => ?_)
    obtain ⟨hT, k36, hg41⟩ := hp34
    have hKB := KB_FE k36 (fun _ => rfl) hKB
    have hRW := RW_FE k36 (fun _ => rfl) (fun _ => rfl) (fun _ => rfl) hRW
    have hF := hF.tr k36 (by decide)
    have c42 := k36.gi kM_at16 (by decide) c31
    have c43 := k36.gi kM_at0 (by decide) c32
    have c44 := k36.gi kM_at0 (by decide) c28
    obtain ⟨c37, c38, c39, hq40⟩ := hg41
    have hSA : SA w0 w35 := fun j hj => (hq40 j hj).trans ((k36.gi kM_at15 rfl rfl).symm.trans (hKB j hj))
    refine lv_iload_n hx hb dX12_round_173 rfl (lv_at hl 3 rfl) ?_
    exact tk_iret hC hr hlocks hK ⟨hT, hF, (Or.inl ⟨(show (-298) ≤ v159_3.toInt from r9), (show v159_3.toInt ≤ 300 from t10), (show 0 ≤ a1.toInt from r5), (show a1.toInt ≤ 3 from t6), (show 0 ≤ a2.toInt from r7), (show a2.toInt ≤ 1 from t8), ⟨1, c44, (by decide), (by decide)⟩, ⟨0, c43, (by decide), (by decide)⟩, (by exact hSA)⟩)⟩ hw dX12_round_174
  have L51 : ∀ (n51 : Nat) (v51_3 : Int32) (v51_4 : Int32) (f51_12_5 : Int32) (f51_16_0 : Int32) (H : Heap) (locs : List Loc) (ls : Array Slot) (w45 : va_W), 0 ≤ a1.toInt → a1.toInt ≤ 3 → 0 ≤ a2.toInt → a2.toInt ≤ 1 → (-298) ≤ v51_3.toInt → v51_3.toInt ≤ 300 → 1 ≤ v51_4.toInt → v51_4.toInt ≤ 301 → 1 ≤ f51_12_5.toInt → f51_12_5.toInt ≤ 4 → 0 ≤ f51_16_0.toInt → f51_16_0.toInt ≤ 18479 → (301 - v51_4.toInt).toNat < n51 → Wd dC dI A s.heap H locs w45 → TW ksM ad cy (B + 0 + 9 * v51_4.toInt) qr 12 w45 → FE ksM [(12, 24, 24), (12, 27, 27), (12, 30, 30), (12, 31, 31), (69, 0, 64), (70, 0, 10), (71, 0, 295), (71, 216, 243), (71, 220, 247), (71, 221, 248), (71, 222, 249), (71, 223, 250), (71, 224, 251), (72, 0, 12), (73, 0, 10), (74, 0, 296), (75, 0, 301)] w0 w45 → RW w45 → KBk w0 w45 → gi w45 0 27 = 0 → gi w45 0 30 = 1 → gi w45 12 5 = f51_12_5 → gi w45 16 0 = f51_16_0 → lv_has ls 6 [(0, .ref (ad 0)), (1, .int a1), (2, .int a2), (3, .int v51_3), (4, .int v51_4)] → W p l e ({ frames := 9, cells := 0, slots := 0, locals := 194 }) s m (List.toArray [.ref (ad 0), .int a1, .int a2]) below meth c H locs 0 0 (MQ below (va_Qi (P_X12_round_3 ad cy B qr s1 a1 a2 w0) (fun u : va_W => wpost dC dI cy A u) A) (List.toArray [.ref (ad 0), .int a1, .int a2]) s 0 0 A) (F0 m 51 ls []) := by
    intro n51
    induction n51 with
    | zero => intro v51_3 v51_4 f51_12_5 f51_16_0 H locs ls w45 r46 t47 r48 t49 r50 t51 r52 t53 r56 t57 r59 t60 hm51 hw hT hF hRW hKB c54 c55 c58 c61 hl; omega
    | succ n51 ih51 =>
      intro v51_3 v51_4 f51_12_5 f51_16_0 H locs ls w45 r46 t47 r48 t49 r50 t51 r52 t53 r56 t57 r59 t60 hm51 hw hT hF hRW hKB c54 c55 c58 c61 hl
      have J153 : ∀ (v153_3 : Int32) (v153_5 : Int32) (H : Heap) (locs : List Loc) (ls : Array Slot) (w62 : va_W), 0 ≤ a1.toInt → a1.toInt ≤ 3 → 0 ≤ a2.toInt → a2.toInt ≤ 1 → (-298) ≤ v153_3.toInt → v153_3.toInt ≤ 300 → 1 ≤ v51_4.toInt → v51_4.toInt ≤ 300 → 0 ≤ v153_5.toInt → v153_5.toInt ≤ 300 → 1 ≤ f51_12_5.toInt → f51_12_5.toInt ≤ 4 → 0 ≤ f51_16_0.toInt → f51_16_0.toInt ≤ 18479 → Wd dC dI A s.heap H locs w62 → TW ksM ad cy (B + 9 + 9 * v51_4.toInt) qr 12 w62 → FE ksM [(12, 24, 24), (12, 27, 27), (12, 30, 30), (12, 31, 31), (69, 0, 64), (70, 0, 10), (71, 0, 295), (71, 216, 243), (71, 220, 247), (71, 221, 248), (71, 222, 249), (71, 223, 250), (71, 224, 251), (72, 0, 12), (73, 0, 10), (74, 0, 296), (75, 0, 301)] w0 w62 → RW w62 → KBk w0 w62 → gi w62 0 27 = 0 → gi w62 0 30 = 1 → gi w62 12 5 = f51_12_5 → gi w62 16 0 = f51_16_0 → lv_has ls 6 [(0, .ref (ad 0)), (1, .int a1), (2, .int a2), (3, .int v153_3), (4, .int v51_4), (5, .int v153_5)] → W p l e ({ frames := 9, cells := 0, slots := 0, locals := 194 }) s m (List.toArray [.ref (ad 0), .int a1, .int a2]) below meth c H locs 0 0 (MQ below (va_Qi (P_X12_round_3 ad cy B qr s1 a1 a2 w0) (fun u : va_W => wpost dC dI cy A u) A) (List.toArray [.ref (ad 0), .int a1, .int a2]) s 0 0 A) (F0 m 153 ls []) := by
        intro v153_3 v153_5 H locs ls w62 r63 t64 r65 t66 r67 t68 r69 t70 r71 t72 r75 t76 r78 t79 hw hT hF hRW hKB c73 c74 c77 c80 hl
        obtain ⟨x81, ex81⟩ : ∃ y : Int32, y = v51_4 + Int32.ofInt 1 := ⟨_, rfl⟩
        refine lv_iinc (v := x81) (lv' := [(4, .int x81), (0, .ref (ad 0)), (1, .int a1), (2, .int a2), (3, .int v153_3), (5, .int v153_5)]) hx hb dX12_round_153 hl (k := 4) rfl ex81.symm (by decide) rfl (fun ls hl => ?_)
        have ex81 : x81.toInt = v51_4.toInt + 1 := by rw [ex81]; exact wk_add (y := 1) (show -2147483648 ≤ v51_4.toInt + 1 by omega) (show v51_4.toInt + 1 ≤ 2147483647 by omega)
        refine lv_goto (tgt := 51) hx hb dX12_round_156 (by decide) ?_
        exact ih51 v153_3 x81 f51_12_5 f51_16_0 H locs ls w62 (show 0 ≤ a1.toInt from r63) (show a1.toInt ≤ 3 from t64) (show 0 ≤ a2.toInt from r65) (show a2.toInt ≤ 1 from t66) (show (-298) ≤ v153_3.toInt from r67) (show v153_3.toInt ≤ 300 from t68) (show 1 ≤ x81.toInt by first | with_reducible assumption | omega) (show x81.toInt ≤ 301 by first | with_reducible assumption | omega) (show 1 ≤ f51_12_5.toInt from r75) (show f51_12_5.toInt ≤ 4 from t76) (show 0 ≤ f51_16_0.toInt from r78) (show f51_16_0.toInt ≤ 18479 from t79) (show (301 - x81.toInt).toNat < n51 by first | exact tn_lt hm51 (by omega) (by omega) | omega) hw (hT.up (show (B + 9 + 9 * v51_4.toInt) ≤ (B + 0 + 9 * x81.toInt) by omega)) hF hRW hKB c73 c74 c77 c80 (lv_sub hl [1, 2, 3, 4, 0] rfl)
      have L94 : ∀ (n94 : Nat) (v94_3 : Int32) (v94_5 : Int32) (H : Heap) (locs : List Loc) (ls : Array Slot) (w82 : va_W), 0 ≤ a1.toInt → a1.toInt ≤ 3 → 0 ≤ a2.toInt → a2.toInt ≤ 1 → (-298) ≤ v94_3.toInt → v94_3.toInt ≤ 300 → 1 ≤ v51_4.toInt → v51_4.toInt ≤ 300 → 0 ≤ v94_5.toInt → v94_5.toInt ≤ 300 → 1 ≤ f51_12_5.toInt → f51_12_5.toInt ≤ 4 → 0 ≤ f51_16_0.toInt → f51_16_0.toInt ≤ 18479 → (300 - v94_5.toInt).toNat < n94 → Wd dC dI A s.heap H locs w82 → TW ksM ad cy (B + 9 + 9 * v51_4.toInt) qr 12 w82 → FE ksM [(12, 24, 24), (12, 27, 27), (12, 30, 30), (12, 31, 31), (69, 0, 64), (70, 0, 10), (71, 0, 295), (71, 216, 243), (71, 220, 247), (71, 221, 248), (71, 222, 249), (71, 223, 250), (71, 224, 251), (72, 0, 12), (73, 0, 10), (74, 0, 296), (75, 0, 301)] w0 w82 → RW w82 → KBk w0 w82 → gi w82 0 27 = 0 → gi w82 0 30 = 1 → gi w82 12 5 = f51_12_5 → gi w82 16 0 = f51_16_0 → lv_has ls 6 [(0, .ref (ad 0)), (1, .int a1), (2, .int a2), (3, .int v94_3), (4, .int v51_4), (5, .int v94_5)] → W p l e ({ frames := 9, cells := 0, slots := 0, locals := 194 }) s m (List.toArray [.ref (ad 0), .int a1, .int a2]) below meth c H locs 0 0 (MQ below (va_Qi (P_X12_round_3 ad cy B qr s1 a1 a2 w0) (fun u : va_W => wpost dC dI cy A u) A) (List.toArray [.ref (ad 0), .int a1, .int a2]) s 0 0 A) (F0 m 94 ls []) := by
        intro n94
        induction n94 with
        | zero => intro v94_3 v94_5 H locs ls w82 r83 t84 r85 t86 r87 t88 r89 t90 r91 t92 r95 t96 r98 t99 hm94 hw hT hF hRW hKB c93 c94 c97 c100 hl; omega
        | succ n94 ih94 =>
          intro v94_3 v94_5 H locs ls w82 r83 t84 r85 t86 r87 t88 r89 t90 r91 t92 r95 t96 r98 t99 hm94 hw hT hF hRW hKB c93 c94 c97 c100 hl
          have J147 : ∀ (v147_3 : Int32) (H : Heap) (locs : List Loc) (ls : Array Slot) (w101 : va_W), 0 ≤ a1.toInt → a1.toInt ≤ 3 → 0 ≤ a2.toInt → a2.toInt ≤ 1 → (-298) ≤ v147_3.toInt → v147_3.toInt ≤ 300 → 1 ≤ v51_4.toInt → v51_4.toInt ≤ 300 → 0 ≤ v94_5.toInt → v94_5.toInt ≤ 299 → 1 ≤ f51_12_5.toInt → f51_12_5.toInt ≤ 4 → 0 ≤ f51_16_0.toInt → f51_16_0.toInt ≤ 18479 → Wd dC dI A s.heap H locs w101 → TW ksM ad cy (B + 9 + 9 * v51_4.toInt) qr 12 w101 → FE ksM [(12, 24, 24), (12, 27, 27), (12, 30, 30), (12, 31, 31), (69, 0, 64), (70, 0, 10), (71, 0, 295), (71, 216, 243), (71, 220, 247), (71, 221, 248), (71, 222, 249), (71, 223, 250), (71, 224, 251), (72, 0, 12), (73, 0, 10), (74, 0, 296), (75, 0, 301)] w0 w101 → RW w101 → KBk w0 w101 → gi w101 0 27 = 0 → gi w101 0 30 = 1 → gi w101 12 5 = f51_12_5 → gi w101 16 0 = f51_16_0 → lv_has ls 6 [(0, .ref (ad 0)), (1, .int a1), (2, .int a2), (3, .int v147_3), (4, .int v51_4), (5, .int v94_5)] → W p l e ({ frames := 9, cells := 0, slots := 0, locals := 194 }) s m (List.toArray [.ref (ad 0), .int a1, .int a2]) below meth c H locs 0 0 (MQ below (va_Qi (P_X12_round_3 ad cy B qr s1 a1 a2 w0) (fun u : va_W => wpost dC dI cy A u) A) (List.toArray [.ref (ad 0), .int a1, .int a2]) s 0 0 A) (F0 m 147 ls []) := by
            intro v147_3 H locs ls w101 r102 t103 r104 t105 r106 t107 r108 t109 r110 t111 r114 t115 r117 t118 hw hT hF hRW hKB c112 c113 c116 c119 hl
            obtain ⟨x120, ex120⟩ : ∃ y : Int32, y = v94_5 + Int32.ofInt 1 := ⟨_, rfl⟩
            refine lv_iinc (v := x120) (lv' := [(5, .int x120), (0, .ref (ad 0)), (1, .int a1), (2, .int a2), (3, .int v147_3), (4, .int v51_4)]) hx hb dX12_round_147 hl (k := 5) rfl ex120.symm (by decide) rfl (fun ls hl => ?_)
            have ex120 : x120.toInt = v94_5.toInt + 1 := by rw [ex120]; exact wk_add (y := 1) (show -2147483648 ≤ v94_5.toInt + 1 by omega) (show v94_5.toInt + 1 ≤ 2147483647 by omega)
            refine lv_goto (tgt := 94) hx hb dX12_round_150 (by decide) ?_
            exact ih94 v147_3 x120 H locs ls w101 (show 0 ≤ a1.toInt from r102) (show a1.toInt ≤ 3 from t103) (show 0 ≤ a2.toInt from r104) (show a2.toInt ≤ 1 from t105) (show (-298) ≤ v147_3.toInt from r106) (show v147_3.toInt ≤ 300 from t107) (show 1 ≤ v51_4.toInt from r108) (show v51_4.toInt ≤ 300 from t109) (show 0 ≤ x120.toInt by first | with_reducible assumption | omega) (show x120.toInt ≤ 300 by first | with_reducible assumption | omega) (show 1 ≤ f51_12_5.toInt from r114) (show f51_12_5.toInt ≤ 4 from t115) (show 0 ≤ f51_16_0.toInt from r117) (show f51_16_0.toInt ≤ 18479 from t118) (show (300 - x120.toInt).toNat < n94 by first | exact tn_lt hm94 (by omega) (by omega) | omega) hw hT hF hRW hKB c112 c113 c116 c119 (lv_sub hl [1, 2, 3, 4, 5, 0] rfl)
          refine lv_iload hx hb dX12_round_94 (lv_at hl 5 rfl) ?_
          refine lv_iload hx hb dX12_round_96 (lv_at hl 4 rfl) ?_
          refine lv_icmp_ge (tgt := 153) hx hb dX12_round_98 (by decide) (fun c121 => ?_) (fun c121 => ?_)
          · have c121 : v51_4.toInt ≤ v94_5.toInt := wk_le.mp c121
            exact J153 v94_3 v94_5 H locs ls w82 (show 0 ≤ a1.toInt from r83) (show a1.toInt ≤ 3 from t84) (show 0 ≤ a2.toInt from r85) (show a2.toInt ≤ 1 from t86) (show (-298) ≤ v94_3.toInt from r87) (show v94_3.toInt ≤ 300 from t88) (show 1 ≤ v51_4.toInt from r89) (show v51_4.toInt ≤ 300 from t90) (show 0 ≤ v94_5.toInt from r91) (show v94_5.toInt ≤ 300 from t92) (show 1 ≤ f51_12_5.toInt from r95) (show f51_12_5.toInt ≤ 4 from t96) (show 0 ≤ f51_16_0.toInt from r98) (show f51_16_0.toInt ≤ 18479 from t99)  hw hT hF hRW hKB c93 c94 c97 c100 (lv_sub hl [0, 1, 2, 3, 4, 5] rfl)
          · have c121 : v94_5.toInt < v51_4.toInt := wk_leF c121
            refine lv_iload_n hx hb dX12_round_101 rfl (lv_at hl 3 rfl) ?_
            refine lv_bipush (v := (-2)) hx hb dX12_round_102 (by decide) ?_
            refine lv_icmp_ne (tgt := 153) hx hb dX12_round_104 (by decide) (fun c122 => ?_) (fun c122 => ?_)
            · have c122 : ¬ v94_3.toInt = (-2 : Int) := wk_eqF c122
              exact J153 v94_3 v94_5 H locs ls w82 (show 0 ≤ a1.toInt from r83) (show a1.toInt ≤ 3 from t84) (show 0 ≤ a2.toInt from r85) (show a2.toInt ≤ 1 from t86) (show (-298) ≤ v94_3.toInt from r87) (show v94_3.toInt ≤ 300 from t88) (show 1 ≤ v51_4.toInt from r89) (show v51_4.toInt ≤ 300 from t90) (show 0 ≤ v94_5.toInt from r91) (show v94_5.toInt ≤ 300 from t92) (show 1 ≤ f51_12_5.toInt from r95) (show f51_12_5.toInt ≤ 4 from t96) (show 0 ≤ f51_16_0.toInt from r98) (show f51_16_0.toInt ≤ 18479 from t99)  hw hT hF hRW hKB c93 c94 c97 c100 (lv_sub hl [0, 1, 2, 3, 4, 5] rfl)
            · have c122 : v94_3.toInt = (-2 : Int) := wk_eq.mp c122
              refine lv_aload_n hx hb dX12_round_107 rfl (lv_at hl 0 rfl) ?_
              refine lv_iload_n hx hb dX12_round_108 rfl (lv_at hl 1 rfl) ?_
              refine tk_Vi hC hK hw hT hA hE hSR kM_at0 (by decide) rfl (k_X12_isThere_1 l adK adV dC dI cy ad (B + 9 + 9 * v51_4.toInt) (by omega) (by omega) qr s1   a1 (show 0 ≤ a1.toInt from r83) (show a1.toInt ≤ 3 from t84) w82 H.size hT ) (cwV 1 hC.2.2.2.2 uV_RX12_416 rfl rfl rfl (by decide +kernel) ⟨Nat.le_of_ble_eq_true rfl, Nat.le_of_ble_eq_true rfl⟩) rfl hl.1 rfl (Nat.le_of_ble_eq_true rfl) dX12_round_109 (fun r123 w125 H locs hp124 hw => ?_)
              obtain ⟨rfl, hg127⟩ := hp124
              rcases hg127 with rfl | rfl
              · refine lv_if_ne (tgt := 153) hx hb dX12_round_112 (by decide) (fun c => absurd (by decide) c) (fun _ => ?_)
                refine lv_aload_n hx hb dX12_round_115 rfl (lv_at hl 0 rfl) ?_
                refine tk_getA hC hK hw hT hinX12 kM_at0 (by decide) rfl 33 (by decide) (List.mem_cons_of_mem _ uw_7_6) rfl rfl dX12_round_116 ?_
                refine lv_iload hx hb dX12_round_119 (lv_at hl 5 rfl) ?_
                refine tk_iald hC hK hw hT kM_at16 rfl rfl (show 0 ≤ v94_5.toInt from r91) (show v94_5.toInt < 301 from Int.lt_of_le_of_lt t92 (by decide)) dX12_round_121 (fun x128 c129 rx128 tx128 => ?_)
                refine lv_aload_n hx hb dX12_round_122 rfl (lv_at hl 0 rfl) ?_
                refine tk_getA hC hK hw hT hinX12 kM_at0 (by decide) rfl 33 (by decide) (List.mem_cons_of_mem _ uw_7_6) rfl rfl dX12_round_123 ?_
                refine lv_iload hx hb dX12_round_126 (lv_at hl 4 rfl) ?_
                refine tk_iald hC hK hw hT kM_at16 rfl rfl (show 0 ≤ v51_4.toInt from Int.le_trans (by decide) r89) (show v51_4.toInt < 301 from Int.lt_of_le_of_lt t90 (by decide)) dX12_round_128 (fun x130 c131 rx130 tx130 => ?_)
                refine lv_icmp_ne (tgt := 147) hx hb dX12_round_129 (by decide) (fun c132 => ?_) (fun c132 => ?_)
                · have c132 : ¬ x128.toInt = x130.toInt := wk_eqF c132
                  exact J147 v94_3 H locs ls w82 (show 0 ≤ a1.toInt from r83) (show a1.toInt ≤ 3 from t84) (show 0 ≤ a2.toInt from r85) (show a2.toInt ≤ 1 from t86) (show (-298) ≤ v94_3.toInt from r87) (show v94_3.toInt ≤ 300 from t88) (show 1 ≤ v51_4.toInt from r89) (show v51_4.toInt ≤ 300 from t90) (show 0 ≤ v94_5.toInt from r91) (show v94_5.toInt ≤ 299 by first | with_reducible assumption | omega) (show 1 ≤ f51_12_5.toInt from r95) (show f51_12_5.toInt ≤ 4 from t96) (show 0 ≤ f51_16_0.toInt from r98) (show f51_16_0.toInt ≤ 18479 from t99)  hw hT hF hRW hKB c93 c94 c97 c100 (lv_sub hl [0, 1, 2, 3, 4, 5] rfl)
                · have c132 : x128.toInt = x130.toInt := wk_eq.mp c132
                  refine lv_iload_n hx hb dX12_round_132 rfl (lv_at hl 2 rfl) ?_
                  refine lv_if_ne (tgt := 141) hx hb dX12_round_133 (by decide) (fun c133 => ?_) (fun c133 => ?_)
                  · have c133 : ¬ a2.toInt = (0 : Int) := wk_eqF c133
                    refine lv_iload hx hb dX12_round_141 (lv_at hl 4 rfl) ?_
                    refine lv_iload hx hb dX12_round_143 (lv_at hl 5 rfl) ?_
                    refine lv_isub hx hb dX12_round_145 ?_
                    refine lv_topi (fun x134 ex134 => ?_)
                    have ex134 : x134.toInt = v51_4.toInt - v94_5.toInt := by rw [ex134]; exact wk_sub (show (-2147483648) ≤ v51_4.toInt - v94_5.toInt by omega) (show v51_4.toInt - v94_5.toInt ≤ 2147483647 by omega)
                    refine lv_istore_n (lv' := [(3, .int x134), (0, .ref (ad 0)), (1, .int a1), (2, .int a2), (4, .int v51_4), (5, .int v94_5)]) hx hb dX12_round_146 rfl hl (by decide) rfl (fun ls hl => ?_)
                    exact J147 x134 H locs ls w82 (show 0 ≤ a1.toInt from r83) (show a1.toInt ≤ 3 from t84) (show 0 ≤ a2.toInt from r85) (show a2.toInt ≤ 1 from t86) (show (-298) ≤ x134.toInt by first | with_reducible assumption | omega) (show x134.toInt ≤ 300 by first | with_reducible assumption | omega) (show 1 ≤ v51_4.toInt from r89) (show v51_4.toInt ≤ 300 from t90) (show 0 ≤ v94_5.toInt from r91) (show v94_5.toInt ≤ 299 by first | with_reducible assumption | omega) (show 1 ≤ f51_12_5.toInt from r95) (show f51_12_5.toInt ≤ 4 from t96) (show 0 ≤ f51_16_0.toInt from r98) (show f51_16_0.toInt ≤ 18479 from t99)  hw hT hF hRW hKB c93 c94 c97 c100 (lv_sub hl [1, 2, 3, 0, 4, 5] rfl)
                  · have c133 : a2.toInt = (0 : Int) := wk_eq.mp c133
                    refine lv_iload hx hb dX12_round_136 (lv_at hl 5 rfl) ?_
                    refine lv_goto (tgt := 146) hx hb dX12_round_138 (by decide) ?_
                    refine lv_istore_n (lv' := [(3, .int v94_5), (0, .ref (ad 0)), (1, .int a1), (2, .int a2), (4, .int v51_4), (5, .int v94_5)]) hx hb dX12_round_146 rfl hl (by decide) rfl (fun ls hl => ?_)
                    exact J147 v94_5 H locs ls w82 (show 0 ≤ a1.toInt from r83) (show a1.toInt ≤ 3 from t84) (show 0 ≤ a2.toInt from r85) (show a2.toInt ≤ 1 from t86) (show (-298) ≤ v94_5.toInt from Int.le_trans (by decide) r91) (show v94_5.toInt ≤ 300 from t92) (show 1 ≤ v51_4.toInt from r89) (show v51_4.toInt ≤ 300 from t90) (show 0 ≤ v94_5.toInt from r91) (show v94_5.toInt ≤ 299 by first | with_reducible assumption | omega) (show 1 ≤ f51_12_5.toInt from r95) (show f51_12_5.toInt ≤ 4 from t96) (show 0 ≤ f51_16_0.toInt from r98) (show f51_16_0.toInt ≤ 18479 from t99)  hw hT hF hRW hKB c93 c94 c97 c100 (lv_sub hl [1, 2, 3, 0, 4, 5] rfl)
              · refine lv_if_ne (tgt := 153) hx hb dX12_round_112 (by decide) (fun _ => ?_) (fun c => absurd c (by decide))
                exact J153 v94_3 v94_5 H locs ls w82 (show 0 ≤ a1.toInt from r83) (show a1.toInt ≤ 3 from t84) (show 0 ≤ a2.toInt from r85) (show a2.toInt ≤ 1 from t86) (show (-298) ≤ v94_3.toInt from r87) (show v94_3.toInt ≤ 300 from t88) (show 1 ≤ v51_4.toInt from r89) (show v51_4.toInt ≤ 300 from t90) (show 0 ≤ v94_5.toInt from r91) (show v94_5.toInt ≤ 300 from t92) (show 1 ≤ f51_12_5.toInt from r95) (show f51_12_5.toInt ≤ 4 from t96) (show 0 ≤ f51_16_0.toInt from r98) (show f51_16_0.toInt ≤ 18479 from t99)  hw hT hF hRW hKB c93 c94 c97 c100 (lv_sub hl [0, 1, 2, 3, 4, 5] rfl)
      refine lv_iload hx hb dX12_round_51 (lv_at hl 4 rfl) ?_
      refine lv_sipush (v := 300) hx hb dX12_round_53 (by decide) ?_
      refine lv_icmp_gt (tgt := 159) hx hb dX12_round_56 (by decide) (fun c135 => ?_) (fun c135 => ?_)
      · have c135 : (300 : Int) < v51_4.toInt := wk_lt.mp c135
        exact J159 v51_3 v51_4 f51_12_5 f51_16_0 H locs ls w45 (show 0 ≤ a1.toInt from r46) (show a1.toInt ≤ 3 from t47) (show 0 ≤ a2.toInt from r48) (show a2.toInt ≤ 1 from t49) (show (-298) ≤ v51_3.toInt from r50) (show v51_3.toInt ≤ 300 from t51) (show 1 ≤ v51_4.toInt from r52) (show v51_4.toInt ≤ 301 from t53) (show 1 ≤ f51_12_5.toInt from r56) (show f51_12_5.toInt ≤ 4 from t57) (show 0 ≤ f51_16_0.toInt from r59) (show f51_16_0.toInt ≤ 18479 from t60)  hw (hT.up (show (B + 0 + 9 * v51_4.toInt) ≤ (B + 2709) by omega)) hF hRW hKB c54 c55 c58 c61 (lv_sub hl [0, 1, 2, 3, 4] rfl)
      · have c135 : v51_4.toInt ≤ (300 : Int) := wk_ltF c135
        refine lv_iload_n hx hb dX12_round_59 rfl (lv_at hl 3 rfl) ?_
        refine lv_bipush (v := (-2)) hx hb dX12_round_60 (by decide) ?_
        refine lv_icmp_ne (tgt := 159) hx hb dX12_round_62 (by decide) (fun c136 => ?_) (fun c136 => ?_)
        · have c136 : ¬ v51_3.toInt = (-2 : Int) := wk_eqF c136
          exact J159 v51_3 v51_4 f51_12_5 f51_16_0 H locs ls w45 (show 0 ≤ a1.toInt from r46) (show a1.toInt ≤ 3 from t47) (show 0 ≤ a2.toInt from r48) (show a2.toInt ≤ 1 from t49) (show (-298) ≤ v51_3.toInt from r50) (show v51_3.toInt ≤ 300 from t51) (show 1 ≤ v51_4.toInt from r52) (show v51_4.toInt ≤ 301 from t53) (show 1 ≤ f51_12_5.toInt from r56) (show f51_12_5.toInt ≤ 4 from t57) (show 0 ≤ f51_16_0.toInt from r59) (show f51_16_0.toInt ≤ 18479 from t60)  hw (hT.up (show (B + 0 + 9 * v51_4.toInt) ≤ (B + 2709) by omega)) hF hRW hKB c54 c55 c58 c61 (lv_sub hl [0, 1, 2, 3, 4] rfl)
        · have c136 : v51_3.toInt = (-2 : Int) := wk_eq.mp c136
          refine lv_aload_n hx hb dX12_round_65 rfl (lv_at hl 0 rfl) ?_
          refine lv_iload_n hx hb dX12_round_66 rfl (lv_at hl 1 rfl) ?_
          refine tk_Vi hC hK hw hT hA hE hSR kM_at0 (by decide) rfl (k_X12_isThere_1 l adK adV dC dI cy ad (B + 0 + 9 * v51_4.toInt) (by omega) (by omega) qr s1   a1 (show 0 ≤ a1.toInt from r46) (show a1.toInt ≤ 3 from t47) w45 H.size hT ) (cwV 1 hC.2.2.2.2 uV_RX12_416 rfl rfl rfl (by decide +kernel) ⟨Nat.le_of_ble_eq_true rfl, Nat.le_of_ble_eq_true rfl⟩) rfl hl.1 rfl (Nat.le_of_ble_eq_true rfl) dX12_round_67 (fun r137 w139 H locs hp138 hw => ?_)
          obtain ⟨rfl, hg141⟩ := hp138
          rcases hg141 with rfl | rfl
          · refine lv_if_ne (tgt := 159) hx hb dX12_round_70 (by decide) (fun c => absurd (by decide) c) (fun _ => ?_)
            refine lv_aload_n hx hb dX12_round_73 rfl (lv_at hl 0 rfl) ?_
            refine lv_iload_n hx hb dX12_round_74 rfl (lv_at hl 1 rfl) ?_
            refine tk_Vi hC hK hw hT hA hE hSR kM_at0 (by decide) rfl (k_X12_steps_1 l adK adV dC dI cy ad (B + 0 + 9 * v51_4.toInt) (by omega) (by omega) qr s1   a1 (show 0 ≤ a1.toInt from r46) (show a1.toInt ≤ 3 from t47) w45 H.size hT hRW) (cwV 1 hC.2.2.2.2 uV_RX12_419 rfl rfl rfl (by decide +kernel) ⟨Nat.le_of_ble_eq_true rfl, Nat.le_of_ble_eq_true rfl⟩) rfl hl.1 rfl (Nat.le_of_ble_eq_true rfl) dX12_round_75 (fun r142 w144 H locs hp143 hw => ?_)
            obtain ⟨hT, k145, hg146⟩ := hp143
            have hT := hT.up (B' := (B + 9 + 9 * v51_4.toInt)) (by omega)
            have hKB := KB_FE k145 (fun _ => rfl) hKB
            have hRW := RW_FE k145 (fun _ => rfl) (fun _ => rfl) (fun _ => rfl) hRW
            have hF := hF.tr k145 (by decide)
            have c147 := k145.gi kM_at0 (by decide) c54
            have c148 := k145.gi kM_at0 (by decide) c55
            have c149 := k145.gi kM_at12 (by decide) c58
            have c150 := k145.gi kM_at16 (by decide) c61
            rcases hg146 with rfl | rfl
            · refine lv_pop hx hb dX12_round_78 rfl ?_
              refine lv_aload_n hx hb dX12_round_79 rfl (lv_at hl 0 rfl) ?_
              refine tk_getA hC hK hw hT hinX12 kM_at0 (by decide) rfl 33 (by decide) (List.mem_cons_of_mem _ uw_7_6) rfl rfl dX12_round_80 ?_
              refine lv_iload hx hb dX12_round_83 (lv_at hl 4 rfl) ?_
              refine lv_aload_n hx hb dX12_round_85 rfl (lv_at hl 0 rfl) ?_
              refine lv_iload_n hx hb dX12_round_86 rfl (lv_at hl 1 rfl) ?_
              refine tk_Vi hC hK hw hT hA hE hSR kM_at0 (by decide) rfl (k_X12_asHeIs_1 l adK adV dC dI cy ad (B + 9 + 9 * v51_4.toInt) (by omega) (by omega) qr s1   a1 (show 0 ≤ a1.toInt from r46) (show a1.toInt ≤ 3 from t47) w144 H.size hT ) (cwV 1 hC.2.2.2.2 uV_RX12_432 rfl rfl rfl (by decide +kernel) ⟨Nat.le_of_ble_eq_true rfl, Nat.le_of_ble_eq_true rfl⟩) rfl hl.1 rfl (Nat.le_of_ble_eq_true rfl) dX12_round_87 (fun r151 w153 H locs hp152 hw => ?_)
              obtain ⟨rfl, hg157⟩ := hp152
              obtain ⟨g155, g156⟩ := hg157
              refine tk_iast hC hK hw hT kM_at16 (by decide) rfl rfl (show 0 ≤ v51_4.toInt from Int.le_trans (by decide) r52) (show v51_4.toInt < 301 from Int.lt_of_le_of_lt c135 (by decide)) (wk_i32 r151).1 (wk_i32 r151).2 dX12_round_90 (fun H locs w158 hw hT k160 c159 => ?_)
              have hRW := RW_F1 k160 (by decide) (by decide) (by decide) hRW
              have hKB := KB_F1 k160 (by decide) hKB
              have hF := hF.put kM_at16 (inE_of (a := 0) (b := 301) (by decide) (show 0 ≤ v51_4.toInt.toNat by omega) (show v51_4.toInt.toNat ≤ 301 by omega)) k160
              have c161 := k160.gi (Or.inl (tk_ne kM_at0 kM_at16 (by decide))) c147
              have c162 := k160.gi (Or.inl (tk_ne kM_at0 kM_at16 (by decide))) c148
              have c163 := k160.gi (Or.inl (tk_ne kM_at12 kM_at16 (by decide))) c149
              have c164 := k160.gi (Or.inr (show 0 ≠ v51_4.toInt.toNat by omega)) c150
              refine lv_iconst (v := 0) hx hb dX12_round_91 (by decide) ?_
              refine lv_istore (lv' := [(5, .int 0), (0, .ref (ad 0)), (1, .int a1), (2, .int a2), (3, .int v51_3), (4, .int v51_4)]) hx hb dX12_round_92 hl (by decide) rfl (fun ls hl => ?_)
              exact L94 ((300 - (0 : Int)).toNat + 1) v51_3 0 H locs ls w158 (show 0 ≤ a1.toInt from r46) (show a1.toInt ≤ 3 from t47) (show 0 ≤ a2.toInt from r48) (show a2.toInt ≤ 1 from t49) (show (-298) ≤ v51_3.toInt from r50) (show v51_3.toInt ≤ 300 from t51) (show 1 ≤ v51_4.toInt from r52) (show v51_4.toInt ≤ 300 from c135) (by decide) (by decide) (show 1 ≤ f51_12_5.toInt from r56) (show f51_12_5.toInt ≤ 4 from t57) (show 0 ≤ f51_16_0.toInt from r59) (show f51_16_0.toInt ≤ 18479 from t60) (Nat.lt_succ_self _) hw hT hF hRW hKB c161 c162 c163 c164 (lv_sub hl [1, 2, 3, 4, 5, 0] rfl)
            · refine lv_pop hx hb dX12_round_78 rfl ?_
              refine lv_aload_n hx hb dX12_round_79 rfl (lv_at hl 0 rfl) ?_
              refine tk_getA hC hK hw hT hinX12 kM_at0 (by decide) rfl 33 (by decide) (List.mem_cons_of_mem _ uw_7_6) rfl rfl dX12_round_80 ?_
              refine lv_iload hx hb dX12_round_83 (lv_at hl 4 rfl) ?_
              refine lv_aload_n hx hb dX12_round_85 rfl (lv_at hl 0 rfl) ?_
              refine lv_iload_n hx hb dX12_round_86 rfl (lv_at hl 1 rfl) ?_
              refine tk_Vi hC hK hw hT hA hE hSR kM_at0 (by decide) rfl (k_X12_asHeIs_1 l adK adV dC dI cy ad (B + 9 + 9 * v51_4.toInt) (by omega) (by omega) qr s1   a1 (show 0 ≤ a1.toInt from r46) (show a1.toInt ≤ 3 from t47) w144 H.size hT ) (cwV 1 hC.2.2.2.2 uV_RX12_432 rfl rfl rfl (by decide +kernel) ⟨Nat.le_of_ble_eq_true rfl, Nat.le_of_ble_eq_true rfl⟩) rfl hl.1 rfl (Nat.le_of_ble_eq_true rfl) dX12_round_87 (fun r165 w167 H locs hp166 hw => ?_)
              obtain ⟨rfl, hg171⟩ := hp166
              obtain ⟨g169, g170⟩ := hg171
              refine tk_iast hC hK hw hT kM_at16 (by decide) rfl rfl (show 0 ≤ v51_4.toInt from Int.le_trans (by decide) r52) (show v51_4.toInt < 301 from Int.lt_of_le_of_lt c135 (by decide)) (wk_i32 r165).1 (wk_i32 r165).2 dX12_round_90 (fun H locs w172 hw hT k174 c173 => ?_)
              have hRW := RW_F1 k174 (by decide) (by decide) (by decide) hRW
              have hKB := KB_F1 k174 (by decide) hKB
              have hF := hF.put kM_at16 (inE_of (a := 0) (b := 301) (by decide) (show 0 ≤ v51_4.toInt.toNat by omega) (show v51_4.toInt.toNat ≤ 301 by omega)) k174
              have c175 := k174.gi (Or.inl (tk_ne kM_at0 kM_at16 (by decide))) c147
              have c176 := k174.gi (Or.inl (tk_ne kM_at0 kM_at16 (by decide))) c148
              have c177 := k174.gi (Or.inl (tk_ne kM_at12 kM_at16 (by decide))) c149
              have c178 := k174.gi (Or.inr (show 0 ≠ v51_4.toInt.toNat by omega)) c150
              refine lv_iconst (v := 0) hx hb dX12_round_91 (by decide) ?_
              refine lv_istore (lv' := [(5, .int 0), (0, .ref (ad 0)), (1, .int a1), (2, .int a2), (3, .int v51_3), (4, .int v51_4)]) hx hb dX12_round_92 hl (by decide) rfl (fun ls hl => ?_)
              exact L94 ((300 - (0 : Int)).toNat + 1) v51_3 0 H locs ls w172 (show 0 ≤ a1.toInt from r46) (show a1.toInt ≤ 3 from t47) (show 0 ≤ a2.toInt from r48) (show a2.toInt ≤ 1 from t49) (show (-298) ≤ v51_3.toInt from r50) (show v51_3.toInt ≤ 300 from t51) (show 1 ≤ v51_4.toInt from r52) (show v51_4.toInt ≤ 300 from c135) (by decide) (by decide) (show 1 ≤ f51_12_5.toInt from r56) (show f51_12_5.toInt ≤ 4 from t57) (show 0 ≤ f51_16_0.toInt from r59) (show f51_16_0.toInt ≤ 18479 from t60) (Nat.lt_succ_self _) hw hT hF hRW hKB c175 c176 c177 c178 (lv_sub hl [1, 2, 3, 4, 5, 0] rfl)
          · refine lv_if_ne (tgt := 159) hx hb dX12_round_70 (by decide) (fun _ => ?_) (fun c => absurd c (by decide))
            exact J159 v51_3 v51_4 f51_12_5 f51_16_0 H locs ls w45 (show 0 ≤ a1.toInt from r46) (show a1.toInt ≤ 3 from t47) (show 0 ≤ a2.toInt from r48) (show a2.toInt ≤ 1 from t49) (show (-298) ≤ v51_3.toInt from r50) (show v51_3.toInt ≤ 300 from t51) (show 1 ≤ v51_4.toInt from r52) (show v51_4.toInt ≤ 301 from t53) (show 1 ≤ f51_12_5.toInt from r56) (show f51_12_5.toInt ≤ 4 from t57) (show 0 ≤ f51_16_0.toInt from r59) (show f51_16_0.toInt ≤ 18479 from t60)  hw (hT.up (show (B + 0 + 9 * v51_4.toInt) ≤ (B + 2709) by omega)) hF hRW hKB c54 c55 c58 c61 (lv_sub hl [0, 1, 2, 3, 4] rfl)
  refine lv_aload_n hx hb dX12_round_0 rfl (lv_at hl 0 rfl) ?_
  refine lv_iload_n hx hb dX12_round_1 rfl (lv_at hl 1 rfl) ?_
  refine tk_Vi hC hK hw hT hA hE hSR kM_at0 (by decide) rfl (k_X12_isWalker_1 l adK adV dC dI cy ad B hB0 (Int.le_trans hB1 (by decide)) qr s1   a1 w0 s.heap.size hT ) (cwV 1 hC.2.2.2.2 uV_RX12_367 rfl rfl rfl (by decide +kernel) ⟨Nat.le_of_ble_eq_true rfl, Nat.le_of_ble_eq_true rfl⟩) rfl hl.1 rfl (Nat.le_of_ble_eq_true rfl) dX12_round_2 (fun r179 w181 H locs hp180 hw => ?_)
  obtain ⟨rfl, hg187⟩ := hp180
  rcases hg187 with rfl | ⟨rfl, g183, g184, ⟨x185, c186, rx185, tx185⟩⟩
  · refine lv_if_eq (tgt := 18) hx hb dX12_round_5 (by decide) (fun _ => ?_) (fun c => absurd (by decide) c)
    exact J18  H locs ls w0   hw hT hF hRW hSA cf0_ cf1_ (lv_sub hl [0, 1, 2] rfl)
  · refine lv_if_eq (tgt := 18) hx hb dX12_round_5 (by decide) (fun c => absurd c (by decide)) (fun _ => ?_)
    refine lv_iload_n hx hb dX12_round_8 rfl (lv_at hl 2 rfl) ?_
    refine lv_i2l hx hb dX12_round_9 rfl ?_
    refine lv_topl (fun x188 ex188 => ?_)
    have ex188 : x188.toInt = a2.toInt := by rw [ex188]; exact wk_i2l _
    have bx188 := wk_i32 a2
    refine lv_lconst (v := 0) hx hb dX12_round_10 (by decide) ?_
    refine lv_lconst (v := 1) hx hb dX12_round_11 (by decide) ?_
    refine tk_Si hC hK hw hT hA hE hSR (k_X12_in_12 l adK adV dC dI cy ad B hB0 (Int.le_trans hB1 (by decide)) qr s1   x188 (show (-2147483648) ≤ x188.toInt by first | with_reducible assumption | omega) (show x188.toInt ≤ 2147483647 by first | with_reducible assumption | omega) w0 H.size hT ) (va_cwS 3 hC.2.2.2.2 uS_RX12_122 rfl rfl rfl (by decide +kernel) ⟨Nat.le_of_ble_eq_true rfl, Nat.le_of_ble_eq_true rfl⟩) rfl hl.1 rfl (Nat.le_of_ble_eq_true rfl) dX12_round_12 (fun r189 w191 H locs hp190 hw => ?_)
    obtain ⟨rfl, hg195⟩ := hp190
    rcases hg195 with rfl | ⟨rfl, g193, g194⟩
    · refine lv_if_ne (tgt := 20) hx hb dX12_round_15 (by decide) (fun c => absurd (by decide) c) (fun _ => ?_)
      exact J18  H locs ls w0   hw hT hF hRW hSA cf0_ cf1_ (lv_sub hl [0, 1, 2] rfl)
    · refine lv_if_ne (tgt := 20) hx hb dX12_round_15 (by decide) (fun _ => ?_) (fun c => absurd c (by decide))
      refine lv_aload_n hx hb dX12_round_20 rfl (lv_at hl 0 rfl) ?_
      refine tk_Vv hC hK hw hT hA hE hSR kM_at0 (by decide) rfl (k_X12_keeps_1 l adK adV dC dI cy ad B hB0 (Int.le_trans hB1 (by decide)) qr s1    w0 H.size hT ) (cwV 0 hC.2.2.2.2 uV_RX12_426 rfl rfl rfl (by decide +kernel) ⟨Nat.le_of_ble_eq_true rfl, Nat.le_of_ble_eq_true rfl⟩) rfl hl.1 rfl (Nat.le_of_ble_eq_true rfl) dX12_round_21 (fun w198 H locs hp197 hw => ?_)
      obtain ⟨hT, k199, hg204⟩ := hp197
      have hSA := SA_FE k199 (fun _ => rfl) hSA
      have hRW := RW_FE k199 (fun _ => rfl) (fun _ => rfl) (fun _ => rfl) hRW
      have hF := hF.tr k199 (by decide)
      have c205 := k199.gi kM_at0 (by decide) cf0_
      have c206 := k199.gi kM_at0 (by decide) cf1_
      have c207 := k199.gi kM_at12 (by decide) c186
      obtain ⟨c200, c201, c202, hq203⟩ := hg204
      have hKB : KBk w0 w198 := fun j hj => (hq203 j hj).trans ((k199.gi kM_at12 rfl rfl).symm.trans (hSA j hj))
      refine lv_aload_n hx hb dX12_round_24 rfl (lv_at hl 0 rfl) ?_
      refine lv_iconst (v := 1) hx hb dX12_round_25 (by decide) ?_
      refine tk_putz hC hK hw hT hinX12 tyX12_ok nmX12 kM_at0 (by decide) rfl rfl 30 (by decide) (List.mem_cons_of_mem _ uw_47_4) rfl rfl rfl rfl (by decide) (by decide) dX12_round_26 (fun H locs w208 hw hT k210 c209 => ?_)
      have hRW := RW_F1 k210 (by decide) (by decide) (by decide) hRW
      have hSA := SA_F1 k210 (by decide) hSA
      have hKB := KB_F1 k210 (by decide) hKB
      have hF := hF.put kM_at0 (k := 30) (by decide) k210
      have c211 := k210.gi (Or.inr (by decide)) c205
      have c212 := k210.gi (Or.inr (by decide)) c207
      refine lv_aload_n hx hb dX12_round_29 rfl (lv_at hl 0 rfl) ?_
      refine lv_iconst (v := 0) hx hb dX12_round_30 (by decide) ?_
      refine tk_putz hC hK hw hT hinX12 tyX12_ok nmX12 kM_at0 (by decide) rfl rfl 27 (by decide) (List.mem_cons_of_mem _ uw_7_2) rfl rfl rfl rfl (by decide) (by decide) dX12_round_31 (fun H locs w213 hw hT k215 c214 => ?_)
      have hRW := RW_F1 k215 (by decide) (by decide) (by decide) hRW
      have hSA := SA_F1 k215 (by decide) hSA
      have hKB := KB_F1 k215 (by decide) hKB
      have hF := hF.put kM_at0 (k := 27) (by decide) k215
      have c216 := k215.gi (Or.inr (by decide)) c212
      have c217 := k215.gi (Or.inr (by decide)) c209
      refine lv_bipush (v := (-2)) hx hb dX12_round_34 (by decide) ?_
      refine lv_istore_n (lv' := [(3, .int (-2)), (0, .ref (ad 0)), (1, .int a1), (2, .int a2)]) hx hb dX12_round_36 rfl hl (by decide) rfl (fun ls hl => ?_)
      refine lv_aload_n hx hb dX12_round_37 rfl (lv_at hl 1 rfl) ?_
      refine tk_getA hC hK hw hT hinX12 kM_at0 (by decide) rfl 33 (by decide) (List.mem_cons_of_mem _ uw_7_6) rfl rfl dX12_round_38 ?_
      refine lv_iconst (v := 0) hx hb dX12_round_41 (by decide) ?_
      refine lv_aload_n hx hb dX12_round_42 rfl (lv_at hl 1 rfl) ?_
      refine lv_iload_n hx hb dX12_round_43 rfl (lv_at hl 2 rfl) ?_
      refine tk_Vi hC hK hw hT hA hE hSR kM_at0 (by decide) rfl (k_X12_asHeIs_1 l adK adV dC dI cy ad B hB0 (Int.le_trans hB1 (by decide)) qr s1   a1 (show 0 ≤ a1.toInt by first | with_reducible assumption | omega) (show a1.toInt ≤ 3 by first | with_reducible assumption | omega) w213 H.size hT ) (cwV 1 hC.2.2.2.2 uV_RX12_432 rfl rfl rfl (by decide +kernel) ⟨Nat.le_of_ble_eq_true rfl, Nat.le_of_ble_eq_true rfl⟩) rfl hl.1 rfl (Nat.le_of_ble_eq_true rfl) dX12_round_44 (fun r218 w220 H locs hp219 hw => ?_)
      obtain ⟨rfl, hg224⟩ := hp219
      obtain ⟨g222, g223⟩ := hg224
      refine tk_iast hC hK hw hT kM_at16 (by decide) rfl rfl (by decide) (by decide) (wk_i32 r218).1 (wk_i32 r218).2 dX12_round_47 (fun H locs w225 hw hT k227 c226 => ?_)
      have hRW := RW_F1 k227 (by decide) (by decide) (by decide) hRW
      have hSA := SA_F1 k227 (by decide) hSA
      have hKB := KB_F1 k227 (by decide) hKB
      have hF := hF.put kM_at16 (inE_of (a := 0) (b := 301) (by decide) (by decide) (by decide)) k227
      have c228 := k227.gi (Or.inl (tk_ne kM_at12 kM_at16 (by decide))) c216
      have c229 := k227.gi (Or.inl (tk_ne kM_at0 kM_at16 (by decide))) c217
      have c230 := k227.gi (Or.inl (tk_ne kM_at0 kM_at16 (by decide))) c214
      have c226 : gi w225 16 0 = r218 := c226
      refine lv_iconst (v := 1) hx hb dX12_round_48 (by decide) ?_
      refine lv_istore (lv' := [(4, .int 1), (3, .int (-2)), (0, .ref (ad 0)), (1, .int a1), (2, .int a2)]) hx hb dX12_round_49 hl (by decide) rfl (fun ls hl => ?_)
      exact L51 ((301 - (1 : Int)).toNat + 1) (-2) 1 x185 r218 H locs ls w225 (show 0 ≤ a1.toInt by first | with_reducible assumption | omega) (show a1.toInt ≤ 3 by first | with_reducible assumption | omega) (show 0 ≤ a2.toInt by first | with_reducible assumption | omega) (show a2.toInt ≤ 1 by first | with_reducible assumption | omega) (by decide) (by decide) (by decide) (by decide) (show 1 ≤ x185.toInt by first | with_reducible assumption | omega) (show x185.toInt ≤ 4 by first | with_reducible assumption | omega) (show 0 ≤ r218.toInt by first | with_reducible assumption | omega) (show r218.toInt ≤ 18479 by first | with_reducible assumption | omega) (Nat.lt_succ_self _) hw (hT.up (show B ≤ (B + 0 + 9 * (1 : Int32).toInt) by rw [show (1 : Int32).toInt = 1 by decide]; omega)) hF hRW hKB c230 c229 c228 c226 (lv_sub hl [2, 3, 4, 1, 0] rfl)
