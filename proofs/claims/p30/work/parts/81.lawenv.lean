theorem wk_ac {args : Array Value} {s : State} {ty : FieldType} (h : (Cond.arrayClass ty).before args s = true) (hno : ∀ C, ty ≠ .object C) : ∃ cA : ClassId, ArrOfT s cA ty ∧ va_RA s cA ty := by
  obtain ⟨c, k, comp, h1, h2, h3⟩ := Cond.arrayClass_spec h
  refine ⟨c, fun n z => ⟨fun k h => (by cases h), k, h2, comp, h3⟩, ?_⟩
  cases ty with
  | object C => exact absurd rfl (hno C)
  | _ => exact h1
theorem wk_ao {args : Array Value} {s : State} {C : String} (h : (Cond.arrayOver (.object C)).before args s = true) : ∃ cA : ClassId, ArrOfT s cA (.object C) ∧ va_RA s cA (.object C) := by
  obtain ⟨comp, c, k, h1, -, h3, h4, h5⟩ := Cond.arrayOver_spec h
  exact ⟨c, fun n z => ⟨fun k h => (by cases h), k, h3, comp, h4⟩, k, comp, h3, h4, h1, h5⟩
def sxT (i : Nat) : Term := [Term.string RX7 60, Term.string RX7 120, Term.string RX3 33, Term.string RX3 57, Term.string RX3 82, Term.string RX3 124, Term.string RX3 72, Term.string RX3 77].getD i (Term.string RX7 60)
def sxF : List Cond := flatC (Jvm.Cond.and given_1 narrow_1)
set_option maxRecDepth 100000 in
theorem sx_ex : ∀ i : Nat, i < 8 → Cond.exactly (sxT i) "java/lang/String" ∈ sxF ∧ Cond.eq (.field (sxT i) "java/lang/String" "coder" "B") (.int 0) ∈ sxF ∧ Cond.arrayOf (.field (sxT i) "java/lang/String" "value" "[B") .byte ∈ sxF ∧ Cond.eq (.length (.field (sxT i) "java/lang/String" "value" "[B")) (.int (Int32.ofNat (sxL.getD i 0))) ∈ sxF := by decide +kernel
set_option maxRecDepth 100000 in
theorem sx_el0 : ∀ j : Nat, j < 26 → Cond.eq (.elem (.field (sxT 0) "java/lang/String" "value" "[B") (.int (Int32.ofNat j))) (.int ((sxB.getD 0 []).getD j 0)) ∈ sxF := by decide +kernel
set_option maxRecDepth 100000 in
theorem sx_el1 : ∀ j : Nat, j < 4 → Cond.eq (.elem (.field (sxT 1) "java/lang/String" "value" "[B") (.int (Int32.ofNat j))) (.int ((sxB.getD 1 []).getD j 0)) ∈ sxF := by decide +kernel
set_option maxRecDepth 100000 in
theorem sx_el2 : ∀ j : Nat, j < 18 → Cond.eq (.elem (.field (sxT 2) "java/lang/String" "value" "[B") (.int (Int32.ofNat j))) (.int ((sxB.getD 2 []).getD j 0)) ∈ sxF := by decide +kernel
set_option maxRecDepth 100000 in
theorem sx_el3 : ∀ j : Nat, j < 2 → Cond.eq (.elem (.field (sxT 3) "java/lang/String" "value" "[B") (.int (Int32.ofNat j))) (.int ((sxB.getD 3 []).getD j 0)) ∈ sxF := by decide +kernel
set_option maxRecDepth 100000 in
theorem sx_el4 : ∀ j : Nat, j < 3 → Cond.eq (.elem (.field (sxT 4) "java/lang/String" "value" "[B") (.int (Int32.ofNat j))) (.int ((sxB.getD 4 []).getD j 0)) ∈ sxF := by decide +kernel
set_option maxRecDepth 100000 in
theorem sx_el5 : ∀ j : Nat, j < 53 → Cond.eq (.elem (.field (sxT 5) "java/lang/String" "value" "[B") (.int (Int32.ofNat j))) (.int ((sxB.getD 5 []).getD j 0)) ∈ sxF := by decide +kernel
set_option maxRecDepth 100000 in
theorem sx_el6 : ∀ j : Nat, j < 3 → Cond.eq (.elem (.field (sxT 6) "java/lang/String" "value" "[B") (.int (Int32.ofNat j))) (.int ((sxB.getD 6 []).getD j 0)) ∈ sxF := by decide +kernel
set_option maxRecDepth 100000 in
theorem sx_el7 : ∀ j : Nat, j < 2 → Cond.eq (.elem (.field (sxT 7) "java/lang/String" "value" "[B") (.int (Int32.ofNat j))) (.int ((sxB.getD 7 []).getD j 0)) ∈ sxF := by decide +kernel
set_option maxRecDepth 100000 in
theorem sx_ne : ∀ i : Nat, i < 8 → ∀ j : Nat, j < 8 → i ≠ j → Cond.not (Cond.eq (sxT i) (sxT j)) ∈ sxF ∨ Cond.not (Cond.eq (sxT j) (sxT i)) ∈ sxF := by decide +kernel
set_option maxRecDepth 100000 in
theorem sx_el {i : Nat} (hi : i < 8) : ∀ j : Nat, j < sxL.getD i 0 → Cond.eq (.elem (.field (sxT i) "java/lang/String" "value" "[B") (.int (Int32.ofNat j))) (.int ((sxB.getD i []).getD j 0)) ∈ sxF := by
  rcases (show i = 0 ∨ i = 1 ∨ i = 2 ∨ i = 3 ∨ i = 4 ∨ i = 5 ∨ i = 6 ∨ i = 7 by omega) with rfl | rfl | rfl | rfl | rfl | rfl | rfl | rfl
  · exact sx_el0
  · exact sx_el1
  · exact sx_el2
  · exact sx_el3
  · exact sx_el4
  · exact sx_el5
  · exact sx_el6
  · exact sx_el7
set_option maxRecDepth 100000 in
theorem law_str {args : Array Value} {s : State} (hgv : (Jvm.Cond.and given_1 narrow_1).before args s = true) (hts : ∀ w ∈ lw_tbl, w.before args s = true) : ∃ adK adV : Nat → Nat, SE adK adV (fun q => s.heap.size ≤ q) s s.heap ∧ SR adK s := by
  have hs : ∀ c ∈ sxF, c.before args s = true := flat_of_before _ hgv
  have hA : ∀ a : Nat, a < s.heap.size → ¬ (fun q => s.heap.size ≤ q) a := fun a h => Nat.not_le.mpr h
  obtain ⟨adK, adV, hS, hT⟩ := vk_Sof (args := args) (s := s) (N := 8) (tm := sxT) (len := sxL) (byt := sxB) (A := fun q => s.heap.size ≤ q) (by decide) (fun i hi => hs _ (sx_ex i hi).1) (fun i hi => hs _ (sx_ex i hi).2.1) (fun i hi => hs _ (sx_ex i hi).2.2.1) (fun i hi => hs _ (sx_ex i hi).2.2.2) (fun i hi j hj => hs _ (sx_el hi j hj)) (fun i j hi hj hij => (sx_ne i hi j hj hij).imp (hs _) (hs _)) hA
  refine ⟨adK, adV, ⟨hS, ?_, ?_⟩, ?_, ?_, ?_, ?_, ?_, ?_, ?_, ?_⟩
  · exact va_Zof (hts (.laysStatic "java/lang/String" "COMPACT_STRINGS" "Z") (List.mem_of_getElem? (i := 669) (by decide +kernel))) (hts (.initialized "java/lang/String") (List.mem_of_getElem? (i := 161) (by decide +kernel))) (va_eqt (hs _ (by decide +kernel))) hA
  · exact va_Zqof (hts (.laysStatic "jdk/internal/util/Preconditions" "SIOOBE_FORMATTER" "Ljava/util/function/BiFunction;") (List.mem_of_getElem? (i := 685) (by decide +kernel))) (hts (.initialized "jdk/internal/util/Preconditions") (List.mem_of_getElem? (i := 163) (by decide +kernel))) (hs _ (by decide +kernel)) hA
  · exact vk_R.of (hts (.stringRef RX7 60 "corners street saint lift ") (List.mem_of_getElem? (i := 647) (by decide +kernel))) (hT 0 (by decide))
  · exact vk_R.of (hts (.stringRef RX7 120 ".><=") (List.mem_of_getElem? (i := 750) (by decide +kernel))) (hT 1 (by decide))
  · exact vk_R.of (hts (.stringRef RX3 33 "go aside ask wait ") (List.mem_of_getElem? (i := 878) (by decide +kernel))) (hT 2 (by decide))
  · exact vk_R.of (hts (.stringRef RX3 57 "if") (List.mem_of_getElem? (i := 891) (by decide +kernel))) (hT 3 (by decide))
  · exact vk_R.of (hts (.stringRef RX3 82 "not") (List.mem_of_getElem? (i := 904) (by decide +kernel))) (hT 4 (by decide))
  · exact vk_R.of (hts (.stringRef RX3 124 "hour day date corner goal shut left steps asked came ") (List.mem_of_getElem? (i := 922) (by decide +kernel))) (hT 5 (by decide))
  · exact vk_R.of (hts (.stringRef RX3 72 "and") (List.mem_of_getElem? (i := 942) (by decide +kernel))) (hT 6 (by decide))
  · exact vk_R.of (hts (.stringRef RX3 77 "or") (List.mem_of_getElem? (i := 943) (by decide +kernel))) (hT 7 (by decide))
set_option maxRecDepth 100000 in
set_option maxHeartbeats 4000000 in
theorem law_kk {args : Array Value} {s : State} (hts : ∀ w ∈ lw_tbl, w.before args s = true) : ∃ (dC : Nat → ClassId) (dI : Nat → Nat → Nat) (cy : Nat → ClassId), KK dC dI cy s := by
  obtain ⟨c0, iS0, hn0⟩ := u_known (C := RX0) (T := TX0) (N := 4) (n := 4) hts inX0 (hts (.instantiable RX0 4) (List.mem_of_getElem? (i := 447) (by decide +kernel)))
  obtain ⟨c1, iS1, hn1⟩ := u_known (C := RX1) (T := TX1) (N := 10) (n := 10) hts inX1 (hts (.instantiable RX1 10) (List.mem_of_getElem? (i := 467) (by decide +kernel)))
  obtain ⟨c2, iS2, hn2⟩ := u_known (C := RX2) (T := TX2) (N := 6) (n := 6) hts inX2 (hts (.instantiable RX2 6) (List.mem_of_getElem? (i := 270) (by decide +kernel)))
  obtain ⟨c3, iS3, hn3⟩ := u_known (C := RX3) (T := TX3) (N := 3) (n := 3) hts inX3 (hts (.instantiable RX3 3) (List.mem_of_getElem? (i := 297) (by decide +kernel)))
  obtain ⟨c4, iS4, hn4⟩ := u_known (C := RX4) (T := TX4) (N := 4) (n := 4) hts inX4 (hts (.instantiable RX4 4) (List.mem_of_getElem? (i := 539) (by decide +kernel)))
  obtain ⟨c5, iS5, hn5⟩ := u_known (C := RX5) (T := TX5) (N := 14) (n := 14) hts inX5 (hts (.instantiable RX5 14) (List.mem_of_getElem? (i := 313) (by decide +kernel)))
  obtain ⟨c6, iS6, hn6⟩ := u_known (C := RX6) (T := TX6) (N := 5) (n := 5) hts inX6 (hts (.instantiable RX6 5) (List.mem_of_getElem? (i := 178) (by decide +kernel)))
  obtain ⟨c7, iS7, hn7⟩ := u_known (C := RX7) (T := TX7) (N := 12) (n := 12) hts inX7 (hts (.instantiable RX7 12) (List.mem_of_getElem? (i := 205) (by decide +kernel)))
  obtain ⟨c8, iS8, hn8⟩ := u_known (C := RX8) (T := TX8) (N := 8) (n := 8) hts inX8 (hts (.instantiable RX8 8) (List.mem_of_getElem? (i := 506) (by decide +kernel)))
  obtain ⟨c9, iS9, hn9⟩ := u_known (C := RX9) (T := TX9) (N := 9) (n := 9) hts inX9 (hts (.instantiable RX9 9) (List.mem_of_getElem? (i := 322) (by decide +kernel)))
  obtain ⟨c10, iS10, hn10⟩ := u_known (C := RX10) (T := TX10) (N := 5) (n := 5) hts inX10 (hts (.instantiable RX10 5) (List.mem_of_getElem? (i := 558) (by decide +kernel)))
  obtain ⟨c11, iS11, hn11⟩ := u_known (C := RX11) (T := TX11) (N := 13) (n := 13) hts inX11 (hts (.instantiable RX11 13) (List.mem_of_getElem? (i := 170) (by decide +kernel)))
  obtain ⟨c12, iS12, hn12⟩ := u_known (C := RX12) (T := TX12) (N := 42) (n := 42) hts inX12 (hts (.instantiable RX12 42) (List.mem_of_getElem? (i := 1468) (by decide +kernel)))
  obtain ⟨y0, hy0⟩ := wk_ac (hts (.arrayClass .int) (List.mem_of_getElem? (i := 203) (by decide +kernel))) (fun C h => by cases h)
  obtain ⟨y1, hy1⟩ := wk_ac (hts (.arrayClass .long) (List.mem_of_getElem? (i := 504) (by decide +kernel))) (fun C h => by cases h)
  obtain ⟨y2, hy2⟩ := wk_ac (hts (.arrayClass .boolean) (List.mem_of_getElem? (i := 465) (by decide +kernel))) (fun C h => by cases h)
  obtain ⟨y3, hy3⟩ := wk_ac (hts (.arrayClass .byte) (List.mem_of_getElem? (i := 864) (by decide +kernel))) (fun C h => by cases h)
  have ho0 := (hts (.arrayOver (.object "MondayMaps$Rule")) (List.mem_of_getElem? (i := 269) (by decide +kernel)))
  obtain ⟨y4, hy4⟩ := wk_ao ho0
  have ho1 := (hts (.arrayOver (.object "MondayMaps$State")) (List.mem_of_getElem? (i := 445) (by decide +kernel)))
  obtain ⟨y5, hy5⟩ := wk_ao ho1
  have ho2 := (hts (.arrayOver (.object "MondayMaps$Walker")) (List.mem_of_getElem? (i := 321) (by decide +kernel)))
  obtain ⟨y6, hy6⟩ := wk_ao ho2
  refine ⟨fun k => [c0, c1, c2, c3, c4, c5, c6, c7, c8, c9, c10, c11, c12].getD k c0, fun k => [iS0, iS1, iS2, iS3, iS4, iS5, iS6, iS7, iS8, iS9, iS10, iS11, iS12].getD k iS0, fun k => [y0, y1, y2, y3, y4, y5, y6].getD k y0, ⟨?_, ?_⟩, va_AO.of ho0, va_AO.of ho1, va_AO.of ho2⟩
  · intro k q hq
    match k, hq with
    | 0, hq => cases hq; exact hn0
    | 1, hq => cases hq; exact hn1
    | 2, hq => cases hq; exact hn2
    | 3, hq => cases hq; exact hn3
    | 4, hq => cases hq; exact hn4
    | 5, hq => cases hq; exact hn5
    | 6, hq => cases hq; exact hn6
    | 7, hq => cases hq; exact hn7
    | 8, hq => cases hq; exact hn8
    | 9, hq => cases hq; exact hn9
    | 10, hq => cases hq; exact hn10
    | 11, hq => cases hq; exact hn11
    | 12, hq => cases hq; exact hn12
    | k + 13, hq => exact absurd hq (by simp [vwCl])
  · intro k q hq
    match k, hq with
    | 0, hq => cases hq; exact hy0
    | 1, hq => cases hq; exact hy1
    | 2, hq => cases hq; exact hy2
    | 3, hq => cases hq; exact hy3
    | 4, hq => cases hq; exact hy4
    | 5, hq => cases hq; exact hy5
    | 6, hq => cases hq; exact hy6
    | k + 7, hq => exact absurd hq (by simp [tyA])
