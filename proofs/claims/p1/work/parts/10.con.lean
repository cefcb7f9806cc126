set_option maxHeartbeats 4000000 in
set_option maxRecDepth 100000 in
theorem c_X6_hasRoom_1 (l : Launch) (dC : Nat → ClassId) (dI : Nat → Nat → Nat) (cy : Nat → ClassId) (av0 : Nat) (av1 : Nat) (sz : Nat)  : Met l yX6_hasRoom wsX6_hasRoom ({ frames := 0, cells := 0, slots := 0, locals := 0 }) (va_Pc [.ref av0] (wpre dC dI cy sz [(av0, .inr (6, [.ref av1, .int 0, .int 0, .int 0, .int 0]))])) (va_Qi (fun (r : Int32) (_ : ((Nat → Nat) × (Nat → Nat → Int32))) => r = 1) (fun u => wpost dC dI cy (va_A [(av0, .inr (6, [.ref av1, .int 0, .int 0, .int 0, .int 0]))] sz) [(av0, .inr (6, [.ref av1, .int 0, .int 0, .int 0, .int 0]))]) (va_A [(av0, .inr (6, [.ref av1, .int 0, .int 0, .int 0, .int 0]))] sz)) 0 0 (va_A [(av0, .inr (6, [.ref av1, .int 0, .int 0, .int 0, .int 0]))] sz) := by
  refine Met.ofW (cc := cX6_hasRoom) (maxL := 1) (ret := (some .boolean)) (by decide) rfl ?_
  intro p e s m args below meth c s₁ B hml hv
  obtain ⟨rfl, hsz, hP, hK, hD0⟩ := hv
  have hx := B.exec
  have hb := B.bytes
  have hr := B.returns
  have hlocks := B.notSynchronized
  have hC : CallFix p m c cX6_hasRoom 1 s _ wsX6_hasRoom RX6 := ⟨hx, hb, hml, findClass_of_methodNamed B.named, atoms_spec (ws := wsX6_hasRoom) B.pre⟩
  subst hsz
  have hD := hD0.self (sz := s.heap.size)
  generalize hAe : va_A [(av0, .inr (6, [.ref av1, .int 0, .int 0, .int 0, .int 0]))] s.heap.size = A at hD ⊢
  have hA : ∀ q : Nat, s.heap.size ≤ q → A q := fun q h => by rw [← hAe]; exact Or.inr h
  have hw : Wd dC dI A s.heap s.heap [] [(av0, .inr (6, [.ref av1, .int 0, .int 0, .int 0, .int 0]))] := ⟨hP, hD, va_S.rf⟩
  have hl := lv_entry ([.ref av0]) (n := 1) (Nat.le_of_ble_eq_true rfl)
  rw [lg_entry_eq]
  generalize (lg_sl ([.ref av0]) ++ List.replicate (1 - (lg_sl ([.ref av0])).length) Slot.unset).toArray = ls at hl ⊢
  have hl : lv_has ls 1 [(0, .ref av0)] := hl
  have hinX6 : ∀ w ∈ u_ws RX6 TX6 5, w ∈ wsX6_hasRoom := fun _ h => List.mem_cons_of_mem _ (List.mem_append_right _ (h))
  refine lv_aload_n hx hb dX6_hasRoom_0 rfl (lv_at hl 0 rfl) ?_
  refine wk_get hC hK hw hinX6 0 rfl rfl 2 (by decide) (List.mem_of_getElem? (i := 1) rfl) rfl rfl dX6_hasRoom_1 ?_
  refine lv_bipush (v := 20) hx hb dX6_hasRoom_4 (by decide) ?_
  refine lv_iadd hx hb dX6_hasRoom_6 ?_
  refine wk_top 20 (by decide) ?_
  refine lv_sipush (v := 400) hx hb dX6_hasRoom_7 (by decide) ?_
  refine lv_icmp_gt (tgt := 17) hx hb dX6_hasRoom_10 (by decide) (fun c => absurd c (by decide)) (fun _ => ?_)
  refine lv_iconst (v := 1) hx hb dX6_hasRoom_13 (by decide) ?_
  refine lv_goto (tgt := 18) hx hb dX6_hasRoom_14 (by decide) ?_
  exact wk_zret (v := 1) hC hr rfl hlocks hK ((fun _ => 0), (fun _ _ => 0)) rfl [0] rfl rfl hw dX6_hasRoom_18

set_option maxHeartbeats 4000000 in
set_option maxRecDepth 100000 in
theorem c_X6_append_1 (l : Launch) (dC : Nat → ClassId) (dI : Nat → Nat → Nat) (cy : Nat → ClassId) (av0 : Nat) (iv0 : Int32) (av1 : Nat) (sz : Nat)  : Met l yX6_append wsX6_append ({ frames := 0, cells := 0, slots := 0, locals := 0 }) (va_Pc [.ref av0, .int iv0] (wpre dC dI cy sz [(av0, .inr (6, [.ref av1, .int 0, .int 0, .int 0, .int 0])), (av1, .inl (cy 0, 400, .inl (fun _ => 0)))])) (va_Qv (fun _ : ((Nat → Nat) × (Nat → Nat → Int32)) => True) (fun u => wpost dC dI cy (va_A [(av0, .inr (6, [.ref av1, .int 0, .int 0, .int 0, .int 0])), (av1, .inl (cy 0, 400, .inl (fun _ => 0)))] sz) [(av0, .inr (6, [.ref av1, .int 0, .int 4, .int 0, .int 0])), (av1, .inl (cy 0, 400, .inl (u.2 0)))]) (va_A [(av0, .inr (6, [.ref av1, .int 0, .int 0, .int 0, .int 0])), (av1, .inl (cy 0, 400, .inl (fun _ => 0)))] sz)) 0 0 (va_A [(av0, .inr (6, [.ref av1, .int 0, .int 0, .int 0, .int 0])), (av1, .inl (cy 0, 400, .inl (fun _ => 0)))] sz) := by
  refine Met.ofW (cc := cX6_append) (maxL := 3) (ret := none) (by decide) rfl ?_
  intro p e s m args below meth c s₁ B hml hv
  obtain ⟨rfl, hsz, hP, hK, hD0⟩ := hv
  have hx := B.exec
  have hb := B.bytes
  have hr := B.returns
  have hlocks := B.notSynchronized
  have hC : CallFix p m c cX6_append 3 s _ wsX6_append RX6 := ⟨hx, hb, hml, findClass_of_methodNamed B.named, atoms_spec (ws := wsX6_append) B.pre⟩
  subst hsz
  have hD := hD0.self (sz := s.heap.size)
  generalize hAe : va_A [(av0, .inr (6, [.ref av1, .int 0, .int 0, .int 0, .int 0])), (av1, .inl (cy 0, 400, .inl (fun _ => 0)))] s.heap.size = A at hD ⊢
  have hA : ∀ q : Nat, s.heap.size ≤ q → A q := fun q h => by rw [← hAe]; exact Or.inr h
  have hw : Wd dC dI A s.heap s.heap [] [(av0, .inr (6, [.ref av1, .int 0, .int 0, .int 0, .int 0])), (av1, .inl (cy 0, 400, .inl (fun _ => 0)))] := ⟨hP, hD, va_S.rf⟩
  have hl := lv_entry ([.ref av0, .int iv0]) (n := 3) (Nat.le_of_ble_eq_true rfl)
  rw [lg_entry_eq]
  generalize (lg_sl ([.ref av0, .int iv0]) ++ List.replicate (3 - (lg_sl ([.ref av0, .int iv0])).length) Slot.unset).toArray = ls at hl ⊢
  have hl : lv_has ls 3 [(0, .ref av0), (1, .int iv0)] := hl
  have hinX6 : ∀ w ∈ u_ws RX6 TX6 5, w ∈ wsX6_append := fun _ h => List.mem_cons_of_mem _ (List.mem_append_right _ (h))
  refine lv_bipush (v := 24) hx hb dX6_append_0 (by decide) ?_
  refine lv_istore_n (lv' := [(2, .int 24), (0, .ref av0), (1, .int iv0)]) hx hb dX6_append_2 rfl hl (by decide) rfl (fun ls hl => ?_)
  refine lv_iload_n hx hb dX6_append_3 rfl (lv_at hl 0 rfl) ?_
  refine lv_if_lt (tgt := 49) hx hb dX6_append_4 (by decide) (fun c => absurd c (by decide)) (fun _ => ?_)
  refine lv_aload_n hx hb dX6_append_7 rfl (lv_at hl 1 rfl) ?_
  refine wk_get hC hK hw hinX6 0 rfl rfl 2 (by decide) (List.mem_of_getElem? (i := 1) rfl) rfl rfl dX6_append_8 ?_
  refine lv_sipush (v := 400) hx hb dX6_append_11 (by decide) ?_
  refine lv_icmp_ge (tgt := 49) hx hb dX6_append_14 (by decide) (fun c => absurd c (by decide)) (fun _ => ?_)
  refine lv_aload_n hx hb dX6_append_17 rfl (lv_at hl 1 rfl) ?_
  refine wk_get hC hK hw hinX6 0 rfl rfl 0 (by decide) (List.mem_of_getElem? (i := 2) rfl) rfl rfl dX6_append_18 ?_
  refine lv_aload_n hx hb dX6_append_21 rfl (lv_at hl 1 rfl) ?_
  refine wk_get hC hK hw hinX6 0 rfl rfl 2 (by decide) (List.mem_of_getElem? (i := 1) rfl) rfl rfl dX6_append_22 ?_
  refine lv_iload_n hx hb dX6_append_25 rfl (lv_at hl 2 rfl) ?_
  refine lv_iload_n hx hb dX6_append_26 rfl (lv_at hl 0 rfl) ?_
  refine lv_ishr hx hb dX6_append_27 ?_
  refine lv_topi (fun x1 ex1 => ?_)
  refine lv_sipush (v := 255) hx hb dX6_append_28 (by decide) ?_
  refine lv_iand hx hb dX6_append_31 ?_
  refine lv_topi (fun x2 ex2 => ?_)
  refine wk_iast hC hK hw 1 rfl (show ¬ ((0 : Int32) < 0 ∨ 400 ≤ (0 : Int32).toNatClampNeg) by decide) dX6_append_32 (fun H locs hw => ?_)
  obtain ⟨f3, hw⟩ : ∃ f3 : Nat → Int32, Wd dC dI A s.heap H locs [(av0, .inr (6, [.ref av1, .int 0, .int 0, .int 0, .int 0])), (av1, .inl (cy 0, 400, .inl f3))] := ⟨_, hw⟩
  refine lv_aload_n hx hb dX6_append_33 rfl (lv_at hl 1 rfl) ?_
  refine lv_dup hx hb dX6_append_34 rfl ?_
  refine wk_get hC hK hw hinX6 0 rfl rfl 2 (by decide) (List.mem_of_getElem? (i := 1) rfl) rfl rfl dX6_append_35 ?_
  refine lv_iconst (v := 1) hx hb dX6_append_38 (by decide) ?_
  refine lv_iadd hx hb dX6_append_39 ?_
  refine wk_top 1 (by decide) ?_
  refine wk_put hC hK hw hinX6 tyX6_ok nmX6 0 rfl rfl 2 (by decide) (List.mem_of_getElem? (i := 1) rfl) rfl rfl rfl rfl rfl (Nat.le_of_ble_eq_true rfl) dX6_append_40 (fun H locs hw => ?_)
  have hw : Wd dC dI A s.heap H locs [(av0, .inr (6, [.ref av1, .int 0, .int 1, .int 0, .int 0])), (av1, .inl (cy 0, 400, .inl f3))] := hw
  refine lv_iinc (v := 16) (lv' := [(2, .int 16), (0, .ref av0), (1, .int iv0)]) hx hb dX6_append_43 hl (k := 0) rfl (by decide) (by decide) rfl (fun ls hl => ?_)
  refine lv_goto (tgt := 3) hx hb dX6_append_46 (by decide) ?_
  refine lv_iload_n hx hb dX6_append_3 rfl (lv_at hl 0 rfl) ?_
  refine lv_if_lt (tgt := 49) hx hb dX6_append_4 (by decide) (fun c => absurd c (by decide)) (fun _ => ?_)
  refine lv_aload_n hx hb dX6_append_7 rfl (lv_at hl 1 rfl) ?_
  refine wk_get hC hK hw hinX6 0 rfl rfl 2 (by decide) (List.mem_of_getElem? (i := 1) rfl) rfl rfl dX6_append_8 ?_
  refine lv_sipush (v := 400) hx hb dX6_append_11 (by decide) ?_
  refine lv_icmp_ge (tgt := 49) hx hb dX6_append_14 (by decide) (fun c => absurd c (by decide)) (fun _ => ?_)
  refine lv_aload_n hx hb dX6_append_17 rfl (lv_at hl 1 rfl) ?_
  refine wk_get hC hK hw hinX6 0 rfl rfl 0 (by decide) (List.mem_of_getElem? (i := 2) rfl) rfl rfl dX6_append_18 ?_
  refine lv_aload_n hx hb dX6_append_21 rfl (lv_at hl 1 rfl) ?_
  refine wk_get hC hK hw hinX6 0 rfl rfl 2 (by decide) (List.mem_of_getElem? (i := 1) rfl) rfl rfl dX6_append_22 ?_
  refine lv_iload_n hx hb dX6_append_25 rfl (lv_at hl 2 rfl) ?_
  refine lv_iload_n hx hb dX6_append_26 rfl (lv_at hl 0 rfl) ?_
  refine lv_ishr hx hb dX6_append_27 ?_
  refine lv_topi (fun x4 ex4 => ?_)
  refine lv_sipush (v := 255) hx hb dX6_append_28 (by decide) ?_
  refine lv_iand hx hb dX6_append_31 ?_
  refine lv_topi (fun x5 ex5 => ?_)
  refine wk_iast hC hK hw 1 rfl (show ¬ ((1 : Int32) < 0 ∨ 400 ≤ (1 : Int32).toNatClampNeg) by decide) dX6_append_32 (fun H locs hw => ?_)
  obtain ⟨f6, hw⟩ : ∃ f6 : Nat → Int32, Wd dC dI A s.heap H locs [(av0, .inr (6, [.ref av1, .int 0, .int 1, .int 0, .int 0])), (av1, .inl (cy 0, 400, .inl f6))] := ⟨_, hw⟩
  refine lv_aload_n hx hb dX6_append_33 rfl (lv_at hl 1 rfl) ?_
  refine lv_dup hx hb dX6_append_34 rfl ?_
  refine wk_get hC hK hw hinX6 0 rfl rfl 2 (by decide) (List.mem_of_getElem? (i := 1) rfl) rfl rfl dX6_append_35 ?_
  refine lv_iconst (v := 1) hx hb dX6_append_38 (by decide) ?_
  refine lv_iadd hx hb dX6_append_39 ?_
  refine wk_top 2 (by decide) ?_
  refine wk_put hC hK hw hinX6 tyX6_ok nmX6 0 rfl rfl 2 (by decide) (List.mem_of_getElem? (i := 1) rfl) rfl rfl rfl rfl rfl (Nat.le_of_ble_eq_true rfl) dX6_append_40 (fun H locs hw => ?_)
  have hw : Wd dC dI A s.heap H locs [(av0, .inr (6, [.ref av1, .int 0, .int 2, .int 0, .int 0])), (av1, .inl (cy 0, 400, .inl f6))] := hw
  refine lv_iinc (v := 8) (lv' := [(2, .int 8), (0, .ref av0), (1, .int iv0)]) hx hb dX6_append_43 hl (k := 0) rfl (by decide) (by decide) rfl (fun ls hl => ?_)
  refine lv_goto (tgt := 3) hx hb dX6_append_46 (by decide) ?_
  refine lv_iload_n hx hb dX6_append_3 rfl (lv_at hl 0 rfl) ?_
  refine lv_if_lt (tgt := 49) hx hb dX6_append_4 (by decide) (fun c => absurd c (by decide)) (fun _ => ?_)
  refine lv_aload_n hx hb dX6_append_7 rfl (lv_at hl 1 rfl) ?_
  refine wk_get hC hK hw hinX6 0 rfl rfl 2 (by decide) (List.mem_of_getElem? (i := 1) rfl) rfl rfl dX6_append_8 ?_
  refine lv_sipush (v := 400) hx hb dX6_append_11 (by decide) ?_
  refine lv_icmp_ge (tgt := 49) hx hb dX6_append_14 (by decide) (fun c => absurd c (by decide)) (fun _ => ?_)
  refine lv_aload_n hx hb dX6_append_17 rfl (lv_at hl 1 rfl) ?_
  refine wk_get hC hK hw hinX6 0 rfl rfl 0 (by decide) (List.mem_of_getElem? (i := 2) rfl) rfl rfl dX6_append_18 ?_
  refine lv_aload_n hx hb dX6_append_21 rfl (lv_at hl 1 rfl) ?_
  refine wk_get hC hK hw hinX6 0 rfl rfl 2 (by decide) (List.mem_of_getElem? (i := 1) rfl) rfl rfl dX6_append_22 ?_
  refine lv_iload_n hx hb dX6_append_25 rfl (lv_at hl 2 rfl) ?_
  refine lv_iload_n hx hb dX6_append_26 rfl (lv_at hl 0 rfl) ?_
  refine lv_ishr hx hb dX6_append_27 ?_
  refine lv_topi (fun x7 ex7 => ?_)
  refine lv_sipush (v := 255) hx hb dX6_append_28 (by decide) ?_
  refine lv_iand hx hb dX6_append_31 ?_
  refine lv_topi (fun x8 ex8 => ?_)
  refine wk_iast hC hK hw 1 rfl (show ¬ ((2 : Int32) < 0 ∨ 400 ≤ (2 : Int32).toNatClampNeg) by decide) dX6_append_32 (fun H locs hw => ?_)
  obtain ⟨f9, hw⟩ : ∃ f9 : Nat → Int32, Wd dC dI A s.heap H locs [(av0, .inr (6, [.ref av1, .int 0, .int 2, .int 0, .int 0])), (av1, .inl (cy 0, 400, .inl f9))] := ⟨_, hw⟩
  refine lv_aload_n hx hb dX6_append_33 rfl (lv_at hl 1 rfl) ?_
  refine lv_dup hx hb dX6_append_34 rfl ?_
  refine wk_get hC hK hw hinX6 0 rfl rfl 2 (by decide) (List.mem_of_getElem? (i := 1) rfl) rfl rfl dX6_append_35 ?_
  refine lv_iconst (v := 1) hx hb dX6_append_38 (by decide) ?_
  refine lv_iadd hx hb dX6_append_39 ?_
  refine wk_top 3 (by decide) ?_
  refine wk_put hC hK hw hinX6 tyX6_ok nmX6 0 rfl rfl 2 (by decide) (List.mem_of_getElem? (i := 1) rfl) rfl rfl rfl rfl rfl (Nat.le_of_ble_eq_true rfl) dX6_append_40 (fun H locs hw => ?_)
  have hw : Wd dC dI A s.heap H locs [(av0, .inr (6, [.ref av1, .int 0, .int 3, .int 0, .int 0])), (av1, .inl (cy 0, 400, .inl f9))] := hw
  refine lv_iinc (v := 0) (lv' := [(2, .int 0), (0, .ref av0), (1, .int iv0)]) hx hb dX6_append_43 hl (k := 0) rfl (by decide) (by decide) rfl (fun ls hl => ?_)
  refine lv_goto (tgt := 3) hx hb dX6_append_46 (by decide) ?_
  refine lv_iload_n hx hb dX6_append_3 rfl (lv_at hl 0 rfl) ?_
  refine lv_if_lt (tgt := 49) hx hb dX6_append_4 (by decide) (fun c => absurd c (by decide)) (fun _ => ?_)
  refine lv_aload_n hx hb dX6_append_7 rfl (lv_at hl 1 rfl) ?_
  refine wk_get hC hK hw hinX6 0 rfl rfl 2 (by decide) (List.mem_of_getElem? (i := 1) rfl) rfl rfl dX6_append_8 ?_
  refine lv_sipush (v := 400) hx hb dX6_append_11 (by decide) ?_
  refine lv_icmp_ge (tgt := 49) hx hb dX6_append_14 (by decide) (fun c => absurd c (by decide)) (fun _ => ?_)
  refine lv_aload_n hx hb dX6_append_17 rfl (lv_at hl 1 rfl) ?_
  refine wk_get hC hK hw hinX6 0 rfl rfl 0 (by decide) (List.mem_of_getElem? (i := 2) rfl) rfl rfl dX6_append_18 ?_
  refine lv_aload_n hx hb dX6_append_21 rfl (lv_at hl 1 rfl) ?_
  refine wk_get hC hK hw hinX6 0 rfl rfl 2 (by decide) (List.mem_of_getElem? (i := 1) rfl) rfl rfl dX6_append_22 ?_
  refine lv_iload_n hx hb dX6_append_25 rfl (lv_at hl 2 rfl) ?_
  refine lv_iload_n hx hb dX6_append_26 rfl (lv_at hl 0 rfl) ?_
  refine lv_ishr hx hb dX6_append_27 ?_
  refine lv_topi (fun x10 ex10 => ?_)
  refine lv_sipush (v := 255) hx hb dX6_append_28 (by decide) ?_
  refine lv_iand hx hb dX6_append_31 ?_
  refine lv_topi (fun x11 ex11 => ?_)
  refine wk_iast hC hK hw 1 rfl (show ¬ ((3 : Int32) < 0 ∨ 400 ≤ (3 : Int32).toNatClampNeg) by decide) dX6_append_32 (fun H locs hw => ?_)
  obtain ⟨f12, hw⟩ : ∃ f12 : Nat → Int32, Wd dC dI A s.heap H locs [(av0, .inr (6, [.ref av1, .int 0, .int 3, .int 0, .int 0])), (av1, .inl (cy 0, 400, .inl f12))] := ⟨_, hw⟩
  refine lv_aload_n hx hb dX6_append_33 rfl (lv_at hl 1 rfl) ?_
  refine lv_dup hx hb dX6_append_34 rfl ?_
  refine wk_get hC hK hw hinX6 0 rfl rfl 2 (by decide) (List.mem_of_getElem? (i := 1) rfl) rfl rfl dX6_append_35 ?_
  refine lv_iconst (v := 1) hx hb dX6_append_38 (by decide) ?_
  refine lv_iadd hx hb dX6_append_39 ?_
  refine wk_top 4 (by decide) ?_
  refine wk_put hC hK hw hinX6 tyX6_ok nmX6 0 rfl rfl 2 (by decide) (List.mem_of_getElem? (i := 1) rfl) rfl rfl rfl rfl rfl (Nat.le_of_ble_eq_true rfl) dX6_append_40 (fun H locs hw => ?_)
  have hw : Wd dC dI A s.heap H locs [(av0, .inr (6, [.ref av1, .int 0, .int 4, .int 0, .int 0])), (av1, .inl (cy 0, 400, .inl f12))] := hw
  refine lv_iinc (v := (-8)) (lv' := [(2, .int (-8)), (0, .ref av0), (1, .int iv0)]) hx hb dX6_append_43 hl (k := 0) rfl (by decide) (by decide) rfl (fun ls hl => ?_)
  refine lv_goto (tgt := 3) hx hb dX6_append_46 (by decide) ?_
  refine lv_iload_n hx hb dX6_append_3 rfl (lv_at hl 0 rfl) ?_
  refine lv_if_lt (tgt := 49) hx hb dX6_append_4 (by decide) (fun _ => ?_) (fun c => absurd (by decide) c)
  exact wk_vret hC hr hlocks hK ((fun _ => 0), (fun k => ([f12] : List (Nat → Int32)).getD k (fun _ => 0))) trivial [0, 1] rfl rfl hw dX6_append_49

set_option maxHeartbeats 4000000 in
set_option maxRecDepth 100000 in
theorem c_X6_append_2 (l : Launch) (dC : Nat → ClassId) (dI : Nat → Nat → Nat) (cy : Nat → ClassId) (av0 : Nat) (iv0 : Int32) (av1 : Nat) (gv0 : Nat → Int32) (sz : Nat)  : Met l yX6_append wsX6_append ({ frames := 0, cells := 0, slots := 0, locals := 0 }) (va_Pc [.ref av0, .int iv0] (wpre dC dI cy sz [(av0, .inr (6, [.ref av1, .int 0, .int 4, .int 0, .int 0])), (av1, .inl (cy 0, 400, .inl gv0))])) (va_Qv (fun _ : ((Nat → Nat) × (Nat → Nat → Int32)) => True) (fun u => wpost dC dI cy (va_A [(av0, .inr (6, [.ref av1, .int 0, .int 4, .int 0, .int 0])), (av1, .inl (cy 0, 400, .inl gv0))] sz) [(av0, .inr (6, [.ref av1, .int 0, .int 8, .int 0, .int 0])), (av1, .inl (cy 0, 400, .inl (u.2 0)))]) (va_A [(av0, .inr (6, [.ref av1, .int 0, .int 4, .int 0, .int 0])), (av1, .inl (cy 0, 400, .inl gv0))] sz)) 0 0 (va_A [(av0, .inr (6, [.ref av1, .int 0, .int 4, .int 0, .int 0])), (av1, .inl (cy 0, 400, .inl gv0))] sz) := by
  refine Met.ofW (cc := cX6_append) (maxL := 3) (ret := none) (by decide) rfl ?_
  intro p e s m args below meth c s₁ B hml hv
  obtain ⟨rfl, hsz, hP, hK, hD0⟩ := hv
  have hx := B.exec
  have hb := B.bytes
  have hr := B.returns
  have hlocks := B.notSynchronized
  have hC : CallFix p m c cX6_append 3 s _ wsX6_append RX6 := ⟨hx, hb, hml, findClass_of_methodNamed B.named, atoms_spec (ws := wsX6_append) B.pre⟩
  subst hsz
  have hD := hD0.self (sz := s.heap.size)
  generalize hAe : va_A [(av0, .inr (6, [.ref av1, .int 0, .int 4, .int 0, .int 0])), (av1, .inl (cy 0, 400, .inl gv0))] s.heap.size = A at hD ⊢
  have hA : ∀ q : Nat, s.heap.size ≤ q → A q := fun q h => by rw [← hAe]; exact Or.inr h
  have hw : Wd dC dI A s.heap s.heap [] [(av0, .inr (6, [.ref av1, .int 0, .int 4, .int 0, .int 0])), (av1, .inl (cy 0, 400, .inl gv0))] := ⟨hP, hD, va_S.rf⟩
  have hl := lv_entry ([.ref av0, .int iv0]) (n := 3) (Nat.le_of_ble_eq_true rfl)
  rw [lg_entry_eq]
  generalize (lg_sl ([.ref av0, .int iv0]) ++ List.replicate (3 - (lg_sl ([.ref av0, .int iv0])).length) Slot.unset).toArray = ls at hl ⊢
  have hl : lv_has ls 3 [(0, .ref av0), (1, .int iv0)] := hl
  have hinX6 : ∀ w ∈ u_ws RX6 TX6 5, w ∈ wsX6_append := fun _ h => List.mem_cons_of_mem _ (List.mem_append_right _ (h))
  refine lv_bipush (v := 24) hx hb dX6_append_0 (by decide) ?_
  refine lv_istore_n (lv' := [(2, .int 24), (0, .ref av0), (1, .int iv0)]) hx hb dX6_append_2 rfl hl (by decide) rfl (fun ls hl => ?_)
  refine lv_iload_n hx hb dX6_append_3 rfl (lv_at hl 0 rfl) ?_
  refine lv_if_lt (tgt := 49) hx hb dX6_append_4 (by decide) (fun c => absurd c (by decide)) (fun _ => ?_)
  refine lv_aload_n hx hb dX6_append_7 rfl (lv_at hl 1 rfl) ?_
  refine wk_get hC hK hw hinX6 0 rfl rfl 2 (by decide) (List.mem_of_getElem? (i := 1) rfl) rfl rfl dX6_append_8 ?_
  refine lv_sipush (v := 400) hx hb dX6_append_11 (by decide) ?_
  refine lv_icmp_ge (tgt := 49) hx hb dX6_append_14 (by decide) (fun c => absurd c (by decide)) (fun _ => ?_)
  refine lv_aload_n hx hb dX6_append_17 rfl (lv_at hl 1 rfl) ?_
  refine wk_get hC hK hw hinX6 0 rfl rfl 0 (by decide) (List.mem_of_getElem? (i := 2) rfl) rfl rfl dX6_append_18 ?_
  refine lv_aload_n hx hb dX6_append_21 rfl (lv_at hl 1 rfl) ?_
  refine wk_get hC hK hw hinX6 0 rfl rfl 2 (by decide) (List.mem_of_getElem? (i := 1) rfl) rfl rfl dX6_append_22 ?_
  refine lv_iload_n hx hb dX6_append_25 rfl (lv_at hl 2 rfl) ?_
  refine lv_iload_n hx hb dX6_append_26 rfl (lv_at hl 0 rfl) ?_
  refine lv_ishr hx hb dX6_append_27 ?_
  refine lv_topi (fun x1 ex1 => ?_)
  refine lv_sipush (v := 255) hx hb dX6_append_28 (by decide) ?_
  refine lv_iand hx hb dX6_append_31 ?_
  refine lv_topi (fun x2 ex2 => ?_)
  refine wk_iast hC hK hw 1 rfl (show ¬ ((4 : Int32) < 0 ∨ 400 ≤ (4 : Int32).toNatClampNeg) by decide) dX6_append_32 (fun H locs hw => ?_)
  obtain ⟨f3, hw⟩ : ∃ f3 : Nat → Int32, Wd dC dI A s.heap H locs [(av0, .inr (6, [.ref av1, .int 0, .int 4, .int 0, .int 0])), (av1, .inl (cy 0, 400, .inl f3))] := ⟨_, hw⟩
  refine lv_aload_n hx hb dX6_append_33 rfl (lv_at hl 1 rfl) ?_
  refine lv_dup hx hb dX6_append_34 rfl ?_
  refine wk_get hC hK hw hinX6 0 rfl rfl 2 (by decide) (List.mem_of_getElem? (i := 1) rfl) rfl rfl dX6_append_35 ?_
  refine lv_iconst (v := 1) hx hb dX6_append_38 (by decide) ?_
  refine lv_iadd hx hb dX6_append_39 ?_
  refine wk_top 5 (by decide) ?_
  refine wk_put hC hK hw hinX6 tyX6_ok nmX6 0 rfl rfl 2 (by decide) (List.mem_of_getElem? (i := 1) rfl) rfl rfl rfl rfl rfl (Nat.le_of_ble_eq_true rfl) dX6_append_40 (fun H locs hw => ?_)
  have hw : Wd dC dI A s.heap H locs [(av0, .inr (6, [.ref av1, .int 0, .int 5, .int 0, .int 0])), (av1, .inl (cy 0, 400, .inl f3))] := hw
  refine lv_iinc (v := 16) (lv' := [(2, .int 16), (0, .ref av0), (1, .int iv0)]) hx hb dX6_append_43 hl (k := 0) rfl (by decide) (by decide) rfl (fun ls hl => ?_)
  refine lv_goto (tgt := 3) hx hb dX6_append_46 (by decide) ?_
  refine lv_iload_n hx hb dX6_append_3 rfl (lv_at hl 0 rfl) ?_
  refine lv_if_lt (tgt := 49) hx hb dX6_append_4 (by decide) (fun c => absurd c (by decide)) (fun _ => ?_)
  refine lv_aload_n hx hb dX6_append_7 rfl (lv_at hl 1 rfl) ?_
  refine wk_get hC hK hw hinX6 0 rfl rfl 2 (by decide) (List.mem_of_getElem? (i := 1) rfl) rfl rfl dX6_append_8 ?_
  refine lv_sipush (v := 400) hx hb dX6_append_11 (by decide) ?_
  refine lv_icmp_ge (tgt := 49) hx hb dX6_append_14 (by decide) (fun c => absurd c (by decide)) (fun _ => ?_)
  refine lv_aload_n hx hb dX6_append_17 rfl (lv_at hl 1 rfl) ?_
  refine wk_get hC hK hw hinX6 0 rfl rfl 0 (by decide) (List.mem_of_getElem? (i := 2) rfl) rfl rfl dX6_append_18 ?_
  refine lv_aload_n hx hb dX6_append_21 rfl (lv_at hl 1 rfl) ?_
  refine wk_get hC hK hw hinX6 0 rfl rfl 2 (by decide) (List.mem_of_getElem? (i := 1) rfl) rfl rfl dX6_append_22 ?_
  refine lv_iload_n hx hb dX6_append_25 rfl (lv_at hl 2 rfl) ?_
  refine lv_iload_n hx hb dX6_append_26 rfl (lv_at hl 0 rfl) ?_
  refine lv_ishr hx hb dX6_append_27 ?_
  refine lv_topi (fun x4 ex4 => ?_)
  refine lv_sipush (v := 255) hx hb dX6_append_28 (by decide) ?_
  refine lv_iand hx hb dX6_append_31 ?_
  refine lv_topi (fun x5 ex5 => ?_)
  refine wk_iast hC hK hw 1 rfl (show ¬ ((5 : Int32) < 0 ∨ 400 ≤ (5 : Int32).toNatClampNeg) by decide) dX6_append_32 (fun H locs hw => ?_)
  obtain ⟨f6, hw⟩ : ∃ f6 : Nat → Int32, Wd dC dI A s.heap H locs [(av0, .inr (6, [.ref av1, .int 0, .int 5, .int 0, .int 0])), (av1, .inl (cy 0, 400, .inl f6))] := ⟨_, hw⟩
  refine lv_aload_n hx hb dX6_append_33 rfl (lv_at hl 1 rfl) ?_
  refine lv_dup hx hb dX6_append_34 rfl ?_
  refine wk_get hC hK hw hinX6 0 rfl rfl 2 (by decide) (List.mem_of_getElem? (i := 1) rfl) rfl rfl dX6_append_35 ?_
  refine lv_iconst (v := 1) hx hb dX6_append_38 (by decide) ?_
  refine lv_iadd hx hb dX6_append_39 ?_
  refine wk_top 6 (by decide) ?_
  refine wk_put hC hK hw hinX6 tyX6_ok nmX6 0 rfl rfl 2 (by decide) (List.mem_of_getElem? (i := 1) rfl) rfl rfl rfl rfl rfl (Nat.le_of_ble_eq_true rfl) dX6_append_40 (fun H locs hw => ?_)
  have hw : Wd dC dI A s.heap H locs [(av0, .inr (6, [.ref av1, .int 0, .int 6, .int 0, .int 0])), (av1, .inl (cy 0, 400, .inl f6))] := hw
  refine lv_iinc (v := 8) (lv' := [(2, .int 8), (0, .ref av0), (1, .int iv0)]) hx hb dX6_append_43 hl (k := 0) rfl (by decide) (by decide) rfl (fun ls hl => ?_)
  refine lv_goto (tgt := 3) hx hb dX6_append_46 (by decide) ?_
  refine lv_iload_n hx hb dX6_append_3 rfl (lv_at hl 0 rfl) ?_
  refine lv_if_lt (tgt := 49) hx hb dX6_append_4 (by decide) (fun c => absurd c (by decide)) (fun _ => ?_)
  refine lv_aload_n hx hb dX6_append_7 rfl (lv_at hl 1 rfl) ?_
  refine wk_get hC hK hw hinX6 0 rfl rfl 2 (by decide) (List.mem_of_getElem? (i := 1) rfl) rfl rfl dX6_append_8 ?_
  refine lv_sipush (v := 400) hx hb dX6_append_11 (by decide) ?_
  refine lv_icmp_ge (tgt := 49) hx hb dX6_append_14 (by decide) (fun c => absurd c (by decide)) (fun _ => ?_)
  refine lv_aload_n hx hb dX6_append_17 rfl (lv_at hl 1 rfl) ?_
  refine wk_get hC hK hw hinX6 0 rfl rfl 0 (by decide) (List.mem_of_getElem? (i := 2) rfl) rfl rfl dX6_append_18 ?_
  refine lv_aload_n hx hb dX6_append_21 rfl (lv_at hl 1 rfl) ?_
  refine wk_get hC hK hw hinX6 0 rfl rfl 2 (by decide) (List.mem_of_getElem? (i := 1) rfl) rfl rfl dX6_append_22 ?_
  refine lv_iload_n hx hb dX6_append_25 rfl (lv_at hl 2 rfl) ?_
  refine lv_iload_n hx hb dX6_append_26 rfl (lv_at hl 0 rfl) ?_
  refine lv_ishr hx hb dX6_append_27 ?_
  refine lv_topi (fun x7 ex7 => ?_)
  refine lv_sipush (v := 255) hx hb dX6_append_28 (by decide) ?_
  refine lv_iand hx hb dX6_append_31 ?_
  refine lv_topi (fun x8 ex8 => ?_)
  refine wk_iast hC hK hw 1 rfl (show ¬ ((6 : Int32) < 0 ∨ 400 ≤ (6 : Int32).toNatClampNeg) by decide) dX6_append_32 (fun H locs hw => ?_)
  obtain ⟨f9, hw⟩ : ∃ f9 : Nat → Int32, Wd dC dI A s.heap H locs [(av0, .inr (6, [.ref av1, .int 0, .int 6, .int 0, .int 0])), (av1, .inl (cy 0, 400, .inl f9))] := ⟨_, hw⟩
  refine lv_aload_n hx hb dX6_append_33 rfl (lv_at hl 1 rfl) ?_
  refine lv_dup hx hb dX6_append_34 rfl ?_
  refine wk_get hC hK hw hinX6 0 rfl rfl 2 (by decide) (List.mem_of_getElem? (i := 1) rfl) rfl rfl dX6_append_35 ?_
  refine lv_iconst (v := 1) hx hb dX6_append_38 (by decide) ?_
  refine lv_iadd hx hb dX6_append_39 ?_
  refine wk_top 7 (by decide) ?_
  refine wk_put hC hK hw hinX6 tyX6_ok nmX6 0 rfl rfl 2 (by decide) (List.mem_of_getElem? (i := 1) rfl) rfl rfl rfl rfl rfl (Nat.le_of_ble_eq_true rfl) dX6_append_40 (fun H locs hw => ?_)
  have hw : Wd dC dI A s.heap H locs [(av0, .inr (6, [.ref av1, .int 0, .int 7, .int 0, .int 0])), (av1, .inl (cy 0, 400, .inl f9))] := hw
  refine lv_iinc (v := 0) (lv' := [(2, .int 0), (0, .ref av0), (1, .int iv0)]) hx hb dX6_append_43 hl (k := 0) rfl (by decide) (by decide) rfl (fun ls hl => ?_)
  refine lv_goto (tgt := 3) hx hb dX6_append_46 (by decide) ?_
  refine lv_iload_n hx hb dX6_append_3 rfl (lv_at hl 0 rfl) ?_
  refine lv_if_lt (tgt := 49) hx hb dX6_append_4 (by decide) (fun c => absurd c (by decide)) (fun _ => ?_)
  refine lv_aload_n hx hb dX6_append_7 rfl (lv_at hl 1 rfl) ?_
  refine wk_get hC hK hw hinX6 0 rfl rfl 2 (by decide) (List.mem_of_getElem? (i := 1) rfl) rfl rfl dX6_append_8 ?_
  refine lv_sipush (v := 400) hx hb dX6_append_11 (by decide) ?_
  refine lv_icmp_ge (tgt := 49) hx hb dX6_append_14 (by decide) (fun c => absurd c (by decide)) (fun _ => ?_)
  refine lv_aload_n hx hb dX6_append_17 rfl (lv_at hl 1 rfl) ?_
  refine wk_get hC hK hw hinX6 0 rfl rfl 0 (by decide) (List.mem_of_getElem? (i := 2) rfl) rfl rfl dX6_append_18 ?_
  refine lv_aload_n hx hb dX6_append_21 rfl (lv_at hl 1 rfl) ?_
  refine wk_get hC hK hw hinX6 0 rfl rfl 2 (by decide) (List.mem_of_getElem? (i := 1) rfl) rfl rfl dX6_append_22 ?_
  refine lv_iload_n hx hb dX6_append_25 rfl (lv_at hl 2 rfl) ?_
  refine lv_iload_n hx hb dX6_append_26 rfl (lv_at hl 0 rfl) ?_
  refine lv_ishr hx hb dX6_append_27 ?_
  refine lv_topi (fun x10 ex10 => ?_)
  refine lv_sipush (v := 255) hx hb dX6_append_28 (by decide) ?_
  refine lv_iand hx hb dX6_append_31 ?_
  refine lv_topi (fun x11 ex11 => ?_)
  refine wk_iast hC hK hw 1 rfl (show ¬ ((7 : Int32) < 0 ∨ 400 ≤ (7 : Int32).toNatClampNeg) by decide) dX6_append_32 (fun H locs hw => ?_)
  obtain ⟨f12, hw⟩ : ∃ f12 : Nat → Int32, Wd dC dI A s.heap H locs [(av0, .inr (6, [.ref av1, .int 0, .int 7, .int 0, .int 0])), (av1, .inl (cy 0, 400, .inl f12))] := ⟨_, hw⟩
  refine lv_aload_n hx hb dX6_append_33 rfl (lv_at hl 1 rfl) ?_
  refine lv_dup hx hb dX6_append_34 rfl ?_
  refine wk_get hC hK hw hinX6 0 rfl rfl 2 (by decide) (List.mem_of_getElem? (i := 1) rfl) rfl rfl dX6_append_35 ?_
  refine lv_iconst (v := 1) hx hb dX6_append_38 (by decide) ?_
  refine lv_iadd hx hb dX6_append_39 ?_
  refine wk_top 8 (by decide) ?_
  refine wk_put hC hK hw hinX6 tyX6_ok nmX6 0 rfl rfl 2 (by decide) (List.mem_of_getElem? (i := 1) rfl) rfl rfl rfl rfl rfl (Nat.le_of_ble_eq_true rfl) dX6_append_40 (fun H locs hw => ?_)
  have hw : Wd dC dI A s.heap H locs [(av0, .inr (6, [.ref av1, .int 0, .int 8, .int 0, .int 0])), (av1, .inl (cy 0, 400, .inl f12))] := hw
  refine lv_iinc (v := (-8)) (lv' := [(2, .int (-8)), (0, .ref av0), (1, .int iv0)]) hx hb dX6_append_43 hl (k := 0) rfl (by decide) (by decide) rfl (fun ls hl => ?_)
  refine lv_goto (tgt := 3) hx hb dX6_append_46 (by decide) ?_
  refine lv_iload_n hx hb dX6_append_3 rfl (lv_at hl 0 rfl) ?_
  refine lv_if_lt (tgt := 49) hx hb dX6_append_4 (by decide) (fun _ => ?_) (fun c => absurd (by decide) c)
  exact wk_vret hC hr hlocks hK ((fun _ => 0), (fun k => ([f12] : List (Nat → Int32)).getD k (fun _ => 0))) trivial [0, 1] rfl rfl hw dX6_append_49

set_option maxHeartbeats 4000000 in
set_option maxRecDepth 100000 in
theorem c_X6_append_3 (l : Launch) (dC : Nat → ClassId) (dI : Nat → Nat → Nat) (cy : Nat → ClassId) (av0 : Nat) (iv0 : Int32) (av1 : Nat) (gv0 : Nat → Int32) (sz : Nat)  : Met l yX6_append wsX6_append ({ frames := 0, cells := 0, slots := 0, locals := 0 }) (va_Pc [.ref av0, .int iv0] (wpre dC dI cy sz [(av0, .inr (6, [.ref av1, .int 0, .int 8, .int 0, .int 0])), (av1, .inl (cy 0, 400, .inl gv0))])) (va_Qv (fun _ : ((Nat → Nat) × (Nat → Nat → Int32)) => True) (fun u => wpost dC dI cy (va_A [(av0, .inr (6, [.ref av1, .int 0, .int 8, .int 0, .int 0])), (av1, .inl (cy 0, 400, .inl gv0))] sz) [(av0, .inr (6, [.ref av1, .int 0, .int 12, .int 0, .int 0])), (av1, .inl (cy 0, 400, .inl (u.2 0)))]) (va_A [(av0, .inr (6, [.ref av1, .int 0, .int 8, .int 0, .int 0])), (av1, .inl (cy 0, 400, .inl gv0))] sz)) 0 0 (va_A [(av0, .inr (6, [.ref av1, .int 0, .int 8, .int 0, .int 0])), (av1, .inl (cy 0, 400, .inl gv0))] sz) := by
  refine Met.ofW (cc := cX6_append) (maxL := 3) (ret := none) (by decide) rfl ?_
  intro p e s m args below meth c s₁ B hml hv
  obtain ⟨rfl, hsz, hP, hK, hD0⟩ := hv
  have hx := B.exec
  have hb := B.bytes
  have hr := B.returns
  have hlocks := B.notSynchronized
  have hC : CallFix p m c cX6_append 3 s _ wsX6_append RX6 := ⟨hx, hb, hml, findClass_of_methodNamed B.named, atoms_spec (ws := wsX6_append) B.pre⟩
  subst hsz
  have hD := hD0.self (sz := s.heap.size)
  generalize hAe : va_A [(av0, .inr (6, [.ref av1, .int 0, .int 8, .int 0, .int 0])), (av1, .inl (cy 0, 400, .inl gv0))] s.heap.size = A at hD ⊢
  have hA : ∀ q : Nat, s.heap.size ≤ q → A q := fun q h => by rw [← hAe]; exact Or.inr h
  have hw : Wd dC dI A s.heap s.heap [] [(av0, .inr (6, [.ref av1, .int 0, .int 8, .int 0, .int 0])), (av1, .inl (cy 0, 400, .inl gv0))] := ⟨hP, hD, va_S.rf⟩
  have hl := lv_entry ([.ref av0, .int iv0]) (n := 3) (Nat.le_of_ble_eq_true rfl)
  rw [lg_entry_eq]
  generalize (lg_sl ([.ref av0, .int iv0]) ++ List.replicate (3 - (lg_sl ([.ref av0, .int iv0])).length) Slot.unset).toArray = ls at hl ⊢
  have hl : lv_has ls 3 [(0, .ref av0), (1, .int iv0)] := hl
  have hinX6 : ∀ w ∈ u_ws RX6 TX6 5, w ∈ wsX6_append := fun _ h => List.mem_cons_of_mem _ (List.mem_append_right _ (h))
  refine lv_bipush (v := 24) hx hb dX6_append_0 (by decide) ?_
  refine lv_istore_n (lv' := [(2, .int 24), (0, .ref av0), (1, .int iv0)]) hx hb dX6_append_2 rfl hl (by decide) rfl (fun ls hl => ?_)
  refine lv_iload_n hx hb dX6_append_3 rfl (lv_at hl 0 rfl) ?_
  refine lv_if_lt (tgt := 49) hx hb dX6_append_4 (by decide) (fun c => absurd c (by decide)) (fun _ => ?_)
  refine lv_aload_n hx hb dX6_append_7 rfl (lv_at hl 1 rfl) ?_
  refine wk_get hC hK hw hinX6 0 rfl rfl 2 (by decide) (List.mem_of_getElem? (i := 1) rfl) rfl rfl dX6_append_8 ?_
  refine lv_sipush (v := 400) hx hb dX6_append_11 (by decide) ?_
  refine lv_icmp_ge (tgt := 49) hx hb dX6_append_14 (by decide) (fun c => absurd c (by decide)) (fun _ => ?_)
  refine lv_aload_n hx hb dX6_append_17 rfl (lv_at hl 1 rfl) ?_
  refine wk_get hC hK hw hinX6 0 rfl rfl 0 (by decide) (List.mem_of_getElem? (i := 2) rfl) rfl rfl dX6_append_18 ?_
  refine lv_aload_n hx hb dX6_append_21 rfl (lv_at hl 1 rfl) ?_
  refine wk_get hC hK hw hinX6 0 rfl rfl 2 (by decide) (List.mem_of_getElem? (i := 1) rfl) rfl rfl dX6_append_22 ?_
  refine lv_iload_n hx hb dX6_append_25 rfl (lv_at hl 2 rfl) ?_
  refine lv_iload_n hx hb dX6_append_26 rfl (lv_at hl 0 rfl) ?_
  refine lv_ishr hx hb dX6_append_27 ?_
  refine lv_topi (fun x1 ex1 => ?_)
  refine lv_sipush (v := 255) hx hb dX6_append_28 (by decide) ?_
  refine lv_iand hx hb dX6_append_31 ?_
  refine lv_topi (fun x2 ex2 => ?_)
  refine wk_iast hC hK hw 1 rfl (show ¬ ((8 : Int32) < 0 ∨ 400 ≤ (8 : Int32).toNatClampNeg) by decide) dX6_append_32 (fun H locs hw => ?_)
  obtain ⟨f3, hw⟩ : ∃ f3 : Nat → Int32, Wd dC dI A s.heap H locs [(av0, .inr (6, [.ref av1, .int 0, .int 8, .int 0, .int 0])), (av1, .inl (cy 0, 400, .inl f3))] := ⟨_, hw⟩
  refine lv_aload_n hx hb dX6_append_33 rfl (lv_at hl 1 rfl) ?_
  refine lv_dup hx hb dX6_append_34 rfl ?_
  refine wk_get hC hK hw hinX6 0 rfl rfl 2 (by decide) (List.mem_of_getElem? (i := 1) rfl) rfl rfl dX6_append_35 ?_
  refine lv_iconst (v := 1) hx hb dX6_append_38 (by decide) ?_
  refine lv_iadd hx hb dX6_append_39 ?_
  refine wk_top 9 (by decide) ?_
  refine wk_put hC hK hw hinX6 tyX6_ok nmX6 0 rfl rfl 2 (by decide) (List.mem_of_getElem? (i := 1) rfl) rfl rfl rfl rfl rfl (Nat.le_of_ble_eq_true rfl) dX6_append_40 (fun H locs hw => ?_)
  have hw : Wd dC dI A s.heap H locs [(av0, .inr (6, [.ref av1, .int 0, .int 9, .int 0, .int 0])), (av1, .inl (cy 0, 400, .inl f3))] := hw
  refine lv_iinc (v := 16) (lv' := [(2, .int 16), (0, .ref av0), (1, .int iv0)]) hx hb dX6_append_43 hl (k := 0) rfl (by decide) (by decide) rfl (fun ls hl => ?_)
  refine lv_goto (tgt := 3) hx hb dX6_append_46 (by decide) ?_
  refine lv_iload_n hx hb dX6_append_3 rfl (lv_at hl 0 rfl) ?_
  refine lv_if_lt (tgt := 49) hx hb dX6_append_4 (by decide) (fun c => absurd c (by decide)) (fun _ => ?_)
  refine lv_aload_n hx hb dX6_append_7 rfl (lv_at hl 1 rfl) ?_
  refine wk_get hC hK hw hinX6 0 rfl rfl 2 (by decide) (List.mem_of_getElem? (i := 1) rfl) rfl rfl dX6_append_8 ?_
  refine lv_sipush (v := 400) hx hb dX6_append_11 (by decide) ?_
  refine lv_icmp_ge (tgt := 49) hx hb dX6_append_14 (by decide) (fun c => absurd c (by decide)) (fun _ => ?_)
  refine lv_aload_n hx hb dX6_append_17 rfl (lv_at hl 1 rfl) ?_
  refine wk_get hC hK hw hinX6 0 rfl rfl 0 (by decide) (List.mem_of_getElem? (i := 2) rfl) rfl rfl dX6_append_18 ?_
  refine lv_aload_n hx hb dX6_append_21 rfl (lv_at hl 1 rfl) ?_
  refine wk_get hC hK hw hinX6 0 rfl rfl 2 (by decide) (List.mem_of_getElem? (i := 1) rfl) rfl rfl dX6_append_22 ?_
  refine lv_iload_n hx hb dX6_append_25 rfl (lv_at hl 2 rfl) ?_
  refine lv_iload_n hx hb dX6_append_26 rfl (lv_at hl 0 rfl) ?_
  refine lv_ishr hx hb dX6_append_27 ?_
  refine lv_topi (fun x4 ex4 => ?_)
  refine lv_sipush (v := 255) hx hb dX6_append_28 (by decide) ?_
  refine lv_iand hx hb dX6_append_31 ?_
  refine lv_topi (fun x5 ex5 => ?_)
  refine wk_iast hC hK hw 1 rfl (show ¬ ((9 : Int32) < 0 ∨ 400 ≤ (9 : Int32).toNatClampNeg) by decide) dX6_append_32 (fun H locs hw => ?_)
  obtain ⟨f6, hw⟩ : ∃ f6 : Nat → Int32, Wd dC dI A s.heap H locs [(av0, .inr (6, [.ref av1, .int 0, .int 9, .int 0, .int 0])), (av1, .inl (cy 0, 400, .inl f6))] := ⟨_, hw⟩
  refine lv_aload_n hx hb dX6_append_33 rfl (lv_at hl 1 rfl) ?_
  refine lv_dup hx hb dX6_append_34 rfl ?_
  refine wk_get hC hK hw hinX6 0 rfl rfl 2 (by decide) (List.mem_of_getElem? (i := 1) rfl) rfl rfl dX6_append_35 ?_
  refine lv_iconst (v := 1) hx hb dX6_append_38 (by decide) ?_
  refine lv_iadd hx hb dX6_append_39 ?_
  refine wk_top 10 (by decide) ?_
  refine wk_put hC hK hw hinX6 tyX6_ok nmX6 0 rfl rfl 2 (by decide) (List.mem_of_getElem? (i := 1) rfl) rfl rfl rfl rfl rfl (Nat.le_of_ble_eq_true rfl) dX6_append_40 (fun H locs hw => ?_)
  have hw : Wd dC dI A s.heap H locs [(av0, .inr (6, [.ref av1, .int 0, .int 10, .int 0, .int 0])), (av1, .inl (cy 0, 400, .inl f6))] := hw
  refine lv_iinc (v := 8) (lv' := [(2, .int 8), (0, .ref av0), (1, .int iv0)]) hx hb dX6_append_43 hl (k := 0) rfl (by decide) (by decide) rfl (fun ls hl => ?_)
  refine lv_goto (tgt := 3) hx hb dX6_append_46 (by decide) ?_
  refine lv_iload_n hx hb dX6_append_3 rfl (lv_at hl 0 rfl) ?_
  refine lv_if_lt (tgt := 49) hx hb dX6_append_4 (by decide) (fun c => absurd c (by decide)) (fun _ => ?_)
  refine lv_aload_n hx hb dX6_append_7 rfl (lv_at hl 1 rfl) ?_
  refine wk_get hC hK hw hinX6 0 rfl rfl 2 (by decide) (List.mem_of_getElem? (i := 1) rfl) rfl rfl dX6_append_8 ?_
  refine lv_sipush (v := 400) hx hb dX6_append_11 (by decide) ?_
  refine lv_icmp_ge (tgt := 49) hx hb dX6_append_14 (by decide) (fun c => absurd c (by decide)) (fun _ => ?_)
  refine lv_aload_n hx hb dX6_append_17 rfl (lv_at hl 1 rfl) ?_
  refine wk_get hC hK hw hinX6 0 rfl rfl 0 (by decide) (List.mem_of_getElem? (i := 2) rfl) rfl rfl dX6_append_18 ?_
  refine lv_aload_n hx hb dX6_append_21 rfl (lv_at hl 1 rfl) ?_
  refine wk_get hC hK hw hinX6 0 rfl rfl 2 (by decide) (List.mem_of_getElem? (i := 1) rfl) rfl rfl dX6_append_22 ?_
  refine lv_iload_n hx hb dX6_append_25 rfl (lv_at hl 2 rfl) ?_
  refine lv_iload_n hx hb dX6_append_26 rfl (lv_at hl 0 rfl) ?_
  refine lv_ishr hx hb dX6_append_27 ?_
  refine lv_topi (fun x7 ex7 => ?_)
  refine lv_sipush (v := 255) hx hb dX6_append_28 (by decide) ?_
  refine lv_iand hx hb dX6_append_31 ?_
  refine lv_topi (fun x8 ex8 => ?_)
  refine wk_iast hC hK hw 1 rfl (show ¬ ((10 : Int32) < 0 ∨ 400 ≤ (10 : Int32).toNatClampNeg) by decide) dX6_append_32 (fun H locs hw => ?_)
  obtain ⟨f9, hw⟩ : ∃ f9 : Nat → Int32, Wd dC dI A s.heap H locs [(av0, .inr (6, [.ref av1, .int 0, .int 10, .int 0, .int 0])), (av1, .inl (cy 0, 400, .inl f9))] := ⟨_, hw⟩
  refine lv_aload_n hx hb dX6_append_33 rfl (lv_at hl 1 rfl) ?_
  refine lv_dup hx hb dX6_append_34 rfl ?_
  refine wk_get hC hK hw hinX6 0 rfl rfl 2 (by decide) (List.mem_of_getElem? (i := 1) rfl) rfl rfl dX6_append_35 ?_
  refine lv_iconst (v := 1) hx hb dX6_append_38 (by decide) ?_
  refine lv_iadd hx hb dX6_append_39 ?_
  refine wk_top 11 (by decide) ?_
  refine wk_put hC hK hw hinX6 tyX6_ok nmX6 0 rfl rfl 2 (by decide) (List.mem_of_getElem? (i := 1) rfl) rfl rfl rfl rfl rfl (Nat.le_of_ble_eq_true rfl) dX6_append_40 (fun H locs hw => ?_)
  have hw : Wd dC dI A s.heap H locs [(av0, .inr (6, [.ref av1, .int 0, .int 11, .int 0, .int 0])), (av1, .inl (cy 0, 400, .inl f9))] := hw
  refine lv_iinc (v := 0) (lv' := [(2, .int 0), (0, .ref av0), (1, .int iv0)]) hx hb dX6_append_43 hl (k := 0) rfl (by decide) (by decide) rfl (fun ls hl => ?_)
  refine lv_goto (tgt := 3) hx hb dX6_append_46 (by decide) ?_
  refine lv_iload_n hx hb dX6_append_3 rfl (lv_at hl 0 rfl) ?_
  refine lv_if_lt (tgt := 49) hx hb dX6_append_4 (by decide) (fun c => absurd c (by decide)) (fun _ => ?_)
  refine lv_aload_n hx hb dX6_append_7 rfl (lv_at hl 1 rfl) ?_
  refine wk_get hC hK hw hinX6 0 rfl rfl 2 (by decide) (List.mem_of_getElem? (i := 1) rfl) rfl rfl dX6_append_8 ?_
  refine lv_sipush (v := 400) hx hb dX6_append_11 (by decide) ?_
  refine lv_icmp_ge (tgt := 49) hx hb dX6_append_14 (by decide) (fun c => absurd c (by decide)) (fun _ => ?_)
  refine lv_aload_n hx hb dX6_append_17 rfl (lv_at hl 1 rfl) ?_
  refine wk_get hC hK hw hinX6 0 rfl rfl 0 (by decide) (List.mem_of_getElem? (i := 2) rfl) rfl rfl dX6_append_18 ?_
  refine lv_aload_n hx hb dX6_append_21 rfl (lv_at hl 1 rfl) ?_
  refine wk_get hC hK hw hinX6 0 rfl rfl 2 (by decide) (List.mem_of_getElem? (i := 1) rfl) rfl rfl dX6_append_22 ?_
  refine lv_iload_n hx hb dX6_append_25 rfl (lv_at hl 2 rfl) ?_
  refine lv_iload_n hx hb dX6_append_26 rfl (lv_at hl 0 rfl) ?_
  refine lv_ishr hx hb dX6_append_27 ?_
  refine lv_topi (fun x10 ex10 => ?_)
  refine lv_sipush (v := 255) hx hb dX6_append_28 (by decide) ?_
  refine lv_iand hx hb dX6_append_31 ?_
  refine lv_topi (fun x11 ex11 => ?_)
  refine wk_iast hC hK hw 1 rfl (show ¬ ((11 : Int32) < 0 ∨ 400 ≤ (11 : Int32).toNatClampNeg) by decide) dX6_append_32 (fun H locs hw => ?_)
  obtain ⟨f12, hw⟩ : ∃ f12 : Nat → Int32, Wd dC dI A s.heap H locs [(av0, .inr (6, [.ref av1, .int 0, .int 11, .int 0, .int 0])), (av1, .inl (cy 0, 400, .inl f12))] := ⟨_, hw⟩
  refine lv_aload_n hx hb dX6_append_33 rfl (lv_at hl 1 rfl) ?_
  refine lv_dup hx hb dX6_append_34 rfl ?_
  refine wk_get hC hK hw hinX6 0 rfl rfl 2 (by decide) (List.mem_of_getElem? (i := 1) rfl) rfl rfl dX6_append_35 ?_
  refine lv_iconst (v := 1) hx hb dX6_append_38 (by decide) ?_
  refine lv_iadd hx hb dX6_append_39 ?_
  refine wk_top 12 (by decide) ?_
  refine wk_put hC hK hw hinX6 tyX6_ok nmX6 0 rfl rfl 2 (by decide) (List.mem_of_getElem? (i := 1) rfl) rfl rfl rfl rfl rfl (Nat.le_of_ble_eq_true rfl) dX6_append_40 (fun H locs hw => ?_)
  have hw : Wd dC dI A s.heap H locs [(av0, .inr (6, [.ref av1, .int 0, .int 12, .int 0, .int 0])), (av1, .inl (cy 0, 400, .inl f12))] := hw
  refine lv_iinc (v := (-8)) (lv' := [(2, .int (-8)), (0, .ref av0), (1, .int iv0)]) hx hb dX6_append_43 hl (k := 0) rfl (by decide) (by decide) rfl (fun ls hl => ?_)
  refine lv_goto (tgt := 3) hx hb dX6_append_46 (by decide) ?_
  refine lv_iload_n hx hb dX6_append_3 rfl (lv_at hl 0 rfl) ?_
  refine lv_if_lt (tgt := 49) hx hb dX6_append_4 (by decide) (fun _ => ?_) (fun c => absurd (by decide) c)
  exact wk_vret hC hr hlocks hK ((fun _ => 0), (fun k => ([f12] : List (Nat → Int32)).getD k (fun _ => 0))) trivial [0, 1] rfl rfl hw dX6_append_49

set_option maxHeartbeats 4000000 in
set_option maxRecDepth 100000 in
theorem c_X6_append_4 (l : Launch) (dC : Nat → ClassId) (dI : Nat → Nat → Nat) (cy : Nat → ClassId) (av0 : Nat) (iv0 : Int32) (av1 : Nat) (gv0 : Nat → Int32) (sz : Nat)  : Met l yX6_append wsX6_append ({ frames := 0, cells := 0, slots := 0, locals := 0 }) (va_Pc [.ref av0, .int iv0] (wpre dC dI cy sz [(av0, .inr (6, [.ref av1, .int 0, .int 12, .int 0, .int 0])), (av1, .inl (cy 0, 400, .inl gv0))])) (va_Qv (fun _ : ((Nat → Nat) × (Nat → Nat → Int32)) => True) (fun u => wpost dC dI cy (va_A [(av0, .inr (6, [.ref av1, .int 0, .int 12, .int 0, .int 0])), (av1, .inl (cy 0, 400, .inl gv0))] sz) [(av0, .inr (6, [.ref av1, .int 0, .int 16, .int 0, .int 0])), (av1, .inl (cy 0, 400, .inl (u.2 0)))]) (va_A [(av0, .inr (6, [.ref av1, .int 0, .int 12, .int 0, .int 0])), (av1, .inl (cy 0, 400, .inl gv0))] sz)) 0 0 (va_A [(av0, .inr (6, [.ref av1, .int 0, .int 12, .int 0, .int 0])), (av1, .inl (cy 0, 400, .inl gv0))] sz) := by
  refine Met.ofW (cc := cX6_append) (maxL := 3) (ret := none) (by decide) rfl ?_
  intro p e s m args below meth c s₁ B hml hv
  obtain ⟨rfl, hsz, hP, hK, hD0⟩ := hv
  have hx := B.exec
  have hb := B.bytes
  have hr := B.returns
  have hlocks := B.notSynchronized
  have hC : CallFix p m c cX6_append 3 s _ wsX6_append RX6 := ⟨hx, hb, hml, findClass_of_methodNamed B.named, atoms_spec (ws := wsX6_append) B.pre⟩
  subst hsz
  have hD := hD0.self (sz := s.heap.size)
  generalize hAe : va_A [(av0, .inr (6, [.ref av1, .int 0, .int 12, .int 0, .int 0])), (av1, .inl (cy 0, 400, .inl gv0))] s.heap.size = A at hD ⊢
  have hA : ∀ q : Nat, s.heap.size ≤ q → A q := fun q h => by rw [← hAe]; exact Or.inr h
  have hw : Wd dC dI A s.heap s.heap [] [(av0, .inr (6, [.ref av1, .int 0, .int 12, .int 0, .int 0])), (av1, .inl (cy 0, 400, .inl gv0))] := ⟨hP, hD, va_S.rf⟩
  have hl := lv_entry ([.ref av0, .int iv0]) (n := 3) (Nat.le_of_ble_eq_true rfl)
  rw [lg_entry_eq]
  generalize (lg_sl ([.ref av0, .int iv0]) ++ List.replicate (3 - (lg_sl ([.ref av0, .int iv0])).length) Slot.unset).toArray = ls at hl ⊢
  have hl : lv_has ls 3 [(0, .ref av0), (1, .int iv0)] := hl
  have hinX6 : ∀ w ∈ u_ws RX6 TX6 5, w ∈ wsX6_append := fun _ h => List.mem_cons_of_mem _ (List.mem_append_right _ (h))
  refine lv_bipush (v := 24) hx hb dX6_append_0 (by decide) ?_
  refine lv_istore_n (lv' := [(2, .int 24), (0, .ref av0), (1, .int iv0)]) hx hb dX6_append_2 rfl hl (by decide) rfl (fun ls hl => ?_)
  refine lv_iload_n hx hb dX6_append_3 rfl (lv_at hl 0 rfl) ?_
  refine lv_if_lt (tgt := 49) hx hb dX6_append_4 (by decide) (fun c => absurd c (by decide)) (fun _ => ?_)
  refine lv_aload_n hx hb dX6_append_7 rfl (lv_at hl 1 rfl) ?_
  refine wk_get hC hK hw hinX6 0 rfl rfl 2 (by decide) (List.mem_of_getElem? (i := 1) rfl) rfl rfl dX6_append_8 ?_
  refine lv_sipush (v := 400) hx hb dX6_append_11 (by decide) ?_
  refine lv_icmp_ge (tgt := 49) hx hb dX6_append_14 (by decide) (fun c => absurd c (by decide)) (fun _ => ?_)
  refine lv_aload_n hx hb dX6_append_17 rfl (lv_at hl 1 rfl) ?_
  refine wk_get hC hK hw hinX6 0 rfl rfl 0 (by decide) (List.mem_of_getElem? (i := 2) rfl) rfl rfl dX6_append_18 ?_
  refine lv_aload_n hx hb dX6_append_21 rfl (lv_at hl 1 rfl) ?_
  refine wk_get hC hK hw hinX6 0 rfl rfl 2 (by decide) (List.mem_of_getElem? (i := 1) rfl) rfl rfl dX6_append_22 ?_
  refine lv_iload_n hx hb dX6_append_25 rfl (lv_at hl 2 rfl) ?_
  refine lv_iload_n hx hb dX6_append_26 rfl (lv_at hl 0 rfl) ?_
  refine lv_ishr hx hb dX6_append_27 ?_
  refine lv_topi (fun x1 ex1 => ?_)
  refine lv_sipush (v := 255) hx hb dX6_append_28 (by decide) ?_
  refine lv_iand hx hb dX6_append_31 ?_
  refine lv_topi (fun x2 ex2 => ?_)
  refine wk_iast hC hK hw 1 rfl (show ¬ ((12 : Int32) < 0 ∨ 400 ≤ (12 : Int32).toNatClampNeg) by decide) dX6_append_32 (fun H locs hw => ?_)
  obtain ⟨f3, hw⟩ : ∃ f3 : Nat → Int32, Wd dC dI A s.heap H locs [(av0, .inr (6, [.ref av1, .int 0, .int 12, .int 0, .int 0])), (av1, .inl (cy 0, 400, .inl f3))] := ⟨_, hw⟩
  refine lv_aload_n hx hb dX6_append_33 rfl (lv_at hl 1 rfl) ?_
  refine lv_dup hx hb dX6_append_34 rfl ?_
  refine wk_get hC hK hw hinX6 0 rfl rfl 2 (by decide) (List.mem_of_getElem? (i := 1) rfl) rfl rfl dX6_append_35 ?_
  refine lv_iconst (v := 1) hx hb dX6_append_38 (by decide) ?_
  refine lv_iadd hx hb dX6_append_39 ?_
  refine wk_top 13 (by decide) ?_
  refine wk_put hC hK hw hinX6 tyX6_ok nmX6 0 rfl rfl 2 (by decide) (List.mem_of_getElem? (i := 1) rfl) rfl rfl rfl rfl rfl (Nat.le_of_ble_eq_true rfl) dX6_append_40 (fun H locs hw => ?_)
  have hw : Wd dC dI A s.heap H locs [(av0, .inr (6, [.ref av1, .int 0, .int 13, .int 0, .int 0])), (av1, .inl (cy 0, 400, .inl f3))] := hw
  refine lv_iinc (v := 16) (lv' := [(2, .int 16), (0, .ref av0), (1, .int iv0)]) hx hb dX6_append_43 hl (k := 0) rfl (by decide) (by decide) rfl (fun ls hl => ?_)
  refine lv_goto (tgt := 3) hx hb dX6_append_46 (by decide) ?_
  refine lv_iload_n hx hb dX6_append_3 rfl (lv_at hl 0 rfl) ?_
  refine lv_if_lt (tgt := 49) hx hb dX6_append_4 (by decide) (fun c => absurd c (by decide)) (fun _ => ?_)
  refine lv_aload_n hx hb dX6_append_7 rfl (lv_at hl 1 rfl) ?_
  refine wk_get hC hK hw hinX6 0 rfl rfl 2 (by decide) (List.mem_of_getElem? (i := 1) rfl) rfl rfl dX6_append_8 ?_
  refine lv_sipush (v := 400) hx hb dX6_append_11 (by decide) ?_
  refine lv_icmp_ge (tgt := 49) hx hb dX6_append_14 (by decide) (fun c => absurd c (by decide)) (fun _ => ?_)
  refine lv_aload_n hx hb dX6_append_17 rfl (lv_at hl 1 rfl) ?_
  refine wk_get hC hK hw hinX6 0 rfl rfl 0 (by decide) (List.mem_of_getElem? (i := 2) rfl) rfl rfl dX6_append_18 ?_
  refine lv_aload_n hx hb dX6_append_21 rfl (lv_at hl 1 rfl) ?_
  refine wk_get hC hK hw hinX6 0 rfl rfl 2 (by decide) (List.mem_of_getElem? (i := 1) rfl) rfl rfl dX6_append_22 ?_
  refine lv_iload_n hx hb dX6_append_25 rfl (lv_at hl 2 rfl) ?_
  refine lv_iload_n hx hb dX6_append_26 rfl (lv_at hl 0 rfl) ?_
  refine lv_ishr hx hb dX6_append_27 ?_
  refine lv_topi (fun x4 ex4 => ?_)
  refine lv_sipush (v := 255) hx hb dX6_append_28 (by decide) ?_
  refine lv_iand hx hb dX6_append_31 ?_
  refine lv_topi (fun x5 ex5 => ?_)
  refine wk_iast hC hK hw 1 rfl (show ¬ ((13 : Int32) < 0 ∨ 400 ≤ (13 : Int32).toNatClampNeg) by decide) dX6_append_32 (fun H locs hw => ?_)
  obtain ⟨f6, hw⟩ : ∃ f6 : Nat → Int32, Wd dC dI A s.heap H locs [(av0, .inr (6, [.ref av1, .int 0, .int 13, .int 0, .int 0])), (av1, .inl (cy 0, 400, .inl f6))] := ⟨_, hw⟩
  refine lv_aload_n hx hb dX6_append_33 rfl (lv_at hl 1 rfl) ?_
  refine lv_dup hx hb dX6_append_34 rfl ?_
  refine wk_get hC hK hw hinX6 0 rfl rfl 2 (by decide) (List.mem_of_getElem? (i := 1) rfl) rfl rfl dX6_append_35 ?_
  refine lv_iconst (v := 1) hx hb dX6_append_38 (by decide) ?_
  refine lv_iadd hx hb dX6_append_39 ?_
  refine wk_top 14 (by decide) ?_
  refine wk_put hC hK hw hinX6 tyX6_ok nmX6 0 rfl rfl 2 (by decide) (List.mem_of_getElem? (i := 1) rfl) rfl rfl rfl rfl rfl (Nat.le_of_ble_eq_true rfl) dX6_append_40 (fun H locs hw => ?_)
  have hw : Wd dC dI A s.heap H locs [(av0, .inr (6, [.ref av1, .int 0, .int 14, .int 0, .int 0])), (av1, .inl (cy 0, 400, .inl f6))] := hw
  refine lv_iinc (v := 8) (lv' := [(2, .int 8), (0, .ref av0), (1, .int iv0)]) hx hb dX6_append_43 hl (k := 0) rfl (by decide) (by decide) rfl (fun ls hl => ?_)
  refine lv_goto (tgt := 3) hx hb dX6_append_46 (by decide) ?_
  refine lv_iload_n hx hb dX6_append_3 rfl (lv_at hl 0 rfl) ?_
  refine lv_if_lt (tgt := 49) hx hb dX6_append_4 (by decide) (fun c => absurd c (by decide)) (fun _ => ?_)
  refine lv_aload_n hx hb dX6_append_7 rfl (lv_at hl 1 rfl) ?_
  refine wk_get hC hK hw hinX6 0 rfl rfl 2 (by decide) (List.mem_of_getElem? (i := 1) rfl) rfl rfl dX6_append_8 ?_
  refine lv_sipush (v := 400) hx hb dX6_append_11 (by decide) ?_
  refine lv_icmp_ge (tgt := 49) hx hb dX6_append_14 (by decide) (fun c => absurd c (by decide)) (fun _ => ?_)
  refine lv_aload_n hx hb dX6_append_17 rfl (lv_at hl 1 rfl) ?_
  refine wk_get hC hK hw hinX6 0 rfl rfl 0 (by decide) (List.mem_of_getElem? (i := 2) rfl) rfl rfl dX6_append_18 ?_
  refine lv_aload_n hx hb dX6_append_21 rfl (lv_at hl 1 rfl) ?_
  refine wk_get hC hK hw hinX6 0 rfl rfl 2 (by decide) (List.mem_of_getElem? (i := 1) rfl) rfl rfl dX6_append_22 ?_
  refine lv_iload_n hx hb dX6_append_25 rfl (lv_at hl 2 rfl) ?_
  refine lv_iload_n hx hb dX6_append_26 rfl (lv_at hl 0 rfl) ?_
  refine lv_ishr hx hb dX6_append_27 ?_
  refine lv_topi (fun x7 ex7 => ?_)
  refine lv_sipush (v := 255) hx hb dX6_append_28 (by decide) ?_
  refine lv_iand hx hb dX6_append_31 ?_
  refine lv_topi (fun x8 ex8 => ?_)
  refine wk_iast hC hK hw 1 rfl (show ¬ ((14 : Int32) < 0 ∨ 400 ≤ (14 : Int32).toNatClampNeg) by decide) dX6_append_32 (fun H locs hw => ?_)
  obtain ⟨f9, hw⟩ : ∃ f9 : Nat → Int32, Wd dC dI A s.heap H locs [(av0, .inr (6, [.ref av1, .int 0, .int 14, .int 0, .int 0])), (av1, .inl (cy 0, 400, .inl f9))] := ⟨_, hw⟩
  refine lv_aload_n hx hb dX6_append_33 rfl (lv_at hl 1 rfl) ?_
  refine lv_dup hx hb dX6_append_34 rfl ?_
  refine wk_get hC hK hw hinX6 0 rfl rfl 2 (by decide) (List.mem_of_getElem? (i := 1) rfl) rfl rfl dX6_append_35 ?_
  refine lv_iconst (v := 1) hx hb dX6_append_38 (by decide) ?_
  refine lv_iadd hx hb dX6_append_39 ?_
  refine wk_top 15 (by decide) ?_
  refine wk_put hC hK hw hinX6 tyX6_ok nmX6 0 rfl rfl 2 (by decide) (List.mem_of_getElem? (i := 1) rfl) rfl rfl rfl rfl rfl (Nat.le_of_ble_eq_true rfl) dX6_append_40 (fun H locs hw => ?_)
  have hw : Wd dC dI A s.heap H locs [(av0, .inr (6, [.ref av1, .int 0, .int 15, .int 0, .int 0])), (av1, .inl (cy 0, 400, .inl f9))] := hw
  refine lv_iinc (v := 0) (lv' := [(2, .int 0), (0, .ref av0), (1, .int iv0)]) hx hb dX6_append_43 hl (k := 0) rfl (by decide) (by decide) rfl (fun ls hl => ?_)
  refine lv_goto (tgt := 3) hx hb dX6_append_46 (by decide) ?_
  refine lv_iload_n hx hb dX6_append_3 rfl (lv_at hl 0 rfl) ?_
  refine lv_if_lt (tgt := 49) hx hb dX6_append_4 (by decide) (fun c => absurd c (by decide)) (fun _ => ?_)
  refine lv_aload_n hx hb dX6_append_7 rfl (lv_at hl 1 rfl) ?_
  refine wk_get hC hK hw hinX6 0 rfl rfl 2 (by decide) (List.mem_of_getElem? (i := 1) rfl) rfl rfl dX6_append_8 ?_
  refine lv_sipush (v := 400) hx hb dX6_append_11 (by decide) ?_
  refine lv_icmp_ge (tgt := 49) hx hb dX6_append_14 (by decide) (fun c => absurd c (by decide)) (fun _ => ?_)
  refine lv_aload_n hx hb dX6_append_17 rfl (lv_at hl 1 rfl) ?_
  refine wk_get hC hK hw hinX6 0 rfl rfl 0 (by decide) (List.mem_of_getElem? (i := 2) rfl) rfl rfl dX6_append_18 ?_
  refine lv_aload_n hx hb dX6_append_21 rfl (lv_at hl 1 rfl) ?_
  refine wk_get hC hK hw hinX6 0 rfl rfl 2 (by decide) (List.mem_of_getElem? (i := 1) rfl) rfl rfl dX6_append_22 ?_
  refine lv_iload_n hx hb dX6_append_25 rfl (lv_at hl 2 rfl) ?_
  refine lv_iload_n hx hb dX6_append_26 rfl (lv_at hl 0 rfl) ?_
  refine lv_ishr hx hb dX6_append_27 ?_
  refine lv_topi (fun x10 ex10 => ?_)
  refine lv_sipush (v := 255) hx hb dX6_append_28 (by decide) ?_
  refine lv_iand hx hb dX6_append_31 ?_
  refine lv_topi (fun x11 ex11 => ?_)
  refine wk_iast hC hK hw 1 rfl (show ¬ ((15 : Int32) < 0 ∨ 400 ≤ (15 : Int32).toNatClampNeg) by decide) dX6_append_32 (fun H locs hw => ?_)
  obtain ⟨f12, hw⟩ : ∃ f12 : Nat → Int32, Wd dC dI A s.heap H locs [(av0, .inr (6, [.ref av1, .int 0, .int 15, .int 0, .int 0])), (av1, .inl (cy 0, 400, .inl f12))] := ⟨_, hw⟩
  refine lv_aload_n hx hb dX6_append_33 rfl (lv_at hl 1 rfl) ?_
  refine lv_dup hx hb dX6_append_34 rfl ?_
  refine wk_get hC hK hw hinX6 0 rfl rfl 2 (by decide) (List.mem_of_getElem? (i := 1) rfl) rfl rfl dX6_append_35 ?_
  refine lv_iconst (v := 1) hx hb dX6_append_38 (by decide) ?_
  refine lv_iadd hx hb dX6_append_39 ?_
  refine wk_top 16 (by decide) ?_
  refine wk_put hC hK hw hinX6 tyX6_ok nmX6 0 rfl rfl 2 (by decide) (List.mem_of_getElem? (i := 1) rfl) rfl rfl rfl rfl rfl (Nat.le_of_ble_eq_true rfl) dX6_append_40 (fun H locs hw => ?_)
  have hw : Wd dC dI A s.heap H locs [(av0, .inr (6, [.ref av1, .int 0, .int 16, .int 0, .int 0])), (av1, .inl (cy 0, 400, .inl f12))] := hw
  refine lv_iinc (v := (-8)) (lv' := [(2, .int (-8)), (0, .ref av0), (1, .int iv0)]) hx hb dX6_append_43 hl (k := 0) rfl (by decide) (by decide) rfl (fun ls hl => ?_)
  refine lv_goto (tgt := 3) hx hb dX6_append_46 (by decide) ?_
  refine lv_iload_n hx hb dX6_append_3 rfl (lv_at hl 0 rfl) ?_
  refine lv_if_lt (tgt := 49) hx hb dX6_append_4 (by decide) (fun _ => ?_) (fun c => absurd (by decide) c)
  exact wk_vret hC hr hlocks hK ((fun _ => 0), (fun k => ([f12] : List (Nat → Int32)).getD k (fun _ => 0))) trivial [0, 1] rfl rfl hw dX6_append_49

set_option maxHeartbeats 4000000 in
set_option maxRecDepth 100000 in
theorem c_X6_append_5 (l : Launch) (dC : Nat → ClassId) (dI : Nat → Nat → Nat) (cy : Nat → ClassId) (av0 : Nat) (iv0 : Int32) (av1 : Nat) (gv0 : Nat → Int32) (sz : Nat)  : Met l yX6_append wsX6_append ({ frames := 0, cells := 0, slots := 0, locals := 0 }) (va_Pc [.ref av0, .int iv0] (wpre dC dI cy sz [(av0, .inr (6, [.ref av1, .int 0, .int 16, .int 0, .int 0])), (av1, .inl (cy 0, 400, .inl gv0))])) (va_Qv (fun _ : ((Nat → Nat) × (Nat → Nat → Int32)) => True) (fun u => wpost dC dI cy (va_A [(av0, .inr (6, [.ref av1, .int 0, .int 16, .int 0, .int 0])), (av1, .inl (cy 0, 400, .inl gv0))] sz) [(av0, .inr (6, [.ref av1, .int 0, .int 20, .int 0, .int 0])), (av1, .inl (cy 0, 400, .inl (u.2 0)))]) (va_A [(av0, .inr (6, [.ref av1, .int 0, .int 16, .int 0, .int 0])), (av1, .inl (cy 0, 400, .inl gv0))] sz)) 0 0 (va_A [(av0, .inr (6, [.ref av1, .int 0, .int 16, .int 0, .int 0])), (av1, .inl (cy 0, 400, .inl gv0))] sz) := by
  refine Met.ofW (cc := cX6_append) (maxL := 3) (ret := none) (by decide) rfl ?_
  intro p e s m args below meth c s₁ B hml hv
  obtain ⟨rfl, hsz, hP, hK, hD0⟩ := hv
  have hx := B.exec
  have hb := B.bytes
  have hr := B.returns
  have hlocks := B.notSynchronized
  have hC : CallFix p m c cX6_append 3 s _ wsX6_append RX6 := ⟨hx, hb, hml, findClass_of_methodNamed B.named, atoms_spec (ws := wsX6_append) B.pre⟩
  subst hsz
  have hD := hD0.self (sz := s.heap.size)
  generalize hAe : va_A [(av0, .inr (6, [.ref av1, .int 0, .int 16, .int 0, .int 0])), (av1, .inl (cy 0, 400, .inl gv0))] s.heap.size = A at hD ⊢
  have hA : ∀ q : Nat, s.heap.size ≤ q → A q := fun q h => by rw [← hAe]; exact Or.inr h
  have hw : Wd dC dI A s.heap s.heap [] [(av0, .inr (6, [.ref av1, .int 0, .int 16, .int 0, .int 0])), (av1, .inl (cy 0, 400, .inl gv0))] := ⟨hP, hD, va_S.rf⟩
  have hl := lv_entry ([.ref av0, .int iv0]) (n := 3) (Nat.le_of_ble_eq_true rfl)
  rw [lg_entry_eq]
  generalize (lg_sl ([.ref av0, .int iv0]) ++ List.replicate (3 - (lg_sl ([.ref av0, .int iv0])).length) Slot.unset).toArray = ls at hl ⊢
  have hl : lv_has ls 3 [(0, .ref av0), (1, .int iv0)] := hl
  have hinX6 : ∀ w ∈ u_ws RX6 TX6 5, w ∈ wsX6_append := fun _ h => List.mem_cons_of_mem _ (List.mem_append_right _ (h))
  refine lv_bipush (v := 24) hx hb dX6_append_0 (by decide) ?_
  refine lv_istore_n (lv' := [(2, .int 24), (0, .ref av0), (1, .int iv0)]) hx hb dX6_append_2 rfl hl (by decide) rfl (fun ls hl => ?_)
  refine lv_iload_n hx hb dX6_append_3 rfl (lv_at hl 0 rfl) ?_
  refine lv_if_lt (tgt := 49) hx hb dX6_append_4 (by decide) (fun c => absurd c (by decide)) (fun _ => ?_)
  refine lv_aload_n hx hb dX6_append_7 rfl (lv_at hl 1 rfl) ?_
  refine wk_get hC hK hw hinX6 0 rfl rfl 2 (by decide) (List.mem_of_getElem? (i := 1) rfl) rfl rfl dX6_append_8 ?_
  refine lv_sipush (v := 400) hx hb dX6_append_11 (by decide) ?_
  refine lv_icmp_ge (tgt := 49) hx hb dX6_append_14 (by decide) (fun c => absurd c (by decide)) (fun _ => ?_)
  refine lv_aload_n hx hb dX6_append_17 rfl (lv_at hl 1 rfl) ?_
  refine wk_get hC hK hw hinX6 0 rfl rfl 0 (by decide) (List.mem_of_getElem? (i := 2) rfl) rfl rfl dX6_append_18 ?_
  refine lv_aload_n hx hb dX6_append_21 rfl (lv_at hl 1 rfl) ?_
  refine wk_get hC hK hw hinX6 0 rfl rfl 2 (by decide) (List.mem_of_getElem? (i := 1) rfl) rfl rfl dX6_append_22 ?_
  refine lv_iload_n hx hb dX6_append_25 rfl (lv_at hl 2 rfl) ?_
  refine lv_iload_n hx hb dX6_append_26 rfl (lv_at hl 0 rfl) ?_
  refine lv_ishr hx hb dX6_append_27 ?_
  refine lv_topi (fun x1 ex1 => ?_)
  refine lv_sipush (v := 255) hx hb dX6_append_28 (by decide) ?_
  refine lv_iand hx hb dX6_append_31 ?_
  refine lv_topi (fun x2 ex2 => ?_)
  refine wk_iast hC hK hw 1 rfl (show ¬ ((16 : Int32) < 0 ∨ 400 ≤ (16 : Int32).toNatClampNeg) by decide) dX6_append_32 (fun H locs hw => ?_)
  obtain ⟨f3, hw⟩ : ∃ f3 : Nat → Int32, Wd dC dI A s.heap H locs [(av0, .inr (6, [.ref av1, .int 0, .int 16, .int 0, .int 0])), (av1, .inl (cy 0, 400, .inl f3))] := ⟨_, hw⟩
  refine lv_aload_n hx hb dX6_append_33 rfl (lv_at hl 1 rfl) ?_
  refine lv_dup hx hb dX6_append_34 rfl ?_
  refine wk_get hC hK hw hinX6 0 rfl rfl 2 (by decide) (List.mem_of_getElem? (i := 1) rfl) rfl rfl dX6_append_35 ?_
  refine lv_iconst (v := 1) hx hb dX6_append_38 (by decide) ?_
  refine lv_iadd hx hb dX6_append_39 ?_
  refine wk_top 17 (by decide) ?_
  refine wk_put hC hK hw hinX6 tyX6_ok nmX6 0 rfl rfl 2 (by decide) (List.mem_of_getElem? (i := 1) rfl) rfl rfl rfl rfl rfl (Nat.le_of_ble_eq_true rfl) dX6_append_40 (fun H locs hw => ?_)
  have hw : Wd dC dI A s.heap H locs [(av0, .inr (6, [.ref av1, .int 0, .int 17, .int 0, .int 0])), (av1, .inl (cy 0, 400, .inl f3))] := hw
  refine lv_iinc (v := 16) (lv' := [(2, .int 16), (0, .ref av0), (1, .int iv0)]) hx hb dX6_append_43 hl (k := 0) rfl (by decide) (by decide) rfl (fun ls hl => ?_)
  refine lv_goto (tgt := 3) hx hb dX6_append_46 (by decide) ?_
  refine lv_iload_n hx hb dX6_append_3 rfl (lv_at hl 0 rfl) ?_
  refine lv_if_lt (tgt := 49) hx hb dX6_append_4 (by decide) (fun c => absurd c (by decide)) (fun _ => ?_)
  refine lv_aload_n hx hb dX6_append_7 rfl (lv_at hl 1 rfl) ?_
  refine wk_get hC hK hw hinX6 0 rfl rfl 2 (by decide) (List.mem_of_getElem? (i := 1) rfl) rfl rfl dX6_append_8 ?_
  refine lv_sipush (v := 400) hx hb dX6_append_11 (by decide) ?_
  refine lv_icmp_ge (tgt := 49) hx hb dX6_append_14 (by decide) (fun c => absurd c (by decide)) (fun _ => ?_)
  refine lv_aload_n hx hb dX6_append_17 rfl (lv_at hl 1 rfl) ?_
  refine wk_get hC hK hw hinX6 0 rfl rfl 0 (by decide) (List.mem_of_getElem? (i := 2) rfl) rfl rfl dX6_append_18 ?_
  refine lv_aload_n hx hb dX6_append_21 rfl (lv_at hl 1 rfl) ?_
  refine wk_get hC hK hw hinX6 0 rfl rfl 2 (by decide) (List.mem_of_getElem? (i := 1) rfl) rfl rfl dX6_append_22 ?_
  refine lv_iload_n hx hb dX6_append_25 rfl (lv_at hl 2 rfl) ?_
  refine lv_iload_n hx hb dX6_append_26 rfl (lv_at hl 0 rfl) ?_
  refine lv_ishr hx hb dX6_append_27 ?_
  refine lv_topi (fun x4 ex4 => ?_)
  refine lv_sipush (v := 255) hx hb dX6_append_28 (by decide) ?_
  refine lv_iand hx hb dX6_append_31 ?_
  refine lv_topi (fun x5 ex5 => ?_)
  refine wk_iast hC hK hw 1 rfl (show ¬ ((17 : Int32) < 0 ∨ 400 ≤ (17 : Int32).toNatClampNeg) by decide) dX6_append_32 (fun H locs hw => ?_)
  obtain ⟨f6, hw⟩ : ∃ f6 : Nat → Int32, Wd dC dI A s.heap H locs [(av0, .inr (6, [.ref av1, .int 0, .int 17, .int 0, .int 0])), (av1, .inl (cy 0, 400, .inl f6))] := ⟨_, hw⟩
  refine lv_aload_n hx hb dX6_append_33 rfl (lv_at hl 1 rfl) ?_
  refine lv_dup hx hb dX6_append_34 rfl ?_
  refine wk_get hC hK hw hinX6 0 rfl rfl 2 (by decide) (List.mem_of_getElem? (i := 1) rfl) rfl rfl dX6_append_35 ?_
  refine lv_iconst (v := 1) hx hb dX6_append_38 (by decide) ?_
  refine lv_iadd hx hb dX6_append_39 ?_
  refine wk_top 18 (by decide) ?_
  refine wk_put hC hK hw hinX6 tyX6_ok nmX6 0 rfl rfl 2 (by decide) (List.mem_of_getElem? (i := 1) rfl) rfl rfl rfl rfl rfl (Nat.le_of_ble_eq_true rfl) dX6_append_40 (fun H locs hw => ?_)
  have hw : Wd dC dI A s.heap H locs [(av0, .inr (6, [.ref av1, .int 0, .int 18, .int 0, .int 0])), (av1, .inl (cy 0, 400, .inl f6))] := hw
  refine lv_iinc (v := 8) (lv' := [(2, .int 8), (0, .ref av0), (1, .int iv0)]) hx hb dX6_append_43 hl (k := 0) rfl (by decide) (by decide) rfl (fun ls hl => ?_)
  refine lv_goto (tgt := 3) hx hb dX6_append_46 (by decide) ?_
  refine lv_iload_n hx hb dX6_append_3 rfl (lv_at hl 0 rfl) ?_
  refine lv_if_lt (tgt := 49) hx hb dX6_append_4 (by decide) (fun c => absurd c (by decide)) (fun _ => ?_)
  refine lv_aload_n hx hb dX6_append_7 rfl (lv_at hl 1 rfl) ?_
  refine wk_get hC hK hw hinX6 0 rfl rfl 2 (by decide) (List.mem_of_getElem? (i := 1) rfl) rfl rfl dX6_append_8 ?_
  refine lv_sipush (v := 400) hx hb dX6_append_11 (by decide) ?_
  refine lv_icmp_ge (tgt := 49) hx hb dX6_append_14 (by decide) (fun c => absurd c (by decide)) (fun _ => ?_)
  refine lv_aload_n hx hb dX6_append_17 rfl (lv_at hl 1 rfl) ?_
  refine wk_get hC hK hw hinX6 0 rfl rfl 0 (by decide) (List.mem_of_getElem? (i := 2) rfl) rfl rfl dX6_append_18 ?_
  refine lv_aload_n hx hb dX6_append_21 rfl (lv_at hl 1 rfl) ?_
  refine wk_get hC hK hw hinX6 0 rfl rfl 2 (by decide) (List.mem_of_getElem? (i := 1) rfl) rfl rfl dX6_append_22 ?_
  refine lv_iload_n hx hb dX6_append_25 rfl (lv_at hl 2 rfl) ?_
  refine lv_iload_n hx hb dX6_append_26 rfl (lv_at hl 0 rfl) ?_
  refine lv_ishr hx hb dX6_append_27 ?_
  refine lv_topi (fun x7 ex7 => ?_)
  refine lv_sipush (v := 255) hx hb dX6_append_28 (by decide) ?_
  refine lv_iand hx hb dX6_append_31 ?_
  refine lv_topi (fun x8 ex8 => ?_)
  refine wk_iast hC hK hw 1 rfl (show ¬ ((18 : Int32) < 0 ∨ 400 ≤ (18 : Int32).toNatClampNeg) by decide) dX6_append_32 (fun H locs hw => ?_)
  obtain ⟨f9, hw⟩ : ∃ f9 : Nat → Int32, Wd dC dI A s.heap H locs [(av0, .inr (6, [.ref av1, .int 0, .int 18, .int 0, .int 0])), (av1, .inl (cy 0, 400, .inl f9))] := ⟨_, hw⟩
  refine lv_aload_n hx hb dX6_append_33 rfl (lv_at hl 1 rfl) ?_
  refine lv_dup hx hb dX6_append_34 rfl ?_
  refine wk_get hC hK hw hinX6 0 rfl rfl 2 (by decide) (List.mem_of_getElem? (i := 1) rfl) rfl rfl dX6_append_35 ?_
  refine lv_iconst (v := 1) hx hb dX6_append_38 (by decide) ?_
  refine lv_iadd hx hb dX6_append_39 ?_
  refine wk_top 19 (by decide) ?_
  refine wk_put hC hK hw hinX6 tyX6_ok nmX6 0 rfl rfl 2 (by decide) (List.mem_of_getElem? (i := 1) rfl) rfl rfl rfl rfl rfl (Nat.le_of_ble_eq_true rfl) dX6_append_40 (fun H locs hw => ?_)
  have hw : Wd dC dI A s.heap H locs [(av0, .inr (6, [.ref av1, .int 0, .int 19, .int 0, .int 0])), (av1, .inl (cy 0, 400, .inl f9))] := hw
  refine lv_iinc (v := 0) (lv' := [(2, .int 0), (0, .ref av0), (1, .int iv0)]) hx hb dX6_append_43 hl (k := 0) rfl (by decide) (by decide) rfl (fun ls hl => ?_)
  refine lv_goto (tgt := 3) hx hb dX6_append_46 (by decide) ?_
  refine lv_iload_n hx hb dX6_append_3 rfl (lv_at hl 0 rfl) ?_
  refine lv_if_lt (tgt := 49) hx hb dX6_append_4 (by decide) (fun c => absurd c (by decide)) (fun _ => ?_)
  refine lv_aload_n hx hb dX6_append_7 rfl (lv_at hl 1 rfl) ?_
  refine wk_get hC hK hw hinX6 0 rfl rfl 2 (by decide) (List.mem_of_getElem? (i := 1) rfl) rfl rfl dX6_append_8 ?_
  refine lv_sipush (v := 400) hx hb dX6_append_11 (by decide) ?_
  refine lv_icmp_ge (tgt := 49) hx hb dX6_append_14 (by decide) (fun c => absurd c (by decide)) (fun _ => ?_)
  refine lv_aload_n hx hb dX6_append_17 rfl (lv_at hl 1 rfl) ?_
  refine wk_get hC hK hw hinX6 0 rfl rfl 0 (by decide) (List.mem_of_getElem? (i := 2) rfl) rfl rfl dX6_append_18 ?_
  refine lv_aload_n hx hb dX6_append_21 rfl (lv_at hl 1 rfl) ?_
  refine wk_get hC hK hw hinX6 0 rfl rfl 2 (by decide) (List.mem_of_getElem? (i := 1) rfl) rfl rfl dX6_append_22 ?_
  refine lv_iload_n hx hb dX6_append_25 rfl (lv_at hl 2 rfl) ?_
  refine lv_iload_n hx hb dX6_append_26 rfl (lv_at hl 0 rfl) ?_
  refine lv_ishr hx hb dX6_append_27 ?_
  refine lv_topi (fun x10 ex10 => ?_)
  refine lv_sipush (v := 255) hx hb dX6_append_28 (by decide) ?_
  refine lv_iand hx hb dX6_append_31 ?_
  refine lv_topi (fun x11 ex11 => ?_)
  refine wk_iast hC hK hw 1 rfl (show ¬ ((19 : Int32) < 0 ∨ 400 ≤ (19 : Int32).toNatClampNeg) by decide) dX6_append_32 (fun H locs hw => ?_)
  obtain ⟨f12, hw⟩ : ∃ f12 : Nat → Int32, Wd dC dI A s.heap H locs [(av0, .inr (6, [.ref av1, .int 0, .int 19, .int 0, .int 0])), (av1, .inl (cy 0, 400, .inl f12))] := ⟨_, hw⟩
  refine lv_aload_n hx hb dX6_append_33 rfl (lv_at hl 1 rfl) ?_
  refine lv_dup hx hb dX6_append_34 rfl ?_
  refine wk_get hC hK hw hinX6 0 rfl rfl 2 (by decide) (List.mem_of_getElem? (i := 1) rfl) rfl rfl dX6_append_35 ?_
  refine lv_iconst (v := 1) hx hb dX6_append_38 (by decide) ?_
  refine lv_iadd hx hb dX6_append_39 ?_
  refine wk_top 20 (by decide) ?_
  refine wk_put hC hK hw hinX6 tyX6_ok nmX6 0 rfl rfl 2 (by decide) (List.mem_of_getElem? (i := 1) rfl) rfl rfl rfl rfl rfl (Nat.le_of_ble_eq_true rfl) dX6_append_40 (fun H locs hw => ?_)
  have hw : Wd dC dI A s.heap H locs [(av0, .inr (6, [.ref av1, .int 0, .int 20, .int 0, .int 0])), (av1, .inl (cy 0, 400, .inl f12))] := hw
  refine lv_iinc (v := (-8)) (lv' := [(2, .int (-8)), (0, .ref av0), (1, .int iv0)]) hx hb dX6_append_43 hl (k := 0) rfl (by decide) (by decide) rfl (fun ls hl => ?_)
  refine lv_goto (tgt := 3) hx hb dX6_append_46 (by decide) ?_
  refine lv_iload_n hx hb dX6_append_3 rfl (lv_at hl 0 rfl) ?_
  refine lv_if_lt (tgt := 49) hx hb dX6_append_4 (by decide) (fun _ => ?_) (fun c => absurd (by decide) c)
  exact wk_vret hC hr hlocks hK ((fun _ => 0), (fun k => ([f12] : List (Nat → Int32)).getD k (fun _ => 0))) trivial [0, 1] rfl rfl hw dX6_append_49

set_option maxHeartbeats 4000000 in
set_option maxRecDepth 100000 in
theorem t_X11_feed (l : Launch) (dC : Nat → ClassId) (dI : Nat → Nat → Nat) (cy : Nat → ClassId) (av0 : Nat) (ad : Nat → Nat) (p0 : Int32) (p1 : Int32) (p2 : Int32) (p3 : Int32) (p4 : Int32) (sz : Nat)  : Met l yX11_feed wsX11_feed ({ frames := 1, cells := 0, slots := 0, locals := 22 }) (va_Pc [.ref av0, .int p0, .int p1, .int p2, .int p3, .int p4] (wpre dC dI cy sz [(av0, .inr (11, [.ref (ad 0), .ref (ad 1), .ref (ad 2), .ref (ad 3), .ref (ad 4), .ref (ad 5), .ref (ad 6), .ref (ad 7), .ref (ad 8), .ref (ad 9), .ref (ad 10), .ref (ad 11), .int 0])), ((ad 0), .inr (6, [.ref (ad 12), .int 0, .int 0, .int 0, .int 0])), ((ad 12), .inl (cy 0, 400, .inl (fun _ => 0)))])) (va_Qi (fun (r : Int32) (_ : ((Nat → Nat) × (Nat → Nat → Int32))) => r = 20) (fun u => wpost dC dI cy (va_A [(av0, .inr (11, [.ref (ad 0), .ref (ad 1), .ref (ad 2), .ref (ad 3), .ref (ad 4), .ref (ad 5), .ref (ad 6), .ref (ad 7), .ref (ad 8), .ref (ad 9), .ref (ad 10), .ref (ad 11), .int 0])), ((ad 0), .inr (6, [.ref (ad 12), .int 0, .int 0, .int 0, .int 0])), ((ad 12), .inl (cy 0, 400, .inl (fun _ => 0)))] sz) [(av0, .inr (11, [.ref (ad 0), .ref (ad 1), .ref (ad 2), .ref (ad 3), .ref (ad 4), .ref (ad 5), .ref (ad 6), .ref (ad 7), .ref (ad 8), .ref (ad 9), .ref (ad 10), .ref (ad 11), .int 0])), ((ad 0), .inr (6, [.ref (ad 12), .int 0, .int 20, .int 0, .int 0])), ((ad 12), .inl (cy 0, 400, .inl (u.2 0)))]) (va_A [(av0, .inr (11, [.ref (ad 0), .ref (ad 1), .ref (ad 2), .ref (ad 3), .ref (ad 4), .ref (ad 5), .ref (ad 6), .ref (ad 7), .ref (ad 8), .ref (ad 9), .ref (ad 10), .ref (ad 11), .int 0])), ((ad 0), .inr (6, [.ref (ad 12), .int 0, .int 0, .int 0, .int 0])), ((ad 12), .inl (cy 0, 400, .inl (fun _ => 0)))] sz)) 0 0 (va_A [(av0, .inr (11, [.ref (ad 0), .ref (ad 1), .ref (ad 2), .ref (ad 3), .ref (ad 4), .ref (ad 5), .ref (ad 6), .ref (ad 7), .ref (ad 8), .ref (ad 9), .ref (ad 10), .ref (ad 11), .int 0])), ((ad 0), .inr (6, [.ref (ad 12), .int 0, .int 0, .int 0, .int 0])), ((ad 12), .inl (cy 0, 400, .inl (fun _ => 0)))] sz) := by
  refine Met.ofW (cc := cX11_feed) (maxL := 6) (ret := (some .int)) (by decide) rfl ?_
  intro p e s m args below meth c s₁ B hml hv
  obtain ⟨rfl, hsz, hP, hK, hD0⟩ := hv
  have hx := B.exec
  have hb := B.bytes
  have hr := B.returns
  have hlocks := B.notSynchronized
  have hC : CallFix p m c cX11_feed 6 s _ wsX11_feed RX11 := ⟨hx, hb, hml, findClass_of_methodNamed B.named, atoms_spec (ws := wsX11_feed) B.pre⟩
  subst hsz
  have hD := hD0.self (sz := s.heap.size)
  generalize hAe : va_A [(av0, .inr (11, [.ref (ad 0), .ref (ad 1), .ref (ad 2), .ref (ad 3), .ref (ad 4), .ref (ad 5), .ref (ad 6), .ref (ad 7), .ref (ad 8), .ref (ad 9), .ref (ad 10), .ref (ad 11), .int 0])), ((ad 0), .inr (6, [.ref (ad 12), .int 0, .int 0, .int 0, .int 0])), ((ad 12), .inl (cy 0, 400, .inl (fun _ => 0)))] s.heap.size = A at hD ⊢
  have hA : ∀ q : Nat, s.heap.size ≤ q → A q := fun q h => by rw [← hAe]; exact Or.inr h
  have hw : Wd dC dI A s.heap s.heap [] [(av0, .inr (11, [.ref (ad 0), .ref (ad 1), .ref (ad 2), .ref (ad 3), .ref (ad 4), .ref (ad 5), .ref (ad 6), .ref (ad 7), .ref (ad 8), .ref (ad 9), .ref (ad 10), .ref (ad 11), .int 0])), ((ad 0), .inr (6, [.ref (ad 12), .int 0, .int 0, .int 0, .int 0])), ((ad 12), .inl (cy 0, 400, .inl (fun _ => 0)))] := ⟨hP, hD, va_S.rf⟩
  have hl := lv_entry ([.ref av0, .int p0, .int p1, .int p2, .int p3, .int p4]) (n := 6) (Nat.le_of_ble_eq_true rfl)
  rw [lg_entry_eq]
  generalize (lg_sl ([.ref av0, .int p0, .int p1, .int p2, .int p3, .int p4]) ++ List.replicate (6 - (lg_sl ([.ref av0, .int p0, .int p1, .int p2, .int p3, .int p4])).length) Slot.unset).toArray = ls at hl ⊢
  have hl : lv_has ls 6 [(0, .ref av0), (1, .int p0), (2, .int p1), (3, .int p2), (4, .int p3), (5, .int p4)] := hl
  have hinX11 : ∀ w ∈ u_ws RX11 TX11 13, w ∈ wsX11_feed := fun _ h => List.mem_cons_of_mem _ (List.mem_append_left _ (List.mem_append_right _ (h)))
  have hinX6 : ∀ w ∈ u_ws RX6 TX6 5, w ∈ wsX11_feed := fun _ h => List.mem_cons_of_mem _ (List.mem_append_right _ (h))
  refine lv_aload_n hx hb dX11_feed_0 rfl (lv_at hl 0 rfl) ?_
  refine wk_get hC hK hw hinX11 0 rfl rfl 0 (by decide) (List.mem_of_getElem? (i := 1) rfl) rfl rfl dX11_feed_1 ?_
  refine wk_Vi hC hK hw hA [1] [0, 2] rfl rfl rfl rfl (by decide) (c_X6_hasRoom_1 l dC dI cy (ad 0) (ad 12) s.heap.size ) (cwV 0 hC.2.2.2.2 gX11_feed_X6_hasRoom rfl rfl rfl (by decide +kernel) ⟨Nat.le_of_ble_eq_true rfl, Nat.le_of_ble_eq_true rfl⟩) rfl 0 rfl rfl hl.1 rfl (Nat.le_of_ble_eq_true rfl) dX11_feed_4 0 0 ⟨rfl, rfl⟩ ⟨Nat.le_of_ble_eq_true rfl, Nat.le_of_ble_eq_true rfl⟩ (fun r2 u1 H locs hp3 hw => ?_)
  have hw : Wd dC dI A s.heap H locs [(av0, .inr (11, [.ref (ad 0), .ref (ad 1), .ref (ad 2), .ref (ad 3), .ref (ad 4), .ref (ad 5), .ref (ad 6), .ref (ad 7), .ref (ad 8), .ref (ad 9), .ref (ad 10), .ref (ad 11), .int 0])), ((ad 12), .inl (cy 0, 400, .inl (fun _ => 0))), ((ad 0), .inr (6, [.ref (ad 12), .int 0, .int 0, .int 0, .int 0]))] := hw
  obtain rfl : r2 = 1 := hp3
  refine lv_if_ne (tgt := 12) hx hb dX11_feed_7 (by decide) (fun _ => ?_) (fun c => absurd c (by decide))
  refine lv_aload_n hx hb dX11_feed_12 rfl (lv_at hl 0 rfl) ?_
  refine wk_get hC hK hw hinX11 0 rfl rfl 0 (by decide) (List.mem_of_getElem? (i := 1) rfl) rfl rfl dX11_feed_13 ?_
  refine lv_iload_n hx hb dX11_feed_16 rfl (lv_at hl 1 rfl) ?_
  refine wk_Vv hC hK hw hA [2, 1] [0] rfl rfl rfl rfl (by decide) (c_X6_append_1 l dC dI cy (ad 0) p0 (ad 12) H.size ) (cwV 1 hC.2.2.2.2 gX11_feed_X6_append rfl rfl rfl (by decide +kernel) ⟨Nat.le_of_ble_eq_true rfl, Nat.le_of_ble_eq_true rfl⟩) rfl 0 rfl rfl hl.1 rfl (Nat.le_of_ble_eq_true rfl) dX11_feed_17 0 0 ⟨rfl, rfl⟩ ⟨Nat.le_of_ble_eq_true rfl, Nat.le_of_ble_eq_true rfl⟩ (fun u4 H locs hp6 hw => ?_)
  have hw : Wd dC dI A s.heap H locs [(av0, .inr (11, [.ref (ad 0), .ref (ad 1), .ref (ad 2), .ref (ad 3), .ref (ad 4), .ref (ad 5), .ref (ad 6), .ref (ad 7), .ref (ad 8), .ref (ad 9), .ref (ad 10), .ref (ad 11), .int 0])), ((ad 0), .inr (6, [.ref (ad 12), .int 0, .int 4, .int 0, .int 0])), ((ad 12), .inl (cy 0, 400, .inl (u4.2 0)))] := hw
  refine lv_aload_n hx hb dX11_feed_20 rfl (lv_at hl 0 rfl) ?_
  refine wk_get hC hK hw hinX11 0 rfl rfl 0 (by decide) (List.mem_of_getElem? (i := 1) rfl) rfl rfl dX11_feed_21 ?_
  refine lv_iload_n hx hb dX11_feed_24 rfl (lv_at hl 2 rfl) ?_
  refine wk_Vv hC hK hw hA [1, 2] [0] rfl rfl rfl rfl (by decide) (c_X6_append_2 l dC dI cy (ad 0) p1 (ad 12) (u4.2 0) H.size ) (cwV 1 hC.2.2.2.2 gX11_feed_X6_append rfl rfl rfl (by decide +kernel) ⟨Nat.le_of_ble_eq_true rfl, Nat.le_of_ble_eq_true rfl⟩) rfl 0 rfl rfl hl.1 rfl (Nat.le_of_ble_eq_true rfl) dX11_feed_25 0 0 ⟨rfl, rfl⟩ ⟨Nat.le_of_ble_eq_true rfl, Nat.le_of_ble_eq_true rfl⟩ (fun u7 H locs hp9 hw => ?_)
  have hw : Wd dC dI A s.heap H locs [(av0, .inr (11, [.ref (ad 0), .ref (ad 1), .ref (ad 2), .ref (ad 3), .ref (ad 4), .ref (ad 5), .ref (ad 6), .ref (ad 7), .ref (ad 8), .ref (ad 9), .ref (ad 10), .ref (ad 11), .int 0])), ((ad 0), .inr (6, [.ref (ad 12), .int 0, .int 8, .int 0, .int 0])), ((ad 12), .inl (cy 0, 400, .inl (u7.2 0)))] := hw
  refine lv_aload_n hx hb dX11_feed_28 rfl (lv_at hl 0 rfl) ?_
  refine wk_get hC hK hw hinX11 0 rfl rfl 0 (by decide) (List.mem_of_getElem? (i := 1) rfl) rfl rfl dX11_feed_29 ?_
  refine lv_iload_n hx hb dX11_feed_32 rfl (lv_at hl 3 rfl) ?_
  refine wk_Vv hC hK hw hA [1, 2] [0] rfl rfl rfl rfl (by decide) (c_X6_append_3 l dC dI cy (ad 0) p2 (ad 12) (u7.2 0) H.size ) (cwV 1 hC.2.2.2.2 gX11_feed_X6_append rfl rfl rfl (by decide +kernel) ⟨Nat.le_of_ble_eq_true rfl, Nat.le_of_ble_eq_true rfl⟩) rfl 0 rfl rfl hl.1 rfl (Nat.le_of_ble_eq_true rfl) dX11_feed_33 0 0 ⟨rfl, rfl⟩ ⟨Nat.le_of_ble_eq_true rfl, Nat.le_of_ble_eq_true rfl⟩ (fun u10 H locs hp12 hw => ?_)
  have hw : Wd dC dI A s.heap H locs [(av0, .inr (11, [.ref (ad 0), .ref (ad 1), .ref (ad 2), .ref (ad 3), .ref (ad 4), .ref (ad 5), .ref (ad 6), .ref (ad 7), .ref (ad 8), .ref (ad 9), .ref (ad 10), .ref (ad 11), .int 0])), ((ad 0), .inr (6, [.ref (ad 12), .int 0, .int 12, .int 0, .int 0])), ((ad 12), .inl (cy 0, 400, .inl (u10.2 0)))] := hw
  refine lv_aload_n hx hb dX11_feed_36 rfl (lv_at hl 0 rfl) ?_
  refine wk_get hC hK hw hinX11 0 rfl rfl 0 (by decide) (List.mem_of_getElem? (i := 1) rfl) rfl rfl dX11_feed_37 ?_
  refine lv_iload hx hb dX11_feed_40 (lv_at hl 4 rfl) ?_
  refine wk_Vv hC hK hw hA [1, 2] [0] rfl rfl rfl rfl (by decide) (c_X6_append_4 l dC dI cy (ad 0) p3 (ad 12) (u10.2 0) H.size ) (cwV 1 hC.2.2.2.2 gX11_feed_X6_append rfl rfl rfl (by decide +kernel) ⟨Nat.le_of_ble_eq_true rfl, Nat.le_of_ble_eq_true rfl⟩) rfl 0 rfl rfl hl.1 rfl (Nat.le_of_ble_eq_true rfl) dX11_feed_42 0 0 ⟨rfl, rfl⟩ ⟨Nat.le_of_ble_eq_true rfl, Nat.le_of_ble_eq_true rfl⟩ (fun u13 H locs hp15 hw => ?_)
  have hw : Wd dC dI A s.heap H locs [(av0, .inr (11, [.ref (ad 0), .ref (ad 1), .ref (ad 2), .ref (ad 3), .ref (ad 4), .ref (ad 5), .ref (ad 6), .ref (ad 7), .ref (ad 8), .ref (ad 9), .ref (ad 10), .ref (ad 11), .int 0])), ((ad 0), .inr (6, [.ref (ad 12), .int 0, .int 16, .int 0, .int 0])), ((ad 12), .inl (cy 0, 400, .inl (u13.2 0)))] := hw
  refine lv_aload_n hx hb dX11_feed_45 rfl (lv_at hl 0 rfl) ?_
  refine wk_get hC hK hw hinX11 0 rfl rfl 0 (by decide) (List.mem_of_getElem? (i := 1) rfl) rfl rfl dX11_feed_46 ?_
  refine lv_iload hx hb dX11_feed_49 (lv_at hl 5 rfl) ?_
  refine wk_Vv hC hK hw hA [1, 2] [0] rfl rfl rfl rfl (by decide) (c_X6_append_5 l dC dI cy (ad 0) p4 (ad 12) (u13.2 0) H.size ) (cwV 1 hC.2.2.2.2 gX11_feed_X6_append rfl rfl rfl (by decide +kernel) ⟨Nat.le_of_ble_eq_true rfl, Nat.le_of_ble_eq_true rfl⟩) rfl 0 rfl rfl hl.1 rfl (Nat.le_of_ble_eq_true rfl) dX11_feed_51 0 0 ⟨rfl, rfl⟩ ⟨Nat.le_of_ble_eq_true rfl, Nat.le_of_ble_eq_true rfl⟩ (fun u16 H locs hp18 hw => ?_)
  have hw : Wd dC dI A s.heap H locs [(av0, .inr (11, [.ref (ad 0), .ref (ad 1), .ref (ad 2), .ref (ad 3), .ref (ad 4), .ref (ad 5), .ref (ad 6), .ref (ad 7), .ref (ad 8), .ref (ad 9), .ref (ad 10), .ref (ad 11), .int 0])), ((ad 0), .inr (6, [.ref (ad 12), .int 0, .int 20, .int 0, .int 0])), ((ad 12), .inl (cy 0, 400, .inl (u16.2 0)))] := hw
  refine lv_aload_n hx hb dX11_feed_54 rfl (lv_at hl 0 rfl) ?_
  refine wk_get hC hK hw hinX11 0 rfl rfl 0 (by decide) (List.mem_of_getElem? (i := 1) rfl) rfl rfl dX11_feed_55 ?_
  refine wk_get hC hK hw hinX6 1 rfl rfl 2 (by decide) (List.mem_of_getElem? (i := 2) rfl) rfl rfl dX11_feed_58 ?_
  exact wk_iret (v := 20) hC hr hlocks hK ((fun _ => 0), (fun k => ([(u16.2 0)] : List (Nat → Int32)).getD k (fun _ => 0))) rfl [0, 1, 2] rfl rfl hw dX11_feed_61

set_option maxHeartbeats 4000000 in
set_option maxRecDepth 100000 in
theorem t_X11_end_0 (l : Launch) (dC : Nat → ClassId) (dI : Nat → Nat → Nat) (cy : Nat → ClassId) (av0 : Nat) (ad : Nat → Nat) (p0 : Int32) (sz : Nat) (hp : p0.toInt ≤ -1) : Met l yX11_end wsX11_end ({ frames := 0, cells := 0, slots := 0, locals := 0 }) (va_Pc [.ref av0, .int p0] (wpre dC dI cy sz [(av0, .inr (11, [.ref (ad 0), .ref (ad 1), .ref (ad 2), .ref (ad 3), .ref (ad 4), .ref (ad 5), .ref (ad 6), .ref (ad 7), .ref (ad 8), .ref (ad 9), .ref (ad 10), .ref (ad 11), .int 0]))])) (va_Qi (fun (r : Int32) (_ : ((Nat → Nat) × (Nat → Nat → Int32))) => r = (-1)) (fun u => wpost dC dI cy (va_A [(av0, .inr (11, [.ref (ad 0), .ref (ad 1), .ref (ad 2), .ref (ad 3), .ref (ad 4), .ref (ad 5), .ref (ad 6), .ref (ad 7), .ref (ad 8), .ref (ad 9), .ref (ad 10), .ref (ad 11), .int 0]))] sz) [(av0, .inr (11, [.ref (ad 0), .ref (ad 1), .ref (ad 2), .ref (ad 3), .ref (ad 4), .ref (ad 5), .ref (ad 6), .ref (ad 7), .ref (ad 8), .ref (ad 9), .ref (ad 10), .ref (ad 11), .int 0]))]) (va_A [(av0, .inr (11, [.ref (ad 0), .ref (ad 1), .ref (ad 2), .ref (ad 3), .ref (ad 4), .ref (ad 5), .ref (ad 6), .ref (ad 7), .ref (ad 8), .ref (ad 9), .ref (ad 10), .ref (ad 11), .int 0]))] sz)) 0 0 (va_A [(av0, .inr (11, [.ref (ad 0), .ref (ad 1), .ref (ad 2), .ref (ad 3), .ref (ad 4), .ref (ad 5), .ref (ad 6), .ref (ad 7), .ref (ad 8), .ref (ad 9), .ref (ad 10), .ref (ad 11), .int 0]))] sz) := by
  refine Met.ofW (cc := cX11_end) (maxL := 2) (ret := (some .int)) (by decide) rfl ?_
  intro p e s m args below meth c s₁ B hml hv
  obtain ⟨rfl, hsz, hP, hK, hD0⟩ := hv
  have hx := B.exec
  have hb := B.bytes
  have hr := B.returns
  have hlocks := B.notSynchronized
  have hC : CallFix p m c cX11_end 2 s _ wsX11_end RX11 := ⟨hx, hb, hml, findClass_of_methodNamed B.named, atoms_spec (ws := wsX11_end) B.pre⟩
  subst hsz
  have hD := hD0.self (sz := s.heap.size)
  generalize hAe : va_A [(av0, .inr (11, [.ref (ad 0), .ref (ad 1), .ref (ad 2), .ref (ad 3), .ref (ad 4), .ref (ad 5), .ref (ad 6), .ref (ad 7), .ref (ad 8), .ref (ad 9), .ref (ad 10), .ref (ad 11), .int 0]))] s.heap.size = A at hD ⊢
  have hA : ∀ q : Nat, s.heap.size ≤ q → A q := fun q h => by rw [← hAe]; exact Or.inr h
  have hw : Wd dC dI A s.heap s.heap [] [(av0, .inr (11, [.ref (ad 0), .ref (ad 1), .ref (ad 2), .ref (ad 3), .ref (ad 4), .ref (ad 5), .ref (ad 6), .ref (ad 7), .ref (ad 8), .ref (ad 9), .ref (ad 10), .ref (ad 11), .int 0]))] := ⟨hP, hD, va_S.rf⟩
  have hl := lv_entry ([.ref av0, .int p0]) (n := 2) (Nat.le_of_ble_eq_true rfl)
  rw [lg_entry_eq]
  generalize (lg_sl ([.ref av0, .int p0]) ++ List.replicate (2 - (lg_sl ([.ref av0, .int p0])).length) Slot.unset).toArray = ls at hl ⊢
  have hl : lv_has ls 2 [(0, .ref av0), (1, .int p0)] := hl
  refine lv_iload_n hx hb dX11_end_0 rfl (lv_at hl 1 rfl) ?_
  refine lv_if_lt (tgt := 15) hx hb dX11_end_1 (by decide) (fun _ => ?_) (fun c => (c (wk_lt.mpr (show p0.toInt < 0 by omega))).elim)
  refine lv_iconst (v := (-1)) hx hb dX11_end_15 (by decide) ?_
  exact wk_iret (v := (-1)) hC hr hlocks hK ((fun _ => 0), (fun _ _ => 0)) rfl [0] rfl rfl hw dX11_end_16

set_option maxHeartbeats 4000000 in
set_option maxRecDepth 100000 in
theorem t_X11_end_1 (l : Launch) (dC : Nat → ClassId) (dI : Nat → Nat → Nat) (cy : Nat → ClassId) (av0 : Nat) (ad : Nat → Nat) (sz : Nat)  : Met l yX11_end wsX11_end ({ frames := 0, cells := 0, slots := 0, locals := 0 }) (va_Pc [.ref av0, .int 0] (wpre dC dI cy sz [(av0, .inr (11, [.ref (ad 0), .ref (ad 1), .ref (ad 2), .ref (ad 3), .ref (ad 4), .ref (ad 5), .ref (ad 6), .ref (ad 7), .ref (ad 8), .ref (ad 9), .ref (ad 10), .ref (ad 11), .int 0])), ((ad 0), .inr (6, [.ref (ad 12), .int 0, .int 0, .int 0, .int 0]))])) (va_Qi (fun (r : Int32) (_ : ((Nat → Nat) × (Nat → Nat → Int32))) => r = 0) (fun u => wpost dC dI cy (va_A [(av0, .inr (11, [.ref (ad 0), .ref (ad 1), .ref (ad 2), .ref (ad 3), .ref (ad 4), .ref (ad 5), .ref (ad 6), .ref (ad 7), .ref (ad 8), .ref (ad 9), .ref (ad 10), .ref (ad 11), .int 0])), ((ad 0), .inr (6, [.ref (ad 12), .int 0, .int 0, .int 0, .int 0]))] sz) [(av0, .inr (11, [.ref (ad 0), .ref (ad 1), .ref (ad 2), .ref (ad 3), .ref (ad 4), .ref (ad 5), .ref (ad 6), .ref (ad 7), .ref (ad 8), .ref (ad 9), .ref (ad 10), .ref (ad 11), .int 0])), ((ad 0), .inr (6, [.ref (ad 12), .int 0, .int 0, .int 0, .int 0]))]) (va_A [(av0, .inr (11, [.ref (ad 0), .ref (ad 1), .ref (ad 2), .ref (ad 3), .ref (ad 4), .ref (ad 5), .ref (ad 6), .ref (ad 7), .ref (ad 8), .ref (ad 9), .ref (ad 10), .ref (ad 11), .int 0])), ((ad 0), .inr (6, [.ref (ad 12), .int 0, .int 0, .int 0, .int 0]))] sz)) 0 0 (va_A [(av0, .inr (11, [.ref (ad 0), .ref (ad 1), .ref (ad 2), .ref (ad 3), .ref (ad 4), .ref (ad 5), .ref (ad 6), .ref (ad 7), .ref (ad 8), .ref (ad 9), .ref (ad 10), .ref (ad 11), .int 0])), ((ad 0), .inr (6, [.ref (ad 12), .int 0, .int 0, .int 0, .int 0]))] sz) := by
  refine Met.ofW (cc := cX11_end) (maxL := 2) (ret := (some .int)) (by decide) rfl ?_
  intro p e s m args below meth c s₁ B hml hv
  obtain ⟨rfl, hsz, hP, hK, hD0⟩ := hv
  have hx := B.exec
  have hb := B.bytes
  have hr := B.returns
  have hlocks := B.notSynchronized
  have hC : CallFix p m c cX11_end 2 s _ wsX11_end RX11 := ⟨hx, hb, hml, findClass_of_methodNamed B.named, atoms_spec (ws := wsX11_end) B.pre⟩
  subst hsz
  have hD := hD0.self (sz := s.heap.size)
  generalize hAe : va_A [(av0, .inr (11, [.ref (ad 0), .ref (ad 1), .ref (ad 2), .ref (ad 3), .ref (ad 4), .ref (ad 5), .ref (ad 6), .ref (ad 7), .ref (ad 8), .ref (ad 9), .ref (ad 10), .ref (ad 11), .int 0])), ((ad 0), .inr (6, [.ref (ad 12), .int 0, .int 0, .int 0, .int 0]))] s.heap.size = A at hD ⊢
  have hA : ∀ q : Nat, s.heap.size ≤ q → A q := fun q h => by rw [← hAe]; exact Or.inr h
  have hw : Wd dC dI A s.heap s.heap [] [(av0, .inr (11, [.ref (ad 0), .ref (ad 1), .ref (ad 2), .ref (ad 3), .ref (ad 4), .ref (ad 5), .ref (ad 6), .ref (ad 7), .ref (ad 8), .ref (ad 9), .ref (ad 10), .ref (ad 11), .int 0])), ((ad 0), .inr (6, [.ref (ad 12), .int 0, .int 0, .int 0, .int 0]))] := ⟨hP, hD, va_S.rf⟩
  have hl := lv_entry ([.ref av0, .int 0]) (n := 2) (Nat.le_of_ble_eq_true rfl)
  rw [lg_entry_eq]
  generalize (lg_sl ([.ref av0, .int 0]) ++ List.replicate (2 - (lg_sl ([.ref av0, .int 0])).length) Slot.unset).toArray = ls at hl ⊢
  have hl : lv_has ls 2 [(0, .ref av0), (1, .int 0)] := hl
  have hinX11 : ∀ w ∈ u_ws RX11 TX11 13, w ∈ wsX11_end := fun _ h => List.mem_cons_of_mem _ (List.mem_append_left _ (List.mem_append_right _ (h)))
  have hinX6 : ∀ w ∈ u_ws RX6 TX6 5, w ∈ wsX11_end := fun _ h => List.mem_cons_of_mem _ (List.mem_append_right _ (h))
  refine lv_iload_n hx hb dX11_end_0 rfl (lv_at hl 1 rfl) ?_
  refine lv_if_lt (tgt := 15) hx hb dX11_end_1 (by decide) (fun c => absurd c (by decide)) (fun _ => ?_)
  refine lv_iload_n hx hb dX11_end_4 rfl (lv_at hl 1 rfl) ?_
  refine lv_aload_n hx hb dX11_end_5 rfl (lv_at hl 0 rfl) ?_
  refine wk_get hC hK hw hinX11 0 rfl rfl 0 (by decide) (List.mem_of_getElem? (i := 1) rfl) rfl rfl dX11_end_6 ?_
  refine wk_get hC hK hw hinX6 1 rfl rfl 2 (by decide) (List.mem_of_getElem? (i := 2) rfl) rfl rfl dX11_end_9 ?_
  refine lv_icmp_le (tgt := 17) hx hb dX11_end_12 (by decide) (fun _ => ?_) (fun c => absurd (by decide) c)
  refine lv_aload_n hx hb dX11_end_17 rfl (lv_at hl 0 rfl) ?_
  refine wk_get hC hK hw hinX11 0 rfl rfl 0 (by decide) (List.mem_of_getElem? (i := 1) rfl) rfl rfl dX11_end_18 ?_
  refine lv_iload_n hx hb dX11_end_21 rfl (lv_at hl 1 rfl) ?_
  refine wk_put hC hK hw hinX6 tyX6_ok nmX6 1 rfl rfl 2 (by decide) (List.mem_of_getElem? (i := 2) rfl) rfl rfl rfl rfl rfl (Nat.le_of_ble_eq_true rfl) dX11_end_22 (fun H locs hw => ?_)
  have hw : Wd dC dI A s.heap H locs [(av0, .inr (11, [.ref (ad 0), .ref (ad 1), .ref (ad 2), .ref (ad 3), .ref (ad 4), .ref (ad 5), .ref (ad 6), .ref (ad 7), .ref (ad 8), .ref (ad 9), .ref (ad 10), .ref (ad 11), .int 0])), ((ad 0), .inr (6, [.ref (ad 12), .int 0, .int 0, .int 0, .int 0]))] := hw
  refine lv_iload_n hx hb dX11_end_25 rfl (lv_at hl 1 rfl) ?_
  exact wk_iret (v := 0) hC hr hlocks hK ((fun _ => 0), (fun _ _ => 0)) rfl [0, 1] rfl rfl hw dX11_end_26

set_option maxHeartbeats 4000000 in
set_option maxRecDepth 100000 in
theorem t_X11_end_2 (l : Launch) (dC : Nat → ClassId) (dI : Nat → Nat → Nat) (cy : Nat → ClassId) (av0 : Nat) (ad : Nat → Nat) (p0 : Int32) (sz : Nat) (hp : 1 ≤ p0.toInt) : Met l yX11_end wsX11_end ({ frames := 0, cells := 0, slots := 0, locals := 0 }) (va_Pc [.ref av0, .int p0] (wpre dC dI cy sz [(av0, .inr (11, [.ref (ad 0), .ref (ad 1), .ref (ad 2), .ref (ad 3), .ref (ad 4), .ref (ad 5), .ref (ad 6), .ref (ad 7), .ref (ad 8), .ref (ad 9), .ref (ad 10), .ref (ad 11), .int 0])), ((ad 0), .inr (6, [.ref (ad 12), .int 0, .int 0, .int 0, .int 0]))])) (va_Qi (fun (r : Int32) (_ : ((Nat → Nat) × (Nat → Nat → Int32))) => r = (-1)) (fun u => wpost dC dI cy (va_A [(av0, .inr (11, [.ref (ad 0), .ref (ad 1), .ref (ad 2), .ref (ad 3), .ref (ad 4), .ref (ad 5), .ref (ad 6), .ref (ad 7), .ref (ad 8), .ref (ad 9), .ref (ad 10), .ref (ad 11), .int 0])), ((ad 0), .inr (6, [.ref (ad 12), .int 0, .int 0, .int 0, .int 0]))] sz) [(av0, .inr (11, [.ref (ad 0), .ref (ad 1), .ref (ad 2), .ref (ad 3), .ref (ad 4), .ref (ad 5), .ref (ad 6), .ref (ad 7), .ref (ad 8), .ref (ad 9), .ref (ad 10), .ref (ad 11), .int 0])), ((ad 0), .inr (6, [.ref (ad 12), .int 0, .int 0, .int 0, .int 0]))]) (va_A [(av0, .inr (11, [.ref (ad 0), .ref (ad 1), .ref (ad 2), .ref (ad 3), .ref (ad 4), .ref (ad 5), .ref (ad 6), .ref (ad 7), .ref (ad 8), .ref (ad 9), .ref (ad 10), .ref (ad 11), .int 0])), ((ad 0), .inr (6, [.ref (ad 12), .int 0, .int 0, .int 0, .int 0]))] sz)) 0 0 (va_A [(av0, .inr (11, [.ref (ad 0), .ref (ad 1), .ref (ad 2), .ref (ad 3), .ref (ad 4), .ref (ad 5), .ref (ad 6), .ref (ad 7), .ref (ad 8), .ref (ad 9), .ref (ad 10), .ref (ad 11), .int 0])), ((ad 0), .inr (6, [.ref (ad 12), .int 0, .int 0, .int 0, .int 0]))] sz) := by
  refine Met.ofW (cc := cX11_end) (maxL := 2) (ret := (some .int)) (by decide) rfl ?_
  intro p e s m args below meth c s₁ B hml hv
  obtain ⟨rfl, hsz, hP, hK, hD0⟩ := hv
  have hx := B.exec
  have hb := B.bytes
  have hr := B.returns
  have hlocks := B.notSynchronized
  have hC : CallFix p m c cX11_end 2 s _ wsX11_end RX11 := ⟨hx, hb, hml, findClass_of_methodNamed B.named, atoms_spec (ws := wsX11_end) B.pre⟩
  subst hsz
  have hD := hD0.self (sz := s.heap.size)
  generalize hAe : va_A [(av0, .inr (11, [.ref (ad 0), .ref (ad 1), .ref (ad 2), .ref (ad 3), .ref (ad 4), .ref (ad 5), .ref (ad 6), .ref (ad 7), .ref (ad 8), .ref (ad 9), .ref (ad 10), .ref (ad 11), .int 0])), ((ad 0), .inr (6, [.ref (ad 12), .int 0, .int 0, .int 0, .int 0]))] s.heap.size = A at hD ⊢
  have hA : ∀ q : Nat, s.heap.size ≤ q → A q := fun q h => by rw [← hAe]; exact Or.inr h
  have hw : Wd dC dI A s.heap s.heap [] [(av0, .inr (11, [.ref (ad 0), .ref (ad 1), .ref (ad 2), .ref (ad 3), .ref (ad 4), .ref (ad 5), .ref (ad 6), .ref (ad 7), .ref (ad 8), .ref (ad 9), .ref (ad 10), .ref (ad 11), .int 0])), ((ad 0), .inr (6, [.ref (ad 12), .int 0, .int 0, .int 0, .int 0]))] := ⟨hP, hD, va_S.rf⟩
  have hl := lv_entry ([.ref av0, .int p0]) (n := 2) (Nat.le_of_ble_eq_true rfl)
  rw [lg_entry_eq]
  generalize (lg_sl ([.ref av0, .int p0]) ++ List.replicate (2 - (lg_sl ([.ref av0, .int p0])).length) Slot.unset).toArray = ls at hl ⊢
  have hl : lv_has ls 2 [(0, .ref av0), (1, .int p0)] := hl
  have hinX11 : ∀ w ∈ u_ws RX11 TX11 13, w ∈ wsX11_end := fun _ h => List.mem_cons_of_mem _ (List.mem_append_left _ (List.mem_append_right _ (h)))
  have hinX6 : ∀ w ∈ u_ws RX6 TX6 5, w ∈ wsX11_end := fun _ h => List.mem_cons_of_mem _ (List.mem_append_right _ (h))
  refine lv_iload_n hx hb dX11_end_0 rfl (lv_at hl 1 rfl) ?_
  refine lv_if_lt (tgt := 15) hx hb dX11_end_1 (by decide) (fun c => absurd c (fun h => absurd (show p0.toInt < 0 from wk_lt.mp h) (by omega))) (fun _ => ?_)
  refine lv_iload_n hx hb dX11_end_4 rfl (lv_at hl 1 rfl) ?_
  refine lv_aload_n hx hb dX11_end_5 rfl (lv_at hl 0 rfl) ?_
  refine wk_get hC hK hw hinX11 0 rfl rfl 0 (by decide) (List.mem_of_getElem? (i := 1) rfl) rfl rfl dX11_end_6 ?_
  refine wk_get hC hK hw hinX6 1 rfl rfl 2 (by decide) (List.mem_of_getElem? (i := 2) rfl) rfl rfl dX11_end_9 ?_
  refine lv_icmp_le (tgt := 17) hx hb dX11_end_12 (by decide) (fun c => absurd c (fun h => absurd (show p0.toInt ≤ 0 from wk_le.mp h) (by omega))) (fun _ => ?_)
  refine lv_iconst (v := (-1)) hx hb dX11_end_15 (by decide) ?_
  exact wk_iret (v := (-1)) hC hr hlocks hK ((fun _ => 0), (fun _ _ => 0)) rfl [0, 1] rfl rfl hw dX11_end_16

set_option maxHeartbeats 4000000 in
set_option maxRecDepth 100000 in
theorem c_X6_startReading_1 (l : Launch) (dC : Nat → ClassId) (dI : Nat → Nat → Nat) (cy : Nat → ClassId) (av0 : Nat) (av1 : Nat) (sz : Nat)  : Met l yX6_startReading wsX6_startReading ({ frames := 0, cells := 0, slots := 0, locals := 0 }) (va_Pc [.ref av0] (wpre dC dI cy sz [(av0, .inr (6, [.ref av1, .int 0, .int 0, .int 0, .int 0]))])) (va_Qv (fun _ : ((Nat → Nat) × (Nat → Nat → Int32)) => True) (fun u => wpost dC dI cy (va_A [(av0, .inr (6, [.ref av1, .int 0, .int 0, .int 0, .int 0]))] sz) [(av0, .inr (6, [.ref av1, .int 0, .int 0, .int 0, .int 0]))]) (va_A [(av0, .inr (6, [.ref av1, .int 0, .int 0, .int 0, .int 0]))] sz)) 0 0 (va_A [(av0, .inr (6, [.ref av1, .int 0, .int 0, .int 0, .int 0]))] sz) := by
  refine Met.ofW (cc := cX6_startReading) (maxL := 1) (ret := none) (by decide) rfl ?_
  intro p e s m args below meth c s₁ B hml hv
  obtain ⟨rfl, hsz, hP, hK, hD0⟩ := hv
  have hx := B.exec
  have hb := B.bytes
  have hr := B.returns
  have hlocks := B.notSynchronized
  have hC : CallFix p m c cX6_startReading 1 s _ wsX6_startReading RX6 := ⟨hx, hb, hml, findClass_of_methodNamed B.named, atoms_spec (ws := wsX6_startReading) B.pre⟩
  subst hsz
  have hD := hD0.self (sz := s.heap.size)
  generalize hAe : va_A [(av0, .inr (6, [.ref av1, .int 0, .int 0, .int 0, .int 0]))] s.heap.size = A at hD ⊢
  have hA : ∀ q : Nat, s.heap.size ≤ q → A q := fun q h => by rw [← hAe]; exact Or.inr h
  have hw : Wd dC dI A s.heap s.heap [] [(av0, .inr (6, [.ref av1, .int 0, .int 0, .int 0, .int 0]))] := ⟨hP, hD, va_S.rf⟩
  have hl := lv_entry ([.ref av0]) (n := 1) (Nat.le_of_ble_eq_true rfl)
  rw [lg_entry_eq]
  generalize (lg_sl ([.ref av0]) ++ List.replicate (1 - (lg_sl ([.ref av0])).length) Slot.unset).toArray = ls at hl ⊢
  have hl : lv_has ls 1 [(0, .ref av0)] := hl
  have hinX6 : ∀ w ∈ u_ws RX6 TX6 5, w ∈ wsX6_startReading := fun _ h => List.mem_cons_of_mem _ (List.mem_append_right _ (h))
  refine lv_aload_n hx hb dX6_startReading_0 rfl (lv_at hl 0 rfl) ?_
  refine lv_iconst (v := 0) hx hb dX6_startReading_1 (by decide) ?_
  refine wk_put hC hK hw hinX6 tyX6_ok nmX6 0 rfl rfl 1 (by decide) (List.mem_of_getElem? (i := 1) rfl) rfl rfl rfl rfl rfl (Nat.le_of_ble_eq_true rfl) dX6_startReading_2 (fun H locs hw => ?_)
  have hw : Wd dC dI A s.heap H locs [(av0, .inr (6, [.ref av1, .int 0, .int 0, .int 0, .int 0]))] := hw
  refine lv_aload_n hx hb dX6_startReading_5 rfl (lv_at hl 0 rfl) ?_
  refine lv_iconst (v := 0) hx hb dX6_startReading_6 (by decide) ?_
  refine wk_put hC hK hw hinX6 tyX6_ok nmX6 0 rfl rfl 3 (by decide) (List.mem_of_getElem? (i := 2) rfl) rfl rfl rfl rfl rfl (Nat.le_of_ble_eq_true rfl) dX6_startReading_7 (fun H locs hw => ?_)
  have hw : Wd dC dI A s.heap H locs [(av0, .inr (6, [.ref av1, .int 0, .int 0, .int 0, .int 0]))] := hw
  refine lv_aload_n hx hb dX6_startReading_10 rfl (lv_at hl 0 rfl) ?_
  refine lv_iconst (v := 0) hx hb dX6_startReading_11 (by decide) ?_
  refine wk_put hC hK hw hinX6 tyX6_ok nmX6 0 rfl rfl 4 (by decide) (List.mem_of_getElem? (i := 3) rfl) rfl rfl rfl rfl rfl (Nat.le_of_ble_eq_true rfl) dX6_startReading_12 (fun H locs hw => ?_)
  have hw : Wd dC dI A s.heap H locs [(av0, .inr (6, [.ref av1, .int 0, .int 0, .int 0, .int 0]))] := hw
  exact wk_vret hC hr hlocks hK ((fun _ => 0), (fun _ _ => 0)) trivial [0] rfl rfl hw dX6_startReading_15

set_option maxHeartbeats 4000000 in
set_option maxRecDepth 100000 in
theorem c_X6_lookBehindBlanks_1 (l : Launch) (dC : Nat → ClassId) (dI : Nat → Nat → Nat) (cy : Nat → ClassId) (av0 : Nat) (av1 : Nat) (sz : Nat)  : Met l yX6_lookBehindBlanks wsX6_lookBehindBlanks ({ frames := 0, cells := 0, slots := 0, locals := 0 }) (va_Pc [.ref av0] (wpre dC dI cy sz [(av0, .inr (6, [.ref av1, .int 0, .int 0, .int 0, .int 0]))])) (va_Qi (fun (r : Int32) (_ : ((Nat → Nat) × (Nat → Nat → Int32))) => r = (-1)) (fun u => wpost dC dI cy (va_A [(av0, .inr (6, [.ref av1, .int 0, .int 0, .int 0, .int 0]))] sz) [(av0, .inr (6, [.ref av1, .int 0, .int 0, .int 0, .int 0]))]) (va_A [(av0, .inr (6, [.ref av1, .int 0, .int 0, .int 0, .int 0]))] sz)) 0 0 (va_A [(av0, .inr (6, [.ref av1, .int 0, .int 0, .int 0, .int 0]))] sz) := by
  refine Met.ofW (cc := cX6_lookBehindBlanks) (maxL := 1) (ret := (some .int)) (by decide) rfl ?_
  intro p e s m args below meth c s₁ B hml hv
  obtain ⟨rfl, hsz, hP, hK, hD0⟩ := hv
  have hx := B.exec
  have hb := B.bytes
  have hr := B.returns
  have hlocks := B.notSynchronized
  have hC : CallFix p m c cX6_lookBehindBlanks 1 s _ wsX6_lookBehindBlanks RX6 := ⟨hx, hb, hml, findClass_of_methodNamed B.named, atoms_spec (ws := wsX6_lookBehindBlanks) B.pre⟩
  subst hsz
  have hD := hD0.self (sz := s.heap.size)
  generalize hAe : va_A [(av0, .inr (6, [.ref av1, .int 0, .int 0, .int 0, .int 0]))] s.heap.size = A at hD ⊢
  have hA : ∀ q : Nat, s.heap.size ≤ q → A q := fun q h => by rw [← hAe]; exact Or.inr h
  have hw : Wd dC dI A s.heap s.heap [] [(av0, .inr (6, [.ref av1, .int 0, .int 0, .int 0, .int 0]))] := ⟨hP, hD, va_S.rf⟩
  have hl := lv_entry ([.ref av0]) (n := 1) (Nat.le_of_ble_eq_true rfl)
  rw [lg_entry_eq]
  generalize (lg_sl ([.ref av0]) ++ List.replicate (1 - (lg_sl ([.ref av0])).length) Slot.unset).toArray = ls at hl ⊢
  have hl : lv_has ls 1 [(0, .ref av0)] := hl
  have hinX6 : ∀ w ∈ u_ws RX6 TX6 5, w ∈ wsX6_lookBehindBlanks := fun _ h => List.mem_cons_of_mem _ (List.mem_append_right _ (h))
  refine lv_aload_n hx hb dX6_lookBehindBlanks_0 rfl (lv_at hl 0 rfl) ?_
  refine wk_get hC hK hw hinX6 0 rfl rfl 1 (by decide) (List.mem_of_getElem? (i := 1) rfl) rfl rfl dX6_lookBehindBlanks_1 ?_
  refine lv_aload_n hx hb dX6_lookBehindBlanks_4 rfl (lv_at hl 0 rfl) ?_
  refine wk_get hC hK hw hinX6 0 rfl rfl 2 (by decide) (List.mem_of_getElem? (i := 2) rfl) rfl rfl dX6_lookBehindBlanks_5 ?_
  refine lv_icmp_ge (tgt := 38) hx hb dX6_lookBehindBlanks_8 (by decide) (fun _ => ?_) (fun c => absurd (by decide) c)
  refine lv_aload_n hx hb dX6_lookBehindBlanks_38 rfl (lv_at hl 0 rfl) ?_
  refine lv_aload_n hx hb dX6_lookBehindBlanks_39 rfl (lv_at hl 0 rfl) ?_
  refine wk_get hC hK hw hinX6 0 rfl rfl 1 (by decide) (List.mem_of_getElem? (i := 1) rfl) rfl rfl dX6_lookBehindBlanks_40 ?_
  refine wk_put hC hK hw hinX6 tyX6_ok nmX6 0 rfl rfl 3 (by decide) (List.mem_of_getElem? (i := 4) rfl) rfl rfl rfl rfl rfl (Nat.le_of_ble_eq_true rfl) dX6_lookBehindBlanks_43 (fun H locs hw => ?_)
  have hw : Wd dC dI A s.heap H locs [(av0, .inr (6, [.ref av1, .int 0, .int 0, .int 0, .int 0]))] := hw
  refine lv_aload_n hx hb dX6_lookBehindBlanks_46 rfl (lv_at hl 0 rfl) ?_
  refine wk_get hC hK hw hinX6 0 rfl rfl 1 (by decide) (List.mem_of_getElem? (i := 1) rfl) rfl rfl dX6_lookBehindBlanks_47 ?_
  refine lv_aload_n hx hb dX6_lookBehindBlanks_50 rfl (lv_at hl 0 rfl) ?_
  refine wk_get hC hK hw hinX6 0 rfl rfl 2 (by decide) (List.mem_of_getElem? (i := 2) rfl) rfl rfl dX6_lookBehindBlanks_51 ?_
  refine lv_icmp_ge (tgt := 69) hx hb dX6_lookBehindBlanks_54 (by decide) (fun _ => ?_) (fun c => absurd (by decide) c)
  refine lv_iconst (v := (-1)) hx hb dX6_lookBehindBlanks_69 (by decide) ?_
  exact wk_iret (v := (-1)) hC hr hlocks hK ((fun _ => 0), (fun _ _ => 0)) rfl [0] rfl rfl hw dX6_lookBehindBlanks_70

set_option maxHeartbeats 4000000 in
set_option maxRecDepth 100000 in
theorem c_X6_endOfWord_1 (l : Launch) (dC : Nat → ClassId) (dI : Nat → Nat → Nat) (cy : Nat → ClassId) (av0 : Nat) (av1 : Nat) (sz : Nat)  : Met l yX6_endOfWord wsX6_endOfWord ({ frames := 0, cells := 0, slots := 0, locals := 0 }) (va_Pc [.ref av0] (wpre dC dI cy sz [(av0, .inr (6, [.ref av1, .int 0, .int 0, .int 0, .int 0]))])) (va_Qi (fun (r : Int32) (_ : ((Nat → Nat) × (Nat → Nat → Int32))) => r = 0) (fun u => wpost dC dI cy (va_A [(av0, .inr (6, [.ref av1, .int 0, .int 0, .int 0, .int 0]))] sz) [(av0, .inr (6, [.ref av1, .int 0, .int 0, .int 0, .int 0]))]) (va_A [(av0, .inr (6, [.ref av1, .int 0, .int 0, .int 0, .int 0]))] sz)) 0 0 (va_A [(av0, .inr (6, [.ref av1, .int 0, .int 0, .int 0, .int 0]))] sz) := by
  refine Met.ofW (cc := cX6_endOfWord) (maxL := 2) (ret := (some .int)) (by decide) rfl ?_
  intro p e s m args below meth c s₁ B hml hv
  obtain ⟨rfl, hsz, hP, hK, hD0⟩ := hv
  have hx := B.exec
  have hb := B.bytes
  have hr := B.returns
  have hlocks := B.notSynchronized
  have hC : CallFix p m c cX6_endOfWord 2 s _ wsX6_endOfWord RX6 := ⟨hx, hb, hml, findClass_of_methodNamed B.named, atoms_spec (ws := wsX6_endOfWord) B.pre⟩
  subst hsz
  have hD := hD0.self (sz := s.heap.size)
  generalize hAe : va_A [(av0, .inr (6, [.ref av1, .int 0, .int 0, .int 0, .int 0]))] s.heap.size = A at hD ⊢
  have hA : ∀ q : Nat, s.heap.size ≤ q → A q := fun q h => by rw [← hAe]; exact Or.inr h
  have hw : Wd dC dI A s.heap s.heap [] [(av0, .inr (6, [.ref av1, .int 0, .int 0, .int 0, .int 0]))] := ⟨hP, hD, va_S.rf⟩
  have hl := lv_entry ([.ref av0]) (n := 2) (Nat.le_of_ble_eq_true rfl)
  rw [lg_entry_eq]
  generalize (lg_sl ([.ref av0]) ++ List.replicate (2 - (lg_sl ([.ref av0])).length) Slot.unset).toArray = ls at hl ⊢
  have hl : lv_has ls 2 [(0, .ref av0)] := hl
  have hinX6 : ∀ w ∈ u_ws RX6 TX6 5, w ∈ wsX6_endOfWord := fun _ h => List.mem_cons_of_mem _ (List.mem_append_right _ (h))
  refine lv_aload_n hx hb dX6_endOfWord_0 rfl (lv_at hl 0 rfl) ?_
  refine wk_get hC hK hw hinX6 0 rfl rfl 1 (by decide) (List.mem_of_getElem? (i := 1) rfl) rfl rfl dX6_endOfWord_1 ?_
  refine lv_istore_n (lv' := [(1, .int 0), (0, .ref av0)]) hx hb dX6_endOfWord_4 rfl hl (by decide) rfl (fun ls hl => ?_)
  refine lv_iload_n hx hb dX6_endOfWord_5 rfl (lv_at hl 0 rfl) ?_
  refine lv_aload_n hx hb dX6_endOfWord_6 rfl (lv_at hl 1 rfl) ?_
  refine wk_get hC hK hw hinX6 0 rfl rfl 2 (by decide) (List.mem_of_getElem? (i := 2) rfl) rfl rfl dX6_endOfWord_7 ?_
  refine lv_icmp_ge (tgt := 41) hx hb dX6_endOfWord_10 (by decide) (fun _ => ?_) (fun c => absurd (by decide) c)
  refine lv_iload_n hx hb dX6_endOfWord_41 rfl (lv_at hl 0 rfl) ?_
  exact wk_iret (v := 0) hC hr hlocks hK ((fun _ => 0), (fun _ _ => 0)) rfl [0] rfl rfl hw dX6_endOfWord_42

set_option maxHeartbeats 4000000 in
set_option maxRecDepth 100000 in
theorem c_X6_blame_1 (l : Launch) (dC : Nat → ClassId) (dI : Nat → Nat → Nat) (cy : Nat → ClassId) (av0 : Nat) (av1 : Nat) (sz : Nat)  : Met l yX6_blame wsX6_blame ({ frames := 0, cells := 0, slots := 0, locals := 0 }) (va_Pc [.ref av0, .int 0, .int 0] (wpre dC dI cy sz [(av0, .inr (6, [.ref av1, .int 0, .int 0, .int 0, .int 0]))])) (va_Qv (fun _ : ((Nat → Nat) × (Nat → Nat → Int32)) => True) (fun u => wpost dC dI cy (va_A [(av0, .inr (6, [.ref av1, .int 0, .int 0, .int 0, .int 0]))] sz) [(av0, .inr (6, [.ref av1, .int 0, .int 0, .int 0, .int 1]))]) (va_A [(av0, .inr (6, [.ref av1, .int 0, .int 0, .int 0, .int 0]))] sz)) 0 0 (va_A [(av0, .inr (6, [.ref av1, .int 0, .int 0, .int 0, .int 0]))] sz) := by
  refine Met.ofW (cc := cX6_blame) (maxL := 3) (ret := none) (by decide) rfl ?_
  intro p e s m args below meth c s₁ B hml hv
  obtain ⟨rfl, hsz, hP, hK, hD0⟩ := hv
  have hx := B.exec
  have hb := B.bytes
  have hr := B.returns
  have hlocks := B.notSynchronized
  have hC : CallFix p m c cX6_blame 3 s _ wsX6_blame RX6 := ⟨hx, hb, hml, findClass_of_methodNamed B.named, atoms_spec (ws := wsX6_blame) B.pre⟩
  subst hsz
  have hD := hD0.self (sz := s.heap.size)
  generalize hAe : va_A [(av0, .inr (6, [.ref av1, .int 0, .int 0, .int 0, .int 0]))] s.heap.size = A at hD ⊢
  have hA : ∀ q : Nat, s.heap.size ≤ q → A q := fun q h => by rw [← hAe]; exact Or.inr h
  have hw : Wd dC dI A s.heap s.heap [] [(av0, .inr (6, [.ref av1, .int 0, .int 0, .int 0, .int 0]))] := ⟨hP, hD, va_S.rf⟩
  have hl := lv_entry ([.ref av0, .int 0, .int 0]) (n := 3) (Nat.le_of_ble_eq_true rfl)
  rw [lg_entry_eq]
  generalize (lg_sl ([.ref av0, .int 0, .int 0]) ++ List.replicate (3 - (lg_sl ([.ref av0, .int 0, .int 0])).length) Slot.unset).toArray = ls at hl ⊢
  have hl : lv_has ls 3 [(0, .ref av0), (1, .int 0), (2, .int 0)] := hl
  have hinX6 : ∀ w ∈ u_ws RX6 TX6 5, w ∈ wsX6_blame := fun _ h => List.mem_cons_of_mem _ (List.mem_append_right _ (h))
  refine lv_aload_n hx hb dX6_blame_0 rfl (lv_at hl 0 rfl) ?_
  refine wk_get hC hK hw hinX6 0 rfl rfl 4 (by decide) (List.mem_of_getElem? (i := 1) rfl) rfl rfl dX6_blame_1 ?_
  refine lv_if_ne (tgt := 19) hx hb dX6_blame_4 (by decide) (fun c => absurd (by decide) c) (fun _ => ?_)
  refine lv_aload_n hx hb dX6_blame_7 rfl (lv_at hl 0 rfl) ?_
  refine lv_iconst (v := 1) hx hb dX6_blame_8 (by decide) ?_
  refine lv_bipush (v := 8) hx hb dX6_blame_9 (by decide) ?_
  refine lv_iload_n hx hb dX6_blame_11 rfl (lv_at hl 1 rfl) ?_
  refine lv_imul hx hb dX6_blame_12 ?_
  refine wk_top 0 (by decide) ?_
  refine lv_iadd hx hb dX6_blame_13 ?_
  refine wk_top 1 (by decide) ?_
  refine lv_iload_n hx hb dX6_blame_14 rfl (lv_at hl 2 rfl) ?_
  refine lv_iadd hx hb dX6_blame_15 ?_
  refine wk_top 1 (by decide) ?_
  refine wk_put hC hK hw hinX6 tyX6_ok nmX6 0 rfl rfl 4 (by decide) (List.mem_of_getElem? (i := 1) rfl) rfl rfl rfl rfl rfl (Nat.le_of_ble_eq_true rfl) dX6_blame_16 (fun H locs hw => ?_)
  have hw : Wd dC dI A s.heap H locs [(av0, .inr (6, [.ref av1, .int 0, .int 0, .int 0, .int 1]))] := hw
  exact wk_vret hC hr hlocks hK ((fun _ => 0), (fun _ _ => 0)) trivial [0] rfl rfl hw dX6_blame_19

set_option maxHeartbeats 4000000 in
set_option maxRecDepth 100000 in
theorem c_X6_readWord_1 (l : Launch) (adK adV : Nat → Nat) (dC : Nat → ClassId) (dI : Nat → Nat → Nat) (cy : Nat → ClassId) (av0 : Nat) (av1 : Nat) (sz : Nat)  : Met l yX6_readWord wsX6_readWord ({ frames := 5, cells := 0, slots := 0, locals := 141 }) (va_Pc [.ref av0, .ref (adK 0)] (wpreS adK adV dC dI cy sz [(av0, .inr (6, [.ref av1, .int 0, .int 0, .int 0, .int 0]))])) (va_Qi (fun (r : Int32) (_ : ((Nat → Nat) × (Nat → Nat → Int32))) => r = (-1)) (fun u => wpost dC dI cy (va_A [(av0, .inr (6, [.ref av1, .int 0, .int 0, .int 0, .int 0]))] sz) [(av0, .inr (6, [.ref av1, .int 0, .int 0, .int 0, .int 1]))]) (va_A [(av0, .inr (6, [.ref av1, .int 0, .int 0, .int 0, .int 0]))] sz)) 0 0 (va_A [(av0, .inr (6, [.ref av1, .int 0, .int 0, .int 0, .int 0]))] sz) := by
  refine Met.ofW (cc := cX6_readWord) (maxL := 8) (ret := (some .int)) (by decide) rfl ?_
  intro p e s m args below meth c s₁ B hml hv
  obtain ⟨rfl, ⟨hsz, hP, hK, hD0⟩, hE, hSR⟩ := hv
  have hx := B.exec
  have hb := B.bytes
  have hr := B.returns
  have hlocks := B.notSynchronized
  have hC : CallFix p m c cX6_readWord 8 s _ wsX6_readWord RX6 := ⟨hx, hb, hml, findClass_of_methodNamed B.named, atoms_spec (ws := wsX6_readWord) B.pre⟩
  subst hsz
  have hD := hD0.self (sz := s.heap.size)
  generalize hAe : va_A [(av0, .inr (6, [.ref av1, .int 0, .int 0, .int 0, .int 0]))] s.heap.size = A at hD hE ⊢
  have hA : ∀ q : Nat, s.heap.size ≤ q → A q := fun q h => by rw [← hAe]; exact Or.inr h
  have hw : Wd dC dI A s.heap s.heap [] [(av0, .inr (6, [.ref av1, .int 0, .int 0, .int 0, .int 0]))] := ⟨hP, hD, va_S.rf⟩
  have hl := lv_entry ([.ref av0, .ref (adK 0)]) (n := 8) (Nat.le_of_ble_eq_true rfl)
  rw [lg_entry_eq]
  generalize (lg_sl ([.ref av0, .ref (adK 0)]) ++ List.replicate (8 - (lg_sl ([.ref av0, .ref (adK 0)])).length) Slot.unset).toArray = ls at hl ⊢
  have hl : lv_has ls 8 [(0, .ref av0), (1, .ref (adK 0))] := hl
  have hinX6 : ∀ w ∈ u_ws RX6 TX6 5, w ∈ wsX6_readWord := fun _ h => List.mem_cons_of_mem _ (List.mem_append_right _ (h))
  refine lv_aload_n hx hb dX6_readWord_0 rfl (lv_at hl 0 rfl) ?_
  refine wk_Vi hC hK hw hA [0] [] rfl rfl rfl rfl (by decide) (c_X6_lookBehindBlanks_1 l dC dI cy av0 av1 s.heap.size ) (cwV 0 hC.2.2.2.2 gX6_readWord_X6_lookBehindBlanks rfl rfl rfl (by decide +kernel) ⟨Nat.le_of_ble_eq_true rfl, Nat.le_of_ble_eq_true rfl⟩) rfl 0 rfl rfl hl.1 rfl (Nat.le_of_ble_eq_true rfl) dX6_readWord_1 0 0 ⟨rfl, rfl⟩ ⟨Nat.le_of_ble_eq_true rfl, Nat.le_of_ble_eq_true rfl⟩ (fun r2 u1 H locs hp3 hw => ?_)
  have hw : Wd dC dI A s.heap H locs [(av0, .inr (6, [.ref av1, .int 0, .int 0, .int 0, .int 0]))] := hw
  obtain rfl : r2 = (-1) := hp3
  refine lv_pop hx hb dX6_readWord_4 rfl ?_
  refine lv_aload_n hx hb dX6_readWord_5 rfl (lv_at hl 0 rfl) ?_
  refine wk_Vi hC hK hw hA [0] [] rfl rfl rfl rfl (by decide) (c_X6_endOfWord_1 l dC dI cy av0 av1 H.size ) (cwV 0 hC.2.2.2.2 gX6_readWord_X6_endOfWord rfl rfl rfl (by decide +kernel) ⟨Nat.le_of_ble_eq_true rfl, Nat.le_of_ble_eq_true rfl⟩) rfl 0 rfl rfl hl.1 rfl (Nat.le_of_ble_eq_true rfl) dX6_readWord_6 0 0 ⟨rfl, rfl⟩ ⟨Nat.le_of_ble_eq_true rfl, Nat.le_of_ble_eq_true rfl⟩ (fun r5 u4 H locs hp6 hw => ?_)
  have hw : Wd dC dI A s.heap H locs [(av0, .inr (6, [.ref av1, .int 0, .int 0, .int 0, .int 0]))] := hw
  obtain rfl : r5 = 0 := hp6
  refine lv_istore_n (lv' := [(2, .int 0), (0, .ref av0), (1, .ref (adK 0))]) hx hb dX6_readWord_9 rfl hl (by decide) rfl (fun ls hl => ?_)
  refine lv_iconst (v := 0) hx hb dX6_readWord_10 (by decide) ?_
  refine lv_istore_n (lv' := [(3, .int 0), (2, .int 0), (0, .ref av0), (1, .ref (adK 0))]) hx hb dX6_readWord_11 rfl hl (by decide) rfl (fun ls hl => ?_)
  refine lv_aload_n hx hb dX6_readWord_12 rfl (lv_at hl 2 rfl) ?_
  refine wk_get hC hK hw hinX6 0 rfl rfl 1 (by decide) (List.mem_of_getElem? (i := 1) rfl) rfl rfl dX6_readWord_13 ?_
  refine lv_istore (lv' := [(4, .int 0), (3, .int 0), (2, .int 0), (0, .ref av0), (1, .ref (adK 0))]) hx hb dX6_readWord_16 hl (by decide) rfl (fun ls hl => ?_)
  refine lv_iconst (v := 1) hx hb dX6_readWord_18 (by decide) ?_
  refine lv_istore (lv' := [(5, .int 1), (4, .int 0), (3, .int 0), (2, .int 0), (0, .ref av0), (1, .ref (adK 0))]) hx hb dX6_readWord_19 hl (by decide) rfl (fun ls hl => ?_)
  refine lv_iconst (v := 0) hx hb dX6_readWord_21 (by decide) ?_
  refine lv_istore (lv' := [(6, .int 0), (5, .int 1), (4, .int 0), (3, .int 0), (2, .int 0), (0, .ref av0), (1, .ref (adK 0))]) hx hb dX6_readWord_22 hl (by decide) rfl (fun ls hl => ?_)
  refine lv_iload hx hb dX6_readWord_24 (lv_at hl 0 rfl) ?_
  refine lv_aload_n hx hb dX6_readWord_26 rfl (lv_at hl 6 rfl) ?_
  refine wk_ViT hC hK hw hA hE hSR [] [0] rfl rfl rfl rfl (by decide) (s_length l adK adV dC dI cy 0 (by decide) H.size) (cwV 0 hC.2.2.2.2 gX6_readWord_J0_length_8abf5 rfl rfl rfl (by decide +kernel) ⟨Nat.le_of_ble_eq_true rfl, Nat.le_of_ble_eq_true rfl⟩) 0 (by decide) rfl rfl rfl hl.1 rfl (Nat.le_of_ble_eq_true rfl) dX6_readWord_27 0 0 ⟨rfl, rfl⟩ ⟨Nat.le_of_ble_eq_true rfl, Nat.le_of_ble_eq_true rfl⟩ (fun r8 u7 H locs hp9 hw => ?_)
  have hw : Wd dC dI A s.heap H locs [(av0, .inr (6, [.ref av1, .int 0, .int 0, .int 0, .int 0]))] := hw
  obtain rfl : r8 = 26 := hp9
  refine lv_icmp_ge (tgt := 120) hx hb dX6_readWord_30 (by decide) (fun c => absurd c (by decide)) (fun _ => ?_)
  refine lv_aload_n hx hb dX6_readWord_33 rfl (lv_at hl 6 rfl) ?_
  refine lv_iload hx hb dX6_readWord_34 (lv_at hl 0 rfl) ?_
  refine wk_ViT hC hK hw hA hE hSR [] [0] rfl rfl rfl rfl (by decide) (s_charAt l adK adV dC dI cy 0 (by decide) 0 (by decide) (by decide) H.size) (cwV 1 hC.2.2.2.2 gX6_readWord_J0_charAt_5068e rfl rfl rfl (by decide +kernel) ⟨Nat.le_of_ble_eq_true rfl, Nat.le_of_ble_eq_true rfl⟩) 0 (by decide) rfl rfl rfl hl.1 rfl (Nat.le_of_ble_eq_true rfl) dX6_readWord_36 0 0 ⟨rfl, rfl⟩ ⟨Nat.le_of_ble_eq_true rfl, Nat.le_of_ble_eq_true rfl⟩ (fun r11 u10 H locs hp12 hw => ?_)
  have hw : Wd dC dI A s.heap H locs [(av0, .inr (6, [.ref av1, .int 0, .int 0, .int 0, .int 0]))] := hw
  obtain rfl : r11 = 99 := hp12
  refine lv_istore (lv' := [(7, .int 99), (6, .int 0), (5, .int 1), (4, .int 0), (3, .int 0), (2, .int 0), (0, .ref av0), (1, .ref (adK 0))]) hx hb dX6_readWord_39 hl (by decide) rfl (fun ls hl => ?_)
  refine lv_iload hx hb dX6_readWord_41 (lv_at hl 0 rfl) ?_
  refine lv_bipush (v := 32) hx hb dX6_readWord_43 (by decide) ?_
  refine lv_icmp_eq (tgt := 84) hx hb dX6_readWord_45 (by decide) (fun c => absurd c (by decide)) (fun _ => ?_)
  refine lv_iload hx hb dX6_readWord_48 (lv_at hl 2 rfl) ?_
  refine lv_if_eq (tgt := 75) hx hb dX6_readWord_50 (by decide) (fun c => absurd c (by decide)) (fun _ => ?_)
  refine lv_iload hx hb dX6_readWord_53 (lv_at hl 3 rfl) ?_
  refine lv_iload_n hx hb dX6_readWord_55 rfl (lv_at hl 5 rfl) ?_
  refine lv_icmp_ge (tgt := 75) hx hb dX6_readWord_56 (by decide) (fun _ => ?_) (fun c => absurd (by decide) c)
  refine lv_iconst (v := 0) hx hb dX6_readWord_75 (by decide) ?_
  refine lv_istore (lv' := [(5, .int 0), (7, .int 99), (6, .int 0), (4, .int 0), (3, .int 0), (2, .int 0), (0, .ref av0), (1, .ref (adK 0))]) hx hb dX6_readWord_76 hl (by decide) rfl (fun ls hl => ?_)
  refine lv_iinc (v := 1) (lv' := [(4, .int 1), (5, .int 0), (7, .int 99), (6, .int 0), (3, .int 0), (2, .int 0), (0, .ref av0), (1, .ref (adK 0))]) hx hb dX6_readWord_78 hl (k := 3) rfl (by decide) (by decide) rfl (fun ls hl => ?_)
  refine lv_goto (tgt := 114) hx hb dX6_readWord_81 (by decide) ?_
  refine lv_iinc (v := 1) (lv' := [(6, .int 1), (4, .int 1), (5, .int 0), (7, .int 99), (3, .int 0), (2, .int 0), (0, .ref av0), (1, .ref (adK 0))]) hx hb dX6_readWord_114 hl (k := 3) rfl (by decide) (by decide) rfl (fun ls hl => ?_)
  refine lv_goto (tgt := 24) hx hb dX6_readWord_117 (by decide) ?_
  refine lv_iload hx hb dX6_readWord_24 (lv_at hl 0 rfl) ?_
  refine lv_aload_n hx hb dX6_readWord_26 rfl (lv_at hl 7 rfl) ?_
  refine wk_ViT hC hK hw hA hE hSR [] [0] rfl rfl rfl rfl (by decide) (s_length l adK adV dC dI cy 0 (by decide) H.size) (cwV 0 hC.2.2.2.2 gX6_readWord_J0_length_8abf5 rfl rfl rfl (by decide +kernel) ⟨Nat.le_of_ble_eq_true rfl, Nat.le_of_ble_eq_true rfl⟩) 0 (by decide) rfl rfl rfl hl.1 rfl (Nat.le_of_ble_eq_true rfl) dX6_readWord_27 0 0 ⟨rfl, rfl⟩ ⟨Nat.le_of_ble_eq_true rfl, Nat.le_of_ble_eq_true rfl⟩ (fun r14 u13 H locs hp15 hw => ?_)
  have hw : Wd dC dI A s.heap H locs [(av0, .inr (6, [.ref av1, .int 0, .int 0, .int 0, .int 0]))] := hw
  obtain rfl : r14 = 26 := hp15
  refine lv_icmp_ge (tgt := 120) hx hb dX6_readWord_30 (by decide) (fun c => absurd c (by decide)) (fun _ => ?_)
  refine lv_aload_n hx hb dX6_readWord_33 rfl (lv_at hl 7 rfl) ?_
  refine lv_iload hx hb dX6_readWord_34 (lv_at hl 0 rfl) ?_
  refine wk_ViT hC hK hw hA hE hSR [] [0] rfl rfl rfl rfl (by decide) (s_charAt l adK adV dC dI cy 0 (by decide) 1 (by decide) (by decide) H.size) (cwV 1 hC.2.2.2.2 gX6_readWord_J0_charAt_5068e rfl rfl rfl (by decide +kernel) ⟨Nat.le_of_ble_eq_true rfl, Nat.le_of_ble_eq_true rfl⟩) 0 (by decide) rfl rfl rfl hl.1 rfl (Nat.le_of_ble_eq_true rfl) dX6_readWord_36 0 0 ⟨rfl, rfl⟩ ⟨Nat.le_of_ble_eq_true rfl, Nat.le_of_ble_eq_true rfl⟩ (fun r17 u16 H locs hp18 hw => ?_)
  have hw : Wd dC dI A s.heap H locs [(av0, .inr (6, [.ref av1, .int 0, .int 0, .int 0, .int 0]))] := hw
  obtain rfl : r17 = 111 := hp18
  refine lv_istore (lv' := [(7, .int 111), (6, .int 1), (4, .int 1), (5, .int 0), (3, .int 0), (2, .int 0), (0, .ref av0), (1, .ref (adK 0))]) hx hb dX6_readWord_39 hl (by decide) rfl (fun ls hl => ?_)
  refine lv_iload hx hb dX6_readWord_41 (lv_at hl 0 rfl) ?_
  refine lv_bipush (v := 32) hx hb dX6_readWord_43 (by decide) ?_
  refine lv_icmp_eq (tgt := 84) hx hb dX6_readWord_45 (by decide) (fun c => absurd c (by decide)) (fun _ => ?_)
  refine lv_iload hx hb dX6_readWord_48 (lv_at hl 3 rfl) ?_
  refine lv_if_eq (tgt := 75) hx hb dX6_readWord_50 (by decide) (fun _ => ?_) (fun c => absurd (by decide) c)
  refine lv_iconst (v := 0) hx hb dX6_readWord_75 (by decide) ?_
  refine lv_istore (lv' := [(5, .int 0), (7, .int 111), (6, .int 1), (4, .int 1), (3, .int 0), (2, .int 0), (0, .ref av0), (1, .ref (adK 0))]) hx hb dX6_readWord_76 hl (by decide) rfl (fun ls hl => ?_)
  refine lv_iinc (v := 2) (lv' := [(4, .int 2), (5, .int 0), (7, .int 111), (6, .int 1), (3, .int 0), (2, .int 0), (0, .ref av0), (1, .ref (adK 0))]) hx hb dX6_readWord_78 hl (k := 3) rfl (by decide) (by decide) rfl (fun ls hl => ?_)
  refine lv_goto (tgt := 114) hx hb dX6_readWord_81 (by decide) ?_
  refine lv_iinc (v := 2) (lv' := [(6, .int 2), (4, .int 2), (5, .int 0), (7, .int 111), (3, .int 0), (2, .int 0), (0, .ref av0), (1, .ref (adK 0))]) hx hb dX6_readWord_114 hl (k := 3) rfl (by decide) (by decide) rfl (fun ls hl => ?_)
  refine lv_goto (tgt := 24) hx hb dX6_readWord_117 (by decide) ?_
  refine lv_iload hx hb dX6_readWord_24 (lv_at hl 0 rfl) ?_
  refine lv_aload_n hx hb dX6_readWord_26 rfl (lv_at hl 7 rfl) ?_
  refine wk_ViT hC hK hw hA hE hSR [] [0] rfl rfl rfl rfl (by decide) (s_length l adK adV dC dI cy 0 (by decide) H.size) (cwV 0 hC.2.2.2.2 gX6_readWord_J0_length_8abf5 rfl rfl rfl (by decide +kernel) ⟨Nat.le_of_ble_eq_true rfl, Nat.le_of_ble_eq_true rfl⟩) 0 (by decide) rfl rfl rfl hl.1 rfl (Nat.le_of_ble_eq_true rfl) dX6_readWord_27 0 0 ⟨rfl, rfl⟩ ⟨Nat.le_of_ble_eq_true rfl, Nat.le_of_ble_eq_true rfl⟩ (fun r20 u19 H locs hp21 hw => ?_)
  have hw : Wd dC dI A s.heap H locs [(av0, .inr (6, [.ref av1, .int 0, .int 0, .int 0, .int 0]))] := hw
  obtain rfl : r20 = 26 := hp21
  refine lv_icmp_ge (tgt := 120) hx hb dX6_readWord_30 (by decide) (fun c => absurd c (by decide)) (fun _ => ?_)
  refine lv_aload_n hx hb dX6_readWord_33 rfl (lv_at hl 7 rfl) ?_
  refine lv_iload hx hb dX6_readWord_34 (lv_at hl 0 rfl) ?_
  refine wk_ViT hC hK hw hA hE hSR [] [0] rfl rfl rfl rfl (by decide) (s_charAt l adK adV dC dI cy 0 (by decide) 2 (by decide) (by decide) H.size) (cwV 1 hC.2.2.2.2 gX6_readWord_J0_charAt_5068e rfl rfl rfl (by decide +kernel) ⟨Nat.le_of_ble_eq_true rfl, Nat.le_of_ble_eq_true rfl⟩) 0 (by decide) rfl rfl rfl hl.1 rfl (Nat.le_of_ble_eq_true rfl) dX6_readWord_36 0 0 ⟨rfl, rfl⟩ ⟨Nat.le_of_ble_eq_true rfl, Nat.le_of_ble_eq_true rfl⟩ (fun r23 u22 H locs hp24 hw => ?_)
  have hw : Wd dC dI A s.heap H locs [(av0, .inr (6, [.ref av1, .int 0, .int 0, .int 0, .int 0]))] := hw
  obtain rfl : r23 = 114 := hp24
  refine lv_istore (lv' := [(7, .int 114), (6, .int 2), (4, .int 2), (5, .int 0), (3, .int 0), (2, .int 0), (0, .ref av0), (1, .ref (adK 0))]) hx hb dX6_readWord_39 hl (by decide) rfl (fun ls hl => ?_)
  refine lv_iload hx hb dX6_readWord_41 (lv_at hl 0 rfl) ?_
  refine lv_bipush (v := 32) hx hb dX6_readWord_43 (by decide) ?_
  refine lv_icmp_eq (tgt := 84) hx hb dX6_readWord_45 (by decide) (fun c => absurd c (by decide)) (fun _ => ?_)
  refine lv_iload hx hb dX6_readWord_48 (lv_at hl 3 rfl) ?_
  refine lv_if_eq (tgt := 75) hx hb dX6_readWord_50 (by decide) (fun _ => ?_) (fun c => absurd (by decide) c)
  refine lv_iconst (v := 0) hx hb dX6_readWord_75 (by decide) ?_
  refine lv_istore (lv' := [(5, .int 0), (7, .int 114), (6, .int 2), (4, .int 2), (3, .int 0), (2, .int 0), (0, .ref av0), (1, .ref (adK 0))]) hx hb dX6_readWord_76 hl (by decide) rfl (fun ls hl => ?_)
  refine lv_iinc (v := 3) (lv' := [(4, .int 3), (5, .int 0), (7, .int 114), (6, .int 2), (3, .int 0), (2, .int 0), (0, .ref av0), (1, .ref (adK 0))]) hx hb dX6_readWord_78 hl (k := 3) rfl (by decide) (by decide) rfl (fun ls hl => ?_)
  refine lv_goto (tgt := 114) hx hb dX6_readWord_81 (by decide) ?_
  refine lv_iinc (v := 3) (lv' := [(6, .int 3), (4, .int 3), (5, .int 0), (7, .int 114), (3, .int 0), (2, .int 0), (0, .ref av0), (1, .ref (adK 0))]) hx hb dX6_readWord_114 hl (k := 3) rfl (by decide) (by decide) rfl (fun ls hl => ?_)
  refine lv_goto (tgt := 24) hx hb dX6_readWord_117 (by decide) ?_
  refine lv_iload hx hb dX6_readWord_24 (lv_at hl 0 rfl) ?_
  refine lv_aload_n hx hb dX6_readWord_26 rfl (lv_at hl 7 rfl) ?_
  refine wk_ViT hC hK hw hA hE hSR [] [0] rfl rfl rfl rfl (by decide) (s_length l adK adV dC dI cy 0 (by decide) H.size) (cwV 0 hC.2.2.2.2 gX6_readWord_J0_length_8abf5 rfl rfl rfl (by decide +kernel) ⟨Nat.le_of_ble_eq_true rfl, Nat.le_of_ble_eq_true rfl⟩) 0 (by decide) rfl rfl rfl hl.1 rfl (Nat.le_of_ble_eq_true rfl) dX6_readWord_27 0 0 ⟨rfl, rfl⟩ ⟨Nat.le_of_ble_eq_true rfl, Nat.le_of_ble_eq_true rfl⟩ (fun r26 u25 H locs hp27 hw => ?_)
  have hw : Wd dC dI A s.heap H locs [(av0, .inr (6, [.ref av1, .int 0, .int 0, .int 0, .int 0]))] := hw
  obtain rfl : r26 = 26 := hp27
  refine lv_icmp_ge (tgt := 120) hx hb dX6_readWord_30 (by decide) (fun c => absurd c (by decide)) (fun _ => ?_)
  refine lv_aload_n hx hb dX6_readWord_33 rfl (lv_at hl 7 rfl) ?_
  refine lv_iload hx hb dX6_readWord_34 (lv_at hl 0 rfl) ?_
  refine wk_ViT hC hK hw hA hE hSR [] [0] rfl rfl rfl rfl (by decide) (s_charAt l adK adV dC dI cy 0 (by decide) 3 (by decide) (by decide) H.size) (cwV 1 hC.2.2.2.2 gX6_readWord_J0_charAt_5068e rfl rfl rfl (by decide +kernel) ⟨Nat.le_of_ble_eq_true rfl, Nat.le_of_ble_eq_true rfl⟩) 0 (by decide) rfl rfl rfl hl.1 rfl (Nat.le_of_ble_eq_true rfl) dX6_readWord_36 0 0 ⟨rfl, rfl⟩ ⟨Nat.le_of_ble_eq_true rfl, Nat.le_of_ble_eq_true rfl⟩ (fun r29 u28 H locs hp30 hw => ?_)
  have hw : Wd dC dI A s.heap H locs [(av0, .inr (6, [.ref av1, .int 0, .int 0, .int 0, .int 0]))] := hw
  obtain rfl : r29 = 110 := hp30
  refine lv_istore (lv' := [(7, .int 110), (6, .int 3), (4, .int 3), (5, .int 0), (3, .int 0), (2, .int 0), (0, .ref av0), (1, .ref (adK 0))]) hx hb dX6_readWord_39 hl (by decide) rfl (fun ls hl => ?_)
  refine lv_iload hx hb dX6_readWord_41 (lv_at hl 0 rfl) ?_
  refine lv_bipush (v := 32) hx hb dX6_readWord_43 (by decide) ?_
  refine lv_icmp_eq (tgt := 84) hx hb dX6_readWord_45 (by decide) (fun c => absurd c (by decide)) (fun _ => ?_)
  refine lv_iload hx hb dX6_readWord_48 (lv_at hl 3 rfl) ?_
  refine lv_if_eq (tgt := 75) hx hb dX6_readWord_50 (by decide) (fun _ => ?_) (fun c => absurd (by decide) c)
  refine lv_iconst (v := 0) hx hb dX6_readWord_75 (by decide) ?_
  refine lv_istore (lv' := [(5, .int 0), (7, .int 110), (6, .int 3), (4, .int 3), (3, .int 0), (2, .int 0), (0, .ref av0), (1, .ref (adK 0))]) hx hb dX6_readWord_76 hl (by decide) rfl (fun ls hl => ?_)
  refine lv_iinc (v := 4) (lv' := [(4, .int 4), (5, .int 0), (7, .int 110), (6, .int 3), (3, .int 0), (2, .int 0), (0, .ref av0), (1, .ref (adK 0))]) hx hb dX6_readWord_78 hl (k := 3) rfl (by decide) (by decide) rfl (fun ls hl => ?_)
  refine lv_goto (tgt := 114) hx hb dX6_readWord_81 (by decide) ?_
  refine lv_iinc (v := 4) (lv' := [(6, .int 4), (4, .int 4), (5, .int 0), (7, .int 110), (3, .int 0), (2, .int 0), (0, .ref av0), (1, .ref (adK 0))]) hx hb dX6_readWord_114 hl (k := 3) rfl (by decide) (by decide) rfl (fun ls hl => ?_)
  refine lv_goto (tgt := 24) hx hb dX6_readWord_117 (by decide) ?_
  refine lv_iload hx hb dX6_readWord_24 (lv_at hl 0 rfl) ?_
  refine lv_aload_n hx hb dX6_readWord_26 rfl (lv_at hl 7 rfl) ?_
  refine wk_ViT hC hK hw hA hE hSR [] [0] rfl rfl rfl rfl (by decide) (s_length l adK adV dC dI cy 0 (by decide) H.size) (cwV 0 hC.2.2.2.2 gX6_readWord_J0_length_8abf5 rfl rfl rfl (by decide +kernel) ⟨Nat.le_of_ble_eq_true rfl, Nat.le_of_ble_eq_true rfl⟩) 0 (by decide) rfl rfl rfl hl.1 rfl (Nat.le_of_ble_eq_true rfl) dX6_readWord_27 0 0 ⟨rfl, rfl⟩ ⟨Nat.le_of_ble_eq_true rfl, Nat.le_of_ble_eq_true rfl⟩ (fun r32 u31 H locs hp33 hw => ?_)
  have hw : Wd dC dI A s.heap H locs [(av0, .inr (6, [.ref av1, .int 0, .int 0, .int 0, .int 0]))] := hw
  obtain rfl : r32 = 26 := hp33
  refine lv_icmp_ge (tgt := 120) hx hb dX6_readWord_30 (by decide) (fun c => absurd c (by decide)) (fun _ => ?_)
  refine lv_aload_n hx hb dX6_readWord_33 rfl (lv_at hl 7 rfl) ?_
  refine lv_iload hx hb dX6_readWord_34 (lv_at hl 0 rfl) ?_
  refine wk_ViT hC hK hw hA hE hSR [] [0] rfl rfl rfl rfl (by decide) (s_charAt l adK adV dC dI cy 0 (by decide) 4 (by decide) (by decide) H.size) (cwV 1 hC.2.2.2.2 gX6_readWord_J0_charAt_5068e rfl rfl rfl (by decide +kernel) ⟨Nat.le_of_ble_eq_true rfl, Nat.le_of_ble_eq_true rfl⟩) 0 (by decide) rfl rfl rfl hl.1 rfl (Nat.le_of_ble_eq_true rfl) dX6_readWord_36 0 0 ⟨rfl, rfl⟩ ⟨Nat.le_of_ble_eq_true rfl, Nat.le_of_ble_eq_true rfl⟩ (fun r35 u34 H locs hp36 hw => ?_)
  have hw : Wd dC dI A s.heap H locs [(av0, .inr (6, [.ref av1, .int 0, .int 0, .int 0, .int 0]))] := hw
  obtain rfl : r35 = 101 := hp36
  refine lv_istore (lv' := [(7, .int 101), (6, .int 4), (4, .int 4), (5, .int 0), (3, .int 0), (2, .int 0), (0, .ref av0), (1, .ref (adK 0))]) hx hb dX6_readWord_39 hl (by decide) rfl (fun ls hl => ?_)
  refine lv_iload hx hb dX6_readWord_41 (lv_at hl 0 rfl) ?_
  refine lv_bipush (v := 32) hx hb dX6_readWord_43 (by decide) ?_
  refine lv_icmp_eq (tgt := 84) hx hb dX6_readWord_45 (by decide) (fun c => absurd c (by decide)) (fun _ => ?_)
  refine lv_iload hx hb dX6_readWord_48 (lv_at hl 3 rfl) ?_
  refine lv_if_eq (tgt := 75) hx hb dX6_readWord_50 (by decide) (fun _ => ?_) (fun c => absurd (by decide) c)
  refine lv_iconst (v := 0) hx hb dX6_readWord_75 (by decide) ?_
  refine lv_istore (lv' := [(5, .int 0), (7, .int 101), (6, .int 4), (4, .int 4), (3, .int 0), (2, .int 0), (0, .ref av0), (1, .ref (adK 0))]) hx hb dX6_readWord_76 hl (by decide) rfl (fun ls hl => ?_)
  refine lv_iinc (v := 5) (lv' := [(4, .int 5), (5, .int 0), (7, .int 101), (6, .int 4), (3, .int 0), (2, .int 0), (0, .ref av0), (1, .ref (adK 0))]) hx hb dX6_readWord_78 hl (k := 3) rfl (by decide) (by decide) rfl (fun ls hl => ?_)
  refine lv_goto (tgt := 114) hx hb dX6_readWord_81 (by decide) ?_
  refine lv_iinc (v := 5) (lv' := [(6, .int 5), (4, .int 5), (5, .int 0), (7, .int 101), (3, .int 0), (2, .int 0), (0, .ref av0), (1, .ref (adK 0))]) hx hb dX6_readWord_114 hl (k := 3) rfl (by decide) (by decide) rfl (fun ls hl => ?_)
  refine lv_goto (tgt := 24) hx hb dX6_readWord_117 (by decide) ?_
  refine lv_iload hx hb dX6_readWord_24 (lv_at hl 0 rfl) ?_
  refine lv_aload_n hx hb dX6_readWord_26 rfl (lv_at hl 7 rfl) ?_
  refine wk_ViT hC hK hw hA hE hSR [] [0] rfl rfl rfl rfl (by decide) (s_length l adK adV dC dI cy 0 (by decide) H.size) (cwV 0 hC.2.2.2.2 gX6_readWord_J0_length_8abf5 rfl rfl rfl (by decide +kernel) ⟨Nat.le_of_ble_eq_true rfl, Nat.le_of_ble_eq_true rfl⟩) 0 (by decide) rfl rfl rfl hl.1 rfl (Nat.le_of_ble_eq_true rfl) dX6_readWord_27 0 0 ⟨rfl, rfl⟩ ⟨Nat.le_of_ble_eq_true rfl, Nat.le_of_ble_eq_true rfl⟩ (fun r38 u37 H locs hp39 hw => ?_)
  have hw : Wd dC dI A s.heap H locs [(av0, .inr (6, [.ref av1, .int 0, .int 0, .int 0, .int 0]))] := hw
  obtain rfl : r38 = 26 := hp39
  refine lv_icmp_ge (tgt := 120) hx hb dX6_readWord_30 (by decide) (fun c => absurd c (by decide)) (fun _ => ?_)
  refine lv_aload_n hx hb dX6_readWord_33 rfl (lv_at hl 7 rfl) ?_
  refine lv_iload hx hb dX6_readWord_34 (lv_at hl 0 rfl) ?_
  refine wk_ViT hC hK hw hA hE hSR [] [0] rfl rfl rfl rfl (by decide) (s_charAt l adK adV dC dI cy 0 (by decide) 5 (by decide) (by decide) H.size) (cwV 1 hC.2.2.2.2 gX6_readWord_J0_charAt_5068e rfl rfl rfl (by decide +kernel) ⟨Nat.le_of_ble_eq_true rfl, Nat.le_of_ble_eq_true rfl⟩) 0 (by decide) rfl rfl rfl hl.1 rfl (Nat.le_of_ble_eq_true rfl) dX6_readWord_36 0 0 ⟨rfl, rfl⟩ ⟨Nat.le_of_ble_eq_true rfl, Nat.le_of_ble_eq_true rfl⟩ (fun r41 u40 H locs hp42 hw => ?_)
  have hw : Wd dC dI A s.heap H locs [(av0, .inr (6, [.ref av1, .int 0, .int 0, .int 0, .int 0]))] := hw
  obtain rfl : r41 = 114 := hp42
  refine lv_istore (lv' := [(7, .int 114), (6, .int 5), (4, .int 5), (5, .int 0), (3, .int 0), (2, .int 0), (0, .ref av0), (1, .ref (adK 0))]) hx hb dX6_readWord_39 hl (by decide) rfl (fun ls hl => ?_)
  refine lv_iload hx hb dX6_readWord_41 (lv_at hl 0 rfl) ?_
  refine lv_bipush (v := 32) hx hb dX6_readWord_43 (by decide) ?_
  refine lv_icmp_eq (tgt := 84) hx hb dX6_readWord_45 (by decide) (fun c => absurd c (by decide)) (fun _ => ?_)
  refine lv_iload hx hb dX6_readWord_48 (lv_at hl 3 rfl) ?_
  refine lv_if_eq (tgt := 75) hx hb dX6_readWord_50 (by decide) (fun _ => ?_) (fun c => absurd (by decide) c)
  refine lv_iconst (v := 0) hx hb dX6_readWord_75 (by decide) ?_
  refine lv_istore (lv' := [(5, .int 0), (7, .int 114), (6, .int 5), (4, .int 5), (3, .int 0), (2, .int 0), (0, .ref av0), (1, .ref (adK 0))]) hx hb dX6_readWord_76 hl (by decide) rfl (fun ls hl => ?_)
  refine lv_iinc (v := 6) (lv' := [(4, .int 6), (5, .int 0), (7, .int 114), (6, .int 5), (3, .int 0), (2, .int 0), (0, .ref av0), (1, .ref (adK 0))]) hx hb dX6_readWord_78 hl (k := 3) rfl (by decide) (by decide) rfl (fun ls hl => ?_)
  refine lv_goto (tgt := 114) hx hb dX6_readWord_81 (by decide) ?_
  refine lv_iinc (v := 6) (lv' := [(6, .int 6), (4, .int 6), (5, .int 0), (7, .int 114), (3, .int 0), (2, .int 0), (0, .ref av0), (1, .ref (adK 0))]) hx hb dX6_readWord_114 hl (k := 3) rfl (by decide) (by decide) rfl (fun ls hl => ?_)
  refine lv_goto (tgt := 24) hx hb dX6_readWord_117 (by decide) ?_
  refine lv_iload hx hb dX6_readWord_24 (lv_at hl 0 rfl) ?_
  refine lv_aload_n hx hb dX6_readWord_26 rfl (lv_at hl 7 rfl) ?_
  refine wk_ViT hC hK hw hA hE hSR [] [0] rfl rfl rfl rfl (by decide) (s_length l adK adV dC dI cy 0 (by decide) H.size) (cwV 0 hC.2.2.2.2 gX6_readWord_J0_length_8abf5 rfl rfl rfl (by decide +kernel) ⟨Nat.le_of_ble_eq_true rfl, Nat.le_of_ble_eq_true rfl⟩) 0 (by decide) rfl rfl rfl hl.1 rfl (Nat.le_of_ble_eq_true rfl) dX6_readWord_27 0 0 ⟨rfl, rfl⟩ ⟨Nat.le_of_ble_eq_true rfl, Nat.le_of_ble_eq_true rfl⟩ (fun r44 u43 H locs hp45 hw => ?_)
  have hw : Wd dC dI A s.heap H locs [(av0, .inr (6, [.ref av1, .int 0, .int 0, .int 0, .int 0]))] := hw
  obtain rfl : r44 = 26 := hp45
  refine lv_icmp_ge (tgt := 120) hx hb dX6_readWord_30 (by decide) (fun c => absurd c (by decide)) (fun _ => ?_)
  refine lv_aload_n hx hb dX6_readWord_33 rfl (lv_at hl 7 rfl) ?_
  refine lv_iload hx hb dX6_readWord_34 (lv_at hl 0 rfl) ?_
  refine wk_ViT hC hK hw hA hE hSR [] [0] rfl rfl rfl rfl (by decide) (s_charAt l adK adV dC dI cy 0 (by decide) 6 (by decide) (by decide) H.size) (cwV 1 hC.2.2.2.2 gX6_readWord_J0_charAt_5068e rfl rfl rfl (by decide +kernel) ⟨Nat.le_of_ble_eq_true rfl, Nat.le_of_ble_eq_true rfl⟩) 0 (by decide) rfl rfl rfl hl.1 rfl (Nat.le_of_ble_eq_true rfl) dX6_readWord_36 0 0 ⟨rfl, rfl⟩ ⟨Nat.le_of_ble_eq_true rfl, Nat.le_of_ble_eq_true rfl⟩ (fun r47 u46 H locs hp48 hw => ?_)
  have hw : Wd dC dI A s.heap H locs [(av0, .inr (6, [.ref av1, .int 0, .int 0, .int 0, .int 0]))] := hw
  obtain rfl : r47 = 115 := hp48
  refine lv_istore (lv' := [(7, .int 115), (6, .int 6), (4, .int 6), (5, .int 0), (3, .int 0), (2, .int 0), (0, .ref av0), (1, .ref (adK 0))]) hx hb dX6_readWord_39 hl (by decide) rfl (fun ls hl => ?_)
  refine lv_iload hx hb dX6_readWord_41 (lv_at hl 0 rfl) ?_
  refine lv_bipush (v := 32) hx hb dX6_readWord_43 (by decide) ?_
  refine lv_icmp_eq (tgt := 84) hx hb dX6_readWord_45 (by decide) (fun c => absurd c (by decide)) (fun _ => ?_)
  refine lv_iload hx hb dX6_readWord_48 (lv_at hl 3 rfl) ?_
  refine lv_if_eq (tgt := 75) hx hb dX6_readWord_50 (by decide) (fun _ => ?_) (fun c => absurd (by decide) c)
  refine lv_iconst (v := 0) hx hb dX6_readWord_75 (by decide) ?_
  refine lv_istore (lv' := [(5, .int 0), (7, .int 115), (6, .int 6), (4, .int 6), (3, .int 0), (2, .int 0), (0, .ref av0), (1, .ref (adK 0))]) hx hb dX6_readWord_76 hl (by decide) rfl (fun ls hl => ?_)
  refine lv_iinc (v := 7) (lv' := [(4, .int 7), (5, .int 0), (7, .int 115), (6, .int 6), (3, .int 0), (2, .int 0), (0, .ref av0), (1, .ref (adK 0))]) hx hb dX6_readWord_78 hl (k := 3) rfl (by decide) (by decide) rfl (fun ls hl => ?_)
  refine lv_goto (tgt := 114) hx hb dX6_readWord_81 (by decide) ?_
  refine lv_iinc (v := 7) (lv' := [(6, .int 7), (4, .int 7), (5, .int 0), (7, .int 115), (3, .int 0), (2, .int 0), (0, .ref av0), (1, .ref (adK 0))]) hx hb dX6_readWord_114 hl (k := 3) rfl (by decide) (by decide) rfl (fun ls hl => ?_)
  refine lv_goto (tgt := 24) hx hb dX6_readWord_117 (by decide) ?_
  refine lv_iload hx hb dX6_readWord_24 (lv_at hl 0 rfl) ?_
  refine lv_aload_n hx hb dX6_readWord_26 rfl (lv_at hl 7 rfl) ?_
  refine wk_ViT hC hK hw hA hE hSR [] [0] rfl rfl rfl rfl (by decide) (s_length l adK adV dC dI cy 0 (by decide) H.size) (cwV 0 hC.2.2.2.2 gX6_readWord_J0_length_8abf5 rfl rfl rfl (by decide +kernel) ⟨Nat.le_of_ble_eq_true rfl, Nat.le_of_ble_eq_true rfl⟩) 0 (by decide) rfl rfl rfl hl.1 rfl (Nat.le_of_ble_eq_true rfl) dX6_readWord_27 0 0 ⟨rfl, rfl⟩ ⟨Nat.le_of_ble_eq_true rfl, Nat.le_of_ble_eq_true rfl⟩ (fun r50 u49 H locs hp51 hw => ?_)
  have hw : Wd dC dI A s.heap H locs [(av0, .inr (6, [.ref av1, .int 0, .int 0, .int 0, .int 0]))] := hw
  obtain rfl : r50 = 26 := hp51
  refine lv_icmp_ge (tgt := 120) hx hb dX6_readWord_30 (by decide) (fun c => absurd c (by decide)) (fun _ => ?_)
  refine lv_aload_n hx hb dX6_readWord_33 rfl (lv_at hl 7 rfl) ?_
  refine lv_iload hx hb dX6_readWord_34 (lv_at hl 0 rfl) ?_
  refine wk_ViT hC hK hw hA hE hSR [] [0] rfl rfl rfl rfl (by decide) (s_charAt l adK adV dC dI cy 0 (by decide) 7 (by decide) (by decide) H.size) (cwV 1 hC.2.2.2.2 gX6_readWord_J0_charAt_5068e rfl rfl rfl (by decide +kernel) ⟨Nat.le_of_ble_eq_true rfl, Nat.le_of_ble_eq_true rfl⟩) 0 (by decide) rfl rfl rfl hl.1 rfl (Nat.le_of_ble_eq_true rfl) dX6_readWord_36 0 0 ⟨rfl, rfl⟩ ⟨Nat.le_of_ble_eq_true rfl, Nat.le_of_ble_eq_true rfl⟩ (fun r53 u52 H locs hp54 hw => ?_)
  have hw : Wd dC dI A s.heap H locs [(av0, .inr (6, [.ref av1, .int 0, .int 0, .int 0, .int 0]))] := hw
  obtain rfl : r53 = 32 := hp54
  refine lv_istore (lv' := [(7, .int 32), (6, .int 7), (4, .int 7), (5, .int 0), (3, .int 0), (2, .int 0), (0, .ref av0), (1, .ref (adK 0))]) hx hb dX6_readWord_39 hl (by decide) rfl (fun ls hl => ?_)
  refine lv_iload hx hb dX6_readWord_41 (lv_at hl 0 rfl) ?_
  refine lv_bipush (v := 32) hx hb dX6_readWord_43 (by decide) ?_
  refine lv_icmp_eq (tgt := 84) hx hb dX6_readWord_45 (by decide) (fun _ => ?_) (fun c => absurd (by decide) c)
  refine lv_iload hx hb dX6_readWord_84 (lv_at hl 3 rfl) ?_
  refine lv_if_eq (tgt := 102) hx hb dX6_readWord_86 (by decide) (fun _ => ?_) (fun c => absurd (by decide) c)
  refine lv_iinc (v := 1) (lv' := [(3, .int 1), (7, .int 32), (6, .int 7), (4, .int 7), (5, .int 0), (2, .int 0), (0, .ref av0), (1, .ref (adK 0))]) hx hb dX6_readWord_102 hl (k := 4) rfl (by decide) (by decide) rfl (fun ls hl => ?_)
  refine lv_aload_n hx hb dX6_readWord_105 rfl (lv_at hl 6 rfl) ?_
  refine wk_get hC hK hw hinX6 0 rfl rfl 1 (by decide) (List.mem_of_getElem? (i := 1) rfl) rfl rfl dX6_readWord_106 ?_
  refine lv_istore (lv' := [(4, .int 0), (3, .int 1), (7, .int 32), (6, .int 7), (5, .int 0), (2, .int 0), (0, .ref av0), (1, .ref (adK 0))]) hx hb dX6_readWord_109 hl (by decide) rfl (fun ls hl => ?_)
  refine lv_iconst (v := 1) hx hb dX6_readWord_111 (by decide) ?_
  refine lv_istore (lv' := [(5, .int 1), (4, .int 0), (3, .int 1), (7, .int 32), (6, .int 7), (2, .int 0), (0, .ref av0), (1, .ref (adK 0))]) hx hb dX6_readWord_112 hl (by decide) rfl (fun ls hl => ?_)
  refine lv_iinc (v := 8) (lv' := [(6, .int 8), (5, .int 1), (4, .int 0), (3, .int 1), (7, .int 32), (2, .int 0), (0, .ref av0), (1, .ref (adK 0))]) hx hb dX6_readWord_114 hl (k := 4) rfl (by decide) (by decide) rfl (fun ls hl => ?_)
  refine lv_goto (tgt := 24) hx hb dX6_readWord_117 (by decide) ?_
  refine lv_iload hx hb dX6_readWord_24 (lv_at hl 0 rfl) ?_
  refine lv_aload_n hx hb dX6_readWord_26 rfl (lv_at hl 7 rfl) ?_
  refine wk_ViT hC hK hw hA hE hSR [] [0] rfl rfl rfl rfl (by decide) (s_length l adK adV dC dI cy 0 (by decide) H.size) (cwV 0 hC.2.2.2.2 gX6_readWord_J0_length_8abf5 rfl rfl rfl (by decide +kernel) ⟨Nat.le_of_ble_eq_true rfl, Nat.le_of_ble_eq_true rfl⟩) 0 (by decide) rfl rfl rfl hl.1 rfl (Nat.le_of_ble_eq_true rfl) dX6_readWord_27 0 0 ⟨rfl, rfl⟩ ⟨Nat.le_of_ble_eq_true rfl, Nat.le_of_ble_eq_true rfl⟩ (fun r56 u55 H locs hp57 hw => ?_)
  have hw : Wd dC dI A s.heap H locs [(av0, .inr (6, [.ref av1, .int 0, .int 0, .int 0, .int 0]))] := hw
  obtain rfl : r56 = 26 := hp57
  refine lv_icmp_ge (tgt := 120) hx hb dX6_readWord_30 (by decide) (fun c => absurd c (by decide)) (fun _ => ?_)
  refine lv_aload_n hx hb dX6_readWord_33 rfl (lv_at hl 7 rfl) ?_
  refine lv_iload hx hb dX6_readWord_34 (lv_at hl 0 rfl) ?_
  refine wk_ViT hC hK hw hA hE hSR [] [0] rfl rfl rfl rfl (by decide) (s_charAt l adK adV dC dI cy 0 (by decide) 8 (by decide) (by decide) H.size) (cwV 1 hC.2.2.2.2 gX6_readWord_J0_charAt_5068e rfl rfl rfl (by decide +kernel) ⟨Nat.le_of_ble_eq_true rfl, Nat.le_of_ble_eq_true rfl⟩) 0 (by decide) rfl rfl rfl hl.1 rfl (Nat.le_of_ble_eq_true rfl) dX6_readWord_36 0 0 ⟨rfl, rfl⟩ ⟨Nat.le_of_ble_eq_true rfl, Nat.le_of_ble_eq_true rfl⟩ (fun r59 u58 H locs hp60 hw => ?_)
  have hw : Wd dC dI A s.heap H locs [(av0, .inr (6, [.ref av1, .int 0, .int 0, .int 0, .int 0]))] := hw
  obtain rfl : r59 = 115 := hp60
  refine lv_istore (lv' := [(7, .int 115), (6, .int 8), (5, .int 1), (4, .int 0), (3, .int 1), (2, .int 0), (0, .ref av0), (1, .ref (adK 0))]) hx hb dX6_readWord_39 hl (by decide) rfl (fun ls hl => ?_)
  refine lv_iload hx hb dX6_readWord_41 (lv_at hl 0 rfl) ?_
  refine lv_bipush (v := 32) hx hb dX6_readWord_43 (by decide) ?_
  refine lv_icmp_eq (tgt := 84) hx hb dX6_readWord_45 (by decide) (fun c => absurd c (by decide)) (fun _ => ?_)
  refine lv_iload hx hb dX6_readWord_48 (lv_at hl 2 rfl) ?_
  refine lv_if_eq (tgt := 75) hx hb dX6_readWord_50 (by decide) (fun c => absurd c (by decide)) (fun _ => ?_)
  refine lv_iload hx hb dX6_readWord_53 (lv_at hl 3 rfl) ?_
  refine lv_iload_n hx hb dX6_readWord_55 rfl (lv_at hl 5 rfl) ?_
  refine lv_icmp_ge (tgt := 75) hx hb dX6_readWord_56 (by decide) (fun _ => ?_) (fun c => absurd (by decide) c)
  refine lv_iconst (v := 0) hx hb dX6_readWord_75 (by decide) ?_
  refine lv_istore (lv' := [(5, .int 0), (7, .int 115), (6, .int 8), (4, .int 0), (3, .int 1), (2, .int 0), (0, .ref av0), (1, .ref (adK 0))]) hx hb dX6_readWord_76 hl (by decide) rfl (fun ls hl => ?_)
  refine lv_iinc (v := 1) (lv' := [(4, .int 1), (5, .int 0), (7, .int 115), (6, .int 8), (3, .int 1), (2, .int 0), (0, .ref av0), (1, .ref (adK 0))]) hx hb dX6_readWord_78 hl (k := 3) rfl (by decide) (by decide) rfl (fun ls hl => ?_)
  refine lv_goto (tgt := 114) hx hb dX6_readWord_81 (by decide) ?_
  refine lv_iinc (v := 9) (lv' := [(6, .int 9), (4, .int 1), (5, .int 0), (7, .int 115), (3, .int 1), (2, .int 0), (0, .ref av0), (1, .ref (adK 0))]) hx hb dX6_readWord_114 hl (k := 3) rfl (by decide) (by decide) rfl (fun ls hl => ?_)
  refine lv_goto (tgt := 24) hx hb dX6_readWord_117 (by decide) ?_
  refine lv_iload hx hb dX6_readWord_24 (lv_at hl 0 rfl) ?_
  refine lv_aload_n hx hb dX6_readWord_26 rfl (lv_at hl 7 rfl) ?_
  refine wk_ViT hC hK hw hA hE hSR [] [0] rfl rfl rfl rfl (by decide) (s_length l adK adV dC dI cy 0 (by decide) H.size) (cwV 0 hC.2.2.2.2 gX6_readWord_J0_length_8abf5 rfl rfl rfl (by decide +kernel) ⟨Nat.le_of_ble_eq_true rfl, Nat.le_of_ble_eq_true rfl⟩) 0 (by decide) rfl rfl rfl hl.1 rfl (Nat.le_of_ble_eq_true rfl) dX6_readWord_27 0 0 ⟨rfl, rfl⟩ ⟨Nat.le_of_ble_eq_true rfl, Nat.le_of_ble_eq_true rfl⟩ (fun r62 u61 H locs hp63 hw => ?_)
  have hw : Wd dC dI A s.heap H locs [(av0, .inr (6, [.ref av1, .int 0, .int 0, .int 0, .int 0]))] := hw
  obtain rfl : r62 = 26 := hp63
  refine lv_icmp_ge (tgt := 120) hx hb dX6_readWord_30 (by decide) (fun c => absurd c (by decide)) (fun _ => ?_)
  refine lv_aload_n hx hb dX6_readWord_33 rfl (lv_at hl 7 rfl) ?_
  refine lv_iload hx hb dX6_readWord_34 (lv_at hl 0 rfl) ?_
  refine wk_ViT hC hK hw hA hE hSR [] [0] rfl rfl rfl rfl (by decide) (s_charAt l adK adV dC dI cy 0 (by decide) 9 (by decide) (by decide) H.size) (cwV 1 hC.2.2.2.2 gX6_readWord_J0_charAt_5068e rfl rfl rfl (by decide +kernel) ⟨Nat.le_of_ble_eq_true rfl, Nat.le_of_ble_eq_true rfl⟩) 0 (by decide) rfl rfl rfl hl.1 rfl (Nat.le_of_ble_eq_true rfl) dX6_readWord_36 0 0 ⟨rfl, rfl⟩ ⟨Nat.le_of_ble_eq_true rfl, Nat.le_of_ble_eq_true rfl⟩ (fun r65 u64 H locs hp66 hw => ?_)
  have hw : Wd dC dI A s.heap H locs [(av0, .inr (6, [.ref av1, .int 0, .int 0, .int 0, .int 0]))] := hw
  obtain rfl : r65 = 116 := hp66
  refine lv_istore (lv' := [(7, .int 116), (6, .int 9), (4, .int 1), (5, .int 0), (3, .int 1), (2, .int 0), (0, .ref av0), (1, .ref (adK 0))]) hx hb dX6_readWord_39 hl (by decide) rfl (fun ls hl => ?_)
  refine lv_iload hx hb dX6_readWord_41 (lv_at hl 0 rfl) ?_
  refine lv_bipush (v := 32) hx hb dX6_readWord_43 (by decide) ?_
  refine lv_icmp_eq (tgt := 84) hx hb dX6_readWord_45 (by decide) (fun c => absurd c (by decide)) (fun _ => ?_)
  refine lv_iload hx hb dX6_readWord_48 (lv_at hl 3 rfl) ?_
  refine lv_if_eq (tgt := 75) hx hb dX6_readWord_50 (by decide) (fun _ => ?_) (fun c => absurd (by decide) c)
  refine lv_iconst (v := 0) hx hb dX6_readWord_75 (by decide) ?_
  refine lv_istore (lv' := [(5, .int 0), (7, .int 116), (6, .int 9), (4, .int 1), (3, .int 1), (2, .int 0), (0, .ref av0), (1, .ref (adK 0))]) hx hb dX6_readWord_76 hl (by decide) rfl (fun ls hl => ?_)
  refine lv_iinc (v := 2) (lv' := [(4, .int 2), (5, .int 0), (7, .int 116), (6, .int 9), (3, .int 1), (2, .int 0), (0, .ref av0), (1, .ref (adK 0))]) hx hb dX6_readWord_78 hl (k := 3) rfl (by decide) (by decide) rfl (fun ls hl => ?_)
  refine lv_goto (tgt := 114) hx hb dX6_readWord_81 (by decide) ?_
  refine lv_iinc (v := 10) (lv' := [(6, .int 10), (4, .int 2), (5, .int 0), (7, .int 116), (3, .int 1), (2, .int 0), (0, .ref av0), (1, .ref (adK 0))]) hx hb dX6_readWord_114 hl (k := 3) rfl (by decide) (by decide) rfl (fun ls hl => ?_)
  refine lv_goto (tgt := 24) hx hb dX6_readWord_117 (by decide) ?_
  refine lv_iload hx hb dX6_readWord_24 (lv_at hl 0 rfl) ?_
  refine lv_aload_n hx hb dX6_readWord_26 rfl (lv_at hl 7 rfl) ?_
  refine wk_ViT hC hK hw hA hE hSR [] [0] rfl rfl rfl rfl (by decide) (s_length l adK adV dC dI cy 0 (by decide) H.size) (cwV 0 hC.2.2.2.2 gX6_readWord_J0_length_8abf5 rfl rfl rfl (by decide +kernel) ⟨Nat.le_of_ble_eq_true rfl, Nat.le_of_ble_eq_true rfl⟩) 0 (by decide) rfl rfl rfl hl.1 rfl (Nat.le_of_ble_eq_true rfl) dX6_readWord_27 0 0 ⟨rfl, rfl⟩ ⟨Nat.le_of_ble_eq_true rfl, Nat.le_of_ble_eq_true rfl⟩ (fun r68 u67 H locs hp69 hw => ?_)
  have hw : Wd dC dI A s.heap H locs [(av0, .inr (6, [.ref av1, .int 0, .int 0, .int 0, .int 0]))] := hw
  obtain rfl : r68 = 26 := hp69
  refine lv_icmp_ge (tgt := 120) hx hb dX6_readWord_30 (by decide) (fun c => absurd c (by decide)) (fun _ => ?_)
  refine lv_aload_n hx hb dX6_readWord_33 rfl (lv_at hl 7 rfl) ?_
  refine lv_iload hx hb dX6_readWord_34 (lv_at hl 0 rfl) ?_
  refine wk_ViT hC hK hw hA hE hSR [] [0] rfl rfl rfl rfl (by decide) (s_charAt l adK adV dC dI cy 0 (by decide) 10 (by decide) (by decide) H.size) (cwV 1 hC.2.2.2.2 gX6_readWord_J0_charAt_5068e rfl rfl rfl (by decide +kernel) ⟨Nat.le_of_ble_eq_true rfl, Nat.le_of_ble_eq_true rfl⟩) 0 (by decide) rfl rfl rfl hl.1 rfl (Nat.le_of_ble_eq_true rfl) dX6_readWord_36 0 0 ⟨rfl, rfl⟩ ⟨Nat.le_of_ble_eq_true rfl, Nat.le_of_ble_eq_true rfl⟩ (fun r71 u70 H locs hp72 hw => ?_)
  have hw : Wd dC dI A s.heap H locs [(av0, .inr (6, [.ref av1, .int 0, .int 0, .int 0, .int 0]))] := hw
  obtain rfl : r71 = 114 := hp72
  refine lv_istore (lv' := [(7, .int 114), (6, .int 10), (4, .int 2), (5, .int 0), (3, .int 1), (2, .int 0), (0, .ref av0), (1, .ref (adK 0))]) hx hb dX6_readWord_39 hl (by decide) rfl (fun ls hl => ?_)
  refine lv_iload hx hb dX6_readWord_41 (lv_at hl 0 rfl) ?_
  refine lv_bipush (v := 32) hx hb dX6_readWord_43 (by decide) ?_
  refine lv_icmp_eq (tgt := 84) hx hb dX6_readWord_45 (by decide) (fun c => absurd c (by decide)) (fun _ => ?_)
  refine lv_iload hx hb dX6_readWord_48 (lv_at hl 3 rfl) ?_
  refine lv_if_eq (tgt := 75) hx hb dX6_readWord_50 (by decide) (fun _ => ?_) (fun c => absurd (by decide) c)
  refine lv_iconst (v := 0) hx hb dX6_readWord_75 (by decide) ?_
  refine lv_istore (lv' := [(5, .int 0), (7, .int 114), (6, .int 10), (4, .int 2), (3, .int 1), (2, .int 0), (0, .ref av0), (1, .ref (adK 0))]) hx hb dX6_readWord_76 hl (by decide) rfl (fun ls hl => ?_)
  refine lv_iinc (v := 3) (lv' := [(4, .int 3), (5, .int 0), (7, .int 114), (6, .int 10), (3, .int 1), (2, .int 0), (0, .ref av0), (1, .ref (adK 0))]) hx hb dX6_readWord_78 hl (k := 3) rfl (by decide) (by decide) rfl (fun ls hl => ?_)
  refine lv_goto (tgt := 114) hx hb dX6_readWord_81 (by decide) ?_
  refine lv_iinc (v := 11) (lv' := [(6, .int 11), (4, .int 3), (5, .int 0), (7, .int 114), (3, .int 1), (2, .int 0), (0, .ref av0), (1, .ref (adK 0))]) hx hb dX6_readWord_114 hl (k := 3) rfl (by decide) (by decide) rfl (fun ls hl => ?_)
  refine lv_goto (tgt := 24) hx hb dX6_readWord_117 (by decide) ?_
  refine lv_iload hx hb dX6_readWord_24 (lv_at hl 0 rfl) ?_
  refine lv_aload_n hx hb dX6_readWord_26 rfl (lv_at hl 7 rfl) ?_
  refine wk_ViT hC hK hw hA hE hSR [] [0] rfl rfl rfl rfl (by decide) (s_length l adK adV dC dI cy 0 (by decide) H.size) (cwV 0 hC.2.2.2.2 gX6_readWord_J0_length_8abf5 rfl rfl rfl (by decide +kernel) ⟨Nat.le_of_ble_eq_true rfl, Nat.le_of_ble_eq_true rfl⟩) 0 (by decide) rfl rfl rfl hl.1 rfl (Nat.le_of_ble_eq_true rfl) dX6_readWord_27 0 0 ⟨rfl, rfl⟩ ⟨Nat.le_of_ble_eq_true rfl, Nat.le_of_ble_eq_true rfl⟩ (fun r74 u73 H locs hp75 hw => ?_)
  have hw : Wd dC dI A s.heap H locs [(av0, .inr (6, [.ref av1, .int 0, .int 0, .int 0, .int 0]))] := hw
  obtain rfl : r74 = 26 := hp75
  refine lv_icmp_ge (tgt := 120) hx hb dX6_readWord_30 (by decide) (fun c => absurd c (by decide)) (fun _ => ?_)
  refine lv_aload_n hx hb dX6_readWord_33 rfl (lv_at hl 7 rfl) ?_
  refine lv_iload hx hb dX6_readWord_34 (lv_at hl 0 rfl) ?_
  refine wk_ViT hC hK hw hA hE hSR [] [0] rfl rfl rfl rfl (by decide) (s_charAt l adK adV dC dI cy 0 (by decide) 11 (by decide) (by decide) H.size) (cwV 1 hC.2.2.2.2 gX6_readWord_J0_charAt_5068e rfl rfl rfl (by decide +kernel) ⟨Nat.le_of_ble_eq_true rfl, Nat.le_of_ble_eq_true rfl⟩) 0 (by decide) rfl rfl rfl hl.1 rfl (Nat.le_of_ble_eq_true rfl) dX6_readWord_36 0 0 ⟨rfl, rfl⟩ ⟨Nat.le_of_ble_eq_true rfl, Nat.le_of_ble_eq_true rfl⟩ (fun r77 u76 H locs hp78 hw => ?_)
  have hw : Wd dC dI A s.heap H locs [(av0, .inr (6, [.ref av1, .int 0, .int 0, .int 0, .int 0]))] := hw
  obtain rfl : r77 = 101 := hp78
  refine lv_istore (lv' := [(7, .int 101), (6, .int 11), (4, .int 3), (5, .int 0), (3, .int 1), (2, .int 0), (0, .ref av0), (1, .ref (adK 0))]) hx hb dX6_readWord_39 hl (by decide) rfl (fun ls hl => ?_)
  refine lv_iload hx hb dX6_readWord_41 (lv_at hl 0 rfl) ?_
  refine lv_bipush (v := 32) hx hb dX6_readWord_43 (by decide) ?_
  refine lv_icmp_eq (tgt := 84) hx hb dX6_readWord_45 (by decide) (fun c => absurd c (by decide)) (fun _ => ?_)
  refine lv_iload hx hb dX6_readWord_48 (lv_at hl 3 rfl) ?_
  refine lv_if_eq (tgt := 75) hx hb dX6_readWord_50 (by decide) (fun _ => ?_) (fun c => absurd (by decide) c)
  refine lv_iconst (v := 0) hx hb dX6_readWord_75 (by decide) ?_
  refine lv_istore (lv' := [(5, .int 0), (7, .int 101), (6, .int 11), (4, .int 3), (3, .int 1), (2, .int 0), (0, .ref av0), (1, .ref (adK 0))]) hx hb dX6_readWord_76 hl (by decide) rfl (fun ls hl => ?_)
  refine lv_iinc (v := 4) (lv' := [(4, .int 4), (5, .int 0), (7, .int 101), (6, .int 11), (3, .int 1), (2, .int 0), (0, .ref av0), (1, .ref (adK 0))]) hx hb dX6_readWord_78 hl (k := 3) rfl (by decide) (by decide) rfl (fun ls hl => ?_)
  refine lv_goto (tgt := 114) hx hb dX6_readWord_81 (by decide) ?_
  refine lv_iinc (v := 12) (lv' := [(6, .int 12), (4, .int 4), (5, .int 0), (7, .int 101), (3, .int 1), (2, .int 0), (0, .ref av0), (1, .ref (adK 0))]) hx hb dX6_readWord_114 hl (k := 3) rfl (by decide) (by decide) rfl (fun ls hl => ?_)
  refine lv_goto (tgt := 24) hx hb dX6_readWord_117 (by decide) ?_
  refine lv_iload hx hb dX6_readWord_24 (lv_at hl 0 rfl) ?_
  refine lv_aload_n hx hb dX6_readWord_26 rfl (lv_at hl 7 rfl) ?_
  refine wk_ViT hC hK hw hA hE hSR [] [0] rfl rfl rfl rfl (by decide) (s_length l adK adV dC dI cy 0 (by decide) H.size) (cwV 0 hC.2.2.2.2 gX6_readWord_J0_length_8abf5 rfl rfl rfl (by decide +kernel) ⟨Nat.le_of_ble_eq_true rfl, Nat.le_of_ble_eq_true rfl⟩) 0 (by decide) rfl rfl rfl hl.1 rfl (Nat.le_of_ble_eq_true rfl) dX6_readWord_27 0 0 ⟨rfl, rfl⟩ ⟨Nat.le_of_ble_eq_true rfl, Nat.le_of_ble_eq_true rfl⟩ (fun r80 u79 H locs hp81 hw => ?_)
  have hw : Wd dC dI A s.heap H locs [(av0, .inr (6, [.ref av1, .int 0, .int 0, .int 0, .int 0]))] := hw
  obtain rfl : r80 = 26 := hp81
  refine lv_icmp_ge (tgt := 120) hx hb dX6_readWord_30 (by decide) (fun c => absurd c (by decide)) (fun _ => ?_)
  refine lv_aload_n hx hb dX6_readWord_33 rfl (lv_at hl 7 rfl) ?_
  refine lv_iload hx hb dX6_readWord_34 (lv_at hl 0 rfl) ?_
  refine wk_ViT hC hK hw hA hE hSR [] [0] rfl rfl rfl rfl (by decide) (s_charAt l adK adV dC dI cy 0 (by decide) 12 (by decide) (by decide) H.size) (cwV 1 hC.2.2.2.2 gX6_readWord_J0_charAt_5068e rfl rfl rfl (by decide +kernel) ⟨Nat.le_of_ble_eq_true rfl, Nat.le_of_ble_eq_true rfl⟩) 0 (by decide) rfl rfl rfl hl.1 rfl (Nat.le_of_ble_eq_true rfl) dX6_readWord_36 0 0 ⟨rfl, rfl⟩ ⟨Nat.le_of_ble_eq_true rfl, Nat.le_of_ble_eq_true rfl⟩ (fun r83 u82 H locs hp84 hw => ?_)
  have hw : Wd dC dI A s.heap H locs [(av0, .inr (6, [.ref av1, .int 0, .int 0, .int 0, .int 0]))] := hw
  obtain rfl : r83 = 101 := hp84
  refine lv_istore (lv' := [(7, .int 101), (6, .int 12), (4, .int 4), (5, .int 0), (3, .int 1), (2, .int 0), (0, .ref av0), (1, .ref (adK 0))]) hx hb dX6_readWord_39 hl (by decide) rfl (fun ls hl => ?_)
  refine lv_iload hx hb dX6_readWord_41 (lv_at hl 0 rfl) ?_
  refine lv_bipush (v := 32) hx hb dX6_readWord_43 (by decide) ?_
  refine lv_icmp_eq (tgt := 84) hx hb dX6_readWord_45 (by decide) (fun c => absurd c (by decide)) (fun _ => ?_)
  refine lv_iload hx hb dX6_readWord_48 (lv_at hl 3 rfl) ?_
  refine lv_if_eq (tgt := 75) hx hb dX6_readWord_50 (by decide) (fun _ => ?_) (fun c => absurd (by decide) c)
  refine lv_iconst (v := 0) hx hb dX6_readWord_75 (by decide) ?_
  refine lv_istore (lv' := [(5, .int 0), (7, .int 101), (6, .int 12), (4, .int 4), (3, .int 1), (2, .int 0), (0, .ref av0), (1, .ref (adK 0))]) hx hb dX6_readWord_76 hl (by decide) rfl (fun ls hl => ?_)
  refine lv_iinc (v := 5) (lv' := [(4, .int 5), (5, .int 0), (7, .int 101), (6, .int 12), (3, .int 1), (2, .int 0), (0, .ref av0), (1, .ref (adK 0))]) hx hb dX6_readWord_78 hl (k := 3) rfl (by decide) (by decide) rfl (fun ls hl => ?_)
  refine lv_goto (tgt := 114) hx hb dX6_readWord_81 (by decide) ?_
  refine lv_iinc (v := 13) (lv' := [(6, .int 13), (4, .int 5), (5, .int 0), (7, .int 101), (3, .int 1), (2, .int 0), (0, .ref av0), (1, .ref (adK 0))]) hx hb dX6_readWord_114 hl (k := 3) rfl (by decide) (by decide) rfl (fun ls hl => ?_)
  refine lv_goto (tgt := 24) hx hb dX6_readWord_117 (by decide) ?_
  refine lv_iload hx hb dX6_readWord_24 (lv_at hl 0 rfl) ?_
  refine lv_aload_n hx hb dX6_readWord_26 rfl (lv_at hl 7 rfl) ?_
  refine wk_ViT hC hK hw hA hE hSR [] [0] rfl rfl rfl rfl (by decide) (s_length l adK adV dC dI cy 0 (by decide) H.size) (cwV 0 hC.2.2.2.2 gX6_readWord_J0_length_8abf5 rfl rfl rfl (by decide +kernel) ⟨Nat.le_of_ble_eq_true rfl, Nat.le_of_ble_eq_true rfl⟩) 0 (by decide) rfl rfl rfl hl.1 rfl (Nat.le_of_ble_eq_true rfl) dX6_readWord_27 0 0 ⟨rfl, rfl⟩ ⟨Nat.le_of_ble_eq_true rfl, Nat.le_of_ble_eq_true rfl⟩ (fun r86 u85 H locs hp87 hw => ?_)
  have hw : Wd dC dI A s.heap H locs [(av0, .inr (6, [.ref av1, .int 0, .int 0, .int 0, .int 0]))] := hw
  obtain rfl : r86 = 26 := hp87
  refine lv_icmp_ge (tgt := 120) hx hb dX6_readWord_30 (by decide) (fun c => absurd c (by decide)) (fun _ => ?_)
  refine lv_aload_n hx hb dX6_readWord_33 rfl (lv_at hl 7 rfl) ?_
  refine lv_iload hx hb dX6_readWord_34 (lv_at hl 0 rfl) ?_
  refine wk_ViT hC hK hw hA hE hSR [] [0] rfl rfl rfl rfl (by decide) (s_charAt l adK adV dC dI cy 0 (by decide) 13 (by decide) (by decide) H.size) (cwV 1 hC.2.2.2.2 gX6_readWord_J0_charAt_5068e rfl rfl rfl (by decide +kernel) ⟨Nat.le_of_ble_eq_true rfl, Nat.le_of_ble_eq_true rfl⟩) 0 (by decide) rfl rfl rfl hl.1 rfl (Nat.le_of_ble_eq_true rfl) dX6_readWord_36 0 0 ⟨rfl, rfl⟩ ⟨Nat.le_of_ble_eq_true rfl, Nat.le_of_ble_eq_true rfl⟩ (fun r89 u88 H locs hp90 hw => ?_)
  have hw : Wd dC dI A s.heap H locs [(av0, .inr (6, [.ref av1, .int 0, .int 0, .int 0, .int 0]))] := hw
  obtain rfl : r89 = 116 := hp90
  refine lv_istore (lv' := [(7, .int 116), (6, .int 13), (4, .int 5), (5, .int 0), (3, .int 1), (2, .int 0), (0, .ref av0), (1, .ref (adK 0))]) hx hb dX6_readWord_39 hl (by decide) rfl (fun ls hl => ?_)
  refine lv_iload hx hb dX6_readWord_41 (lv_at hl 0 rfl) ?_
  refine lv_bipush (v := 32) hx hb dX6_readWord_43 (by decide) ?_
  refine lv_icmp_eq (tgt := 84) hx hb dX6_readWord_45 (by decide) (fun c => absurd c (by decide)) (fun _ => ?_)
  refine lv_iload hx hb dX6_readWord_48 (lv_at hl 3 rfl) ?_
  refine lv_if_eq (tgt := 75) hx hb dX6_readWord_50 (by decide) (fun _ => ?_) (fun c => absurd (by decide) c)
  refine lv_iconst (v := 0) hx hb dX6_readWord_75 (by decide) ?_
  refine lv_istore (lv' := [(5, .int 0), (7, .int 116), (6, .int 13), (4, .int 5), (3, .int 1), (2, .int 0), (0, .ref av0), (1, .ref (adK 0))]) hx hb dX6_readWord_76 hl (by decide) rfl (fun ls hl => ?_)
  refine lv_iinc (v := 6) (lv' := [(4, .int 6), (5, .int 0), (7, .int 116), (6, .int 13), (3, .int 1), (2, .int 0), (0, .ref av0), (1, .ref (adK 0))]) hx hb dX6_readWord_78 hl (k := 3) rfl (by decide) (by decide) rfl (fun ls hl => ?_)
  refine lv_goto (tgt := 114) hx hb dX6_readWord_81 (by decide) ?_
  refine lv_iinc (v := 14) (lv' := [(6, .int 14), (4, .int 6), (5, .int 0), (7, .int 116), (3, .int 1), (2, .int 0), (0, .ref av0), (1, .ref (adK 0))]) hx hb dX6_readWord_114 hl (k := 3) rfl (by decide) (by decide) rfl (fun ls hl => ?_)
  refine lv_goto (tgt := 24) hx hb dX6_readWord_117 (by decide) ?_
  refine lv_iload hx hb dX6_readWord_24 (lv_at hl 0 rfl) ?_
  refine lv_aload_n hx hb dX6_readWord_26 rfl (lv_at hl 7 rfl) ?_
  refine wk_ViT hC hK hw hA hE hSR [] [0] rfl rfl rfl rfl (by decide) (s_length l adK adV dC dI cy 0 (by decide) H.size) (cwV 0 hC.2.2.2.2 gX6_readWord_J0_length_8abf5 rfl rfl rfl (by decide +kernel) ⟨Nat.le_of_ble_eq_true rfl, Nat.le_of_ble_eq_true rfl⟩) 0 (by decide) rfl rfl rfl hl.1 rfl (Nat.le_of_ble_eq_true rfl) dX6_readWord_27 0 0 ⟨rfl, rfl⟩ ⟨Nat.le_of_ble_eq_true rfl, Nat.le_of_ble_eq_true rfl⟩ (fun r92 u91 H locs hp93 hw => ?_)
  have hw : Wd dC dI A s.heap H locs [(av0, .inr (6, [.ref av1, .int 0, .int 0, .int 0, .int 0]))] := hw
  obtain rfl : r92 = 26 := hp93
  refine lv_icmp_ge (tgt := 120) hx hb dX6_readWord_30 (by decide) (fun c => absurd c (by decide)) (fun _ => ?_)
  refine lv_aload_n hx hb dX6_readWord_33 rfl (lv_at hl 7 rfl) ?_
  refine lv_iload hx hb dX6_readWord_34 (lv_at hl 0 rfl) ?_
  refine wk_ViT hC hK hw hA hE hSR [] [0] rfl rfl rfl rfl (by decide) (s_charAt l adK adV dC dI cy 0 (by decide) 14 (by decide) (by decide) H.size) (cwV 1 hC.2.2.2.2 gX6_readWord_J0_charAt_5068e rfl rfl rfl (by decide +kernel) ⟨Nat.le_of_ble_eq_true rfl, Nat.le_of_ble_eq_true rfl⟩) 0 (by decide) rfl rfl rfl hl.1 rfl (Nat.le_of_ble_eq_true rfl) dX6_readWord_36 0 0 ⟨rfl, rfl⟩ ⟨Nat.le_of_ble_eq_true rfl, Nat.le_of_ble_eq_true rfl⟩ (fun r95 u94 H locs hp96 hw => ?_)
  have hw : Wd dC dI A s.heap H locs [(av0, .inr (6, [.ref av1, .int 0, .int 0, .int 0, .int 0]))] := hw
  obtain rfl : r95 = 32 := hp96
  refine lv_istore (lv' := [(7, .int 32), (6, .int 14), (4, .int 6), (5, .int 0), (3, .int 1), (2, .int 0), (0, .ref av0), (1, .ref (adK 0))]) hx hb dX6_readWord_39 hl (by decide) rfl (fun ls hl => ?_)
  refine lv_iload hx hb dX6_readWord_41 (lv_at hl 0 rfl) ?_
  refine lv_bipush (v := 32) hx hb dX6_readWord_43 (by decide) ?_
  refine lv_icmp_eq (tgt := 84) hx hb dX6_readWord_45 (by decide) (fun _ => ?_) (fun c => absurd (by decide) c)
  refine lv_iload hx hb dX6_readWord_84 (lv_at hl 3 rfl) ?_
  refine lv_if_eq (tgt := 102) hx hb dX6_readWord_86 (by decide) (fun _ => ?_) (fun c => absurd (by decide) c)
  refine lv_iinc (v := 2) (lv' := [(3, .int 2), (7, .int 32), (6, .int 14), (4, .int 6), (5, .int 0), (2, .int 0), (0, .ref av0), (1, .ref (adK 0))]) hx hb dX6_readWord_102 hl (k := 4) rfl (by decide) (by decide) rfl (fun ls hl => ?_)
  refine lv_aload_n hx hb dX6_readWord_105 rfl (lv_at hl 6 rfl) ?_
  refine wk_get hC hK hw hinX6 0 rfl rfl 1 (by decide) (List.mem_of_getElem? (i := 1) rfl) rfl rfl dX6_readWord_106 ?_
  refine lv_istore (lv' := [(4, .int 0), (3, .int 2), (7, .int 32), (6, .int 14), (5, .int 0), (2, .int 0), (0, .ref av0), (1, .ref (adK 0))]) hx hb dX6_readWord_109 hl (by decide) rfl (fun ls hl => ?_)
  refine lv_iconst (v := 1) hx hb dX6_readWord_111 (by decide) ?_
  refine lv_istore (lv' := [(5, .int 1), (4, .int 0), (3, .int 2), (7, .int 32), (6, .int 14), (2, .int 0), (0, .ref av0), (1, .ref (adK 0))]) hx hb dX6_readWord_112 hl (by decide) rfl (fun ls hl => ?_)
  refine lv_iinc (v := 15) (lv' := [(6, .int 15), (5, .int 1), (4, .int 0), (3, .int 2), (7, .int 32), (2, .int 0), (0, .ref av0), (1, .ref (adK 0))]) hx hb dX6_readWord_114 hl (k := 4) rfl (by decide) (by decide) rfl (fun ls hl => ?_)
  refine lv_goto (tgt := 24) hx hb dX6_readWord_117 (by decide) ?_
  refine lv_iload hx hb dX6_readWord_24 (lv_at hl 0 rfl) ?_
  refine lv_aload_n hx hb dX6_readWord_26 rfl (lv_at hl 7 rfl) ?_
  refine wk_ViT hC hK hw hA hE hSR [] [0] rfl rfl rfl rfl (by decide) (s_length l adK adV dC dI cy 0 (by decide) H.size) (cwV 0 hC.2.2.2.2 gX6_readWord_J0_length_8abf5 rfl rfl rfl (by decide +kernel) ⟨Nat.le_of_ble_eq_true rfl, Nat.le_of_ble_eq_true rfl⟩) 0 (by decide) rfl rfl rfl hl.1 rfl (Nat.le_of_ble_eq_true rfl) dX6_readWord_27 0 0 ⟨rfl, rfl⟩ ⟨Nat.le_of_ble_eq_true rfl, Nat.le_of_ble_eq_true rfl⟩ (fun r98 u97 H locs hp99 hw => ?_)
  have hw : Wd dC dI A s.heap H locs [(av0, .inr (6, [.ref av1, .int 0, .int 0, .int 0, .int 0]))] := hw
  obtain rfl : r98 = 26 := hp99
  refine lv_icmp_ge (tgt := 120) hx hb dX6_readWord_30 (by decide) (fun c => absurd c (by decide)) (fun _ => ?_)
  refine lv_aload_n hx hb dX6_readWord_33 rfl (lv_at hl 7 rfl) ?_
  refine lv_iload hx hb dX6_readWord_34 (lv_at hl 0 rfl) ?_
  refine wk_ViT hC hK hw hA hE hSR [] [0] rfl rfl rfl rfl (by decide) (s_charAt l adK adV dC dI cy 0 (by decide) 15 (by decide) (by decide) H.size) (cwV 1 hC.2.2.2.2 gX6_readWord_J0_charAt_5068e rfl rfl rfl (by decide +kernel) ⟨Nat.le_of_ble_eq_true rfl, Nat.le_of_ble_eq_true rfl⟩) 0 (by decide) rfl rfl rfl hl.1 rfl (Nat.le_of_ble_eq_true rfl) dX6_readWord_36 0 0 ⟨rfl, rfl⟩ ⟨Nat.le_of_ble_eq_true rfl, Nat.le_of_ble_eq_true rfl⟩ (fun r101 u100 H locs hp102 hw => ?_)
  have hw : Wd dC dI A s.heap H locs [(av0, .inr (6, [.ref av1, .int 0, .int 0, .int 0, .int 0]))] := hw
  obtain rfl : r101 = 115 := hp102
  refine lv_istore (lv' := [(7, .int 115), (6, .int 15), (5, .int 1), (4, .int 0), (3, .int 2), (2, .int 0), (0, .ref av0), (1, .ref (adK 0))]) hx hb dX6_readWord_39 hl (by decide) rfl (fun ls hl => ?_)
  refine lv_iload hx hb dX6_readWord_41 (lv_at hl 0 rfl) ?_
  refine lv_bipush (v := 32) hx hb dX6_readWord_43 (by decide) ?_
  refine lv_icmp_eq (tgt := 84) hx hb dX6_readWord_45 (by decide) (fun c => absurd c (by decide)) (fun _ => ?_)
  refine lv_iload hx hb dX6_readWord_48 (lv_at hl 2 rfl) ?_
  refine lv_if_eq (tgt := 75) hx hb dX6_readWord_50 (by decide) (fun c => absurd c (by decide)) (fun _ => ?_)
  refine lv_iload hx hb dX6_readWord_53 (lv_at hl 3 rfl) ?_
  refine lv_iload_n hx hb dX6_readWord_55 rfl (lv_at hl 5 rfl) ?_
  refine lv_icmp_ge (tgt := 75) hx hb dX6_readWord_56 (by decide) (fun _ => ?_) (fun c => absurd (by decide) c)
  refine lv_iconst (v := 0) hx hb dX6_readWord_75 (by decide) ?_
  refine lv_istore (lv' := [(5, .int 0), (7, .int 115), (6, .int 15), (4, .int 0), (3, .int 2), (2, .int 0), (0, .ref av0), (1, .ref (adK 0))]) hx hb dX6_readWord_76 hl (by decide) rfl (fun ls hl => ?_)
  refine lv_iinc (v := 1) (lv' := [(4, .int 1), (5, .int 0), (7, .int 115), (6, .int 15), (3, .int 2), (2, .int 0), (0, .ref av0), (1, .ref (adK 0))]) hx hb dX6_readWord_78 hl (k := 3) rfl (by decide) (by decide) rfl (fun ls hl => ?_)
  refine lv_goto (tgt := 114) hx hb dX6_readWord_81 (by decide) ?_
  refine lv_iinc (v := 16) (lv' := [(6, .int 16), (4, .int 1), (5, .int 0), (7, .int 115), (3, .int 2), (2, .int 0), (0, .ref av0), (1, .ref (adK 0))]) hx hb dX6_readWord_114 hl (k := 3) rfl (by decide) (by decide) rfl (fun ls hl => ?_)
  refine lv_goto (tgt := 24) hx hb dX6_readWord_117 (by decide) ?_
  refine lv_iload hx hb dX6_readWord_24 (lv_at hl 0 rfl) ?_
  refine lv_aload_n hx hb dX6_readWord_26 rfl (lv_at hl 7 rfl) ?_
  refine wk_ViT hC hK hw hA hE hSR [] [0] rfl rfl rfl rfl (by decide) (s_length l adK adV dC dI cy 0 (by decide) H.size) (cwV 0 hC.2.2.2.2 gX6_readWord_J0_length_8abf5 rfl rfl rfl (by decide +kernel) ⟨Nat.le_of_ble_eq_true rfl, Nat.le_of_ble_eq_true rfl⟩) 0 (by decide) rfl rfl rfl hl.1 rfl (Nat.le_of_ble_eq_true rfl) dX6_readWord_27 0 0 ⟨rfl, rfl⟩ ⟨Nat.le_of_ble_eq_true rfl, Nat.le_of_ble_eq_true rfl⟩ (fun r104 u103 H locs hp105 hw => ?_)
  have hw : Wd dC dI A s.heap H locs [(av0, .inr (6, [.ref av1, .int 0, .int 0, .int 0, .int 0]))] := hw
  obtain rfl : r104 = 26 := hp105
  refine lv_icmp_ge (tgt := 120) hx hb dX6_readWord_30 (by decide) (fun c => absurd c (by decide)) (fun _ => ?_)
  refine lv_aload_n hx hb dX6_readWord_33 rfl (lv_at hl 7 rfl) ?_
  refine lv_iload hx hb dX6_readWord_34 (lv_at hl 0 rfl) ?_
  refine wk_ViT hC hK hw hA hE hSR [] [0] rfl rfl rfl rfl (by decide) (s_charAt l adK adV dC dI cy 0 (by decide) 16 (by decide) (by decide) H.size) (cwV 1 hC.2.2.2.2 gX6_readWord_J0_charAt_5068e rfl rfl rfl (by decide +kernel) ⟨Nat.le_of_ble_eq_true rfl, Nat.le_of_ble_eq_true rfl⟩) 0 (by decide) rfl rfl rfl hl.1 rfl (Nat.le_of_ble_eq_true rfl) dX6_readWord_36 0 0 ⟨rfl, rfl⟩ ⟨Nat.le_of_ble_eq_true rfl, Nat.le_of_ble_eq_true rfl⟩ (fun r107 u106 H locs hp108 hw => ?_)
  have hw : Wd dC dI A s.heap H locs [(av0, .inr (6, [.ref av1, .int 0, .int 0, .int 0, .int 0]))] := hw
  obtain rfl : r107 = 97 := hp108
  refine lv_istore (lv' := [(7, .int 97), (6, .int 16), (4, .int 1), (5, .int 0), (3, .int 2), (2, .int 0), (0, .ref av0), (1, .ref (adK 0))]) hx hb dX6_readWord_39 hl (by decide) rfl (fun ls hl => ?_)
  refine lv_iload hx hb dX6_readWord_41 (lv_at hl 0 rfl) ?_
  refine lv_bipush (v := 32) hx hb dX6_readWord_43 (by decide) ?_
  refine lv_icmp_eq (tgt := 84) hx hb dX6_readWord_45 (by decide) (fun c => absurd c (by decide)) (fun _ => ?_)
  refine lv_iload hx hb dX6_readWord_48 (lv_at hl 3 rfl) ?_
  refine lv_if_eq (tgt := 75) hx hb dX6_readWord_50 (by decide) (fun _ => ?_) (fun c => absurd (by decide) c)
  refine lv_iconst (v := 0) hx hb dX6_readWord_75 (by decide) ?_
  refine lv_istore (lv' := [(5, .int 0), (7, .int 97), (6, .int 16), (4, .int 1), (3, .int 2), (2, .int 0), (0, .ref av0), (1, .ref (adK 0))]) hx hb dX6_readWord_76 hl (by decide) rfl (fun ls hl => ?_)
  refine lv_iinc (v := 2) (lv' := [(4, .int 2), (5, .int 0), (7, .int 97), (6, .int 16), (3, .int 2), (2, .int 0), (0, .ref av0), (1, .ref (adK 0))]) hx hb dX6_readWord_78 hl (k := 3) rfl (by decide) (by decide) rfl (fun ls hl => ?_)
  refine lv_goto (tgt := 114) hx hb dX6_readWord_81 (by decide) ?_
  refine lv_iinc (v := 17) (lv' := [(6, .int 17), (4, .int 2), (5, .int 0), (7, .int 97), (3, .int 2), (2, .int 0), (0, .ref av0), (1, .ref (adK 0))]) hx hb dX6_readWord_114 hl (k := 3) rfl (by decide) (by decide) rfl (fun ls hl => ?_)
  refine lv_goto (tgt := 24) hx hb dX6_readWord_117 (by decide) ?_
  refine lv_iload hx hb dX6_readWord_24 (lv_at hl 0 rfl) ?_
  refine lv_aload_n hx hb dX6_readWord_26 rfl (lv_at hl 7 rfl) ?_
  refine wk_ViT hC hK hw hA hE hSR [] [0] rfl rfl rfl rfl (by decide) (s_length l adK adV dC dI cy 0 (by decide) H.size) (cwV 0 hC.2.2.2.2 gX6_readWord_J0_length_8abf5 rfl rfl rfl (by decide +kernel) ⟨Nat.le_of_ble_eq_true rfl, Nat.le_of_ble_eq_true rfl⟩) 0 (by decide) rfl rfl rfl hl.1 rfl (Nat.le_of_ble_eq_true rfl) dX6_readWord_27 0 0 ⟨rfl, rfl⟩ ⟨Nat.le_of_ble_eq_true rfl, Nat.le_of_ble_eq_true rfl⟩ (fun r110 u109 H locs hp111 hw => ?_)
  have hw : Wd dC dI A s.heap H locs [(av0, .inr (6, [.ref av1, .int 0, .int 0, .int 0, .int 0]))] := hw
  obtain rfl : r110 = 26 := hp111
  refine lv_icmp_ge (tgt := 120) hx hb dX6_readWord_30 (by decide) (fun c => absurd c (by decide)) (fun _ => ?_)
  refine lv_aload_n hx hb dX6_readWord_33 rfl (lv_at hl 7 rfl) ?_
  refine lv_iload hx hb dX6_readWord_34 (lv_at hl 0 rfl) ?_
  refine wk_ViT hC hK hw hA hE hSR [] [0] rfl rfl rfl rfl (by decide) (s_charAt l adK adV dC dI cy 0 (by decide) 17 (by decide) (by decide) H.size) (cwV 1 hC.2.2.2.2 gX6_readWord_J0_charAt_5068e rfl rfl rfl (by decide +kernel) ⟨Nat.le_of_ble_eq_true rfl, Nat.le_of_ble_eq_true rfl⟩) 0 (by decide) rfl rfl rfl hl.1 rfl (Nat.le_of_ble_eq_true rfl) dX6_readWord_36 0 0 ⟨rfl, rfl⟩ ⟨Nat.le_of_ble_eq_true rfl, Nat.le_of_ble_eq_true rfl⟩ (fun r113 u112 H locs hp114 hw => ?_)
  have hw : Wd dC dI A s.heap H locs [(av0, .inr (6, [.ref av1, .int 0, .int 0, .int 0, .int 0]))] := hw
  obtain rfl : r113 = 105 := hp114
  refine lv_istore (lv' := [(7, .int 105), (6, .int 17), (4, .int 2), (5, .int 0), (3, .int 2), (2, .int 0), (0, .ref av0), (1, .ref (adK 0))]) hx hb dX6_readWord_39 hl (by decide) rfl (fun ls hl => ?_)
  refine lv_iload hx hb dX6_readWord_41 (lv_at hl 0 rfl) ?_
  refine lv_bipush (v := 32) hx hb dX6_readWord_43 (by decide) ?_
  refine lv_icmp_eq (tgt := 84) hx hb dX6_readWord_45 (by decide) (fun c => absurd c (by decide)) (fun _ => ?_)
  refine lv_iload hx hb dX6_readWord_48 (lv_at hl 3 rfl) ?_
  refine lv_if_eq (tgt := 75) hx hb dX6_readWord_50 (by decide) (fun _ => ?_) (fun c => absurd (by decide) c)
  refine lv_iconst (v := 0) hx hb dX6_readWord_75 (by decide) ?_
  refine lv_istore (lv' := [(5, .int 0), (7, .int 105), (6, .int 17), (4, .int 2), (3, .int 2), (2, .int 0), (0, .ref av0), (1, .ref (adK 0))]) hx hb dX6_readWord_76 hl (by decide) rfl (fun ls hl => ?_)
  refine lv_iinc (v := 3) (lv' := [(4, .int 3), (5, .int 0), (7, .int 105), (6, .int 17), (3, .int 2), (2, .int 0), (0, .ref av0), (1, .ref (adK 0))]) hx hb dX6_readWord_78 hl (k := 3) rfl (by decide) (by decide) rfl (fun ls hl => ?_)
  refine lv_goto (tgt := 114) hx hb dX6_readWord_81 (by decide) ?_
  refine lv_iinc (v := 18) (lv' := [(6, .int 18), (4, .int 3), (5, .int 0), (7, .int 105), (3, .int 2), (2, .int 0), (0, .ref av0), (1, .ref (adK 0))]) hx hb dX6_readWord_114 hl (k := 3) rfl (by decide) (by decide) rfl (fun ls hl => ?_)
  refine lv_goto (tgt := 24) hx hb dX6_readWord_117 (by decide) ?_
  refine lv_iload hx hb dX6_readWord_24 (lv_at hl 0 rfl) ?_
  refine lv_aload_n hx hb dX6_readWord_26 rfl (lv_at hl 7 rfl) ?_
  refine wk_ViT hC hK hw hA hE hSR [] [0] rfl rfl rfl rfl (by decide) (s_length l adK adV dC dI cy 0 (by decide) H.size) (cwV 0 hC.2.2.2.2 gX6_readWord_J0_length_8abf5 rfl rfl rfl (by decide +kernel) ⟨Nat.le_of_ble_eq_true rfl, Nat.le_of_ble_eq_true rfl⟩) 0 (by decide) rfl rfl rfl hl.1 rfl (Nat.le_of_ble_eq_true rfl) dX6_readWord_27 0 0 ⟨rfl, rfl⟩ ⟨Nat.le_of_ble_eq_true rfl, Nat.le_of_ble_eq_true rfl⟩ (fun r116 u115 H locs hp117 hw => ?_)
  have hw : Wd dC dI A s.heap H locs [(av0, .inr (6, [.ref av1, .int 0, .int 0, .int 0, .int 0]))] := hw
  obtain rfl : r116 = 26 := hp117
  refine lv_icmp_ge (tgt := 120) hx hb dX6_readWord_30 (by decide) (fun c => absurd c (by decide)) (fun _ => ?_)
  refine lv_aload_n hx hb dX6_readWord_33 rfl (lv_at hl 7 rfl) ?_
  refine lv_iload hx hb dX6_readWord_34 (lv_at hl 0 rfl) ?_
  refine wk_ViT hC hK hw hA hE hSR [] [0] rfl rfl rfl rfl (by decide) (s_charAt l adK adV dC dI cy 0 (by decide) 18 (by decide) (by decide) H.size) (cwV 1 hC.2.2.2.2 gX6_readWord_J0_charAt_5068e rfl rfl rfl (by decide +kernel) ⟨Nat.le_of_ble_eq_true rfl, Nat.le_of_ble_eq_true rfl⟩) 0 (by decide) rfl rfl rfl hl.1 rfl (Nat.le_of_ble_eq_true rfl) dX6_readWord_36 0 0 ⟨rfl, rfl⟩ ⟨Nat.le_of_ble_eq_true rfl, Nat.le_of_ble_eq_true rfl⟩ (fun r119 u118 H locs hp120 hw => ?_)
  have hw : Wd dC dI A s.heap H locs [(av0, .inr (6, [.ref av1, .int 0, .int 0, .int 0, .int 0]))] := hw
  obtain rfl : r119 = 110 := hp120
  refine lv_istore (lv' := [(7, .int 110), (6, .int 18), (4, .int 3), (5, .int 0), (3, .int 2), (2, .int 0), (0, .ref av0), (1, .ref (adK 0))]) hx hb dX6_readWord_39 hl (by decide) rfl (fun ls hl => ?_)
  refine lv_iload hx hb dX6_readWord_41 (lv_at hl 0 rfl) ?_
  refine lv_bipush (v := 32) hx hb dX6_readWord_43 (by decide) ?_
  refine lv_icmp_eq (tgt := 84) hx hb dX6_readWord_45 (by decide) (fun c => absurd c (by decide)) (fun _ => ?_)
  refine lv_iload hx hb dX6_readWord_48 (lv_at hl 3 rfl) ?_
  refine lv_if_eq (tgt := 75) hx hb dX6_readWord_50 (by decide) (fun _ => ?_) (fun c => absurd (by decide) c)
  refine lv_iconst (v := 0) hx hb dX6_readWord_75 (by decide) ?_
  refine lv_istore (lv' := [(5, .int 0), (7, .int 110), (6, .int 18), (4, .int 3), (3, .int 2), (2, .int 0), (0, .ref av0), (1, .ref (adK 0))]) hx hb dX6_readWord_76 hl (by decide) rfl (fun ls hl => ?_)
  refine lv_iinc (v := 4) (lv' := [(4, .int 4), (5, .int 0), (7, .int 110), (6, .int 18), (3, .int 2), (2, .int 0), (0, .ref av0), (1, .ref (adK 0))]) hx hb dX6_readWord_78 hl (k := 3) rfl (by decide) (by decide) rfl (fun ls hl => ?_)
  refine lv_goto (tgt := 114) hx hb dX6_readWord_81 (by decide) ?_
  refine lv_iinc (v := 19) (lv' := [(6, .int 19), (4, .int 4), (5, .int 0), (7, .int 110), (3, .int 2), (2, .int 0), (0, .ref av0), (1, .ref (adK 0))]) hx hb dX6_readWord_114 hl (k := 3) rfl (by decide) (by decide) rfl (fun ls hl => ?_)
  refine lv_goto (tgt := 24) hx hb dX6_readWord_117 (by decide) ?_
  refine lv_iload hx hb dX6_readWord_24 (lv_at hl 0 rfl) ?_
  refine lv_aload_n hx hb dX6_readWord_26 rfl (lv_at hl 7 rfl) ?_
  refine wk_ViT hC hK hw hA hE hSR [] [0] rfl rfl rfl rfl (by decide) (s_length l adK adV dC dI cy 0 (by decide) H.size) (cwV 0 hC.2.2.2.2 gX6_readWord_J0_length_8abf5 rfl rfl rfl (by decide +kernel) ⟨Nat.le_of_ble_eq_true rfl, Nat.le_of_ble_eq_true rfl⟩) 0 (by decide) rfl rfl rfl hl.1 rfl (Nat.le_of_ble_eq_true rfl) dX6_readWord_27 0 0 ⟨rfl, rfl⟩ ⟨Nat.le_of_ble_eq_true rfl, Nat.le_of_ble_eq_true rfl⟩ (fun r122 u121 H locs hp123 hw => ?_)
  have hw : Wd dC dI A s.heap H locs [(av0, .inr (6, [.ref av1, .int 0, .int 0, .int 0, .int 0]))] := hw
  obtain rfl : r122 = 26 := hp123
  refine lv_icmp_ge (tgt := 120) hx hb dX6_readWord_30 (by decide) (fun c => absurd c (by decide)) (fun _ => ?_)
  refine lv_aload_n hx hb dX6_readWord_33 rfl (lv_at hl 7 rfl) ?_
  refine lv_iload hx hb dX6_readWord_34 (lv_at hl 0 rfl) ?_
  refine wk_ViT hC hK hw hA hE hSR [] [0] rfl rfl rfl rfl (by decide) (s_charAt l adK adV dC dI cy 0 (by decide) 19 (by decide) (by decide) H.size) (cwV 1 hC.2.2.2.2 gX6_readWord_J0_charAt_5068e rfl rfl rfl (by decide +kernel) ⟨Nat.le_of_ble_eq_true rfl, Nat.le_of_ble_eq_true rfl⟩) 0 (by decide) rfl rfl rfl hl.1 rfl (Nat.le_of_ble_eq_true rfl) dX6_readWord_36 0 0 ⟨rfl, rfl⟩ ⟨Nat.le_of_ble_eq_true rfl, Nat.le_of_ble_eq_true rfl⟩ (fun r125 u124 H locs hp126 hw => ?_)
  have hw : Wd dC dI A s.heap H locs [(av0, .inr (6, [.ref av1, .int 0, .int 0, .int 0, .int 0]))] := hw
  obtain rfl : r125 = 116 := hp126
  refine lv_istore (lv' := [(7, .int 116), (6, .int 19), (4, .int 4), (5, .int 0), (3, .int 2), (2, .int 0), (0, .ref av0), (1, .ref (adK 0))]) hx hb dX6_readWord_39 hl (by decide) rfl (fun ls hl => ?_)
  refine lv_iload hx hb dX6_readWord_41 (lv_at hl 0 rfl) ?_
  refine lv_bipush (v := 32) hx hb dX6_readWord_43 (by decide) ?_
  refine lv_icmp_eq (tgt := 84) hx hb dX6_readWord_45 (by decide) (fun c => absurd c (by decide)) (fun _ => ?_)
  refine lv_iload hx hb dX6_readWord_48 (lv_at hl 3 rfl) ?_
  refine lv_if_eq (tgt := 75) hx hb dX6_readWord_50 (by decide) (fun _ => ?_) (fun c => absurd (by decide) c)
  refine lv_iconst (v := 0) hx hb dX6_readWord_75 (by decide) ?_
  refine lv_istore (lv' := [(5, .int 0), (7, .int 116), (6, .int 19), (4, .int 4), (3, .int 2), (2, .int 0), (0, .ref av0), (1, .ref (adK 0))]) hx hb dX6_readWord_76 hl (by decide) rfl (fun ls hl => ?_)
  refine lv_iinc (v := 5) (lv' := [(4, .int 5), (5, .int 0), (7, .int 116), (6, .int 19), (3, .int 2), (2, .int 0), (0, .ref av0), (1, .ref (adK 0))]) hx hb dX6_readWord_78 hl (k := 3) rfl (by decide) (by decide) rfl (fun ls hl => ?_)
  refine lv_goto (tgt := 114) hx hb dX6_readWord_81 (by decide) ?_
  refine lv_iinc (v := 20) (lv' := [(6, .int 20), (4, .int 5), (5, .int 0), (7, .int 116), (3, .int 2), (2, .int 0), (0, .ref av0), (1, .ref (adK 0))]) hx hb dX6_readWord_114 hl (k := 3) rfl (by decide) (by decide) rfl (fun ls hl => ?_)
  refine lv_goto (tgt := 24) hx hb dX6_readWord_117 (by decide) ?_
  refine lv_iload hx hb dX6_readWord_24 (lv_at hl 0 rfl) ?_
  refine lv_aload_n hx hb dX6_readWord_26 rfl (lv_at hl 7 rfl) ?_
  refine wk_ViT hC hK hw hA hE hSR [] [0] rfl rfl rfl rfl (by decide) (s_length l adK adV dC dI cy 0 (by decide) H.size) (cwV 0 hC.2.2.2.2 gX6_readWord_J0_length_8abf5 rfl rfl rfl (by decide +kernel) ⟨Nat.le_of_ble_eq_true rfl, Nat.le_of_ble_eq_true rfl⟩) 0 (by decide) rfl rfl rfl hl.1 rfl (Nat.le_of_ble_eq_true rfl) dX6_readWord_27 0 0 ⟨rfl, rfl⟩ ⟨Nat.le_of_ble_eq_true rfl, Nat.le_of_ble_eq_true rfl⟩ (fun r128 u127 H locs hp129 hw => ?_)
  have hw : Wd dC dI A s.heap H locs [(av0, .inr (6, [.ref av1, .int 0, .int 0, .int 0, .int 0]))] := hw
  obtain rfl : r128 = 26 := hp129
  refine lv_icmp_ge (tgt := 120) hx hb dX6_readWord_30 (by decide) (fun c => absurd c (by decide)) (fun _ => ?_)
  refine lv_aload_n hx hb dX6_readWord_33 rfl (lv_at hl 7 rfl) ?_
  refine lv_iload hx hb dX6_readWord_34 (lv_at hl 0 rfl) ?_
  refine wk_ViT hC hK hw hA hE hSR [] [0] rfl rfl rfl rfl (by decide) (s_charAt l adK adV dC dI cy 0 (by decide) 20 (by decide) (by decide) H.size) (cwV 1 hC.2.2.2.2 gX6_readWord_J0_charAt_5068e rfl rfl rfl (by decide +kernel) ⟨Nat.le_of_ble_eq_true rfl, Nat.le_of_ble_eq_true rfl⟩) 0 (by decide) rfl rfl rfl hl.1 rfl (Nat.le_of_ble_eq_true rfl) dX6_readWord_36 0 0 ⟨rfl, rfl⟩ ⟨Nat.le_of_ble_eq_true rfl, Nat.le_of_ble_eq_true rfl⟩ (fun r131 u130 H locs hp132 hw => ?_)
  have hw : Wd dC dI A s.heap H locs [(av0, .inr (6, [.ref av1, .int 0, .int 0, .int 0, .int 0]))] := hw
  obtain rfl : r131 = 32 := hp132
  refine lv_istore (lv' := [(7, .int 32), (6, .int 20), (4, .int 5), (5, .int 0), (3, .int 2), (2, .int 0), (0, .ref av0), (1, .ref (adK 0))]) hx hb dX6_readWord_39 hl (by decide) rfl (fun ls hl => ?_)
  refine lv_iload hx hb dX6_readWord_41 (lv_at hl 0 rfl) ?_
  refine lv_bipush (v := 32) hx hb dX6_readWord_43 (by decide) ?_
  refine lv_icmp_eq (tgt := 84) hx hb dX6_readWord_45 (by decide) (fun _ => ?_) (fun c => absurd (by decide) c)
  refine lv_iload hx hb dX6_readWord_84 (lv_at hl 3 rfl) ?_
  refine lv_if_eq (tgt := 102) hx hb dX6_readWord_86 (by decide) (fun _ => ?_) (fun c => absurd (by decide) c)
  refine lv_iinc (v := 3) (lv' := [(3, .int 3), (7, .int 32), (6, .int 20), (4, .int 5), (5, .int 0), (2, .int 0), (0, .ref av0), (1, .ref (adK 0))]) hx hb dX6_readWord_102 hl (k := 4) rfl (by decide) (by decide) rfl (fun ls hl => ?_)
  refine lv_aload_n hx hb dX6_readWord_105 rfl (lv_at hl 6 rfl) ?_
  refine wk_get hC hK hw hinX6 0 rfl rfl 1 (by decide) (List.mem_of_getElem? (i := 1) rfl) rfl rfl dX6_readWord_106 ?_
  refine lv_istore (lv' := [(4, .int 0), (3, .int 3), (7, .int 32), (6, .int 20), (5, .int 0), (2, .int 0), (0, .ref av0), (1, .ref (adK 0))]) hx hb dX6_readWord_109 hl (by decide) rfl (fun ls hl => ?_)
  refine lv_iconst (v := 1) hx hb dX6_readWord_111 (by decide) ?_
  refine lv_istore (lv' := [(5, .int 1), (4, .int 0), (3, .int 3), (7, .int 32), (6, .int 20), (2, .int 0), (0, .ref av0), (1, .ref (adK 0))]) hx hb dX6_readWord_112 hl (by decide) rfl (fun ls hl => ?_)
  refine lv_iinc (v := 21) (lv' := [(6, .int 21), (5, .int 1), (4, .int 0), (3, .int 3), (7, .int 32), (2, .int 0), (0, .ref av0), (1, .ref (adK 0))]) hx hb dX6_readWord_114 hl (k := 4) rfl (by decide) (by decide) rfl (fun ls hl => ?_)
  refine lv_goto (tgt := 24) hx hb dX6_readWord_117 (by decide) ?_
  refine lv_iload hx hb dX6_readWord_24 (lv_at hl 0 rfl) ?_
  refine lv_aload_n hx hb dX6_readWord_26 rfl (lv_at hl 7 rfl) ?_
  refine wk_ViT hC hK hw hA hE hSR [] [0] rfl rfl rfl rfl (by decide) (s_length l adK adV dC dI cy 0 (by decide) H.size) (cwV 0 hC.2.2.2.2 gX6_readWord_J0_length_8abf5 rfl rfl rfl (by decide +kernel) ⟨Nat.le_of_ble_eq_true rfl, Nat.le_of_ble_eq_true rfl⟩) 0 (by decide) rfl rfl rfl hl.1 rfl (Nat.le_of_ble_eq_true rfl) dX6_readWord_27 0 0 ⟨rfl, rfl⟩ ⟨Nat.le_of_ble_eq_true rfl, Nat.le_of_ble_eq_true rfl⟩ (fun r134 u133 H locs hp135 hw => ?_)
  have hw : Wd dC dI A s.heap H locs [(av0, .inr (6, [.ref av1, .int 0, .int 0, .int 0, .int 0]))] := hw
  obtain rfl : r134 = 26 := hp135
  refine lv_icmp_ge (tgt := 120) hx hb dX6_readWord_30 (by decide) (fun c => absurd c (by decide)) (fun _ => ?_)
  refine lv_aload_n hx hb dX6_readWord_33 rfl (lv_at hl 7 rfl) ?_
  refine lv_iload hx hb dX6_readWord_34 (lv_at hl 0 rfl) ?_
  refine wk_ViT hC hK hw hA hE hSR [] [0] rfl rfl rfl rfl (by decide) (s_charAt l adK adV dC dI cy 0 (by decide) 21 (by decide) (by decide) H.size) (cwV 1 hC.2.2.2.2 gX6_readWord_J0_charAt_5068e rfl rfl rfl (by decide +kernel) ⟨Nat.le_of_ble_eq_true rfl, Nat.le_of_ble_eq_true rfl⟩) 0 (by decide) rfl rfl rfl hl.1 rfl (Nat.le_of_ble_eq_true rfl) dX6_readWord_36 0 0 ⟨rfl, rfl⟩ ⟨Nat.le_of_ble_eq_true rfl, Nat.le_of_ble_eq_true rfl⟩ (fun r137 u136 H locs hp138 hw => ?_)
  have hw : Wd dC dI A s.heap H locs [(av0, .inr (6, [.ref av1, .int 0, .int 0, .int 0, .int 0]))] := hw
  obtain rfl : r137 = 108 := hp138
  refine lv_istore (lv' := [(7, .int 108), (6, .int 21), (5, .int 1), (4, .int 0), (3, .int 3), (2, .int 0), (0, .ref av0), (1, .ref (adK 0))]) hx hb dX6_readWord_39 hl (by decide) rfl (fun ls hl => ?_)
  refine lv_iload hx hb dX6_readWord_41 (lv_at hl 0 rfl) ?_
  refine lv_bipush (v := 32) hx hb dX6_readWord_43 (by decide) ?_
  refine lv_icmp_eq (tgt := 84) hx hb dX6_readWord_45 (by decide) (fun c => absurd c (by decide)) (fun _ => ?_)
  refine lv_iload hx hb dX6_readWord_48 (lv_at hl 2 rfl) ?_
  refine lv_if_eq (tgt := 75) hx hb dX6_readWord_50 (by decide) (fun c => absurd c (by decide)) (fun _ => ?_)
  refine lv_iload hx hb dX6_readWord_53 (lv_at hl 3 rfl) ?_
  refine lv_iload_n hx hb dX6_readWord_55 rfl (lv_at hl 5 rfl) ?_
  refine lv_icmp_ge (tgt := 75) hx hb dX6_readWord_56 (by decide) (fun _ => ?_) (fun c => absurd (by decide) c)
  refine lv_iconst (v := 0) hx hb dX6_readWord_75 (by decide) ?_
  refine lv_istore (lv' := [(5, .int 0), (7, .int 108), (6, .int 21), (4, .int 0), (3, .int 3), (2, .int 0), (0, .ref av0), (1, .ref (adK 0))]) hx hb dX6_readWord_76 hl (by decide) rfl (fun ls hl => ?_)
  refine lv_iinc (v := 1) (lv' := [(4, .int 1), (5, .int 0), (7, .int 108), (6, .int 21), (3, .int 3), (2, .int 0), (0, .ref av0), (1, .ref (adK 0))]) hx hb dX6_readWord_78 hl (k := 3) rfl (by decide) (by decide) rfl (fun ls hl => ?_)
  refine lv_goto (tgt := 114) hx hb dX6_readWord_81 (by decide) ?_
  refine lv_iinc (v := 22) (lv' := [(6, .int 22), (4, .int 1), (5, .int 0), (7, .int 108), (3, .int 3), (2, .int 0), (0, .ref av0), (1, .ref (adK 0))]) hx hb dX6_readWord_114 hl (k := 3) rfl (by decide) (by decide) rfl (fun ls hl => ?_)
  refine lv_goto (tgt := 24) hx hb dX6_readWord_117 (by decide) ?_
  refine lv_iload hx hb dX6_readWord_24 (lv_at hl 0 rfl) ?_
  refine lv_aload_n hx hb dX6_readWord_26 rfl (lv_at hl 7 rfl) ?_
  refine wk_ViT hC hK hw hA hE hSR [] [0] rfl rfl rfl rfl (by decide) (s_length l adK adV dC dI cy 0 (by decide) H.size) (cwV 0 hC.2.2.2.2 gX6_readWord_J0_length_8abf5 rfl rfl rfl (by decide +kernel) ⟨Nat.le_of_ble_eq_true rfl, Nat.le_of_ble_eq_true rfl⟩) 0 (by decide) rfl rfl rfl hl.1 rfl (Nat.le_of_ble_eq_true rfl) dX6_readWord_27 0 0 ⟨rfl, rfl⟩ ⟨Nat.le_of_ble_eq_true rfl, Nat.le_of_ble_eq_true rfl⟩ (fun r140 u139 H locs hp141 hw => ?_)
  have hw : Wd dC dI A s.heap H locs [(av0, .inr (6, [.ref av1, .int 0, .int 0, .int 0, .int 0]))] := hw
  obtain rfl : r140 = 26 := hp141
  refine lv_icmp_ge (tgt := 120) hx hb dX6_readWord_30 (by decide) (fun c => absurd c (by decide)) (fun _ => ?_)
  refine lv_aload_n hx hb dX6_readWord_33 rfl (lv_at hl 7 rfl) ?_
  refine lv_iload hx hb dX6_readWord_34 (lv_at hl 0 rfl) ?_
  refine wk_ViT hC hK hw hA hE hSR [] [0] rfl rfl rfl rfl (by decide) (s_charAt l adK adV dC dI cy 0 (by decide) 22 (by decide) (by decide) H.size) (cwV 1 hC.2.2.2.2 gX6_readWord_J0_charAt_5068e rfl rfl rfl (by decide +kernel) ⟨Nat.le_of_ble_eq_true rfl, Nat.le_of_ble_eq_true rfl⟩) 0 (by decide) rfl rfl rfl hl.1 rfl (Nat.le_of_ble_eq_true rfl) dX6_readWord_36 0 0 ⟨rfl, rfl⟩ ⟨Nat.le_of_ble_eq_true rfl, Nat.le_of_ble_eq_true rfl⟩ (fun r143 u142 H locs hp144 hw => ?_)
  have hw : Wd dC dI A s.heap H locs [(av0, .inr (6, [.ref av1, .int 0, .int 0, .int 0, .int 0]))] := hw
  obtain rfl : r143 = 105 := hp144
  refine lv_istore (lv' := [(7, .int 105), (6, .int 22), (4, .int 1), (5, .int 0), (3, .int 3), (2, .int 0), (0, .ref av0), (1, .ref (adK 0))]) hx hb dX6_readWord_39 hl (by decide) rfl (fun ls hl => ?_)
  refine lv_iload hx hb dX6_readWord_41 (lv_at hl 0 rfl) ?_
  refine lv_bipush (v := 32) hx hb dX6_readWord_43 (by decide) ?_
  refine lv_icmp_eq (tgt := 84) hx hb dX6_readWord_45 (by decide) (fun c => absurd c (by decide)) (fun _ => ?_)
  refine lv_iload hx hb dX6_readWord_48 (lv_at hl 3 rfl) ?_
  refine lv_if_eq (tgt := 75) hx hb dX6_readWord_50 (by decide) (fun _ => ?_) (fun c => absurd (by decide) c)
  refine lv_iconst (v := 0) hx hb dX6_readWord_75 (by decide) ?_
  refine lv_istore (lv' := [(5, .int 0), (7, .int 105), (6, .int 22), (4, .int 1), (3, .int 3), (2, .int 0), (0, .ref av0), (1, .ref (adK 0))]) hx hb dX6_readWord_76 hl (by decide) rfl (fun ls hl => ?_)
  refine lv_iinc (v := 2) (lv' := [(4, .int 2), (5, .int 0), (7, .int 105), (6, .int 22), (3, .int 3), (2, .int 0), (0, .ref av0), (1, .ref (adK 0))]) hx hb dX6_readWord_78 hl (k := 3) rfl (by decide) (by decide) rfl (fun ls hl => ?_)
  refine lv_goto (tgt := 114) hx hb dX6_readWord_81 (by decide) ?_
  refine lv_iinc (v := 23) (lv' := [(6, .int 23), (4, .int 2), (5, .int 0), (7, .int 105), (3, .int 3), (2, .int 0), (0, .ref av0), (1, .ref (adK 0))]) hx hb dX6_readWord_114 hl (k := 3) rfl (by decide) (by decide) rfl (fun ls hl => ?_)
  refine lv_goto (tgt := 24) hx hb dX6_readWord_117 (by decide) ?_
  refine lv_iload hx hb dX6_readWord_24 (lv_at hl 0 rfl) ?_
  refine lv_aload_n hx hb dX6_readWord_26 rfl (lv_at hl 7 rfl) ?_
  refine wk_ViT hC hK hw hA hE hSR [] [0] rfl rfl rfl rfl (by decide) (s_length l adK adV dC dI cy 0 (by decide) H.size) (cwV 0 hC.2.2.2.2 gX6_readWord_J0_length_8abf5 rfl rfl rfl (by decide +kernel) ⟨Nat.le_of_ble_eq_true rfl, Nat.le_of_ble_eq_true rfl⟩) 0 (by decide) rfl rfl rfl hl.1 rfl (Nat.le_of_ble_eq_true rfl) dX6_readWord_27 0 0 ⟨rfl, rfl⟩ ⟨Nat.le_of_ble_eq_true rfl, Nat.le_of_ble_eq_true rfl⟩ (fun r146 u145 H locs hp147 hw => ?_)
  have hw : Wd dC dI A s.heap H locs [(av0, .inr (6, [.ref av1, .int 0, .int 0, .int 0, .int 0]))] := hw
  obtain rfl : r146 = 26 := hp147
  refine lv_icmp_ge (tgt := 120) hx hb dX6_readWord_30 (by decide) (fun c => absurd c (by decide)) (fun _ => ?_)
  refine lv_aload_n hx hb dX6_readWord_33 rfl (lv_at hl 7 rfl) ?_
  refine lv_iload hx hb dX6_readWord_34 (lv_at hl 0 rfl) ?_
  refine wk_ViT hC hK hw hA hE hSR [] [0] rfl rfl rfl rfl (by decide) (s_charAt l adK adV dC dI cy 0 (by decide) 23 (by decide) (by decide) H.size) (cwV 1 hC.2.2.2.2 gX6_readWord_J0_charAt_5068e rfl rfl rfl (by decide +kernel) ⟨Nat.le_of_ble_eq_true rfl, Nat.le_of_ble_eq_true rfl⟩) 0 (by decide) rfl rfl rfl hl.1 rfl (Nat.le_of_ble_eq_true rfl) dX6_readWord_36 0 0 ⟨rfl, rfl⟩ ⟨Nat.le_of_ble_eq_true rfl, Nat.le_of_ble_eq_true rfl⟩ (fun r149 u148 H locs hp150 hw => ?_)
  have hw : Wd dC dI A s.heap H locs [(av0, .inr (6, [.ref av1, .int 0, .int 0, .int 0, .int 0]))] := hw
  obtain rfl : r149 = 102 := hp150
  refine lv_istore (lv' := [(7, .int 102), (6, .int 23), (4, .int 2), (5, .int 0), (3, .int 3), (2, .int 0), (0, .ref av0), (1, .ref (adK 0))]) hx hb dX6_readWord_39 hl (by decide) rfl (fun ls hl => ?_)
  refine lv_iload hx hb dX6_readWord_41 (lv_at hl 0 rfl) ?_
  refine lv_bipush (v := 32) hx hb dX6_readWord_43 (by decide) ?_
  refine lv_icmp_eq (tgt := 84) hx hb dX6_readWord_45 (by decide) (fun c => absurd c (by decide)) (fun _ => ?_)
  refine lv_iload hx hb dX6_readWord_48 (lv_at hl 3 rfl) ?_
  refine lv_if_eq (tgt := 75) hx hb dX6_readWord_50 (by decide) (fun _ => ?_) (fun c => absurd (by decide) c)
  refine lv_iconst (v := 0) hx hb dX6_readWord_75 (by decide) ?_
  refine lv_istore (lv' := [(5, .int 0), (7, .int 102), (6, .int 23), (4, .int 2), (3, .int 3), (2, .int 0), (0, .ref av0), (1, .ref (adK 0))]) hx hb dX6_readWord_76 hl (by decide) rfl (fun ls hl => ?_)
  refine lv_iinc (v := 3) (lv' := [(4, .int 3), (5, .int 0), (7, .int 102), (6, .int 23), (3, .int 3), (2, .int 0), (0, .ref av0), (1, .ref (adK 0))]) hx hb dX6_readWord_78 hl (k := 3) rfl (by decide) (by decide) rfl (fun ls hl => ?_)
  refine lv_goto (tgt := 114) hx hb dX6_readWord_81 (by decide) ?_
  refine lv_iinc (v := 24) (lv' := [(6, .int 24), (4, .int 3), (5, .int 0), (7, .int 102), (3, .int 3), (2, .int 0), (0, .ref av0), (1, .ref (adK 0))]) hx hb dX6_readWord_114 hl (k := 3) rfl (by decide) (by decide) rfl (fun ls hl => ?_)
  refine lv_goto (tgt := 24) hx hb dX6_readWord_117 (by decide) ?_
  refine lv_iload hx hb dX6_readWord_24 (lv_at hl 0 rfl) ?_
  refine lv_aload_n hx hb dX6_readWord_26 rfl (lv_at hl 7 rfl) ?_
  refine wk_ViT hC hK hw hA hE hSR [] [0] rfl rfl rfl rfl (by decide) (s_length l adK adV dC dI cy 0 (by decide) H.size) (cwV 0 hC.2.2.2.2 gX6_readWord_J0_length_8abf5 rfl rfl rfl (by decide +kernel) ⟨Nat.le_of_ble_eq_true rfl, Nat.le_of_ble_eq_true rfl⟩) 0 (by decide) rfl rfl rfl hl.1 rfl (Nat.le_of_ble_eq_true rfl) dX6_readWord_27 0 0 ⟨rfl, rfl⟩ ⟨Nat.le_of_ble_eq_true rfl, Nat.le_of_ble_eq_true rfl⟩ (fun r152 u151 H locs hp153 hw => ?_)
  have hw : Wd dC dI A s.heap H locs [(av0, .inr (6, [.ref av1, .int 0, .int 0, .int 0, .int 0]))] := hw
  obtain rfl : r152 = 26 := hp153
  refine lv_icmp_ge (tgt := 120) hx hb dX6_readWord_30 (by decide) (fun c => absurd c (by decide)) (fun _ => ?_)
  refine lv_aload_n hx hb dX6_readWord_33 rfl (lv_at hl 7 rfl) ?_
  refine lv_iload hx hb dX6_readWord_34 (lv_at hl 0 rfl) ?_
  refine wk_ViT hC hK hw hA hE hSR [] [0] rfl rfl rfl rfl (by decide) (s_charAt l adK adV dC dI cy 0 (by decide) 24 (by decide) (by decide) H.size) (cwV 1 hC.2.2.2.2 gX6_readWord_J0_charAt_5068e rfl rfl rfl (by decide +kernel) ⟨Nat.le_of_ble_eq_true rfl, Nat.le_of_ble_eq_true rfl⟩) 0 (by decide) rfl rfl rfl hl.1 rfl (Nat.le_of_ble_eq_true rfl) dX6_readWord_36 0 0 ⟨rfl, rfl⟩ ⟨Nat.le_of_ble_eq_true rfl, Nat.le_of_ble_eq_true rfl⟩ (fun r155 u154 H locs hp156 hw => ?_)
  have hw : Wd dC dI A s.heap H locs [(av0, .inr (6, [.ref av1, .int 0, .int 0, .int 0, .int 0]))] := hw
  obtain rfl : r155 = 116 := hp156
  refine lv_istore (lv' := [(7, .int 116), (6, .int 24), (4, .int 3), (5, .int 0), (3, .int 3), (2, .int 0), (0, .ref av0), (1, .ref (adK 0))]) hx hb dX6_readWord_39 hl (by decide) rfl (fun ls hl => ?_)
  refine lv_iload hx hb dX6_readWord_41 (lv_at hl 0 rfl) ?_
  refine lv_bipush (v := 32) hx hb dX6_readWord_43 (by decide) ?_
  refine lv_icmp_eq (tgt := 84) hx hb dX6_readWord_45 (by decide) (fun c => absurd c (by decide)) (fun _ => ?_)
  refine lv_iload hx hb dX6_readWord_48 (lv_at hl 3 rfl) ?_
  refine lv_if_eq (tgt := 75) hx hb dX6_readWord_50 (by decide) (fun _ => ?_) (fun c => absurd (by decide) c)
  refine lv_iconst (v := 0) hx hb dX6_readWord_75 (by decide) ?_
  refine lv_istore (lv' := [(5, .int 0), (7, .int 116), (6, .int 24), (4, .int 3), (3, .int 3), (2, .int 0), (0, .ref av0), (1, .ref (adK 0))]) hx hb dX6_readWord_76 hl (by decide) rfl (fun ls hl => ?_)
  refine lv_iinc (v := 4) (lv' := [(4, .int 4), (5, .int 0), (7, .int 116), (6, .int 24), (3, .int 3), (2, .int 0), (0, .ref av0), (1, .ref (adK 0))]) hx hb dX6_readWord_78 hl (k := 3) rfl (by decide) (by decide) rfl (fun ls hl => ?_)
  refine lv_goto (tgt := 114) hx hb dX6_readWord_81 (by decide) ?_
  refine lv_iinc (v := 25) (lv' := [(6, .int 25), (4, .int 4), (5, .int 0), (7, .int 116), (3, .int 3), (2, .int 0), (0, .ref av0), (1, .ref (adK 0))]) hx hb dX6_readWord_114 hl (k := 3) rfl (by decide) (by decide) rfl (fun ls hl => ?_)
  refine lv_goto (tgt := 24) hx hb dX6_readWord_117 (by decide) ?_
  refine lv_iload hx hb dX6_readWord_24 (lv_at hl 0 rfl) ?_
  refine lv_aload_n hx hb dX6_readWord_26 rfl (lv_at hl 7 rfl) ?_
  refine wk_ViT hC hK hw hA hE hSR [] [0] rfl rfl rfl rfl (by decide) (s_length l adK adV dC dI cy 0 (by decide) H.size) (cwV 0 hC.2.2.2.2 gX6_readWord_J0_length_8abf5 rfl rfl rfl (by decide +kernel) ⟨Nat.le_of_ble_eq_true rfl, Nat.le_of_ble_eq_true rfl⟩) 0 (by decide) rfl rfl rfl hl.1 rfl (Nat.le_of_ble_eq_true rfl) dX6_readWord_27 0 0 ⟨rfl, rfl⟩ ⟨Nat.le_of_ble_eq_true rfl, Nat.le_of_ble_eq_true rfl⟩ (fun r158 u157 H locs hp159 hw => ?_)
  have hw : Wd dC dI A s.heap H locs [(av0, .inr (6, [.ref av1, .int 0, .int 0, .int 0, .int 0]))] := hw
  obtain rfl : r158 = 26 := hp159
  refine lv_icmp_ge (tgt := 120) hx hb dX6_readWord_30 (by decide) (fun c => absurd c (by decide)) (fun _ => ?_)
  refine lv_aload_n hx hb dX6_readWord_33 rfl (lv_at hl 7 rfl) ?_
  refine lv_iload hx hb dX6_readWord_34 (lv_at hl 0 rfl) ?_
  refine wk_ViT hC hK hw hA hE hSR [] [0] rfl rfl rfl rfl (by decide) (s_charAt l adK adV dC dI cy 0 (by decide) 25 (by decide) (by decide) H.size) (cwV 1 hC.2.2.2.2 gX6_readWord_J0_charAt_5068e rfl rfl rfl (by decide +kernel) ⟨Nat.le_of_ble_eq_true rfl, Nat.le_of_ble_eq_true rfl⟩) 0 (by decide) rfl rfl rfl hl.1 rfl (Nat.le_of_ble_eq_true rfl) dX6_readWord_36 0 0 ⟨rfl, rfl⟩ ⟨Nat.le_of_ble_eq_true rfl, Nat.le_of_ble_eq_true rfl⟩ (fun r161 u160 H locs hp162 hw => ?_)
  have hw : Wd dC dI A s.heap H locs [(av0, .inr (6, [.ref av1, .int 0, .int 0, .int 0, .int 0]))] := hw
  obtain rfl : r161 = 32 := hp162
  refine lv_istore (lv' := [(7, .int 32), (6, .int 25), (4, .int 4), (5, .int 0), (3, .int 3), (2, .int 0), (0, .ref av0), (1, .ref (adK 0))]) hx hb dX6_readWord_39 hl (by decide) rfl (fun ls hl => ?_)
  refine lv_iload hx hb dX6_readWord_41 (lv_at hl 0 rfl) ?_
  refine lv_bipush (v := 32) hx hb dX6_readWord_43 (by decide) ?_
  refine lv_icmp_eq (tgt := 84) hx hb dX6_readWord_45 (by decide) (fun _ => ?_) (fun c => absurd (by decide) c)
  refine lv_iload hx hb dX6_readWord_84 (lv_at hl 3 rfl) ?_
  refine lv_if_eq (tgt := 102) hx hb dX6_readWord_86 (by decide) (fun _ => ?_) (fun c => absurd (by decide) c)
  refine lv_iinc (v := 4) (lv' := [(3, .int 4), (7, .int 32), (6, .int 25), (4, .int 4), (5, .int 0), (2, .int 0), (0, .ref av0), (1, .ref (adK 0))]) hx hb dX6_readWord_102 hl (k := 4) rfl (by decide) (by decide) rfl (fun ls hl => ?_)
  refine lv_aload_n hx hb dX6_readWord_105 rfl (lv_at hl 6 rfl) ?_
  refine wk_get hC hK hw hinX6 0 rfl rfl 1 (by decide) (List.mem_of_getElem? (i := 1) rfl) rfl rfl dX6_readWord_106 ?_
  refine lv_istore (lv' := [(4, .int 0), (3, .int 4), (7, .int 32), (6, .int 25), (5, .int 0), (2, .int 0), (0, .ref av0), (1, .ref (adK 0))]) hx hb dX6_readWord_109 hl (by decide) rfl (fun ls hl => ?_)
  refine lv_iconst (v := 1) hx hb dX6_readWord_111 (by decide) ?_
  refine lv_istore (lv' := [(5, .int 1), (4, .int 0), (3, .int 4), (7, .int 32), (6, .int 25), (2, .int 0), (0, .ref av0), (1, .ref (adK 0))]) hx hb dX6_readWord_112 hl (by decide) rfl (fun ls hl => ?_)
  refine lv_iinc (v := 26) (lv' := [(6, .int 26), (5, .int 1), (4, .int 0), (3, .int 4), (7, .int 32), (2, .int 0), (0, .ref av0), (1, .ref (adK 0))]) hx hb dX6_readWord_114 hl (k := 4) rfl (by decide) (by decide) rfl (fun ls hl => ?_)
  refine lv_goto (tgt := 24) hx hb dX6_readWord_117 (by decide) ?_
  refine lv_iload hx hb dX6_readWord_24 (lv_at hl 0 rfl) ?_
  refine lv_aload_n hx hb dX6_readWord_26 rfl (lv_at hl 7 rfl) ?_
  refine wk_ViT hC hK hw hA hE hSR [] [0] rfl rfl rfl rfl (by decide) (s_length l adK adV dC dI cy 0 (by decide) H.size) (cwV 0 hC.2.2.2.2 gX6_readWord_J0_length_8abf5 rfl rfl rfl (by decide +kernel) ⟨Nat.le_of_ble_eq_true rfl, Nat.le_of_ble_eq_true rfl⟩) 0 (by decide) rfl rfl rfl hl.1 rfl (Nat.le_of_ble_eq_true rfl) dX6_readWord_27 0 0 ⟨rfl, rfl⟩ ⟨Nat.le_of_ble_eq_true rfl, Nat.le_of_ble_eq_true rfl⟩ (fun r164 u163 H locs hp165 hw => ?_)
  have hw : Wd dC dI A s.heap H locs [(av0, .inr (6, [.ref av1, .int 0, .int 0, .int 0, .int 0]))] := hw
  obtain rfl : r164 = 26 := hp165
  refine lv_icmp_ge (tgt := 120) hx hb dX6_readWord_30 (by decide) (fun _ => ?_) (fun c => absurd (by decide) c)
  refine lv_aload_n hx hb dX6_readWord_120 rfl (lv_at hl 6 rfl) ?_
  refine lv_aload_n hx hb dX6_readWord_121 rfl (lv_at hl 6 rfl) ?_
  refine wk_get hC hK hw hinX6 0 rfl rfl 3 (by decide) (List.mem_of_getElem? (i := 3) rfl) rfl rfl dX6_readWord_122 ?_
  refine lv_iconst (v := 0) hx hb dX6_readWord_125 (by decide) ?_
  refine wk_Vv hC hK hw hA [0] [] rfl rfl rfl rfl (by decide) (c_X6_blame_1 l dC dI cy av0 av1 H.size ) (cwV 2 hC.2.2.2.2 gX6_readWord_X6_blame rfl rfl rfl (by decide +kernel) ⟨Nat.le_of_ble_eq_true rfl, Nat.le_of_ble_eq_true rfl⟩) rfl 0 rfl rfl hl.1 rfl (Nat.le_of_ble_eq_true rfl) dX6_readWord_126 0 0 ⟨rfl, rfl⟩ ⟨Nat.le_of_ble_eq_true rfl, Nat.le_of_ble_eq_true rfl⟩ (fun u166 H locs hp168 hw => ?_)
  have hw : Wd dC dI A s.heap H locs [(av0, .inr (6, [.ref av1, .int 0, .int 0, .int 0, .int 1]))] := hw
  refine lv_iconst (v := (-1)) hx hb dX6_readWord_129 (by decide) ?_
  exact wk_iret (v := (-1)) hC hr hlocks hK ((fun _ => 0), (fun _ _ => 0)) rfl [0] rfl rfl hw dX6_readWord_130

set_option maxHeartbeats 4000000 in
set_option maxRecDepth 100000 in
theorem c_X6_isFaulty_1 (l : Launch) (dC : Nat → ClassId) (dI : Nat → Nat → Nat) (cy : Nat → ClassId) (av0 : Nat) (av1 : Nat) (sz : Nat)  : Met l yX6_isFaulty wsX6_isFaulty ({ frames := 0, cells := 0, slots := 0, locals := 0 }) (va_Pc [.ref av0] (wpre dC dI cy sz [(av0, .inr (6, [.ref av1, .int 0, .int 0, .int 0, .int 1]))])) (va_Qi (fun (r : Int32) (_ : ((Nat → Nat) × (Nat → Nat → Int32))) => r = 1) (fun u => wpost dC dI cy (va_A [(av0, .inr (6, [.ref av1, .int 0, .int 0, .int 0, .int 1]))] sz) [(av0, .inr (6, [.ref av1, .int 0, .int 0, .int 0, .int 1]))]) (va_A [(av0, .inr (6, [.ref av1, .int 0, .int 0, .int 0, .int 1]))] sz)) 0 0 (va_A [(av0, .inr (6, [.ref av1, .int 0, .int 0, .int 0, .int 1]))] sz) := by
  refine Met.ofW (cc := cX6_isFaulty) (maxL := 1) (ret := (some .boolean)) (by decide) rfl ?_
  intro p e s m args below meth c s₁ B hml hv
  obtain ⟨rfl, hsz, hP, hK, hD0⟩ := hv
  have hx := B.exec
  have hb := B.bytes
  have hr := B.returns
  have hlocks := B.notSynchronized
  have hC : CallFix p m c cX6_isFaulty 1 s _ wsX6_isFaulty RX6 := ⟨hx, hb, hml, findClass_of_methodNamed B.named, atoms_spec (ws := wsX6_isFaulty) B.pre⟩
  subst hsz
  have hD := hD0.self (sz := s.heap.size)
  generalize hAe : va_A [(av0, .inr (6, [.ref av1, .int 0, .int 0, .int 0, .int 1]))] s.heap.size = A at hD ⊢
  have hA : ∀ q : Nat, s.heap.size ≤ q → A q := fun q h => by rw [← hAe]; exact Or.inr h
  have hw : Wd dC dI A s.heap s.heap [] [(av0, .inr (6, [.ref av1, .int 0, .int 0, .int 0, .int 1]))] := ⟨hP, hD, va_S.rf⟩
  have hl := lv_entry ([.ref av0]) (n := 1) (Nat.le_of_ble_eq_true rfl)
  rw [lg_entry_eq]
  generalize (lg_sl ([.ref av0]) ++ List.replicate (1 - (lg_sl ([.ref av0])).length) Slot.unset).toArray = ls at hl ⊢
  have hl : lv_has ls 1 [(0, .ref av0)] := hl
  have hinX6 : ∀ w ∈ u_ws RX6 TX6 5, w ∈ wsX6_isFaulty := fun _ h => List.mem_cons_of_mem _ (List.mem_append_right _ (h))
  refine lv_aload_n hx hb dX6_isFaulty_0 rfl (lv_at hl 0 rfl) ?_
  refine wk_get hC hK hw hinX6 0 rfl rfl 4 (by decide) (List.mem_of_getElem? (i := 1) rfl) rfl rfl dX6_isFaulty_1 ?_
  refine lv_if_eq (tgt := 11) hx hb dX6_isFaulty_4 (by decide) (fun c => absurd c (by decide)) (fun _ => ?_)
  refine lv_iconst (v := 1) hx hb dX6_isFaulty_7 (by decide) ?_
  refine lv_goto (tgt := 12) hx hb dX6_isFaulty_8 (by decide) ?_
  exact wk_zret (v := 1) hC hr rfl hlocks hK ((fun _ => 0), (fun _ _ => 0)) rfl [0] rfl rfl hw dX6_isFaulty_12

set_option maxHeartbeats 4000000 in
set_option maxRecDepth 100000 in
theorem c_X7_readClause_1 (l : Launch) (dC : Nat → ClassId) (dI : Nat → Nat → Nat) (cy : Nat → ClassId) (av0 : Nat) (av1 : Nat) (av2 : Nat) (av3 : Nat) (av4 : Nat) (av5 : Nat) (av6 : Nat) (av7 : Nat) (av8 : Nat) (av9 : Nat) (av10 : Nat) (sz : Nat)  : Met l yX7_readClause wsX7_readClause ({ frames := 1, cells := 0, slots := 0, locals := 20 }) (va_Pc [.ref av0, .ref av1, .int (-1)] (wpre dC dI cy sz [(av0, .inr (7, [.ref av2, .ref av3, .ref av4, .ref av5, .ref av6, .ref av7, .ref av8, .ref av9, .int 0, .int 0, .int 0, .int 0])), (av1, .inr (6, [.ref av10, .int 0, .int 0, .int 0, .int 1]))])) (va_Qv (fun _ : ((Nat → Nat) × (Nat → Nat → Int32)) => True) (fun u => wpost dC dI cy (va_A [(av0, .inr (7, [.ref av2, .ref av3, .ref av4, .ref av5, .ref av6, .ref av7, .ref av8, .ref av9, .int 0, .int 0, .int 0, .int 0])), (av1, .inr (6, [.ref av10, .int 0, .int 0, .int 0, .int 1]))] sz) [(av0, .inr (7, [.ref av2, .ref av3, .ref av4, .ref av5, .ref av6, .ref av7, .ref av8, .ref av9, .int 0, .int 0, .int 0, .int 0])), (av1, .inr (6, [.ref av10, .int 0, .int 0, .int 0, .int 1]))]) (va_A [(av0, .inr (7, [.ref av2, .ref av3, .ref av4, .ref av5, .ref av6, .ref av7, .ref av8, .ref av9, .int 0, .int 0, .int 0, .int 0])), (av1, .inr (6, [.ref av10, .int 0, .int 0, .int 0, .int 1]))] sz)) 0 0 (va_A [(av0, .inr (7, [.ref av2, .ref av3, .ref av4, .ref av5, .ref av6, .ref av7, .ref av8, .ref av9, .int 0, .int 0, .int 0, .int 0])), (av1, .inr (6, [.ref av10, .int 0, .int 0, .int 0, .int 1]))] sz) := by
  refine Met.ofW (cc := cX7_readClause) (maxL := 3) (ret := none) (by decide) rfl ?_
  intro p e s m args below meth c s₁ B hml hv
  obtain ⟨rfl, hsz, hP, hK, hD0⟩ := hv
  have hx := B.exec
  have hb := B.bytes
  have hr := B.returns
  have hlocks := B.notSynchronized
  have hC : CallFix p m c cX7_readClause 3 s _ wsX7_readClause RX7 := ⟨hx, hb, hml, findClass_of_methodNamed B.named, atoms_spec (ws := wsX7_readClause) B.pre⟩
  subst hsz
  have hD := hD0.self (sz := s.heap.size)
  generalize hAe : va_A [(av0, .inr (7, [.ref av2, .ref av3, .ref av4, .ref av5, .ref av6, .ref av7, .ref av8, .ref av9, .int 0, .int 0, .int 0, .int 0])), (av1, .inr (6, [.ref av10, .int 0, .int 0, .int 0, .int 1]))] s.heap.size = A at hD ⊢
  have hA : ∀ q : Nat, s.heap.size ≤ q → A q := fun q h => by rw [← hAe]; exact Or.inr h
  have hw : Wd dC dI A s.heap s.heap [] [(av0, .inr (7, [.ref av2, .ref av3, .ref av4, .ref av5, .ref av6, .ref av7, .ref av8, .ref av9, .int 0, .int 0, .int 0, .int 0])), (av1, .inr (6, [.ref av10, .int 0, .int 0, .int 0, .int 1]))] := ⟨hP, hD, va_S.rf⟩
  have hl := lv_entry ([.ref av0, .ref av1, .int (-1)]) (n := 3) (Nat.le_of_ble_eq_true rfl)
  rw [lg_entry_eq]
  generalize (lg_sl ([.ref av0, .ref av1, .int (-1)]) ++ List.replicate (3 - (lg_sl ([.ref av0, .ref av1, .int (-1)])).length) Slot.unset).toArray = ls at hl ⊢
  have hl : lv_has ls 3 [(0, .ref av0), (1, .ref av1), (2, .int (-1))] := hl
  refine lv_aload_n hx hb dX7_readClause_0 rfl (lv_at hl 1 rfl) ?_
  refine wk_Vi hC hK hw hA [1] [0] rfl rfl rfl rfl (by decide) (c_X6_isFaulty_1 l dC dI cy av1 av10 s.heap.size ) (cwV 0 hC.2.2.2.2 gX7_readClause_X6_isFaulty rfl rfl rfl (by decide +kernel) ⟨Nat.le_of_ble_eq_true rfl, Nat.le_of_ble_eq_true rfl⟩) rfl 0 rfl rfl hl.1 rfl (Nat.le_of_ble_eq_true rfl) dX7_readClause_1 0 0 ⟨rfl, rfl⟩ ⟨Nat.le_of_ble_eq_true rfl, Nat.le_of_ble_eq_true rfl⟩ (fun r2 u1 H locs hp3 hw => ?_)
  have hw : Wd dC dI A s.heap H locs [(av0, .inr (7, [.ref av2, .ref av3, .ref av4, .ref av5, .ref av6, .ref av7, .ref av8, .ref av9, .int 0, .int 0, .int 0, .int 0])), (av1, .inr (6, [.ref av10, .int 0, .int 0, .int 0, .int 1]))] := hw
  obtain rfl : r2 = 1 := hp3
  refine lv_if_eq (tgt := 8) hx hb dX7_readClause_4 (by decide) (fun c => absurd c (by decide)) (fun _ => ?_)
  exact wk_vret hC hr hlocks hK ((fun _ => 0), (fun _ _ => 0)) trivial [0, 1] rfl rfl hw dX7_readClause_7

set_option maxHeartbeats 4000000 in
set_option maxRecDepth 100000 in
theorem c_X6_takeSemicolon_1 (l : Launch) (dC : Nat → ClassId) (dI : Nat → Nat → Nat) (cy : Nat → ClassId) (av0 : Nat) (av1 : Nat) (sz : Nat)  : Met l yX6_takeSemicolon wsX6_takeSemicolon ({ frames := 1, cells := 0, slots := 0, locals := 20 }) (va_Pc [.ref av0] (wpre dC dI cy sz [(av0, .inr (6, [.ref av1, .int 0, .int 0, .int 0, .int 1]))])) (va_Qi (fun (r : Int32) (_ : ((Nat → Nat) × (Nat → Nat → Int32))) => r = 0) (fun u => wpost dC dI cy (va_A [(av0, .inr (6, [.ref av1, .int 0, .int 0, .int 0, .int 1]))] sz) [(av0, .inr (6, [.ref av1, .int 0, .int 0, .int 0, .int 1]))]) (va_A [(av0, .inr (6, [.ref av1, .int 0, .int 0, .int 0, .int 1]))] sz)) 0 0 (va_A [(av0, .inr (6, [.ref av1, .int 0, .int 0, .int 0, .int 1]))] sz) := by
  refine Met.ofW (cc := cX6_takeSemicolon) (maxL := 1) (ret := (some .boolean)) (by decide) rfl ?_
  intro p e s m args below meth c s₁ B hml hv
  obtain ⟨rfl, hsz, hP, hK, hD0⟩ := hv
  have hx := B.exec
  have hb := B.bytes
  have hr := B.returns
  have hlocks := B.notSynchronized
  have hC : CallFix p m c cX6_takeSemicolon 1 s _ wsX6_takeSemicolon RX6 := ⟨hx, hb, hml, findClass_of_methodNamed B.named, atoms_spec (ws := wsX6_takeSemicolon) B.pre⟩
  subst hsz
  have hD := hD0.self (sz := s.heap.size)
  generalize hAe : va_A [(av0, .inr (6, [.ref av1, .int 0, .int 0, .int 0, .int 1]))] s.heap.size = A at hD ⊢
  have hA : ∀ q : Nat, s.heap.size ≤ q → A q := fun q h => by rw [← hAe]; exact Or.inr h
  have hw : Wd dC dI A s.heap s.heap [] [(av0, .inr (6, [.ref av1, .int 0, .int 0, .int 0, .int 1]))] := ⟨hP, hD, va_S.rf⟩
  have hl := lv_entry ([.ref av0]) (n := 1) (Nat.le_of_ble_eq_true rfl)
  rw [lg_entry_eq]
  generalize (lg_sl ([.ref av0]) ++ List.replicate (1 - (lg_sl ([.ref av0])).length) Slot.unset).toArray = ls at hl ⊢
  have hl : lv_has ls 1 [(0, .ref av0)] := hl
  refine lv_aload_n hx hb dX6_takeSemicolon_0 rfl (lv_at hl 0 rfl) ?_
  refine wk_Vi hC hK hw hA [0] [] rfl rfl rfl rfl (by decide) (c_X6_isFaulty_1 l dC dI cy av0 av1 s.heap.size ) (cwV 0 hC.2.2.2.2 gX6_takeSemicolon_X6_isFaulty rfl rfl rfl (by decide +kernel) ⟨Nat.le_of_ble_eq_true rfl, Nat.le_of_ble_eq_true rfl⟩) rfl 0 rfl rfl hl.1 rfl (Nat.le_of_ble_eq_true rfl) dX6_takeSemicolon_1 0 0 ⟨rfl, rfl⟩ ⟨Nat.le_of_ble_eq_true rfl, Nat.le_of_ble_eq_true rfl⟩ (fun r2 u1 H locs hp3 hw => ?_)
  have hw : Wd dC dI A s.heap H locs [(av0, .inr (6, [.ref av1, .int 0, .int 0, .int 0, .int 1]))] := hw
  obtain rfl : r2 = 1 := hp3
  refine lv_if_eq (tgt := 9) hx hb dX6_takeSemicolon_4 (by decide) (fun c => absurd c (by decide)) (fun _ => ?_)
  refine lv_iconst (v := 0) hx hb dX6_takeSemicolon_7 (by decide) ?_
  exact wk_zret (v := 0) hC hr rfl hlocks hK ((fun _ => 0), (fun _ _ => 0)) rfl [0] rfl rfl hw dX6_takeSemicolon_8

set_option maxHeartbeats 4000000 in
set_option maxRecDepth 100000 in
theorem c_X7_readFrom_1 (l : Launch) (adK adV : Nat → Nat) (dC : Nat → ClassId) (dI : Nat → Nat → Nat) (cy : Nat → ClassId) (av0 : Nat) (av1 : Nat) (av2 : Nat) (av3 : Nat) (av4 : Nat) (av5 : Nat) (av6 : Nat) (av7 : Nat) (av8 : Nat) (av9 : Nat) (av10 : Nat) (sz : Nat)  : Met l yX7_readFrom wsX7_readFrom ({ frames := 6, cells := 0, slots := 0, locals := 168 }) (va_Pc [.ref av0, .ref av1] (wpreS adK adV dC dI cy sz [(av0, .inr (7, [.ref av2, .ref av3, .ref av4, .ref av5, .ref av6, .ref av7, .ref av8, .ref av9, .int 0, .int 0, .int 0, .int 0])), (av1, .inr (6, [.ref av10, .int 0, .int 0, .int 0, .int 0]))])) (va_Qv (fun _ : ((Nat → Nat) × (Nat → Nat → Int32)) => True) (fun u => wpost dC dI cy (va_A [(av0, .inr (7, [.ref av2, .ref av3, .ref av4, .ref av5, .ref av6, .ref av7, .ref av8, .ref av9, .int 0, .int 0, .int 0, .int 0])), (av1, .inr (6, [.ref av10, .int 0, .int 0, .int 0, .int 0]))] sz) [(av0, .inr (7, [.ref av2, .ref av3, .ref av4, .ref av5, .ref av6, .ref av7, .ref av8, .ref av9, .int 0, .int 0, .int 0, .int 0])), (av1, .inr (6, [.ref av10, .int 0, .int 0, .int 0, .int 1]))]) (va_A [(av0, .inr (7, [.ref av2, .ref av3, .ref av4, .ref av5, .ref av6, .ref av7, .ref av8, .ref av9, .int 0, .int 0, .int 0, .int 0])), (av1, .inr (6, [.ref av10, .int 0, .int 0, .int 0, .int 0]))] sz)) 0 0 (va_A [(av0, .inr (7, [.ref av2, .ref av3, .ref av4, .ref av5, .ref av6, .ref av7, .ref av8, .ref av9, .int 0, .int 0, .int 0, .int 0])), (av1, .inr (6, [.ref av10, .int 0, .int 0, .int 0, .int 0]))] sz) := by
  refine Met.ofW (cc := cX7_readFrom) (maxL := 5) (ret := none) (by decide) rfl ?_
  intro p e s m args below meth c s₁ B hml hv
  obtain ⟨rfl, ⟨hsz, hP, hK, hD0⟩, hE, hSR⟩ := hv
  have hx := B.exec
  have hb := B.bytes
  have hr := B.returns
  have hlocks := B.notSynchronized
  have hC : CallFix p m c cX7_readFrom 5 s _ wsX7_readFrom RX7 := ⟨hx, hb, hml, findClass_of_methodNamed B.named, atoms_spec (ws := wsX7_readFrom) B.pre⟩
  subst hsz
  have hD := hD0.self (sz := s.heap.size)
  generalize hAe : va_A [(av0, .inr (7, [.ref av2, .ref av3, .ref av4, .ref av5, .ref av6, .ref av7, .ref av8, .ref av9, .int 0, .int 0, .int 0, .int 0])), (av1, .inr (6, [.ref av10, .int 0, .int 0, .int 0, .int 0]))] s.heap.size = A at hD hE ⊢
  have hA : ∀ q : Nat, s.heap.size ≤ q → A q := fun q h => by rw [← hAe]; exact Or.inr h
  have hw : Wd dC dI A s.heap s.heap [] [(av0, .inr (7, [.ref av2, .ref av3, .ref av4, .ref av5, .ref av6, .ref av7, .ref av8, .ref av9, .int 0, .int 0, .int 0, .int 0])), (av1, .inr (6, [.ref av10, .int 0, .int 0, .int 0, .int 0]))] := ⟨hP, hD, va_S.rf⟩
  have hl := lv_entry ([.ref av0, .ref av1]) (n := 5) (Nat.le_of_ble_eq_true rfl)
  rw [lg_entry_eq]
  generalize (lg_sl ([.ref av0, .ref av1]) ++ List.replicate (5 - (lg_sl ([.ref av0, .ref av1])).length) Slot.unset).toArray = ls at hl ⊢
  have hl : lv_has ls 5 [(0, .ref av0), (1, .ref av1)] := hl
  have hinX7 : ∀ w ∈ u_ws RX7 TX7 12, w ∈ wsX7_readFrom := fun _ h => List.mem_cons_of_mem _ (List.mem_append_left _ (List.mem_append_right _ (h)))
  refine lv_aload_n hx hb dX7_readFrom_0 rfl (lv_at hl 0 rfl) ?_
  refine lv_iconst (v := 0) hx hb dX7_readFrom_1 (by decide) ?_
  refine wk_put hC hK hw hinX7 tyX7_ok nmX7 0 rfl rfl 8 (by decide) (List.mem_of_getElem? (i := 1) rfl) rfl rfl rfl rfl rfl (Nat.le_of_ble_eq_true rfl) dX7_readFrom_2 (fun H locs hw => ?_)
  have hw : Wd dC dI A s.heap H locs [(av0, .inr (7, [.ref av2, .ref av3, .ref av4, .ref av5, .ref av6, .ref av7, .ref av8, .ref av9, .int 0, .int 0, .int 0, .int 0])), (av1, .inr (6, [.ref av10, .int 0, .int 0, .int 0, .int 0]))] := hw
  refine lv_aload_n hx hb dX7_readFrom_5 rfl (lv_at hl 0 rfl) ?_
  refine lv_iconst (v := 0) hx hb dX7_readFrom_6 (by decide) ?_
  refine wk_put hC hK hw hinX7 tyX7_ok nmX7 0 rfl rfl 9 (by decide) (List.mem_of_getElem? (i := 2) rfl) rfl rfl rfl rfl rfl (Nat.le_of_ble_eq_true rfl) dX7_readFrom_7 (fun H locs hw => ?_)
  have hw : Wd dC dI A s.heap H locs [(av0, .inr (7, [.ref av2, .ref av3, .ref av4, .ref av5, .ref av6, .ref av7, .ref av8, .ref av9, .int 0, .int 0, .int 0, .int 0])), (av1, .inr (6, [.ref av10, .int 0, .int 0, .int 0, .int 0]))] := hw
  refine lv_aload_n hx hb dX7_readFrom_10 rfl (lv_at hl 0 rfl) ?_
  refine lv_iconst (v := 0) hx hb dX7_readFrom_11 (by decide) ?_
  refine wk_put hC hK hw hinX7 tyX7_ok nmX7 0 rfl rfl 10 (by decide) (List.mem_of_getElem? (i := 3) rfl) rfl rfl rfl rfl rfl (Nat.le_of_ble_eq_true rfl) dX7_readFrom_12 (fun H locs hw => ?_)
  have hw : Wd dC dI A s.heap H locs [(av0, .inr (7, [.ref av2, .ref av3, .ref av4, .ref av5, .ref av6, .ref av7, .ref av8, .ref av9, .int 0, .int 0, .int 0, .int 0])), (av1, .inr (6, [.ref av10, .int 0, .int 0, .int 0, .int 0]))] := hw
  refine lv_aload_n hx hb dX7_readFrom_15 rfl (lv_at hl 0 rfl) ?_
  refine lv_iconst (v := 0) hx hb dX7_readFrom_16 (by decide) ?_
  refine wk_put hC hK hw hinX7 tyX7_ok nmX7 0 rfl rfl 11 (by decide) (List.mem_of_getElem? (i := 4) rfl) rfl rfl rfl rfl rfl (Nat.le_of_ble_eq_true rfl) dX7_readFrom_17 (fun H locs hw => ?_)
  have hw : Wd dC dI A s.heap H locs [(av0, .inr (7, [.ref av2, .ref av3, .ref av4, .ref av5, .ref av6, .ref av7, .ref av8, .ref av9, .int 0, .int 0, .int 0, .int 0])), (av1, .inr (6, [.ref av10, .int 0, .int 0, .int 0, .int 0]))] := hw
  refine lv_aload_n hx hb dX7_readFrom_20 rfl (lv_at hl 1 rfl) ?_
  refine wk_Vv hC hK hw hA [1] [0] rfl rfl rfl rfl (by decide) (c_X6_startReading_1 l dC dI cy av1 av10 H.size ) (cwV 0 hC.2.2.2.2 gX7_readFrom_X6_startReading rfl rfl rfl (by decide +kernel) ⟨Nat.le_of_ble_eq_true rfl, Nat.le_of_ble_eq_true rfl⟩) rfl 0 rfl rfl hl.1 rfl (Nat.le_of_ble_eq_true rfl) dX7_readFrom_21 0 0 ⟨rfl, rfl⟩ ⟨Nat.le_of_ble_eq_true rfl, Nat.le_of_ble_eq_true rfl⟩ (fun u1 H locs hp3 hw => ?_)
  have hw : Wd dC dI A s.heap H locs [(av0, .inr (7, [.ref av2, .ref av3, .ref av4, .ref av5, .ref av6, .ref av7, .ref av8, .ref av9, .int 0, .int 0, .int 0, .int 0])), (av1, .inr (6, [.ref av10, .int 0, .int 0, .int 0, .int 0]))] := hw
  refine lv_iconst (v := 1) hx hb dX7_readFrom_24 (by decide) ?_
  refine lv_istore_n (lv' := [(2, .int 1), (0, .ref av0), (1, .ref av1)]) hx hb dX7_readFrom_25 rfl hl (by decide) rfl (fun ls hl => ?_)
  refine lv_iconst (v := 0) hx hb dX7_readFrom_26 (by decide) ?_
  refine lv_istore_n (lv' := [(3, .int 0), (2, .int 1), (0, .ref av0), (1, .ref av1)]) hx hb dX7_readFrom_27 rfl hl (by decide) rfl (fun ls hl => ?_)
  refine lv_iload_n hx hb dX7_readFrom_28 rfl (lv_at hl 1 rfl) ?_
  refine lv_if_eq (tgt := 89) hx hb dX7_readFrom_29 (by decide) (fun c => absurd c (by decide)) (fun _ => ?_)
  refine lv_iload_n hx hb dX7_readFrom_32 rfl (lv_at hl 0 rfl) ?_
  refine lv_bipush (v := 32) hx hb dX7_readFrom_33 (by decide) ?_
  refine lv_icmp_gt (tgt := 89) hx hb dX7_readFrom_35 (by decide) (fun c => absurd c (by decide)) (fun _ => ?_)
  refine lv_aload_n hx hb dX7_readFrom_38 rfl (lv_at hl 3 rfl) ?_
  refine va_ldcS hx hb hC.2.2.2.1 hSR.1 dX7_readFrom_39 ?_
  refine wk_ViS hC hK hw hA hE hSR [1] [0] rfl rfl rfl rfl (by decide) (c_X6_readWord_1 l adK adV dC dI cy av1 av10 H.size ) (cwV 1 hC.2.2.2.2 gX7_readFrom_X6_readWord rfl rfl rfl (by decide +kernel) ⟨Nat.le_of_ble_eq_true rfl, Nat.le_of_ble_eq_true rfl⟩) rfl 0 rfl rfl hl.1 rfl (Nat.le_of_ble_eq_true rfl) dX7_readFrom_41 0 0 ⟨rfl, rfl⟩ ⟨Nat.le_of_ble_eq_true rfl, Nat.le_of_ble_eq_true rfl⟩ (fun r5 u4 H locs hp6 hw => ?_)
  have hw : Wd dC dI A s.heap H locs [(av0, .inr (7, [.ref av2, .ref av3, .ref av4, .ref av5, .ref av6, .ref av7, .ref av8, .ref av9, .int 0, .int 0, .int 0, .int 0])), (av1, .inr (6, [.ref av10, .int 0, .int 0, .int 0, .int 1]))] := hw
  obtain rfl : r5 = (-1) := hp6
  refine lv_istore (lv' := [(4, .int (-1)), (3, .int 0), (2, .int 1), (0, .ref av0), (1, .ref av1)]) hx hb dX7_readFrom_44 hl (by decide) rfl (fun ls hl => ?_)
  refine lv_iload hx hb dX7_readFrom_46 (lv_at hl 0 rfl) ?_
  refine lv_iconst (v := (-1)) hx hb dX7_readFrom_48 (by decide) ?_
  refine lv_icmp_eq (tgt := 71) hx hb dX7_readFrom_49 (by decide) (fun _ => ?_) (fun c => absurd (by decide) c)
  refine lv_aload_n hx hb dX7_readFrom_71 rfl (lv_at hl 3 rfl) ?_
  refine lv_aload_n hx hb dX7_readFrom_72 rfl (lv_at hl 4 rfl) ?_
  refine lv_iload hx hb dX7_readFrom_73 (lv_at hl 0 rfl) ?_
  refine wk_Vv hC hK hw hA [0, 1] [] rfl rfl rfl rfl (by decide) (c_X7_readClause_1 l dC dI cy av0 av1 av2 av3 av4 av5 av6 av7 av8 av9 av10 H.size ) (cwV 2 hC.2.2.2.2 gX7_readFrom_X7_readClause rfl rfl rfl (by decide +kernel) ⟨Nat.le_of_ble_eq_true rfl, Nat.le_of_ble_eq_true rfl⟩) rfl 0 rfl rfl hl.1 rfl (Nat.le_of_ble_eq_true rfl) dX7_readFrom_75 0 0 ⟨rfl, rfl⟩ ⟨Nat.le_of_ble_eq_true rfl, Nat.le_of_ble_eq_true rfl⟩ (fun u7 H locs hp9 hw => ?_)
  have hw : Wd dC dI A s.heap H locs [(av0, .inr (7, [.ref av2, .ref av3, .ref av4, .ref av5, .ref av6, .ref av7, .ref av8, .ref av9, .int 0, .int 0, .int 0, .int 0])), (av1, .inr (6, [.ref av10, .int 0, .int 0, .int 0, .int 1]))] := hw
  refine lv_aload_n hx hb dX7_readFrom_78 rfl (lv_at hl 4 rfl) ?_
  refine wk_Vi hC hK hw hA [1] [0] rfl rfl rfl rfl (by decide) (c_X6_takeSemicolon_1 l dC dI cy av1 av10 H.size ) (cwV 0 hC.2.2.2.2 gX7_readFrom_X6_takeSemicolon rfl rfl rfl (by decide +kernel) ⟨Nat.le_of_ble_eq_true rfl, Nat.le_of_ble_eq_true rfl⟩) rfl 0 rfl rfl hl.1 rfl (Nat.le_of_ble_eq_true rfl) dX7_readFrom_79 0 0 ⟨rfl, rfl⟩ ⟨Nat.le_of_ble_eq_true rfl, Nat.le_of_ble_eq_true rfl⟩ (fun r11 u10 H locs hp12 hw => ?_)
  have hw : Wd dC dI A s.heap H locs [(av0, .inr (7, [.ref av2, .ref av3, .ref av4, .ref av5, .ref av6, .ref av7, .ref av8, .ref av9, .int 0, .int 0, .int 0, .int 0])), (av1, .inr (6, [.ref av10, .int 0, .int 0, .int 0, .int 1]))] := hw
  obtain rfl : r11 = 0 := hp12
  refine lv_istore_n (lv' := [(2, .int 0), (4, .int (-1)), (3, .int 0), (0, .ref av0), (1, .ref av1)]) hx hb dX7_readFrom_82 rfl hl (by decide) rfl (fun ls hl => ?_)
  refine lv_iinc (v := 1) (lv' := [(3, .int 1), (2, .int 0), (4, .int (-1)), (0, .ref av0), (1, .ref av1)]) hx hb dX7_readFrom_83 hl (k := 2) rfl (by decide) (by decide) rfl (fun ls hl => ?_)
  refine lv_goto (tgt := 28) hx hb dX7_readFrom_86 (by decide) ?_
  refine lv_iload_n hx hb dX7_readFrom_28 rfl (lv_at hl 1 rfl) ?_
  refine lv_if_eq (tgt := 89) hx hb dX7_readFrom_29 (by decide) (fun _ => ?_) (fun c => absurd (by decide) c)
  refine lv_iconst (v := 0) hx hb dX7_readFrom_89 (by decide) ?_
  refine lv_istore_n (lv' := [(3, .int 0), (2, .int 0), (4, .int (-1)), (0, .ref av0), (1, .ref av1)]) hx hb dX7_readFrom_90 rfl hl (by decide) rfl (fun ls hl => ?_)
  refine lv_iload_n hx hb dX7_readFrom_91 rfl (lv_at hl 0 rfl) ?_
  refine lv_aload_n hx hb dX7_readFrom_92 rfl (lv_at hl 3 rfl) ?_
  refine wk_get hC hK hw hinX7 0 rfl rfl 9 (by decide) (List.mem_of_getElem? (i := 2) rfl) rfl rfl dX7_readFrom_93 ?_
  refine lv_icmp_ge (tgt := 110) hx hb dX7_readFrom_96 (by decide) (fun _ => ?_) (fun c => absurd (by decide) c)
  exact wk_vret hC hr hlocks hK ((fun _ => 0), (fun _ _ => 0)) trivial [0, 1] rfl rfl hw dX7_readFrom_110

set_option maxHeartbeats 4000000 in
set_option maxRecDepth 100000 in
theorem t_X11_town (l : Launch) (adK adV : Nat → Nat) (dC : Nat → ClassId) (dI : Nat → Nat → Nat) (cy : Nat → ClassId) (av0 : Nat) (ad : Nat → Nat) (sz : Nat)  : Met l yX11_town wsX11_town ({ frames := 7, cells := 0, slots := 0, locals := 192 }) (va_Pc [.ref av0] (wpreS adK adV dC dI cy sz [(av0, .inr (11, [.ref (ad 0), .ref (ad 1), .ref (ad 2), .ref (ad 3), .ref (ad 4), .ref (ad 5), .ref (ad 6), .ref (ad 7), .ref (ad 8), .ref (ad 9), .ref (ad 10), .ref (ad 11), .int 0])), ((ad 0), .inr (6, [.ref (ad 12), .int 0, .int 0, .int 0, .int 0])), ((ad 1), .inr (7, [.ref (ad 13), .ref (ad 14), .ref (ad 15), .ref (ad 16), .ref (ad 17), .ref (ad 18), .ref (ad 19), .ref (ad 20), .int 0, .int 0, .int 0, .int 0]))])) (va_Qi (fun (r : Int32) (_ : ((Nat → Nat) × (Nat → Nat → Int32))) => r = (-3)) (fun u => wpost dC dI cy (va_A [(av0, .inr (11, [.ref (ad 0), .ref (ad 1), .ref (ad 2), .ref (ad 3), .ref (ad 4), .ref (ad 5), .ref (ad 6), .ref (ad 7), .ref (ad 8), .ref (ad 9), .ref (ad 10), .ref (ad 11), .int 0])), ((ad 0), .inr (6, [.ref (ad 12), .int 0, .int 0, .int 0, .int 0])), ((ad 1), .inr (7, [.ref (ad 13), .ref (ad 14), .ref (ad 15), .ref (ad 16), .ref (ad 17), .ref (ad 18), .ref (ad 19), .ref (ad 20), .int 0, .int 0, .int 0, .int 0]))] sz) [(av0, .inr (11, [.ref (ad 0), .ref (ad 1), .ref (ad 2), .ref (ad 3), .ref (ad 4), .ref (ad 5), .ref (ad 6), .ref (ad 7), .ref (ad 8), .ref (ad 9), .ref (ad 10), .ref (ad 11), .int 0])), ((ad 0), .inr (6, [.ref (ad 12), .int 0, .int 0, .int 0, .int 1])), ((ad 1), .inr (7, [.ref (ad 13), .ref (ad 14), .ref (ad 15), .ref (ad 16), .ref (ad 17), .ref (ad 18), .ref (ad 19), .ref (ad 20), .int 0, .int 0, .int 0, .int 0]))]) (va_A [(av0, .inr (11, [.ref (ad 0), .ref (ad 1), .ref (ad 2), .ref (ad 3), .ref (ad 4), .ref (ad 5), .ref (ad 6), .ref (ad 7), .ref (ad 8), .ref (ad 9), .ref (ad 10), .ref (ad 11), .int 0])), ((ad 0), .inr (6, [.ref (ad 12), .int 0, .int 0, .int 0, .int 0])), ((ad 1), .inr (7, [.ref (ad 13), .ref (ad 14), .ref (ad 15), .ref (ad 16), .ref (ad 17), .ref (ad 18), .ref (ad 19), .ref (ad 20), .int 0, .int 0, .int 0, .int 0]))] sz)) 0 0 (va_A [(av0, .inr (11, [.ref (ad 0), .ref (ad 1), .ref (ad 2), .ref (ad 3), .ref (ad 4), .ref (ad 5), .ref (ad 6), .ref (ad 7), .ref (ad 8), .ref (ad 9), .ref (ad 10), .ref (ad 11), .int 0])), ((ad 0), .inr (6, [.ref (ad 12), .int 0, .int 0, .int 0, .int 0])), ((ad 1), .inr (7, [.ref (ad 13), .ref (ad 14), .ref (ad 15), .ref (ad 16), .ref (ad 17), .ref (ad 18), .ref (ad 19), .ref (ad 20), .int 0, .int 0, .int 0, .int 0]))] sz) := by
  refine Met.ofW (cc := cX11_town) (maxL := 2) (ret := (some .int)) (by decide) rfl ?_
  intro p e s m args below meth c s₁ B hml hv
  obtain ⟨rfl, ⟨hsz, hP, hK, hD0⟩, hE, hSR⟩ := hv
  have hx := B.exec
  have hb := B.bytes
  have hr := B.returns
  have hlocks := B.notSynchronized
  have hC : CallFix p m c cX11_town 2 s _ wsX11_town RX11 := ⟨hx, hb, hml, findClass_of_methodNamed B.named, atoms_spec (ws := wsX11_town) B.pre⟩
  subst hsz
  have hD := hD0.self (sz := s.heap.size)
  generalize hAe : va_A [(av0, .inr (11, [.ref (ad 0), .ref (ad 1), .ref (ad 2), .ref (ad 3), .ref (ad 4), .ref (ad 5), .ref (ad 6), .ref (ad 7), .ref (ad 8), .ref (ad 9), .ref (ad 10), .ref (ad 11), .int 0])), ((ad 0), .inr (6, [.ref (ad 12), .int 0, .int 0, .int 0, .int 0])), ((ad 1), .inr (7, [.ref (ad 13), .ref (ad 14), .ref (ad 15), .ref (ad 16), .ref (ad 17), .ref (ad 18), .ref (ad 19), .ref (ad 20), .int 0, .int 0, .int 0, .int 0]))] s.heap.size = A at hD hE ⊢
  have hA : ∀ q : Nat, s.heap.size ≤ q → A q := fun q h => by rw [← hAe]; exact Or.inr h
  have hw : Wd dC dI A s.heap s.heap [] [(av0, .inr (11, [.ref (ad 0), .ref (ad 1), .ref (ad 2), .ref (ad 3), .ref (ad 4), .ref (ad 5), .ref (ad 6), .ref (ad 7), .ref (ad 8), .ref (ad 9), .ref (ad 10), .ref (ad 11), .int 0])), ((ad 0), .inr (6, [.ref (ad 12), .int 0, .int 0, .int 0, .int 0])), ((ad 1), .inr (7, [.ref (ad 13), .ref (ad 14), .ref (ad 15), .ref (ad 16), .ref (ad 17), .ref (ad 18), .ref (ad 19), .ref (ad 20), .int 0, .int 0, .int 0, .int 0]))] := ⟨hP, hD, va_S.rf⟩
  have hl := lv_entry ([.ref av0]) (n := 2) (Nat.le_of_ble_eq_true rfl)
  rw [lg_entry_eq]
  generalize (lg_sl ([.ref av0]) ++ List.replicate (2 - (lg_sl ([.ref av0])).length) Slot.unset).toArray = ls at hl ⊢
  have hl : lv_has ls 2 [(0, .ref av0)] := hl
  have hinX11 : ∀ w ∈ u_ws RX11 TX11 13, w ∈ wsX11_town := fun _ h => List.mem_cons_of_mem _ (List.mem_append_left _ (List.mem_append_left _ (List.mem_append_left _ (List.mem_append_left _ (List.mem_append_right _ (h))))))
  have hinX6 : ∀ w ∈ u_ws RX6 TX6 5, w ∈ wsX11_town := fun _ h => List.mem_cons_of_mem _ (List.mem_append_left _ (List.mem_append_left _ (List.mem_append_left _ (List.mem_append_right _ (h)))))
  refine lv_aload_n hx hb dX11_town_0 rfl (lv_at hl 0 rfl) ?_
  refine wk_get hC hK hw hinX11 0 rfl rfl 1 (by decide) (List.mem_of_getElem? (i := 1) rfl) rfl rfl dX11_town_1 ?_
  refine lv_aload_n hx hb dX11_town_4 rfl (lv_at hl 0 rfl) ?_
  refine wk_get hC hK hw hinX11 0 rfl rfl 0 (by decide) (List.mem_of_getElem? (i := 2) rfl) rfl rfl dX11_town_5 ?_
  refine wk_VvS hC hK hw hA hE hSR [2, 1] [0] rfl rfl rfl rfl (by decide) (c_X7_readFrom_1 l adK adV dC dI cy (ad 1) (ad 0) (ad 13) (ad 14) (ad 15) (ad 16) (ad 17) (ad 18) (ad 19) (ad 20) (ad 12) s.heap.size ) (cwV 1 hC.2.2.2.2 gX11_town_X7_readFrom rfl rfl rfl (by decide +kernel) ⟨Nat.le_of_ble_eq_true rfl, Nat.le_of_ble_eq_true rfl⟩) rfl 0 rfl rfl hl.1 rfl (Nat.le_of_ble_eq_true rfl) dX11_town_8 0 0 ⟨rfl, rfl⟩ ⟨Nat.le_of_ble_eq_true rfl, Nat.le_of_ble_eq_true rfl⟩ (fun u1 H locs hp3 hw => ?_)
  have hw : Wd dC dI A s.heap H locs [(av0, .inr (11, [.ref (ad 0), .ref (ad 1), .ref (ad 2), .ref (ad 3), .ref (ad 4), .ref (ad 5), .ref (ad 6), .ref (ad 7), .ref (ad 8), .ref (ad 9), .ref (ad 10), .ref (ad 11), .int 0])), ((ad 1), .inr (7, [.ref (ad 13), .ref (ad 14), .ref (ad 15), .ref (ad 16), .ref (ad 17), .ref (ad 18), .ref (ad 19), .ref (ad 20), .int 0, .int 0, .int 0, .int 0])), ((ad 0), .inr (6, [.ref (ad 12), .int 0, .int 0, .int 0, .int 1]))] := hw
  refine lv_aload_n hx hb dX11_town_11 rfl (lv_at hl 0 rfl) ?_
  refine wk_get hC hK hw hinX11 0 rfl rfl 0 (by decide) (List.mem_of_getElem? (i := 2) rfl) rfl rfl dX11_town_12 ?_
  refine wk_get hC hK hw hinX6 2 rfl rfl 4 (by decide) (List.mem_of_getElem? (i := 3) rfl) rfl rfl dX11_town_15 ?_
  refine lv_istore_n (lv' := [(1, .int 1), (0, .ref av0)]) hx hb dX11_town_18 rfl hl (by decide) rfl (fun ls hl => ?_)
  refine lv_aload_n hx hb dX11_town_19 rfl (lv_at hl 1 rfl) ?_
  refine wk_get hC hK hw hinX11 0 rfl rfl 0 (by decide) (List.mem_of_getElem? (i := 2) rfl) rfl rfl dX11_town_20 ?_
  refine lv_iconst (v := 0) hx hb dX11_town_23 (by decide) ?_
  refine wk_put hC hK hw hinX6 tyX6_ok nmX6 2 rfl rfl 2 (by decide) (List.mem_of_getElem? (i := 4) rfl) rfl rfl rfl rfl rfl (Nat.le_of_ble_eq_true rfl) dX11_town_24 (fun H locs hw => ?_)
  have hw : Wd dC dI A s.heap H locs [(av0, .inr (11, [.ref (ad 0), .ref (ad 1), .ref (ad 2), .ref (ad 3), .ref (ad 4), .ref (ad 5), .ref (ad 6), .ref (ad 7), .ref (ad 8), .ref (ad 9), .ref (ad 10), .ref (ad 11), .int 0])), ((ad 1), .inr (7, [.ref (ad 13), .ref (ad 14), .ref (ad 15), .ref (ad 16), .ref (ad 17), .ref (ad 18), .ref (ad 19), .ref (ad 20), .int 0, .int 0, .int 0, .int 0])), ((ad 0), .inr (6, [.ref (ad 12), .int 0, .int 0, .int 0, .int 1]))] := hw
  refine lv_iload_n hx hb dX11_town_27 rfl (lv_at hl 0 rfl) ?_
  refine lv_if_eq (tgt := 36) hx hb dX11_town_28 (by decide) (fun c => absurd c (by decide)) (fun _ => ?_)
  refine lv_bipush (v := (-2)) hx hb dX11_town_31 (by decide) ?_
  refine lv_iload_n hx hb dX11_town_33 rfl (lv_at hl 0 rfl) ?_
  refine lv_isub hx hb dX11_town_34 ?_
  refine wk_top (-3) (by decide) ?_
  exact wk_iret (v := (-3)) hC hr hlocks hK ((fun _ => 0), (fun _ _ => 0)) rfl [0, 2, 1] rfl rfl hw dX11_town_35

set_option maxHeartbeats 4000000 in
set_option maxRecDepth 100000 in
theorem c_X2_clear_1 (l : Launch) (dC : Nat → ClassId) (dI : Nat → Nat → Nat) (cy : Nat → ClassId) (av0 : Nat) (av1 : Nat) (av2 : Nat) (av3 : Nat) (sz : Nat)  : Met l yX2_clear wsX2_clear ({ frames := 0, cells := 0, slots := 0, locals := 0 }) (va_Pc [.ref av0] (wpre dC dI cy sz [(av0, .inr (2, [.ref av1, .ref av2, .ref av3, .int 0, .int 0, .int 0]))])) (va_Qv (fun _ : ((Nat → Nat) × (Nat → Nat → Int32)) => True) (fun u => wpost dC dI cy (va_A [(av0, .inr (2, [.ref av1, .ref av2, .ref av3, .int 0, .int 0, .int 0]))] sz) [(av0, .inr (2, [.ref av1, .ref av2, .ref av3, .int 0, .int 0, .int 0]))]) (va_A [(av0, .inr (2, [.ref av1, .ref av2, .ref av3, .int 0, .int 0, .int 0]))] sz)) 0 0 (va_A [(av0, .inr (2, [.ref av1, .ref av2, .ref av3, .int 0, .int 0, .int 0]))] sz) := by
  refine Met.ofW (cc := cX2_clear) (maxL := 1) (ret := none) (by decide) rfl ?_
  intro p e s m args below meth c s₁ B hml hv
  obtain ⟨rfl, hsz, hP, hK, hD0⟩ := hv
  have hx := B.exec
  have hb := B.bytes
  have hr := B.returns
  have hlocks := B.notSynchronized
  have hC : CallFix p m c cX2_clear 1 s _ wsX2_clear RX2 := ⟨hx, hb, hml, findClass_of_methodNamed B.named, atoms_spec (ws := wsX2_clear) B.pre⟩
  subst hsz
  have hD := hD0.self (sz := s.heap.size)
  generalize hAe : va_A [(av0, .inr (2, [.ref av1, .ref av2, .ref av3, .int 0, .int 0, .int 0]))] s.heap.size = A at hD ⊢
  have hA : ∀ q : Nat, s.heap.size ≤ q → A q := fun q h => by rw [← hAe]; exact Or.inr h
  have hw : Wd dC dI A s.heap s.heap [] [(av0, .inr (2, [.ref av1, .ref av2, .ref av3, .int 0, .int 0, .int 0]))] := ⟨hP, hD, va_S.rf⟩
  have hl := lv_entry ([.ref av0]) (n := 1) (Nat.le_of_ble_eq_true rfl)
  rw [lg_entry_eq]
  generalize (lg_sl ([.ref av0]) ++ List.replicate (1 - (lg_sl ([.ref av0])).length) Slot.unset).toArray = ls at hl ⊢
  have hl : lv_has ls 1 [(0, .ref av0)] := hl
  have hinX2 : ∀ w ∈ u_ws RX2 TX2 6, w ∈ wsX2_clear := fun _ h => List.mem_cons_of_mem _ (List.mem_append_right _ (h))
  refine lv_aload_n hx hb dX2_clear_0 rfl (lv_at hl 0 rfl) ?_
  refine lv_iconst (v := 0) hx hb dX2_clear_1 (by decide) ?_
  refine wk_put hC hK hw hinX2 tyX2_ok nmX2 0 rfl rfl 4 (by decide) (List.mem_of_getElem? (i := 1) rfl) rfl rfl rfl rfl rfl (Nat.le_of_ble_eq_true rfl) dX2_clear_2 (fun H locs hw => ?_)
  have hw : Wd dC dI A s.heap H locs [(av0, .inr (2, [.ref av1, .ref av2, .ref av3, .int 0, .int 0, .int 0]))] := hw
  refine lv_aload_n hx hb dX2_clear_5 rfl (lv_at hl 0 rfl) ?_
  refine lv_iconst (v := 0) hx hb dX2_clear_6 (by decide) ?_
  refine wk_put hC hK hw hinX2 tyX2_ok nmX2 0 rfl rfl 3 (by decide) (List.mem_of_getElem? (i := 2) rfl) rfl rfl rfl rfl rfl (Nat.le_of_ble_eq_true rfl) dX2_clear_7 (fun H locs hw => ?_)
  have hw : Wd dC dI A s.heap H locs [(av0, .inr (2, [.ref av1, .ref av2, .ref av3, .int 0, .int 0, .int 0]))] := hw
  refine lv_aload_n hx hb dX2_clear_10 rfl (lv_at hl 0 rfl) ?_
  refine lv_iconst (v := 0) hx hb dX2_clear_11 (by decide) ?_
  refine wk_put hC hK hw hinX2 tyX2_ok nmX2 0 rfl rfl 5 (by decide) (List.mem_of_getElem? (i := 3) rfl) rfl rfl rfl rfl rfl (Nat.le_of_ble_eq_true rfl) dX2_clear_12 (fun H locs hw => ?_)
  have hw : Wd dC dI A s.heap H locs [(av0, .inr (2, [.ref av1, .ref av2, .ref av3, .int 0, .int 0, .int 0]))] := hw
  exact wk_vret hC hr hlocks hK ((fun _ => 0), (fun _ _ => 0)) trivial [0] rfl rfl hw dX2_clear_15

set_option maxHeartbeats 4000000 in
set_option maxRecDepth 100000 in
theorem c_X6_readWord_2 (l : Launch) (adK adV : Nat → Nat) (dC : Nat → ClassId) (dI : Nat → Nat → Nat) (cy : Nat → ClassId) (av0 : Nat) (av1 : Nat) (sz : Nat)  : Met l yX6_readWord wsX6_readWord ({ frames := 5, cells := 0, slots := 0, locals := 141 }) (va_Pc [.ref av0, .ref (adK 2)] (wpreS adK adV dC dI cy sz [(av0, .inr (6, [.ref av1, .int 0, .int 0, .int 0, .int 0]))])) (va_Qi (fun (r : Int32) (_ : ((Nat → Nat) × (Nat → Nat → Int32))) => r = (-1)) (fun u => wpost dC dI cy (va_A [(av0, .inr (6, [.ref av1, .int 0, .int 0, .int 0, .int 0]))] sz) [(av0, .inr (6, [.ref av1, .int 0, .int 0, .int 0, .int 1]))]) (va_A [(av0, .inr (6, [.ref av1, .int 0, .int 0, .int 0, .int 0]))] sz)) 0 0 (va_A [(av0, .inr (6, [.ref av1, .int 0, .int 0, .int 0, .int 0]))] sz) := by
  refine Met.ofW (cc := cX6_readWord) (maxL := 8) (ret := (some .int)) (by decide) rfl ?_
  intro p e s m args below meth c s₁ B hml hv
  obtain ⟨rfl, ⟨hsz, hP, hK, hD0⟩, hE, hSR⟩ := hv
  have hx := B.exec
  have hb := B.bytes
  have hr := B.returns
  have hlocks := B.notSynchronized
  have hC : CallFix p m c cX6_readWord 8 s _ wsX6_readWord RX6 := ⟨hx, hb, hml, findClass_of_methodNamed B.named, atoms_spec (ws := wsX6_readWord) B.pre⟩
  subst hsz
  have hD := hD0.self (sz := s.heap.size)
  generalize hAe : va_A [(av0, .inr (6, [.ref av1, .int 0, .int 0, .int 0, .int 0]))] s.heap.size = A at hD hE ⊢
  have hA : ∀ q : Nat, s.heap.size ≤ q → A q := fun q h => by rw [← hAe]; exact Or.inr h
  have hw : Wd dC dI A s.heap s.heap [] [(av0, .inr (6, [.ref av1, .int 0, .int 0, .int 0, .int 0]))] := ⟨hP, hD, va_S.rf⟩
  have hl := lv_entry ([.ref av0, .ref (adK 2)]) (n := 8) (Nat.le_of_ble_eq_true rfl)
  rw [lg_entry_eq]
  generalize (lg_sl ([.ref av0, .ref (adK 2)]) ++ List.replicate (8 - (lg_sl ([.ref av0, .ref (adK 2)])).length) Slot.unset).toArray = ls at hl ⊢
  have hl : lv_has ls 8 [(0, .ref av0), (1, .ref (adK 2))] := hl
  have hinX6 : ∀ w ∈ u_ws RX6 TX6 5, w ∈ wsX6_readWord := fun _ h => List.mem_cons_of_mem _ (List.mem_append_right _ (h))
  refine lv_aload_n hx hb dX6_readWord_0 rfl (lv_at hl 0 rfl) ?_
  refine wk_Vi hC hK hw hA [0] [] rfl rfl rfl rfl (by decide) (c_X6_lookBehindBlanks_1 l dC dI cy av0 av1 s.heap.size ) (cwV 0 hC.2.2.2.2 gX6_readWord_X6_lookBehindBlanks rfl rfl rfl (by decide +kernel) ⟨Nat.le_of_ble_eq_true rfl, Nat.le_of_ble_eq_true rfl⟩) rfl 0 rfl rfl hl.1 rfl (Nat.le_of_ble_eq_true rfl) dX6_readWord_1 0 0 ⟨rfl, rfl⟩ ⟨Nat.le_of_ble_eq_true rfl, Nat.le_of_ble_eq_true rfl⟩ (fun r2 u1 H locs hp3 hw => ?_)
  have hw : Wd dC dI A s.heap H locs [(av0, .inr (6, [.ref av1, .int 0, .int 0, .int 0, .int 0]))] := hw
  obtain rfl : r2 = (-1) := hp3
  refine lv_pop hx hb dX6_readWord_4 rfl ?_
  refine lv_aload_n hx hb dX6_readWord_5 rfl (lv_at hl 0 rfl) ?_
  refine wk_Vi hC hK hw hA [0] [] rfl rfl rfl rfl (by decide) (c_X6_endOfWord_1 l dC dI cy av0 av1 H.size ) (cwV 0 hC.2.2.2.2 gX6_readWord_X6_endOfWord rfl rfl rfl (by decide +kernel) ⟨Nat.le_of_ble_eq_true rfl, Nat.le_of_ble_eq_true rfl⟩) rfl 0 rfl rfl hl.1 rfl (Nat.le_of_ble_eq_true rfl) dX6_readWord_6 0 0 ⟨rfl, rfl⟩ ⟨Nat.le_of_ble_eq_true rfl, Nat.le_of_ble_eq_true rfl⟩ (fun r5 u4 H locs hp6 hw => ?_)
  have hw : Wd dC dI A s.heap H locs [(av0, .inr (6, [.ref av1, .int 0, .int 0, .int 0, .int 0]))] := hw
  obtain rfl : r5 = 0 := hp6
  refine lv_istore_n (lv' := [(2, .int 0), (0, .ref av0), (1, .ref (adK 2))]) hx hb dX6_readWord_9 rfl hl (by decide) rfl (fun ls hl => ?_)
  refine lv_iconst (v := 0) hx hb dX6_readWord_10 (by decide) ?_
  refine lv_istore_n (lv' := [(3, .int 0), (2, .int 0), (0, .ref av0), (1, .ref (adK 2))]) hx hb dX6_readWord_11 rfl hl (by decide) rfl (fun ls hl => ?_)
  refine lv_aload_n hx hb dX6_readWord_12 rfl (lv_at hl 2 rfl) ?_
  refine wk_get hC hK hw hinX6 0 rfl rfl 1 (by decide) (List.mem_of_getElem? (i := 1) rfl) rfl rfl dX6_readWord_13 ?_
  refine lv_istore (lv' := [(4, .int 0), (3, .int 0), (2, .int 0), (0, .ref av0), (1, .ref (adK 2))]) hx hb dX6_readWord_16 hl (by decide) rfl (fun ls hl => ?_)
  refine lv_iconst (v := 1) hx hb dX6_readWord_18 (by decide) ?_
  refine lv_istore (lv' := [(5, .int 1), (4, .int 0), (3, .int 0), (2, .int 0), (0, .ref av0), (1, .ref (adK 2))]) hx hb dX6_readWord_19 hl (by decide) rfl (fun ls hl => ?_)
  refine lv_iconst (v := 0) hx hb dX6_readWord_21 (by decide) ?_
  refine lv_istore (lv' := [(6, .int 0), (5, .int 1), (4, .int 0), (3, .int 0), (2, .int 0), (0, .ref av0), (1, .ref (adK 2))]) hx hb dX6_readWord_22 hl (by decide) rfl (fun ls hl => ?_)
  refine lv_iload hx hb dX6_readWord_24 (lv_at hl 0 rfl) ?_
  refine lv_aload_n hx hb dX6_readWord_26 rfl (lv_at hl 6 rfl) ?_
  refine wk_ViT hC hK hw hA hE hSR [] [0] rfl rfl rfl rfl (by decide) (s_length l adK adV dC dI cy 2 (by decide) H.size) (cwV 0 hC.2.2.2.2 gX6_readWord_J0_length_8abf5 rfl rfl rfl (by decide +kernel) ⟨Nat.le_of_ble_eq_true rfl, Nat.le_of_ble_eq_true rfl⟩) 2 (by decide) rfl rfl rfl hl.1 rfl (Nat.le_of_ble_eq_true rfl) dX6_readWord_27 0 0 ⟨rfl, rfl⟩ ⟨Nat.le_of_ble_eq_true rfl, Nat.le_of_ble_eq_true rfl⟩ (fun r8 u7 H locs hp9 hw => ?_)
  have hw : Wd dC dI A s.heap H locs [(av0, .inr (6, [.ref av1, .int 0, .int 0, .int 0, .int 0]))] := hw
  obtain rfl : r8 = 18 := hp9
  refine lv_icmp_ge (tgt := 120) hx hb dX6_readWord_30 (by decide) (fun c => absurd c (by decide)) (fun _ => ?_)
  refine lv_aload_n hx hb dX6_readWord_33 rfl (lv_at hl 6 rfl) ?_
  refine lv_iload hx hb dX6_readWord_34 (lv_at hl 0 rfl) ?_
  refine wk_ViT hC hK hw hA hE hSR [] [0] rfl rfl rfl rfl (by decide) (s_charAt l adK adV dC dI cy 2 (by decide) 0 (by decide) (by decide) H.size) (cwV 1 hC.2.2.2.2 gX6_readWord_J0_charAt_5068e rfl rfl rfl (by decide +kernel) ⟨Nat.le_of_ble_eq_true rfl, Nat.le_of_ble_eq_true rfl⟩) 2 (by decide) rfl rfl rfl hl.1 rfl (Nat.le_of_ble_eq_true rfl) dX6_readWord_36 0 0 ⟨rfl, rfl⟩ ⟨Nat.le_of_ble_eq_true rfl, Nat.le_of_ble_eq_true rfl⟩ (fun r11 u10 H locs hp12 hw => ?_)
  have hw : Wd dC dI A s.heap H locs [(av0, .inr (6, [.ref av1, .int 0, .int 0, .int 0, .int 0]))] := hw
  obtain rfl : r11 = 103 := hp12
  refine lv_istore (lv' := [(7, .int 103), (6, .int 0), (5, .int 1), (4, .int 0), (3, .int 0), (2, .int 0), (0, .ref av0), (1, .ref (adK 2))]) hx hb dX6_readWord_39 hl (by decide) rfl (fun ls hl => ?_)
  refine lv_iload hx hb dX6_readWord_41 (lv_at hl 0 rfl) ?_
  refine lv_bipush (v := 32) hx hb dX6_readWord_43 (by decide) ?_
  refine lv_icmp_eq (tgt := 84) hx hb dX6_readWord_45 (by decide) (fun c => absurd c (by decide)) (fun _ => ?_)
  refine lv_iload hx hb dX6_readWord_48 (lv_at hl 2 rfl) ?_
  refine lv_if_eq (tgt := 75) hx hb dX6_readWord_50 (by decide) (fun c => absurd c (by decide)) (fun _ => ?_)
  refine lv_iload hx hb dX6_readWord_53 (lv_at hl 3 rfl) ?_
  refine lv_iload_n hx hb dX6_readWord_55 rfl (lv_at hl 5 rfl) ?_
  refine lv_icmp_ge (tgt := 75) hx hb dX6_readWord_56 (by decide) (fun _ => ?_) (fun c => absurd (by decide) c)
  refine lv_iconst (v := 0) hx hb dX6_readWord_75 (by decide) ?_
  refine lv_istore (lv' := [(5, .int 0), (7, .int 103), (6, .int 0), (4, .int 0), (3, .int 0), (2, .int 0), (0, .ref av0), (1, .ref (adK 2))]) hx hb dX6_readWord_76 hl (by decide) rfl (fun ls hl => ?_)
  refine lv_iinc (v := 1) (lv' := [(4, .int 1), (5, .int 0), (7, .int 103), (6, .int 0), (3, .int 0), (2, .int 0), (0, .ref av0), (1, .ref (adK 2))]) hx hb dX6_readWord_78 hl (k := 3) rfl (by decide) (by decide) rfl (fun ls hl => ?_)
  refine lv_goto (tgt := 114) hx hb dX6_readWord_81 (by decide) ?_
  refine lv_iinc (v := 1) (lv' := [(6, .int 1), (4, .int 1), (5, .int 0), (7, .int 103), (3, .int 0), (2, .int 0), (0, .ref av0), (1, .ref (adK 2))]) hx hb dX6_readWord_114 hl (k := 3) rfl (by decide) (by decide) rfl (fun ls hl => ?_)
  refine lv_goto (tgt := 24) hx hb dX6_readWord_117 (by decide) ?_
  refine lv_iload hx hb dX6_readWord_24 (lv_at hl 0 rfl) ?_
  refine lv_aload_n hx hb dX6_readWord_26 rfl (lv_at hl 7 rfl) ?_
  refine wk_ViT hC hK hw hA hE hSR [] [0] rfl rfl rfl rfl (by decide) (s_length l adK adV dC dI cy 2 (by decide) H.size) (cwV 0 hC.2.2.2.2 gX6_readWord_J0_length_8abf5 rfl rfl rfl (by decide +kernel) ⟨Nat.le_of_ble_eq_true rfl, Nat.le_of_ble_eq_true rfl⟩) 2 (by decide) rfl rfl rfl hl.1 rfl (Nat.le_of_ble_eq_true rfl) dX6_readWord_27 0 0 ⟨rfl, rfl⟩ ⟨Nat.le_of_ble_eq_true rfl, Nat.le_of_ble_eq_true rfl⟩ (fun r14 u13 H locs hp15 hw => ?_)
  have hw : Wd dC dI A s.heap H locs [(av0, .inr (6, [.ref av1, .int 0, .int 0, .int 0, .int 0]))] := hw
  obtain rfl : r14 = 18 := hp15
  refine lv_icmp_ge (tgt := 120) hx hb dX6_readWord_30 (by decide) (fun c => absurd c (by decide)) (fun _ => ?_)
  refine lv_aload_n hx hb dX6_readWord_33 rfl (lv_at hl 7 rfl) ?_
  refine lv_iload hx hb dX6_readWord_34 (lv_at hl 0 rfl) ?_
  refine wk_ViT hC hK hw hA hE hSR [] [0] rfl rfl rfl rfl (by decide) (s_charAt l adK adV dC dI cy 2 (by decide) 1 (by decide) (by decide) H.size) (cwV 1 hC.2.2.2.2 gX6_readWord_J0_charAt_5068e rfl rfl rfl (by decide +kernel) ⟨Nat.le_of_ble_eq_true rfl, Nat.le_of_ble_eq_true rfl⟩) 2 (by decide) rfl rfl rfl hl.1 rfl (Nat.le_of_ble_eq_true rfl) dX6_readWord_36 0 0 ⟨rfl, rfl⟩ ⟨Nat.le_of_ble_eq_true rfl, Nat.le_of_ble_eq_true rfl⟩ (fun r17 u16 H locs hp18 hw => ?_)
  have hw : Wd dC dI A s.heap H locs [(av0, .inr (6, [.ref av1, .int 0, .int 0, .int 0, .int 0]))] := hw
  obtain rfl : r17 = 111 := hp18
  refine lv_istore (lv' := [(7, .int 111), (6, .int 1), (4, .int 1), (5, .int 0), (3, .int 0), (2, .int 0), (0, .ref av0), (1, .ref (adK 2))]) hx hb dX6_readWord_39 hl (by decide) rfl (fun ls hl => ?_)
  refine lv_iload hx hb dX6_readWord_41 (lv_at hl 0 rfl) ?_
  refine lv_bipush (v := 32) hx hb dX6_readWord_43 (by decide) ?_
  refine lv_icmp_eq (tgt := 84) hx hb dX6_readWord_45 (by decide) (fun c => absurd c (by decide)) (fun _ => ?_)
  refine lv_iload hx hb dX6_readWord_48 (lv_at hl 3 rfl) ?_
  refine lv_if_eq (tgt := 75) hx hb dX6_readWord_50 (by decide) (fun _ => ?_) (fun c => absurd (by decide) c)
  refine lv_iconst (v := 0) hx hb dX6_readWord_75 (by decide) ?_
  refine lv_istore (lv' := [(5, .int 0), (7, .int 111), (6, .int 1), (4, .int 1), (3, .int 0), (2, .int 0), (0, .ref av0), (1, .ref (adK 2))]) hx hb dX6_readWord_76 hl (by decide) rfl (fun ls hl => ?_)
  refine lv_iinc (v := 2) (lv' := [(4, .int 2), (5, .int 0), (7, .int 111), (6, .int 1), (3, .int 0), (2, .int 0), (0, .ref av0), (1, .ref (adK 2))]) hx hb dX6_readWord_78 hl (k := 3) rfl (by decide) (by decide) rfl (fun ls hl => ?_)
  refine lv_goto (tgt := 114) hx hb dX6_readWord_81 (by decide) ?_
  refine lv_iinc (v := 2) (lv' := [(6, .int 2), (4, .int 2), (5, .int 0), (7, .int 111), (3, .int 0), (2, .int 0), (0, .ref av0), (1, .ref (adK 2))]) hx hb dX6_readWord_114 hl (k := 3) rfl (by decide) (by decide) rfl (fun ls hl => ?_)
  refine lv_goto (tgt := 24) hx hb dX6_readWord_117 (by decide) ?_
  refine lv_iload hx hb dX6_readWord_24 (lv_at hl 0 rfl) ?_
  refine lv_aload_n hx hb dX6_readWord_26 rfl (lv_at hl 7 rfl) ?_
  refine wk_ViT hC hK hw hA hE hSR [] [0] rfl rfl rfl rfl (by decide) (s_length l adK adV dC dI cy 2 (by decide) H.size) (cwV 0 hC.2.2.2.2 gX6_readWord_J0_length_8abf5 rfl rfl rfl (by decide +kernel) ⟨Nat.le_of_ble_eq_true rfl, Nat.le_of_ble_eq_true rfl⟩) 2 (by decide) rfl rfl rfl hl.1 rfl (Nat.le_of_ble_eq_true rfl) dX6_readWord_27 0 0 ⟨rfl, rfl⟩ ⟨Nat.le_of_ble_eq_true rfl, Nat.le_of_ble_eq_true rfl⟩ (fun r20 u19 H locs hp21 hw => ?_)
  have hw : Wd dC dI A s.heap H locs [(av0, .inr (6, [.ref av1, .int 0, .int 0, .int 0, .int 0]))] := hw
  obtain rfl : r20 = 18 := hp21
  refine lv_icmp_ge (tgt := 120) hx hb dX6_readWord_30 (by decide) (fun c => absurd c (by decide)) (fun _ => ?_)
  refine lv_aload_n hx hb dX6_readWord_33 rfl (lv_at hl 7 rfl) ?_
  refine lv_iload hx hb dX6_readWord_34 (lv_at hl 0 rfl) ?_
  refine wk_ViT hC hK hw hA hE hSR [] [0] rfl rfl rfl rfl (by decide) (s_charAt l adK adV dC dI cy 2 (by decide) 2 (by decide) (by decide) H.size) (cwV 1 hC.2.2.2.2 gX6_readWord_J0_charAt_5068e rfl rfl rfl (by decide +kernel) ⟨Nat.le_of_ble_eq_true rfl, Nat.le_of_ble_eq_true rfl⟩) 2 (by decide) rfl rfl rfl hl.1 rfl (Nat.le_of_ble_eq_true rfl) dX6_readWord_36 0 0 ⟨rfl, rfl⟩ ⟨Nat.le_of_ble_eq_true rfl, Nat.le_of_ble_eq_true rfl⟩ (fun r23 u22 H locs hp24 hw => ?_)
  have hw : Wd dC dI A s.heap H locs [(av0, .inr (6, [.ref av1, .int 0, .int 0, .int 0, .int 0]))] := hw
  obtain rfl : r23 = 32 := hp24
  refine lv_istore (lv' := [(7, .int 32), (6, .int 2), (4, .int 2), (5, .int 0), (3, .int 0), (2, .int 0), (0, .ref av0), (1, .ref (adK 2))]) hx hb dX6_readWord_39 hl (by decide) rfl (fun ls hl => ?_)
  refine lv_iload hx hb dX6_readWord_41 (lv_at hl 0 rfl) ?_
  refine lv_bipush (v := 32) hx hb dX6_readWord_43 (by decide) ?_
  refine lv_icmp_eq (tgt := 84) hx hb dX6_readWord_45 (by decide) (fun _ => ?_) (fun c => absurd (by decide) c)
  refine lv_iload hx hb dX6_readWord_84 (lv_at hl 3 rfl) ?_
  refine lv_if_eq (tgt := 102) hx hb dX6_readWord_86 (by decide) (fun _ => ?_) (fun c => absurd (by decide) c)
  refine lv_iinc (v := 1) (lv' := [(3, .int 1), (7, .int 32), (6, .int 2), (4, .int 2), (5, .int 0), (2, .int 0), (0, .ref av0), (1, .ref (adK 2))]) hx hb dX6_readWord_102 hl (k := 4) rfl (by decide) (by decide) rfl (fun ls hl => ?_)
  refine lv_aload_n hx hb dX6_readWord_105 rfl (lv_at hl 6 rfl) ?_
  refine wk_get hC hK hw hinX6 0 rfl rfl 1 (by decide) (List.mem_of_getElem? (i := 1) rfl) rfl rfl dX6_readWord_106 ?_
  refine lv_istore (lv' := [(4, .int 0), (3, .int 1), (7, .int 32), (6, .int 2), (5, .int 0), (2, .int 0), (0, .ref av0), (1, .ref (adK 2))]) hx hb dX6_readWord_109 hl (by decide) rfl (fun ls hl => ?_)
  refine lv_iconst (v := 1) hx hb dX6_readWord_111 (by decide) ?_
  refine lv_istore (lv' := [(5, .int 1), (4, .int 0), (3, .int 1), (7, .int 32), (6, .int 2), (2, .int 0), (0, .ref av0), (1, .ref (adK 2))]) hx hb dX6_readWord_112 hl (by decide) rfl (fun ls hl => ?_)
  refine lv_iinc (v := 3) (lv' := [(6, .int 3), (5, .int 1), (4, .int 0), (3, .int 1), (7, .int 32), (2, .int 0), (0, .ref av0), (1, .ref (adK 2))]) hx hb dX6_readWord_114 hl (k := 4) rfl (by decide) (by decide) rfl (fun ls hl => ?_)
  refine lv_goto (tgt := 24) hx hb dX6_readWord_117 (by decide) ?_
  refine lv_iload hx hb dX6_readWord_24 (lv_at hl 0 rfl) ?_
  refine lv_aload_n hx hb dX6_readWord_26 rfl (lv_at hl 7 rfl) ?_
  refine wk_ViT hC hK hw hA hE hSR [] [0] rfl rfl rfl rfl (by decide) (s_length l adK adV dC dI cy 2 (by decide) H.size) (cwV 0 hC.2.2.2.2 gX6_readWord_J0_length_8abf5 rfl rfl rfl (by decide +kernel) ⟨Nat.le_of_ble_eq_true rfl, Nat.le_of_ble_eq_true rfl⟩) 2 (by decide) rfl rfl rfl hl.1 rfl (Nat.le_of_ble_eq_true rfl) dX6_readWord_27 0 0 ⟨rfl, rfl⟩ ⟨Nat.le_of_ble_eq_true rfl, Nat.le_of_ble_eq_true rfl⟩ (fun r26 u25 H locs hp27 hw => ?_)
  have hw : Wd dC dI A s.heap H locs [(av0, .inr (6, [.ref av1, .int 0, .int 0, .int 0, .int 0]))] := hw
  obtain rfl : r26 = 18 := hp27
  refine lv_icmp_ge (tgt := 120) hx hb dX6_readWord_30 (by decide) (fun c => absurd c (by decide)) (fun _ => ?_)
  refine lv_aload_n hx hb dX6_readWord_33 rfl (lv_at hl 7 rfl) ?_
  refine lv_iload hx hb dX6_readWord_34 (lv_at hl 0 rfl) ?_
  refine wk_ViT hC hK hw hA hE hSR [] [0] rfl rfl rfl rfl (by decide) (s_charAt l adK adV dC dI cy 2 (by decide) 3 (by decide) (by decide) H.size) (cwV 1 hC.2.2.2.2 gX6_readWord_J0_charAt_5068e rfl rfl rfl (by decide +kernel) ⟨Nat.le_of_ble_eq_true rfl, Nat.le_of_ble_eq_true rfl⟩) 2 (by decide) rfl rfl rfl hl.1 rfl (Nat.le_of_ble_eq_true rfl) dX6_readWord_36 0 0 ⟨rfl, rfl⟩ ⟨Nat.le_of_ble_eq_true rfl, Nat.le_of_ble_eq_true rfl⟩ (fun r29 u28 H locs hp30 hw => ?_)
  have hw : Wd dC dI A s.heap H locs [(av0, .inr (6, [.ref av1, .int 0, .int 0, .int 0, .int 0]))] := hw
  obtain rfl : r29 = 97 := hp30
  refine lv_istore (lv' := [(7, .int 97), (6, .int 3), (5, .int 1), (4, .int 0), (3, .int 1), (2, .int 0), (0, .ref av0), (1, .ref (adK 2))]) hx hb dX6_readWord_39 hl (by decide) rfl (fun ls hl => ?_)
  refine lv_iload hx hb dX6_readWord_41 (lv_at hl 0 rfl) ?_
  refine lv_bipush (v := 32) hx hb dX6_readWord_43 (by decide) ?_
  refine lv_icmp_eq (tgt := 84) hx hb dX6_readWord_45 (by decide) (fun c => absurd c (by decide)) (fun _ => ?_)
  refine lv_iload hx hb dX6_readWord_48 (lv_at hl 2 rfl) ?_
  refine lv_if_eq (tgt := 75) hx hb dX6_readWord_50 (by decide) (fun c => absurd c (by decide)) (fun _ => ?_)
  refine lv_iload hx hb dX6_readWord_53 (lv_at hl 3 rfl) ?_
  refine lv_iload_n hx hb dX6_readWord_55 rfl (lv_at hl 5 rfl) ?_
  refine lv_icmp_ge (tgt := 75) hx hb dX6_readWord_56 (by decide) (fun _ => ?_) (fun c => absurd (by decide) c)
  refine lv_iconst (v := 0) hx hb dX6_readWord_75 (by decide) ?_
  refine lv_istore (lv' := [(5, .int 0), (7, .int 97), (6, .int 3), (4, .int 0), (3, .int 1), (2, .int 0), (0, .ref av0), (1, .ref (adK 2))]) hx hb dX6_readWord_76 hl (by decide) rfl (fun ls hl => ?_)
  refine lv_iinc (v := 1) (lv' := [(4, .int 1), (5, .int 0), (7, .int 97), (6, .int 3), (3, .int 1), (2, .int 0), (0, .ref av0), (1, .ref (adK 2))]) hx hb dX6_readWord_78 hl (k := 3) rfl (by decide) (by decide) rfl (fun ls hl => ?_)
  refine lv_goto (tgt := 114) hx hb dX6_readWord_81 (by decide) ?_
  refine lv_iinc (v := 4) (lv' := [(6, .int 4), (4, .int 1), (5, .int 0), (7, .int 97), (3, .int 1), (2, .int 0), (0, .ref av0), (1, .ref (adK 2))]) hx hb dX6_readWord_114 hl (k := 3) rfl (by decide) (by decide) rfl (fun ls hl => ?_)
  refine lv_goto (tgt := 24) hx hb dX6_readWord_117 (by decide) ?_
  refine lv_iload hx hb dX6_readWord_24 (lv_at hl 0 rfl) ?_
  refine lv_aload_n hx hb dX6_readWord_26 rfl (lv_at hl 7 rfl) ?_
  refine wk_ViT hC hK hw hA hE hSR [] [0] rfl rfl rfl rfl (by decide) (s_length l adK adV dC dI cy 2 (by decide) H.size) (cwV 0 hC.2.2.2.2 gX6_readWord_J0_length_8abf5 rfl rfl rfl (by decide +kernel) ⟨Nat.le_of_ble_eq_true rfl, Nat.le_of_ble_eq_true rfl⟩) 2 (by decide) rfl rfl rfl hl.1 rfl (Nat.le_of_ble_eq_true rfl) dX6_readWord_27 0 0 ⟨rfl, rfl⟩ ⟨Nat.le_of_ble_eq_true rfl, Nat.le_of_ble_eq_true rfl⟩ (fun r32 u31 H locs hp33 hw => ?_)
  have hw : Wd dC dI A s.heap H locs [(av0, .inr (6, [.ref av1, .int 0, .int 0, .int 0, .int 0]))] := hw
  obtain rfl : r32 = 18 := hp33
  refine lv_icmp_ge (tgt := 120) hx hb dX6_readWord_30 (by decide) (fun c => absurd c (by decide)) (fun _ => ?_)
  refine lv_aload_n hx hb dX6_readWord_33 rfl (lv_at hl 7 rfl) ?_
  refine lv_iload hx hb dX6_readWord_34 (lv_at hl 0 rfl) ?_
  refine wk_ViT hC hK hw hA hE hSR [] [0] rfl rfl rfl rfl (by decide) (s_charAt l adK adV dC dI cy 2 (by decide) 4 (by decide) (by decide) H.size) (cwV 1 hC.2.2.2.2 gX6_readWord_J0_charAt_5068e rfl rfl rfl (by decide +kernel) ⟨Nat.le_of_ble_eq_true rfl, Nat.le_of_ble_eq_true rfl⟩) 2 (by decide) rfl rfl rfl hl.1 rfl (Nat.le_of_ble_eq_true rfl) dX6_readWord_36 0 0 ⟨rfl, rfl⟩ ⟨Nat.le_of_ble_eq_true rfl, Nat.le_of_ble_eq_true rfl⟩ (fun r35 u34 H locs hp36 hw => ?_)
  have hw : Wd dC dI A s.heap H locs [(av0, .inr (6, [.ref av1, .int 0, .int 0, .int 0, .int 0]))] := hw
  obtain rfl : r35 = 115 := hp36
  refine lv_istore (lv' := [(7, .int 115), (6, .int 4), (4, .int 1), (5, .int 0), (3, .int 1), (2, .int 0), (0, .ref av0), (1, .ref (adK 2))]) hx hb dX6_readWord_39 hl (by decide) rfl (fun ls hl => ?_)
  refine lv_iload hx hb dX6_readWord_41 (lv_at hl 0 rfl) ?_
  refine lv_bipush (v := 32) hx hb dX6_readWord_43 (by decide) ?_
  refine lv_icmp_eq (tgt := 84) hx hb dX6_readWord_45 (by decide) (fun c => absurd c (by decide)) (fun _ => ?_)
  refine lv_iload hx hb dX6_readWord_48 (lv_at hl 3 rfl) ?_
  refine lv_if_eq (tgt := 75) hx hb dX6_readWord_50 (by decide) (fun _ => ?_) (fun c => absurd (by decide) c)
  refine lv_iconst (v := 0) hx hb dX6_readWord_75 (by decide) ?_
  refine lv_istore (lv' := [(5, .int 0), (7, .int 115), (6, .int 4), (4, .int 1), (3, .int 1), (2, .int 0), (0, .ref av0), (1, .ref (adK 2))]) hx hb dX6_readWord_76 hl (by decide) rfl (fun ls hl => ?_)
  refine lv_iinc (v := 2) (lv' := [(4, .int 2), (5, .int 0), (7, .int 115), (6, .int 4), (3, .int 1), (2, .int 0), (0, .ref av0), (1, .ref (adK 2))]) hx hb dX6_readWord_78 hl (k := 3) rfl (by decide) (by decide) rfl (fun ls hl => ?_)
  refine lv_goto (tgt := 114) hx hb dX6_readWord_81 (by decide) ?_
  refine lv_iinc (v := 5) (lv' := [(6, .int 5), (4, .int 2), (5, .int 0), (7, .int 115), (3, .int 1), (2, .int 0), (0, .ref av0), (1, .ref (adK 2))]) hx hb dX6_readWord_114 hl (k := 3) rfl (by decide) (by decide) rfl (fun ls hl => ?_)
  refine lv_goto (tgt := 24) hx hb dX6_readWord_117 (by decide) ?_
  refine lv_iload hx hb dX6_readWord_24 (lv_at hl 0 rfl) ?_
  refine lv_aload_n hx hb dX6_readWord_26 rfl (lv_at hl 7 rfl) ?_
  refine wk_ViT hC hK hw hA hE hSR [] [0] rfl rfl rfl rfl (by decide) (s_length l adK adV dC dI cy 2 (by decide) H.size) (cwV 0 hC.2.2.2.2 gX6_readWord_J0_length_8abf5 rfl rfl rfl (by decide +kernel) ⟨Nat.le_of_ble_eq_true rfl, Nat.le_of_ble_eq_true rfl⟩) 2 (by decide) rfl rfl rfl hl.1 rfl (Nat.le_of_ble_eq_true rfl) dX6_readWord_27 0 0 ⟨rfl, rfl⟩ ⟨Nat.le_of_ble_eq_true rfl, Nat.le_of_ble_eq_true rfl⟩ (fun r38 u37 H locs hp39 hw => ?_)
  have hw : Wd dC dI A s.heap H locs [(av0, .inr (6, [.ref av1, .int 0, .int 0, .int 0, .int 0]))] := hw
  obtain rfl : r38 = 18 := hp39
  refine lv_icmp_ge (tgt := 120) hx hb dX6_readWord_30 (by decide) (fun c => absurd c (by decide)) (fun _ => ?_)
  refine lv_aload_n hx hb dX6_readWord_33 rfl (lv_at hl 7 rfl) ?_
  refine lv_iload hx hb dX6_readWord_34 (lv_at hl 0 rfl) ?_
  refine wk_ViT hC hK hw hA hE hSR [] [0] rfl rfl rfl rfl (by decide) (s_charAt l adK adV dC dI cy 2 (by decide) 5 (by decide) (by decide) H.size) (cwV 1 hC.2.2.2.2 gX6_readWord_J0_charAt_5068e rfl rfl rfl (by decide +kernel) ⟨Nat.le_of_ble_eq_true rfl, Nat.le_of_ble_eq_true rfl⟩) 2 (by decide) rfl rfl rfl hl.1 rfl (Nat.le_of_ble_eq_true rfl) dX6_readWord_36 0 0 ⟨rfl, rfl⟩ ⟨Nat.le_of_ble_eq_true rfl, Nat.le_of_ble_eq_true rfl⟩ (fun r41 u40 H locs hp42 hw => ?_)
  have hw : Wd dC dI A s.heap H locs [(av0, .inr (6, [.ref av1, .int 0, .int 0, .int 0, .int 0]))] := hw
  obtain rfl : r41 = 105 := hp42
  refine lv_istore (lv' := [(7, .int 105), (6, .int 5), (4, .int 2), (5, .int 0), (3, .int 1), (2, .int 0), (0, .ref av0), (1, .ref (adK 2))]) hx hb dX6_readWord_39 hl (by decide) rfl (fun ls hl => ?_)
  refine lv_iload hx hb dX6_readWord_41 (lv_at hl 0 rfl) ?_
  refine lv_bipush (v := 32) hx hb dX6_readWord_43 (by decide) ?_
  refine lv_icmp_eq (tgt := 84) hx hb dX6_readWord_45 (by decide) (fun c => absurd c (by decide)) (fun _ => ?_)
  refine lv_iload hx hb dX6_readWord_48 (lv_at hl 3 rfl) ?_
  refine lv_if_eq (tgt := 75) hx hb dX6_readWord_50 (by decide) (fun _ => ?_) (fun c => absurd (by decide) c)
  refine lv_iconst (v := 0) hx hb dX6_readWord_75 (by decide) ?_
  refine lv_istore (lv' := [(5, .int 0), (7, .int 105), (6, .int 5), (4, .int 2), (3, .int 1), (2, .int 0), (0, .ref av0), (1, .ref (adK 2))]) hx hb dX6_readWord_76 hl (by decide) rfl (fun ls hl => ?_)
  refine lv_iinc (v := 3) (lv' := [(4, .int 3), (5, .int 0), (7, .int 105), (6, .int 5), (3, .int 1), (2, .int 0), (0, .ref av0), (1, .ref (adK 2))]) hx hb dX6_readWord_78 hl (k := 3) rfl (by decide) (by decide) rfl (fun ls hl => ?_)
  refine lv_goto (tgt := 114) hx hb dX6_readWord_81 (by decide) ?_
  refine lv_iinc (v := 6) (lv' := [(6, .int 6), (4, .int 3), (5, .int 0), (7, .int 105), (3, .int 1), (2, .int 0), (0, .ref av0), (1, .ref (adK 2))]) hx hb dX6_readWord_114 hl (k := 3) rfl (by decide) (by decide) rfl (fun ls hl => ?_)
  refine lv_goto (tgt := 24) hx hb dX6_readWord_117 (by decide) ?_
  refine lv_iload hx hb dX6_readWord_24 (lv_at hl 0 rfl) ?_
  refine lv_aload_n hx hb dX6_readWord_26 rfl (lv_at hl 7 rfl) ?_
  refine wk_ViT hC hK hw hA hE hSR [] [0] rfl rfl rfl rfl (by decide) (s_length l adK adV dC dI cy 2 (by decide) H.size) (cwV 0 hC.2.2.2.2 gX6_readWord_J0_length_8abf5 rfl rfl rfl (by decide +kernel) ⟨Nat.le_of_ble_eq_true rfl, Nat.le_of_ble_eq_true rfl⟩) 2 (by decide) rfl rfl rfl hl.1 rfl (Nat.le_of_ble_eq_true rfl) dX6_readWord_27 0 0 ⟨rfl, rfl⟩ ⟨Nat.le_of_ble_eq_true rfl, Nat.le_of_ble_eq_true rfl⟩ (fun r44 u43 H locs hp45 hw => ?_)
  have hw : Wd dC dI A s.heap H locs [(av0, .inr (6, [.ref av1, .int 0, .int 0, .int 0, .int 0]))] := hw
  obtain rfl : r44 = 18 := hp45
  refine lv_icmp_ge (tgt := 120) hx hb dX6_readWord_30 (by decide) (fun c => absurd c (by decide)) (fun _ => ?_)
  refine lv_aload_n hx hb dX6_readWord_33 rfl (lv_at hl 7 rfl) ?_
  refine lv_iload hx hb dX6_readWord_34 (lv_at hl 0 rfl) ?_
  refine wk_ViT hC hK hw hA hE hSR [] [0] rfl rfl rfl rfl (by decide) (s_charAt l adK adV dC dI cy 2 (by decide) 6 (by decide) (by decide) H.size) (cwV 1 hC.2.2.2.2 gX6_readWord_J0_charAt_5068e rfl rfl rfl (by decide +kernel) ⟨Nat.le_of_ble_eq_true rfl, Nat.le_of_ble_eq_true rfl⟩) 2 (by decide) rfl rfl rfl hl.1 rfl (Nat.le_of_ble_eq_true rfl) dX6_readWord_36 0 0 ⟨rfl, rfl⟩ ⟨Nat.le_of_ble_eq_true rfl, Nat.le_of_ble_eq_true rfl⟩ (fun r47 u46 H locs hp48 hw => ?_)
  have hw : Wd dC dI A s.heap H locs [(av0, .inr (6, [.ref av1, .int 0, .int 0, .int 0, .int 0]))] := hw
  obtain rfl : r47 = 100 := hp48
  refine lv_istore (lv' := [(7, .int 100), (6, .int 6), (4, .int 3), (5, .int 0), (3, .int 1), (2, .int 0), (0, .ref av0), (1, .ref (adK 2))]) hx hb dX6_readWord_39 hl (by decide) rfl (fun ls hl => ?_)
  refine lv_iload hx hb dX6_readWord_41 (lv_at hl 0 rfl) ?_
  refine lv_bipush (v := 32) hx hb dX6_readWord_43 (by decide) ?_
  refine lv_icmp_eq (tgt := 84) hx hb dX6_readWord_45 (by decide) (fun c => absurd c (by decide)) (fun _ => ?_)
  refine lv_iload hx hb dX6_readWord_48 (lv_at hl 3 rfl) ?_
  refine lv_if_eq (tgt := 75) hx hb dX6_readWord_50 (by decide) (fun _ => ?_) (fun c => absurd (by decide) c)
  refine lv_iconst (v := 0) hx hb dX6_readWord_75 (by decide) ?_
  refine lv_istore (lv' := [(5, .int 0), (7, .int 100), (6, .int 6), (4, .int 3), (3, .int 1), (2, .int 0), (0, .ref av0), (1, .ref (adK 2))]) hx hb dX6_readWord_76 hl (by decide) rfl (fun ls hl => ?_)
  refine lv_iinc (v := 4) (lv' := [(4, .int 4), (5, .int 0), (7, .int 100), (6, .int 6), (3, .int 1), (2, .int 0), (0, .ref av0), (1, .ref (adK 2))]) hx hb dX6_readWord_78 hl (k := 3) rfl (by decide) (by decide) rfl (fun ls hl => ?_)
  refine lv_goto (tgt := 114) hx hb dX6_readWord_81 (by decide) ?_
  refine lv_iinc (v := 7) (lv' := [(6, .int 7), (4, .int 4), (5, .int 0), (7, .int 100), (3, .int 1), (2, .int 0), (0, .ref av0), (1, .ref (adK 2))]) hx hb dX6_readWord_114 hl (k := 3) rfl (by decide) (by decide) rfl (fun ls hl => ?_)
  refine lv_goto (tgt := 24) hx hb dX6_readWord_117 (by decide) ?_
  refine lv_iload hx hb dX6_readWord_24 (lv_at hl 0 rfl) ?_
  refine lv_aload_n hx hb dX6_readWord_26 rfl (lv_at hl 7 rfl) ?_
  refine wk_ViT hC hK hw hA hE hSR [] [0] rfl rfl rfl rfl (by decide) (s_length l adK adV dC dI cy 2 (by decide) H.size) (cwV 0 hC.2.2.2.2 gX6_readWord_J0_length_8abf5 rfl rfl rfl (by decide +kernel) ⟨Nat.le_of_ble_eq_true rfl, Nat.le_of_ble_eq_true rfl⟩) 2 (by decide) rfl rfl rfl hl.1 rfl (Nat.le_of_ble_eq_true rfl) dX6_readWord_27 0 0 ⟨rfl, rfl⟩ ⟨Nat.le_of_ble_eq_true rfl, Nat.le_of_ble_eq_true rfl⟩ (fun r50 u49 H locs hp51 hw => ?_)
  have hw : Wd dC dI A s.heap H locs [(av0, .inr (6, [.ref av1, .int 0, .int 0, .int 0, .int 0]))] := hw
  obtain rfl : r50 = 18 := hp51
  refine lv_icmp_ge (tgt := 120) hx hb dX6_readWord_30 (by decide) (fun c => absurd c (by decide)) (fun _ => ?_)
  refine lv_aload_n hx hb dX6_readWord_33 rfl (lv_at hl 7 rfl) ?_
  refine lv_iload hx hb dX6_readWord_34 (lv_at hl 0 rfl) ?_
  refine wk_ViT hC hK hw hA hE hSR [] [0] rfl rfl rfl rfl (by decide) (s_charAt l adK adV dC dI cy 2 (by decide) 7 (by decide) (by decide) H.size) (cwV 1 hC.2.2.2.2 gX6_readWord_J0_charAt_5068e rfl rfl rfl (by decide +kernel) ⟨Nat.le_of_ble_eq_true rfl, Nat.le_of_ble_eq_true rfl⟩) 2 (by decide) rfl rfl rfl hl.1 rfl (Nat.le_of_ble_eq_true rfl) dX6_readWord_36 0 0 ⟨rfl, rfl⟩ ⟨Nat.le_of_ble_eq_true rfl, Nat.le_of_ble_eq_true rfl⟩ (fun r53 u52 H locs hp54 hw => ?_)
  have hw : Wd dC dI A s.heap H locs [(av0, .inr (6, [.ref av1, .int 0, .int 0, .int 0, .int 0]))] := hw
  obtain rfl : r53 = 101 := hp54
  refine lv_istore (lv' := [(7, .int 101), (6, .int 7), (4, .int 4), (5, .int 0), (3, .int 1), (2, .int 0), (0, .ref av0), (1, .ref (adK 2))]) hx hb dX6_readWord_39 hl (by decide) rfl (fun ls hl => ?_)
  refine lv_iload hx hb dX6_readWord_41 (lv_at hl 0 rfl) ?_
  refine lv_bipush (v := 32) hx hb dX6_readWord_43 (by decide) ?_
  refine lv_icmp_eq (tgt := 84) hx hb dX6_readWord_45 (by decide) (fun c => absurd c (by decide)) (fun _ => ?_)
  refine lv_iload hx hb dX6_readWord_48 (lv_at hl 3 rfl) ?_
  refine lv_if_eq (tgt := 75) hx hb dX6_readWord_50 (by decide) (fun _ => ?_) (fun c => absurd (by decide) c)
  refine lv_iconst (v := 0) hx hb dX6_readWord_75 (by decide) ?_
  refine lv_istore (lv' := [(5, .int 0), (7, .int 101), (6, .int 7), (4, .int 4), (3, .int 1), (2, .int 0), (0, .ref av0), (1, .ref (adK 2))]) hx hb dX6_readWord_76 hl (by decide) rfl (fun ls hl => ?_)
  refine lv_iinc (v := 5) (lv' := [(4, .int 5), (5, .int 0), (7, .int 101), (6, .int 7), (3, .int 1), (2, .int 0), (0, .ref av0), (1, .ref (adK 2))]) hx hb dX6_readWord_78 hl (k := 3) rfl (by decide) (by decide) rfl (fun ls hl => ?_)
  refine lv_goto (tgt := 114) hx hb dX6_readWord_81 (by decide) ?_
  refine lv_iinc (v := 8) (lv' := [(6, .int 8), (4, .int 5), (5, .int 0), (7, .int 101), (3, .int 1), (2, .int 0), (0, .ref av0), (1, .ref (adK 2))]) hx hb dX6_readWord_114 hl (k := 3) rfl (by decide) (by decide) rfl (fun ls hl => ?_)
  refine lv_goto (tgt := 24) hx hb dX6_readWord_117 (by decide) ?_
  refine lv_iload hx hb dX6_readWord_24 (lv_at hl 0 rfl) ?_
  refine lv_aload_n hx hb dX6_readWord_26 rfl (lv_at hl 7 rfl) ?_
  refine wk_ViT hC hK hw hA hE hSR [] [0] rfl rfl rfl rfl (by decide) (s_length l adK adV dC dI cy 2 (by decide) H.size) (cwV 0 hC.2.2.2.2 gX6_readWord_J0_length_8abf5 rfl rfl rfl (by decide +kernel) ⟨Nat.le_of_ble_eq_true rfl, Nat.le_of_ble_eq_true rfl⟩) 2 (by decide) rfl rfl rfl hl.1 rfl (Nat.le_of_ble_eq_true rfl) dX6_readWord_27 0 0 ⟨rfl, rfl⟩ ⟨Nat.le_of_ble_eq_true rfl, Nat.le_of_ble_eq_true rfl⟩ (fun r56 u55 H locs hp57 hw => ?_)
  have hw : Wd dC dI A s.heap H locs [(av0, .inr (6, [.ref av1, .int 0, .int 0, .int 0, .int 0]))] := hw
  obtain rfl : r56 = 18 := hp57
  refine lv_icmp_ge (tgt := 120) hx hb dX6_readWord_30 (by decide) (fun c => absurd c (by decide)) (fun _ => ?_)
  refine lv_aload_n hx hb dX6_readWord_33 rfl (lv_at hl 7 rfl) ?_
  refine lv_iload hx hb dX6_readWord_34 (lv_at hl 0 rfl) ?_
  refine wk_ViT hC hK hw hA hE hSR [] [0] rfl rfl rfl rfl (by decide) (s_charAt l adK adV dC dI cy 2 (by decide) 8 (by decide) (by decide) H.size) (cwV 1 hC.2.2.2.2 gX6_readWord_J0_charAt_5068e rfl rfl rfl (by decide +kernel) ⟨Nat.le_of_ble_eq_true rfl, Nat.le_of_ble_eq_true rfl⟩) 2 (by decide) rfl rfl rfl hl.1 rfl (Nat.le_of_ble_eq_true rfl) dX6_readWord_36 0 0 ⟨rfl, rfl⟩ ⟨Nat.le_of_ble_eq_true rfl, Nat.le_of_ble_eq_true rfl⟩ (fun r59 u58 H locs hp60 hw => ?_)
  have hw : Wd dC dI A s.heap H locs [(av0, .inr (6, [.ref av1, .int 0, .int 0, .int 0, .int 0]))] := hw
  obtain rfl : r59 = 32 := hp60
  refine lv_istore (lv' := [(7, .int 32), (6, .int 8), (4, .int 5), (5, .int 0), (3, .int 1), (2, .int 0), (0, .ref av0), (1, .ref (adK 2))]) hx hb dX6_readWord_39 hl (by decide) rfl (fun ls hl => ?_)
  refine lv_iload hx hb dX6_readWord_41 (lv_at hl 0 rfl) ?_
  refine lv_bipush (v := 32) hx hb dX6_readWord_43 (by decide) ?_
  refine lv_icmp_eq (tgt := 84) hx hb dX6_readWord_45 (by decide) (fun _ => ?_) (fun c => absurd (by decide) c)
  refine lv_iload hx hb dX6_readWord_84 (lv_at hl 3 rfl) ?_
  refine lv_if_eq (tgt := 102) hx hb dX6_readWord_86 (by decide) (fun _ => ?_) (fun c => absurd (by decide) c)
  refine lv_iinc (v := 2) (lv' := [(3, .int 2), (7, .int 32), (6, .int 8), (4, .int 5), (5, .int 0), (2, .int 0), (0, .ref av0), (1, .ref (adK 2))]) hx hb dX6_readWord_102 hl (k := 4) rfl (by decide) (by decide) rfl (fun ls hl => ?_)
  refine lv_aload_n hx hb dX6_readWord_105 rfl (lv_at hl 6 rfl) ?_
  refine wk_get hC hK hw hinX6 0 rfl rfl 1 (by decide) (List.mem_of_getElem? (i := 1) rfl) rfl rfl dX6_readWord_106 ?_
  refine lv_istore (lv' := [(4, .int 0), (3, .int 2), (7, .int 32), (6, .int 8), (5, .int 0), (2, .int 0), (0, .ref av0), (1, .ref (adK 2))]) hx hb dX6_readWord_109 hl (by decide) rfl (fun ls hl => ?_)
  refine lv_iconst (v := 1) hx hb dX6_readWord_111 (by decide) ?_
  refine lv_istore (lv' := [(5, .int 1), (4, .int 0), (3, .int 2), (7, .int 32), (6, .int 8), (2, .int 0), (0, .ref av0), (1, .ref (adK 2))]) hx hb dX6_readWord_112 hl (by decide) rfl (fun ls hl => ?_)
  refine lv_iinc (v := 9) (lv' := [(6, .int 9), (5, .int 1), (4, .int 0), (3, .int 2), (7, .int 32), (2, .int 0), (0, .ref av0), (1, .ref (adK 2))]) hx hb dX6_readWord_114 hl (k := 4) rfl (by decide) (by decide) rfl (fun ls hl => ?_)
  refine lv_goto (tgt := 24) hx hb dX6_readWord_117 (by decide) ?_
  refine lv_iload hx hb dX6_readWord_24 (lv_at hl 0 rfl) ?_
  refine lv_aload_n hx hb dX6_readWord_26 rfl (lv_at hl 7 rfl) ?_
  refine wk_ViT hC hK hw hA hE hSR [] [0] rfl rfl rfl rfl (by decide) (s_length l adK adV dC dI cy 2 (by decide) H.size) (cwV 0 hC.2.2.2.2 gX6_readWord_J0_length_8abf5 rfl rfl rfl (by decide +kernel) ⟨Nat.le_of_ble_eq_true rfl, Nat.le_of_ble_eq_true rfl⟩) 2 (by decide) rfl rfl rfl hl.1 rfl (Nat.le_of_ble_eq_true rfl) dX6_readWord_27 0 0 ⟨rfl, rfl⟩ ⟨Nat.le_of_ble_eq_true rfl, Nat.le_of_ble_eq_true rfl⟩ (fun r62 u61 H locs hp63 hw => ?_)
  have hw : Wd dC dI A s.heap H locs [(av0, .inr (6, [.ref av1, .int 0, .int 0, .int 0, .int 0]))] := hw
  obtain rfl : r62 = 18 := hp63
  refine lv_icmp_ge (tgt := 120) hx hb dX6_readWord_30 (by decide) (fun c => absurd c (by decide)) (fun _ => ?_)
  refine lv_aload_n hx hb dX6_readWord_33 rfl (lv_at hl 7 rfl) ?_
  refine lv_iload hx hb dX6_readWord_34 (lv_at hl 0 rfl) ?_
  refine wk_ViT hC hK hw hA hE hSR [] [0] rfl rfl rfl rfl (by decide) (s_charAt l adK adV dC dI cy 2 (by decide) 9 (by decide) (by decide) H.size) (cwV 1 hC.2.2.2.2 gX6_readWord_J0_charAt_5068e rfl rfl rfl (by decide +kernel) ⟨Nat.le_of_ble_eq_true rfl, Nat.le_of_ble_eq_true rfl⟩) 2 (by decide) rfl rfl rfl hl.1 rfl (Nat.le_of_ble_eq_true rfl) dX6_readWord_36 0 0 ⟨rfl, rfl⟩ ⟨Nat.le_of_ble_eq_true rfl, Nat.le_of_ble_eq_true rfl⟩ (fun r65 u64 H locs hp66 hw => ?_)
  have hw : Wd dC dI A s.heap H locs [(av0, .inr (6, [.ref av1, .int 0, .int 0, .int 0, .int 0]))] := hw
  obtain rfl : r65 = 97 := hp66
  refine lv_istore (lv' := [(7, .int 97), (6, .int 9), (5, .int 1), (4, .int 0), (3, .int 2), (2, .int 0), (0, .ref av0), (1, .ref (adK 2))]) hx hb dX6_readWord_39 hl (by decide) rfl (fun ls hl => ?_)
  refine lv_iload hx hb dX6_readWord_41 (lv_at hl 0 rfl) ?_
  refine lv_bipush (v := 32) hx hb dX6_readWord_43 (by decide) ?_
  refine lv_icmp_eq (tgt := 84) hx hb dX6_readWord_45 (by decide) (fun c => absurd c (by decide)) (fun _ => ?_)
  refine lv_iload hx hb dX6_readWord_48 (lv_at hl 2 rfl) ?_
  refine lv_if_eq (tgt := 75) hx hb dX6_readWord_50 (by decide) (fun c => absurd c (by decide)) (fun _ => ?_)
  refine lv_iload hx hb dX6_readWord_53 (lv_at hl 3 rfl) ?_
  refine lv_iload_n hx hb dX6_readWord_55 rfl (lv_at hl 5 rfl) ?_
  refine lv_icmp_ge (tgt := 75) hx hb dX6_readWord_56 (by decide) (fun _ => ?_) (fun c => absurd (by decide) c)
  refine lv_iconst (v := 0) hx hb dX6_readWord_75 (by decide) ?_
  refine lv_istore (lv' := [(5, .int 0), (7, .int 97), (6, .int 9), (4, .int 0), (3, .int 2), (2, .int 0), (0, .ref av0), (1, .ref (adK 2))]) hx hb dX6_readWord_76 hl (by decide) rfl (fun ls hl => ?_)
  refine lv_iinc (v := 1) (lv' := [(4, .int 1), (5, .int 0), (7, .int 97), (6, .int 9), (3, .int 2), (2, .int 0), (0, .ref av0), (1, .ref (adK 2))]) hx hb dX6_readWord_78 hl (k := 3) rfl (by decide) (by decide) rfl (fun ls hl => ?_)
  refine lv_goto (tgt := 114) hx hb dX6_readWord_81 (by decide) ?_
  refine lv_iinc (v := 10) (lv' := [(6, .int 10), (4, .int 1), (5, .int 0), (7, .int 97), (3, .int 2), (2, .int 0), (0, .ref av0), (1, .ref (adK 2))]) hx hb dX6_readWord_114 hl (k := 3) rfl (by decide) (by decide) rfl (fun ls hl => ?_)
  refine lv_goto (tgt := 24) hx hb dX6_readWord_117 (by decide) ?_
  refine lv_iload hx hb dX6_readWord_24 (lv_at hl 0 rfl) ?_
  refine lv_aload_n hx hb dX6_readWord_26 rfl (lv_at hl 7 rfl) ?_
  refine wk_ViT hC hK hw hA hE hSR [] [0] rfl rfl rfl rfl (by decide) (s_length l adK adV dC dI cy 2 (by decide) H.size) (cwV 0 hC.2.2.2.2 gX6_readWord_J0_length_8abf5 rfl rfl rfl (by decide +kernel) ⟨Nat.le_of_ble_eq_true rfl, Nat.le_of_ble_eq_true rfl⟩) 2 (by decide) rfl rfl rfl hl.1 rfl (Nat.le_of_ble_eq_true rfl) dX6_readWord_27 0 0 ⟨rfl, rfl⟩ ⟨Nat.le_of_ble_eq_true rfl, Nat.le_of_ble_eq_true rfl⟩ (fun r68 u67 H locs hp69 hw => ?_)
  have hw : Wd dC dI A s.heap H locs [(av0, .inr (6, [.ref av1, .int 0, .int 0, .int 0, .int 0]))] := hw
  obtain rfl : r68 = 18 := hp69
  refine lv_icmp_ge (tgt := 120) hx hb dX6_readWord_30 (by decide) (fun c => absurd c (by decide)) (fun _ => ?_)
  refine lv_aload_n hx hb dX6_readWord_33 rfl (lv_at hl 7 rfl) ?_
  refine lv_iload hx hb dX6_readWord_34 (lv_at hl 0 rfl) ?_
  refine wk_ViT hC hK hw hA hE hSR [] [0] rfl rfl rfl rfl (by decide) (s_charAt l adK adV dC dI cy 2 (by decide) 10 (by decide) (by decide) H.size) (cwV 1 hC.2.2.2.2 gX6_readWord_J0_charAt_5068e rfl rfl rfl (by decide +kernel) ⟨Nat.le_of_ble_eq_true rfl, Nat.le_of_ble_eq_true rfl⟩) 2 (by decide) rfl rfl rfl hl.1 rfl (Nat.le_of_ble_eq_true rfl) dX6_readWord_36 0 0 ⟨rfl, rfl⟩ ⟨Nat.le_of_ble_eq_true rfl, Nat.le_of_ble_eq_true rfl⟩ (fun r71 u70 H locs hp72 hw => ?_)
  have hw : Wd dC dI A s.heap H locs [(av0, .inr (6, [.ref av1, .int 0, .int 0, .int 0, .int 0]))] := hw
  obtain rfl : r71 = 115 := hp72
  refine lv_istore (lv' := [(7, .int 115), (6, .int 10), (4, .int 1), (5, .int 0), (3, .int 2), (2, .int 0), (0, .ref av0), (1, .ref (adK 2))]) hx hb dX6_readWord_39 hl (by decide) rfl (fun ls hl => ?_)
  refine lv_iload hx hb dX6_readWord_41 (lv_at hl 0 rfl) ?_
  refine lv_bipush (v := 32) hx hb dX6_readWord_43 (by decide) ?_
  refine lv_icmp_eq (tgt := 84) hx hb dX6_readWord_45 (by decide) (fun c => absurd c (by decide)) (fun _ => ?_)
  refine lv_iload hx hb dX6_readWord_48 (lv_at hl 3 rfl) ?_
  refine lv_if_eq (tgt := 75) hx hb dX6_readWord_50 (by decide) (fun _ => ?_) (fun c => absurd (by decide) c)
  refine lv_iconst (v := 0) hx hb dX6_readWord_75 (by decide) ?_
  refine lv_istore (lv' := [(5, .int 0), (7, .int 115), (6, .int 10), (4, .int 1), (3, .int 2), (2, .int 0), (0, .ref av0), (1, .ref (adK 2))]) hx hb dX6_readWord_76 hl (by decide) rfl (fun ls hl => ?_)
  refine lv_iinc (v := 2) (lv' := [(4, .int 2), (5, .int 0), (7, .int 115), (6, .int 10), (3, .int 2), (2, .int 0), (0, .ref av0), (1, .ref (adK 2))]) hx hb dX6_readWord_78 hl (k := 3) rfl (by decide) (by decide) rfl (fun ls hl => ?_)
  refine lv_goto (tgt := 114) hx hb dX6_readWord_81 (by decide) ?_
  refine lv_iinc (v := 11) (lv' := [(6, .int 11), (4, .int 2), (5, .int 0), (7, .int 115), (3, .int 2), (2, .int 0), (0, .ref av0), (1, .ref (adK 2))]) hx hb dX6_readWord_114 hl (k := 3) rfl (by decide) (by decide) rfl (fun ls hl => ?_)
  refine lv_goto (tgt := 24) hx hb dX6_readWord_117 (by decide) ?_
  refine lv_iload hx hb dX6_readWord_24 (lv_at hl 0 rfl) ?_
  refine lv_aload_n hx hb dX6_readWord_26 rfl (lv_at hl 7 rfl) ?_
  refine wk_ViT hC hK hw hA hE hSR [] [0] rfl rfl rfl rfl (by decide) (s_length l adK adV dC dI cy 2 (by decide) H.size) (cwV 0 hC.2.2.2.2 gX6_readWord_J0_length_8abf5 rfl rfl rfl (by decide +kernel) ⟨Nat.le_of_ble_eq_true rfl, Nat.le_of_ble_eq_true rfl⟩) 2 (by decide) rfl rfl rfl hl.1 rfl (Nat.le_of_ble_eq_true rfl) dX6_readWord_27 0 0 ⟨rfl, rfl⟩ ⟨Nat.le_of_ble_eq_true rfl, Nat.le_of_ble_eq_true rfl⟩ (fun r74 u73 H locs hp75 hw => ?_)
  have hw : Wd dC dI A s.heap H locs [(av0, .inr (6, [.ref av1, .int 0, .int 0, .int 0, .int 0]))] := hw
  obtain rfl : r74 = 18 := hp75
  refine lv_icmp_ge (tgt := 120) hx hb dX6_readWord_30 (by decide) (fun c => absurd c (by decide)) (fun _ => ?_)
  refine lv_aload_n hx hb dX6_readWord_33 rfl (lv_at hl 7 rfl) ?_
  refine lv_iload hx hb dX6_readWord_34 (lv_at hl 0 rfl) ?_
  refine wk_ViT hC hK hw hA hE hSR [] [0] rfl rfl rfl rfl (by decide) (s_charAt l adK adV dC dI cy 2 (by decide) 11 (by decide) (by decide) H.size) (cwV 1 hC.2.2.2.2 gX6_readWord_J0_charAt_5068e rfl rfl rfl (by decide +kernel) ⟨Nat.le_of_ble_eq_true rfl, Nat.le_of_ble_eq_true rfl⟩) 2 (by decide) rfl rfl rfl hl.1 rfl (Nat.le_of_ble_eq_true rfl) dX6_readWord_36 0 0 ⟨rfl, rfl⟩ ⟨Nat.le_of_ble_eq_true rfl, Nat.le_of_ble_eq_true rfl⟩ (fun r77 u76 H locs hp78 hw => ?_)
  have hw : Wd dC dI A s.heap H locs [(av0, .inr (6, [.ref av1, .int 0, .int 0, .int 0, .int 0]))] := hw
  obtain rfl : r77 = 107 := hp78
  refine lv_istore (lv' := [(7, .int 107), (6, .int 11), (4, .int 2), (5, .int 0), (3, .int 2), (2, .int 0), (0, .ref av0), (1, .ref (adK 2))]) hx hb dX6_readWord_39 hl (by decide) rfl (fun ls hl => ?_)
  refine lv_iload hx hb dX6_readWord_41 (lv_at hl 0 rfl) ?_
  refine lv_bipush (v := 32) hx hb dX6_readWord_43 (by decide) ?_
  refine lv_icmp_eq (tgt := 84) hx hb dX6_readWord_45 (by decide) (fun c => absurd c (by decide)) (fun _ => ?_)
  refine lv_iload hx hb dX6_readWord_48 (lv_at hl 3 rfl) ?_
  refine lv_if_eq (tgt := 75) hx hb dX6_readWord_50 (by decide) (fun _ => ?_) (fun c => absurd (by decide) c)
  refine lv_iconst (v := 0) hx hb dX6_readWord_75 (by decide) ?_
  refine lv_istore (lv' := [(5, .int 0), (7, .int 107), (6, .int 11), (4, .int 2), (3, .int 2), (2, .int 0), (0, .ref av0), (1, .ref (adK 2))]) hx hb dX6_readWord_76 hl (by decide) rfl (fun ls hl => ?_)
  refine lv_iinc (v := 3) (lv' := [(4, .int 3), (5, .int 0), (7, .int 107), (6, .int 11), (3, .int 2), (2, .int 0), (0, .ref av0), (1, .ref (adK 2))]) hx hb dX6_readWord_78 hl (k := 3) rfl (by decide) (by decide) rfl (fun ls hl => ?_)
  refine lv_goto (tgt := 114) hx hb dX6_readWord_81 (by decide) ?_
  refine lv_iinc (v := 12) (lv' := [(6, .int 12), (4, .int 3), (5, .int 0), (7, .int 107), (3, .int 2), (2, .int 0), (0, .ref av0), (1, .ref (adK 2))]) hx hb dX6_readWord_114 hl (k := 3) rfl (by decide) (by decide) rfl (fun ls hl => ?_)
  refine lv_goto (tgt := 24) hx hb dX6_readWord_117 (by decide) ?_
  refine lv_iload hx hb dX6_readWord_24 (lv_at hl 0 rfl) ?_
  refine lv_aload_n hx hb dX6_readWord_26 rfl (lv_at hl 7 rfl) ?_
  refine wk_ViT hC hK hw hA hE hSR [] [0] rfl rfl rfl rfl (by decide) (s_length l adK adV dC dI cy 2 (by decide) H.size) (cwV 0 hC.2.2.2.2 gX6_readWord_J0_length_8abf5 rfl rfl rfl (by decide +kernel) ⟨Nat.le_of_ble_eq_true rfl, Nat.le_of_ble_eq_true rfl⟩) 2 (by decide) rfl rfl rfl hl.1 rfl (Nat.le_of_ble_eq_true rfl) dX6_readWord_27 0 0 ⟨rfl, rfl⟩ ⟨Nat.le_of_ble_eq_true rfl, Nat.le_of_ble_eq_true rfl⟩ (fun r80 u79 H locs hp81 hw => ?_)
  have hw : Wd dC dI A s.heap H locs [(av0, .inr (6, [.ref av1, .int 0, .int 0, .int 0, .int 0]))] := hw
  obtain rfl : r80 = 18 := hp81
  refine lv_icmp_ge (tgt := 120) hx hb dX6_readWord_30 (by decide) (fun c => absurd c (by decide)) (fun _ => ?_)
  refine lv_aload_n hx hb dX6_readWord_33 rfl (lv_at hl 7 rfl) ?_
  refine lv_iload hx hb dX6_readWord_34 (lv_at hl 0 rfl) ?_
  refine wk_ViT hC hK hw hA hE hSR [] [0] rfl rfl rfl rfl (by decide) (s_charAt l adK adV dC dI cy 2 (by decide) 12 (by decide) (by decide) H.size) (cwV 1 hC.2.2.2.2 gX6_readWord_J0_charAt_5068e rfl rfl rfl (by decide +kernel) ⟨Nat.le_of_ble_eq_true rfl, Nat.le_of_ble_eq_true rfl⟩) 2 (by decide) rfl rfl rfl hl.1 rfl (Nat.le_of_ble_eq_true rfl) dX6_readWord_36 0 0 ⟨rfl, rfl⟩ ⟨Nat.le_of_ble_eq_true rfl, Nat.le_of_ble_eq_true rfl⟩ (fun r83 u82 H locs hp84 hw => ?_)
  have hw : Wd dC dI A s.heap H locs [(av0, .inr (6, [.ref av1, .int 0, .int 0, .int 0, .int 0]))] := hw
  obtain rfl : r83 = 32 := hp84
  refine lv_istore (lv' := [(7, .int 32), (6, .int 12), (4, .int 3), (5, .int 0), (3, .int 2), (2, .int 0), (0, .ref av0), (1, .ref (adK 2))]) hx hb dX6_readWord_39 hl (by decide) rfl (fun ls hl => ?_)
  refine lv_iload hx hb dX6_readWord_41 (lv_at hl 0 rfl) ?_
  refine lv_bipush (v := 32) hx hb dX6_readWord_43 (by decide) ?_
  refine lv_icmp_eq (tgt := 84) hx hb dX6_readWord_45 (by decide) (fun _ => ?_) (fun c => absurd (by decide) c)
  refine lv_iload hx hb dX6_readWord_84 (lv_at hl 3 rfl) ?_
  refine lv_if_eq (tgt := 102) hx hb dX6_readWord_86 (by decide) (fun _ => ?_) (fun c => absurd (by decide) c)
  refine lv_iinc (v := 3) (lv' := [(3, .int 3), (7, .int 32), (6, .int 12), (4, .int 3), (5, .int 0), (2, .int 0), (0, .ref av0), (1, .ref (adK 2))]) hx hb dX6_readWord_102 hl (k := 4) rfl (by decide) (by decide) rfl (fun ls hl => ?_)
  refine lv_aload_n hx hb dX6_readWord_105 rfl (lv_at hl 6 rfl) ?_
  refine wk_get hC hK hw hinX6 0 rfl rfl 1 (by decide) (List.mem_of_getElem? (i := 1) rfl) rfl rfl dX6_readWord_106 ?_
  refine lv_istore (lv' := [(4, .int 0), (3, .int 3), (7, .int 32), (6, .int 12), (5, .int 0), (2, .int 0), (0, .ref av0), (1, .ref (adK 2))]) hx hb dX6_readWord_109 hl (by decide) rfl (fun ls hl => ?_)
  refine lv_iconst (v := 1) hx hb dX6_readWord_111 (by decide) ?_
  refine lv_istore (lv' := [(5, .int 1), (4, .int 0), (3, .int 3), (7, .int 32), (6, .int 12), (2, .int 0), (0, .ref av0), (1, .ref (adK 2))]) hx hb dX6_readWord_112 hl (by decide) rfl (fun ls hl => ?_)
  refine lv_iinc (v := 13) (lv' := [(6, .int 13), (5, .int 1), (4, .int 0), (3, .int 3), (7, .int 32), (2, .int 0), (0, .ref av0), (1, .ref (adK 2))]) hx hb dX6_readWord_114 hl (k := 4) rfl (by decide) (by decide) rfl (fun ls hl => ?_)
  refine lv_goto (tgt := 24) hx hb dX6_readWord_117 (by decide) ?_
  refine lv_iload hx hb dX6_readWord_24 (lv_at hl 0 rfl) ?_
  refine lv_aload_n hx hb dX6_readWord_26 rfl (lv_at hl 7 rfl) ?_
  refine wk_ViT hC hK hw hA hE hSR [] [0] rfl rfl rfl rfl (by decide) (s_length l adK adV dC dI cy 2 (by decide) H.size) (cwV 0 hC.2.2.2.2 gX6_readWord_J0_length_8abf5 rfl rfl rfl (by decide +kernel) ⟨Nat.le_of_ble_eq_true rfl, Nat.le_of_ble_eq_true rfl⟩) 2 (by decide) rfl rfl rfl hl.1 rfl (Nat.le_of_ble_eq_true rfl) dX6_readWord_27 0 0 ⟨rfl, rfl⟩ ⟨Nat.le_of_ble_eq_true rfl, Nat.le_of_ble_eq_true rfl⟩ (fun r86 u85 H locs hp87 hw => ?_)
  have hw : Wd dC dI A s.heap H locs [(av0, .inr (6, [.ref av1, .int 0, .int 0, .int 0, .int 0]))] := hw
  obtain rfl : r86 = 18 := hp87
  refine lv_icmp_ge (tgt := 120) hx hb dX6_readWord_30 (by decide) (fun c => absurd c (by decide)) (fun _ => ?_)
  refine lv_aload_n hx hb dX6_readWord_33 rfl (lv_at hl 7 rfl) ?_
  refine lv_iload hx hb dX6_readWord_34 (lv_at hl 0 rfl) ?_
  refine wk_ViT hC hK hw hA hE hSR [] [0] rfl rfl rfl rfl (by decide) (s_charAt l adK adV dC dI cy 2 (by decide) 13 (by decide) (by decide) H.size) (cwV 1 hC.2.2.2.2 gX6_readWord_J0_charAt_5068e rfl rfl rfl (by decide +kernel) ⟨Nat.le_of_ble_eq_true rfl, Nat.le_of_ble_eq_true rfl⟩) 2 (by decide) rfl rfl rfl hl.1 rfl (Nat.le_of_ble_eq_true rfl) dX6_readWord_36 0 0 ⟨rfl, rfl⟩ ⟨Nat.le_of_ble_eq_true rfl, Nat.le_of_ble_eq_true rfl⟩ (fun r89 u88 H locs hp90 hw => ?_)
  have hw : Wd dC dI A s.heap H locs [(av0, .inr (6, [.ref av1, .int 0, .int 0, .int 0, .int 0]))] := hw
  obtain rfl : r89 = 119 := hp90
  refine lv_istore (lv' := [(7, .int 119), (6, .int 13), (5, .int 1), (4, .int 0), (3, .int 3), (2, .int 0), (0, .ref av0), (1, .ref (adK 2))]) hx hb dX6_readWord_39 hl (by decide) rfl (fun ls hl => ?_)
  refine lv_iload hx hb dX6_readWord_41 (lv_at hl 0 rfl) ?_
  refine lv_bipush (v := 32) hx hb dX6_readWord_43 (by decide) ?_
  refine lv_icmp_eq (tgt := 84) hx hb dX6_readWord_45 (by decide) (fun c => absurd c (by decide)) (fun _ => ?_)
  refine lv_iload hx hb dX6_readWord_48 (lv_at hl 2 rfl) ?_
  refine lv_if_eq (tgt := 75) hx hb dX6_readWord_50 (by decide) (fun c => absurd c (by decide)) (fun _ => ?_)
  refine lv_iload hx hb dX6_readWord_53 (lv_at hl 3 rfl) ?_
  refine lv_iload_n hx hb dX6_readWord_55 rfl (lv_at hl 5 rfl) ?_
  refine lv_icmp_ge (tgt := 75) hx hb dX6_readWord_56 (by decide) (fun _ => ?_) (fun c => absurd (by decide) c)
  refine lv_iconst (v := 0) hx hb dX6_readWord_75 (by decide) ?_
  refine lv_istore (lv' := [(5, .int 0), (7, .int 119), (6, .int 13), (4, .int 0), (3, .int 3), (2, .int 0), (0, .ref av0), (1, .ref (adK 2))]) hx hb dX6_readWord_76 hl (by decide) rfl (fun ls hl => ?_)
  refine lv_iinc (v := 1) (lv' := [(4, .int 1), (5, .int 0), (7, .int 119), (6, .int 13), (3, .int 3), (2, .int 0), (0, .ref av0), (1, .ref (adK 2))]) hx hb dX6_readWord_78 hl (k := 3) rfl (by decide) (by decide) rfl (fun ls hl => ?_)
  refine lv_goto (tgt := 114) hx hb dX6_readWord_81 (by decide) ?_
  refine lv_iinc (v := 14) (lv' := [(6, .int 14), (4, .int 1), (5, .int 0), (7, .int 119), (3, .int 3), (2, .int 0), (0, .ref av0), (1, .ref (adK 2))]) hx hb dX6_readWord_114 hl (k := 3) rfl (by decide) (by decide) rfl (fun ls hl => ?_)
  refine lv_goto (tgt := 24) hx hb dX6_readWord_117 (by decide) ?_
  refine lv_iload hx hb dX6_readWord_24 (lv_at hl 0 rfl) ?_
  refine lv_aload_n hx hb dX6_readWord_26 rfl (lv_at hl 7 rfl) ?_
  refine wk_ViT hC hK hw hA hE hSR [] [0] rfl rfl rfl rfl (by decide) (s_length l adK adV dC dI cy 2 (by decide) H.size) (cwV 0 hC.2.2.2.2 gX6_readWord_J0_length_8abf5 rfl rfl rfl (by decide +kernel) ⟨Nat.le_of_ble_eq_true rfl, Nat.le_of_ble_eq_true rfl⟩) 2 (by decide) rfl rfl rfl hl.1 rfl (Nat.le_of_ble_eq_true rfl) dX6_readWord_27 0 0 ⟨rfl, rfl⟩ ⟨Nat.le_of_ble_eq_true rfl, Nat.le_of_ble_eq_true rfl⟩ (fun r92 u91 H locs hp93 hw => ?_)
  have hw : Wd dC dI A s.heap H locs [(av0, .inr (6, [.ref av1, .int 0, .int 0, .int 0, .int 0]))] := hw
  obtain rfl : r92 = 18 := hp93
  refine lv_icmp_ge (tgt := 120) hx hb dX6_readWord_30 (by decide) (fun c => absurd c (by decide)) (fun _ => ?_)
  refine lv_aload_n hx hb dX6_readWord_33 rfl (lv_at hl 7 rfl) ?_
  refine lv_iload hx hb dX6_readWord_34 (lv_at hl 0 rfl) ?_
  refine wk_ViT hC hK hw hA hE hSR [] [0] rfl rfl rfl rfl (by decide) (s_charAt l adK adV dC dI cy 2 (by decide) 14 (by decide) (by decide) H.size) (cwV 1 hC.2.2.2.2 gX6_readWord_J0_charAt_5068e rfl rfl rfl (by decide +kernel) ⟨Nat.le_of_ble_eq_true rfl, Nat.le_of_ble_eq_true rfl⟩) 2 (by decide) rfl rfl rfl hl.1 rfl (Nat.le_of_ble_eq_true rfl) dX6_readWord_36 0 0 ⟨rfl, rfl⟩ ⟨Nat.le_of_ble_eq_true rfl, Nat.le_of_ble_eq_true rfl⟩ (fun r95 u94 H locs hp96 hw => ?_)
  have hw : Wd dC dI A s.heap H locs [(av0, .inr (6, [.ref av1, .int 0, .int 0, .int 0, .int 0]))] := hw
  obtain rfl : r95 = 97 := hp96
  refine lv_istore (lv' := [(7, .int 97), (6, .int 14), (4, .int 1), (5, .int 0), (3, .int 3), (2, .int 0), (0, .ref av0), (1, .ref (adK 2))]) hx hb dX6_readWord_39 hl (by decide) rfl (fun ls hl => ?_)
  refine lv_iload hx hb dX6_readWord_41 (lv_at hl 0 rfl) ?_
  refine lv_bipush (v := 32) hx hb dX6_readWord_43 (by decide) ?_
  refine lv_icmp_eq (tgt := 84) hx hb dX6_readWord_45 (by decide) (fun c => absurd c (by decide)) (fun _ => ?_)
  refine lv_iload hx hb dX6_readWord_48 (lv_at hl 3 rfl) ?_
  refine lv_if_eq (tgt := 75) hx hb dX6_readWord_50 (by decide) (fun _ => ?_) (fun c => absurd (by decide) c)
  refine lv_iconst (v := 0) hx hb dX6_readWord_75 (by decide) ?_
  refine lv_istore (lv' := [(5, .int 0), (7, .int 97), (6, .int 14), (4, .int 1), (3, .int 3), (2, .int 0), (0, .ref av0), (1, .ref (adK 2))]) hx hb dX6_readWord_76 hl (by decide) rfl (fun ls hl => ?_)
  refine lv_iinc (v := 2) (lv' := [(4, .int 2), (5, .int 0), (7, .int 97), (6, .int 14), (3, .int 3), (2, .int 0), (0, .ref av0), (1, .ref (adK 2))]) hx hb dX6_readWord_78 hl (k := 3) rfl (by decide) (by decide) rfl (fun ls hl => ?_)
  refine lv_goto (tgt := 114) hx hb dX6_readWord_81 (by decide) ?_
  refine lv_iinc (v := 15) (lv' := [(6, .int 15), (4, .int 2), (5, .int 0), (7, .int 97), (3, .int 3), (2, .int 0), (0, .ref av0), (1, .ref (adK 2))]) hx hb dX6_readWord_114 hl (k := 3) rfl (by decide) (by decide) rfl (fun ls hl => ?_)
  refine lv_goto (tgt := 24) hx hb dX6_readWord_117 (by decide) ?_
  refine lv_iload hx hb dX6_readWord_24 (lv_at hl 0 rfl) ?_
  refine lv_aload_n hx hb dX6_readWord_26 rfl (lv_at hl 7 rfl) ?_
  refine wk_ViT hC hK hw hA hE hSR [] [0] rfl rfl rfl rfl (by decide) (s_length l adK adV dC dI cy 2 (by decide) H.size) (cwV 0 hC.2.2.2.2 gX6_readWord_J0_length_8abf5 rfl rfl rfl (by decide +kernel) ⟨Nat.le_of_ble_eq_true rfl, Nat.le_of_ble_eq_true rfl⟩) 2 (by decide) rfl rfl rfl hl.1 rfl (Nat.le_of_ble_eq_true rfl) dX6_readWord_27 0 0 ⟨rfl, rfl⟩ ⟨Nat.le_of_ble_eq_true rfl, Nat.le_of_ble_eq_true rfl⟩ (fun r98 u97 H locs hp99 hw => ?_)
  have hw : Wd dC dI A s.heap H locs [(av0, .inr (6, [.ref av1, .int 0, .int 0, .int 0, .int 0]))] := hw
  obtain rfl : r98 = 18 := hp99
  refine lv_icmp_ge (tgt := 120) hx hb dX6_readWord_30 (by decide) (fun c => absurd c (by decide)) (fun _ => ?_)
  refine lv_aload_n hx hb dX6_readWord_33 rfl (lv_at hl 7 rfl) ?_
  refine lv_iload hx hb dX6_readWord_34 (lv_at hl 0 rfl) ?_
  refine wk_ViT hC hK hw hA hE hSR [] [0] rfl rfl rfl rfl (by decide) (s_charAt l adK adV dC dI cy 2 (by decide) 15 (by decide) (by decide) H.size) (cwV 1 hC.2.2.2.2 gX6_readWord_J0_charAt_5068e rfl rfl rfl (by decide +kernel) ⟨Nat.le_of_ble_eq_true rfl, Nat.le_of_ble_eq_true rfl⟩) 2 (by decide) rfl rfl rfl hl.1 rfl (Nat.le_of_ble_eq_true rfl) dX6_readWord_36 0 0 ⟨rfl, rfl⟩ ⟨Nat.le_of_ble_eq_true rfl, Nat.le_of_ble_eq_true rfl⟩ (fun r101 u100 H locs hp102 hw => ?_)
  have hw : Wd dC dI A s.heap H locs [(av0, .inr (6, [.ref av1, .int 0, .int 0, .int 0, .int 0]))] := hw
  obtain rfl : r101 = 105 := hp102
  refine lv_istore (lv' := [(7, .int 105), (6, .int 15), (4, .int 2), (5, .int 0), (3, .int 3), (2, .int 0), (0, .ref av0), (1, .ref (adK 2))]) hx hb dX6_readWord_39 hl (by decide) rfl (fun ls hl => ?_)
  refine lv_iload hx hb dX6_readWord_41 (lv_at hl 0 rfl) ?_
  refine lv_bipush (v := 32) hx hb dX6_readWord_43 (by decide) ?_
  refine lv_icmp_eq (tgt := 84) hx hb dX6_readWord_45 (by decide) (fun c => absurd c (by decide)) (fun _ => ?_)
  refine lv_iload hx hb dX6_readWord_48 (lv_at hl 3 rfl) ?_
  refine lv_if_eq (tgt := 75) hx hb dX6_readWord_50 (by decide) (fun _ => ?_) (fun c => absurd (by decide) c)
  refine lv_iconst (v := 0) hx hb dX6_readWord_75 (by decide) ?_
  refine lv_istore (lv' := [(5, .int 0), (7, .int 105), (6, .int 15), (4, .int 2), (3, .int 3), (2, .int 0), (0, .ref av0), (1, .ref (adK 2))]) hx hb dX6_readWord_76 hl (by decide) rfl (fun ls hl => ?_)
  refine lv_iinc (v := 3) (lv' := [(4, .int 3), (5, .int 0), (7, .int 105), (6, .int 15), (3, .int 3), (2, .int 0), (0, .ref av0), (1, .ref (adK 2))]) hx hb dX6_readWord_78 hl (k := 3) rfl (by decide) (by decide) rfl (fun ls hl => ?_)
  refine lv_goto (tgt := 114) hx hb dX6_readWord_81 (by decide) ?_
  refine lv_iinc (v := 16) (lv' := [(6, .int 16), (4, .int 3), (5, .int 0), (7, .int 105), (3, .int 3), (2, .int 0), (0, .ref av0), (1, .ref (adK 2))]) hx hb dX6_readWord_114 hl (k := 3) rfl (by decide) (by decide) rfl (fun ls hl => ?_)
  refine lv_goto (tgt := 24) hx hb dX6_readWord_117 (by decide) ?_
  refine lv_iload hx hb dX6_readWord_24 (lv_at hl 0 rfl) ?_
  refine lv_aload_n hx hb dX6_readWord_26 rfl (lv_at hl 7 rfl) ?_
  refine wk_ViT hC hK hw hA hE hSR [] [0] rfl rfl rfl rfl (by decide) (s_length l adK adV dC dI cy 2 (by decide) H.size) (cwV 0 hC.2.2.2.2 gX6_readWord_J0_length_8abf5 rfl rfl rfl (by decide +kernel) ⟨Nat.le_of_ble_eq_true rfl, Nat.le_of_ble_eq_true rfl⟩) 2 (by decide) rfl rfl rfl hl.1 rfl (Nat.le_of_ble_eq_true rfl) dX6_readWord_27 0 0 ⟨rfl, rfl⟩ ⟨Nat.le_of_ble_eq_true rfl, Nat.le_of_ble_eq_true rfl⟩ (fun r104 u103 H locs hp105 hw => ?_)
  have hw : Wd dC dI A s.heap H locs [(av0, .inr (6, [.ref av1, .int 0, .int 0, .int 0, .int 0]))] := hw
  obtain rfl : r104 = 18 := hp105
  refine lv_icmp_ge (tgt := 120) hx hb dX6_readWord_30 (by decide) (fun c => absurd c (by decide)) (fun _ => ?_)
  refine lv_aload_n hx hb dX6_readWord_33 rfl (lv_at hl 7 rfl) ?_
  refine lv_iload hx hb dX6_readWord_34 (lv_at hl 0 rfl) ?_
  refine wk_ViT hC hK hw hA hE hSR [] [0] rfl rfl rfl rfl (by decide) (s_charAt l adK adV dC dI cy 2 (by decide) 16 (by decide) (by decide) H.size) (cwV 1 hC.2.2.2.2 gX6_readWord_J0_charAt_5068e rfl rfl rfl (by decide +kernel) ⟨Nat.le_of_ble_eq_true rfl, Nat.le_of_ble_eq_true rfl⟩) 2 (by decide) rfl rfl rfl hl.1 rfl (Nat.le_of_ble_eq_true rfl) dX6_readWord_36 0 0 ⟨rfl, rfl⟩ ⟨Nat.le_of_ble_eq_true rfl, Nat.le_of_ble_eq_true rfl⟩ (fun r107 u106 H locs hp108 hw => ?_)
  have hw : Wd dC dI A s.heap H locs [(av0, .inr (6, [.ref av1, .int 0, .int 0, .int 0, .int 0]))] := hw
  obtain rfl : r107 = 116 := hp108
  refine lv_istore (lv' := [(7, .int 116), (6, .int 16), (4, .int 3), (5, .int 0), (3, .int 3), (2, .int 0), (0, .ref av0), (1, .ref (adK 2))]) hx hb dX6_readWord_39 hl (by decide) rfl (fun ls hl => ?_)
  refine lv_iload hx hb dX6_readWord_41 (lv_at hl 0 rfl) ?_
  refine lv_bipush (v := 32) hx hb dX6_readWord_43 (by decide) ?_
  refine lv_icmp_eq (tgt := 84) hx hb dX6_readWord_45 (by decide) (fun c => absurd c (by decide)) (fun _ => ?_)
  refine lv_iload hx hb dX6_readWord_48 (lv_at hl 3 rfl) ?_
  refine lv_if_eq (tgt := 75) hx hb dX6_readWord_50 (by decide) (fun _ => ?_) (fun c => absurd (by decide) c)
  refine lv_iconst (v := 0) hx hb dX6_readWord_75 (by decide) ?_
  refine lv_istore (lv' := [(5, .int 0), (7, .int 116), (6, .int 16), (4, .int 3), (3, .int 3), (2, .int 0), (0, .ref av0), (1, .ref (adK 2))]) hx hb dX6_readWord_76 hl (by decide) rfl (fun ls hl => ?_)
  refine lv_iinc (v := 4) (lv' := [(4, .int 4), (5, .int 0), (7, .int 116), (6, .int 16), (3, .int 3), (2, .int 0), (0, .ref av0), (1, .ref (adK 2))]) hx hb dX6_readWord_78 hl (k := 3) rfl (by decide) (by decide) rfl (fun ls hl => ?_)
  refine lv_goto (tgt := 114) hx hb dX6_readWord_81 (by decide) ?_
  refine lv_iinc (v := 17) (lv' := [(6, .int 17), (4, .int 4), (5, .int 0), (7, .int 116), (3, .int 3), (2, .int 0), (0, .ref av0), (1, .ref (adK 2))]) hx hb dX6_readWord_114 hl (k := 3) rfl (by decide) (by decide) rfl (fun ls hl => ?_)
  refine lv_goto (tgt := 24) hx hb dX6_readWord_117 (by decide) ?_
  refine lv_iload hx hb dX6_readWord_24 (lv_at hl 0 rfl) ?_
  refine lv_aload_n hx hb dX6_readWord_26 rfl (lv_at hl 7 rfl) ?_
  refine wk_ViT hC hK hw hA hE hSR [] [0] rfl rfl rfl rfl (by decide) (s_length l adK adV dC dI cy 2 (by decide) H.size) (cwV 0 hC.2.2.2.2 gX6_readWord_J0_length_8abf5 rfl rfl rfl (by decide +kernel) ⟨Nat.le_of_ble_eq_true rfl, Nat.le_of_ble_eq_true rfl⟩) 2 (by decide) rfl rfl rfl hl.1 rfl (Nat.le_of_ble_eq_true rfl) dX6_readWord_27 0 0 ⟨rfl, rfl⟩ ⟨Nat.le_of_ble_eq_true rfl, Nat.le_of_ble_eq_true rfl⟩ (fun r110 u109 H locs hp111 hw => ?_)
  have hw : Wd dC dI A s.heap H locs [(av0, .inr (6, [.ref av1, .int 0, .int 0, .int 0, .int 0]))] := hw
  obtain rfl : r110 = 18 := hp111
  refine lv_icmp_ge (tgt := 120) hx hb dX6_readWord_30 (by decide) (fun c => absurd c (by decide)) (fun _ => ?_)
  refine lv_aload_n hx hb dX6_readWord_33 rfl (lv_at hl 7 rfl) ?_
  refine lv_iload hx hb dX6_readWord_34 (lv_at hl 0 rfl) ?_
  refine wk_ViT hC hK hw hA hE hSR [] [0] rfl rfl rfl rfl (by decide) (s_charAt l adK adV dC dI cy 2 (by decide) 17 (by decide) (by decide) H.size) (cwV 1 hC.2.2.2.2 gX6_readWord_J0_charAt_5068e rfl rfl rfl (by decide +kernel) ⟨Nat.le_of_ble_eq_true rfl, Nat.le_of_ble_eq_true rfl⟩) 2 (by decide) rfl rfl rfl hl.1 rfl (Nat.le_of_ble_eq_true rfl) dX6_readWord_36 0 0 ⟨rfl, rfl⟩ ⟨Nat.le_of_ble_eq_true rfl, Nat.le_of_ble_eq_true rfl⟩ (fun r113 u112 H locs hp114 hw => ?_)
  have hw : Wd dC dI A s.heap H locs [(av0, .inr (6, [.ref av1, .int 0, .int 0, .int 0, .int 0]))] := hw
  obtain rfl : r113 = 32 := hp114
  refine lv_istore (lv' := [(7, .int 32), (6, .int 17), (4, .int 4), (5, .int 0), (3, .int 3), (2, .int 0), (0, .ref av0), (1, .ref (adK 2))]) hx hb dX6_readWord_39 hl (by decide) rfl (fun ls hl => ?_)
  refine lv_iload hx hb dX6_readWord_41 (lv_at hl 0 rfl) ?_
  refine lv_bipush (v := 32) hx hb dX6_readWord_43 (by decide) ?_
  refine lv_icmp_eq (tgt := 84) hx hb dX6_readWord_45 (by decide) (fun _ => ?_) (fun c => absurd (by decide) c)
  refine lv_iload hx hb dX6_readWord_84 (lv_at hl 3 rfl) ?_
  refine lv_if_eq (tgt := 102) hx hb dX6_readWord_86 (by decide) (fun _ => ?_) (fun c => absurd (by decide) c)
  refine lv_iinc (v := 4) (lv' := [(3, .int 4), (7, .int 32), (6, .int 17), (4, .int 4), (5, .int 0), (2, .int 0), (0, .ref av0), (1, .ref (adK 2))]) hx hb dX6_readWord_102 hl (k := 4) rfl (by decide) (by decide) rfl (fun ls hl => ?_)
  refine lv_aload_n hx hb dX6_readWord_105 rfl (lv_at hl 6 rfl) ?_
  refine wk_get hC hK hw hinX6 0 rfl rfl 1 (by decide) (List.mem_of_getElem? (i := 1) rfl) rfl rfl dX6_readWord_106 ?_
  refine lv_istore (lv' := [(4, .int 0), (3, .int 4), (7, .int 32), (6, .int 17), (5, .int 0), (2, .int 0), (0, .ref av0), (1, .ref (adK 2))]) hx hb dX6_readWord_109 hl (by decide) rfl (fun ls hl => ?_)
  refine lv_iconst (v := 1) hx hb dX6_readWord_111 (by decide) ?_
  refine lv_istore (lv' := [(5, .int 1), (4, .int 0), (3, .int 4), (7, .int 32), (6, .int 17), (2, .int 0), (0, .ref av0), (1, .ref (adK 2))]) hx hb dX6_readWord_112 hl (by decide) rfl (fun ls hl => ?_)
  refine lv_iinc (v := 18) (lv' := [(6, .int 18), (5, .int 1), (4, .int 0), (3, .int 4), (7, .int 32), (2, .int 0), (0, .ref av0), (1, .ref (adK 2))]) hx hb dX6_readWord_114 hl (k := 4) rfl (by decide) (by decide) rfl (fun ls hl => ?_)
  refine lv_goto (tgt := 24) hx hb dX6_readWord_117 (by decide) ?_
  refine lv_iload hx hb dX6_readWord_24 (lv_at hl 0 rfl) ?_
  refine lv_aload_n hx hb dX6_readWord_26 rfl (lv_at hl 7 rfl) ?_
  refine wk_ViT hC hK hw hA hE hSR [] [0] rfl rfl rfl rfl (by decide) (s_length l adK adV dC dI cy 2 (by decide) H.size) (cwV 0 hC.2.2.2.2 gX6_readWord_J0_length_8abf5 rfl rfl rfl (by decide +kernel) ⟨Nat.le_of_ble_eq_true rfl, Nat.le_of_ble_eq_true rfl⟩) 2 (by decide) rfl rfl rfl hl.1 rfl (Nat.le_of_ble_eq_true rfl) dX6_readWord_27 0 0 ⟨rfl, rfl⟩ ⟨Nat.le_of_ble_eq_true rfl, Nat.le_of_ble_eq_true rfl⟩ (fun r116 u115 H locs hp117 hw => ?_)
  have hw : Wd dC dI A s.heap H locs [(av0, .inr (6, [.ref av1, .int 0, .int 0, .int 0, .int 0]))] := hw
  obtain rfl : r116 = 18 := hp117
  refine lv_icmp_ge (tgt := 120) hx hb dX6_readWord_30 (by decide) (fun _ => ?_) (fun c => absurd (by decide) c)
  refine lv_aload_n hx hb dX6_readWord_120 rfl (lv_at hl 6 rfl) ?_
  refine lv_aload_n hx hb dX6_readWord_121 rfl (lv_at hl 6 rfl) ?_
  refine wk_get hC hK hw hinX6 0 rfl rfl 3 (by decide) (List.mem_of_getElem? (i := 3) rfl) rfl rfl dX6_readWord_122 ?_
  refine lv_iconst (v := 0) hx hb dX6_readWord_125 (by decide) ?_
  refine wk_Vv hC hK hw hA [0] [] rfl rfl rfl rfl (by decide) (c_X6_blame_1 l dC dI cy av0 av1 H.size ) (cwV 2 hC.2.2.2.2 gX6_readWord_X6_blame rfl rfl rfl (by decide +kernel) ⟨Nat.le_of_ble_eq_true rfl, Nat.le_of_ble_eq_true rfl⟩) rfl 0 rfl rfl hl.1 rfl (Nat.le_of_ble_eq_true rfl) dX6_readWord_126 0 0 ⟨rfl, rfl⟩ ⟨Nat.le_of_ble_eq_true rfl, Nat.le_of_ble_eq_true rfl⟩ (fun u118 H locs hp120 hw => ?_)
  have hw : Wd dC dI A s.heap H locs [(av0, .inr (6, [.ref av1, .int 0, .int 0, .int 0, .int 1]))] := hw
  refine lv_iconst (v := (-1)) hx hb dX6_readWord_129 (by decide) ?_
  exact wk_iret (v := (-1)) hC hr hlocks hK ((fun _ => 0), (fun _ _ => 0)) rfl [0] rfl rfl hw dX6_readWord_130

set_option maxHeartbeats 4000000 in
set_option maxRecDepth 100000 in
theorem c_X2_isFull_1 (l : Launch) (dC : Nat → ClassId) (dI : Nat → Nat → Nat) (cy : Nat → ClassId) (av0 : Nat) (av1 : Nat) (av2 : Nat) (av3 : Nat) (sz : Nat)  : Met l yX2_isFull wsX2_isFull ({ frames := 0, cells := 0, slots := 0, locals := 0 }) (va_Pc [.ref av0] (wpre dC dI cy sz [(av0, .inr (2, [.ref av1, .ref av2, .ref av3, .int 0, .int 0, .int 0]))])) (va_Qi (fun (r : Int32) (_ : ((Nat → Nat) × (Nat → Nat → Int32))) => r = 0) (fun u => wpost dC dI cy (va_A [(av0, .inr (2, [.ref av1, .ref av2, .ref av3, .int 0, .int 0, .int 0]))] sz) [(av0, .inr (2, [.ref av1, .ref av2, .ref av3, .int 0, .int 0, .int 0]))]) (va_A [(av0, .inr (2, [.ref av1, .ref av2, .ref av3, .int 0, .int 0, .int 0]))] sz)) 0 0 (va_A [(av0, .inr (2, [.ref av1, .ref av2, .ref av3, .int 0, .int 0, .int 0]))] sz) := by
  refine Met.ofW (cc := cX2_isFull) (maxL := 1) (ret := (some .boolean)) (by decide) rfl ?_
  intro p e s m args below meth c s₁ B hml hv
  obtain ⟨rfl, hsz, hP, hK, hD0⟩ := hv
  have hx := B.exec
  have hb := B.bytes
  have hr := B.returns
  have hlocks := B.notSynchronized
  have hC : CallFix p m c cX2_isFull 1 s _ wsX2_isFull RX2 := ⟨hx, hb, hml, findClass_of_methodNamed B.named, atoms_spec (ws := wsX2_isFull) B.pre⟩
  subst hsz
  have hD := hD0.self (sz := s.heap.size)
  generalize hAe : va_A [(av0, .inr (2, [.ref av1, .ref av2, .ref av3, .int 0, .int 0, .int 0]))] s.heap.size = A at hD ⊢
  have hA : ∀ q : Nat, s.heap.size ≤ q → A q := fun q h => by rw [← hAe]; exact Or.inr h
  have hw : Wd dC dI A s.heap s.heap [] [(av0, .inr (2, [.ref av1, .ref av2, .ref av3, .int 0, .int 0, .int 0]))] := ⟨hP, hD, va_S.rf⟩
  have hl := lv_entry ([.ref av0]) (n := 1) (Nat.le_of_ble_eq_true rfl)
  rw [lg_entry_eq]
  generalize (lg_sl ([.ref av0]) ++ List.replicate (1 - (lg_sl ([.ref av0])).length) Slot.unset).toArray = ls at hl ⊢
  have hl : lv_has ls 1 [(0, .ref av0)] := hl
  have hinX2 : ∀ w ∈ u_ws RX2 TX2 6, w ∈ wsX2_isFull := fun _ h => List.mem_cons_of_mem _ (List.mem_append_right _ (h))
  refine lv_aload_n hx hb dX2_isFull_0 rfl (lv_at hl 0 rfl) ?_
  refine wk_get hC hK hw hinX2 0 rfl rfl 4 (by decide) (List.mem_of_getElem? (i := 1) rfl) rfl rfl dX2_isFull_1 ?_
  refine lv_bipush (v := 12) hx hb dX2_isFull_4 (by decide) ?_
  refine lv_icmp_lt (tgt := 13) hx hb dX2_isFull_6 (by decide) (fun _ => ?_) (fun c => absurd (by decide) c)
  refine lv_iconst (v := 0) hx hb dX2_isFull_13 (by decide) ?_
  exact wk_zret (v := 0) hC hr rfl hlocks hK ((fun _ => 0), (fun _ _ => 0)) rfl [0] rfl rfl hw dX2_isFull_14

set_option maxHeartbeats 4000000 in
set_option maxRecDepth 100000 in
theorem c_X2_addClause_1 (l : Launch) (dC : Nat → ClassId) (dI : Nat → Nat → Nat) (cy : Nat → ClassId) (av0 : Nat) (av1 : Nat) (av2 : Nat) (av3 : Nat) (sz : Nat)  : Met l yX2_addClause wsX2_addClause ({ frames := 1, cells := 0, slots := 0, locals := 20 }) (va_Pc [.ref av0, .int (-1)] (wpre dC dI cy sz [(av0, .inr (2, [.ref av1, .ref av2, .ref av3, .int 0, .int 0, .int 0])), (av1, .inl (cy 0, 12, .inl (fun _ => 0))), (av2, .inl (cy 0, 13, .inl (fun _ => 0)))])) (va_Qv (fun _ : ((Nat → Nat) × (Nat → Nat → Int32)) => True) (fun u => wpost dC dI cy (va_A [(av0, .inr (2, [.ref av1, .ref av2, .ref av3, .int 0, .int 0, .int 0])), (av1, .inl (cy 0, 12, .inl (fun _ => 0))), (av2, .inl (cy 0, 13, .inl (fun _ => 0)))] sz) [(av0, .inr (2, [.ref av1, .ref av2, .ref av3, .int 0, .int 1, .int 0])), (av1, .inl (cy 0, 12, .inl (u.2 0))), (av2, .inl (cy 0, 13, .inl (u.2 1)))]) (va_A [(av0, .inr (2, [.ref av1, .ref av2, .ref av3, .int 0, .int 0, .int 0])), (av1, .inl (cy 0, 12, .inl (fun _ => 0))), (av2, .inl (cy 0, 13, .inl (fun _ => 0)))] sz)) 0 0 (va_A [(av0, .inr (2, [.ref av1, .ref av2, .ref av3, .int 0, .int 0, .int 0])), (av1, .inl (cy 0, 12, .inl (fun _ => 0))), (av2, .inl (cy 0, 13, .inl (fun _ => 0)))] sz) := by
  refine Met.ofW (cc := cX2_addClause) (maxL := 2) (ret := none) (by decide) rfl ?_
  intro p e s m args below meth c s₁ B hml hv
  obtain ⟨rfl, hsz, hP, hK, hD0⟩ := hv
  have hx := B.exec
  have hb := B.bytes
  have hr := B.returns
  have hlocks := B.notSynchronized
  have hC : CallFix p m c cX2_addClause 2 s _ wsX2_addClause RX2 := ⟨hx, hb, hml, findClass_of_methodNamed B.named, atoms_spec (ws := wsX2_addClause) B.pre⟩
  subst hsz
  have hD := hD0.self (sz := s.heap.size)
  generalize hAe : va_A [(av0, .inr (2, [.ref av1, .ref av2, .ref av3, .int 0, .int 0, .int 0])), (av1, .inl (cy 0, 12, .inl (fun _ => 0))), (av2, .inl (cy 0, 13, .inl (fun _ => 0)))] s.heap.size = A at hD ⊢
  have hA : ∀ q : Nat, s.heap.size ≤ q → A q := fun q h => by rw [← hAe]; exact Or.inr h
  have hw : Wd dC dI A s.heap s.heap [] [(av0, .inr (2, [.ref av1, .ref av2, .ref av3, .int 0, .int 0, .int 0])), (av1, .inl (cy 0, 12, .inl (fun _ => 0))), (av2, .inl (cy 0, 13, .inl (fun _ => 0)))] := ⟨hP, hD, va_S.rf⟩
  have hl := lv_entry ([.ref av0, .int (-1)]) (n := 2) (Nat.le_of_ble_eq_true rfl)
  rw [lg_entry_eq]
  generalize (lg_sl ([.ref av0, .int (-1)]) ++ List.replicate (2 - (lg_sl ([.ref av0, .int (-1)])).length) Slot.unset).toArray = ls at hl ⊢
  have hl : lv_has ls 2 [(0, .ref av0), (1, .int (-1))] := hl
  have hinX2 : ∀ w ∈ u_ws RX2 TX2 6, w ∈ wsX2_addClause := fun _ h => List.mem_cons_of_mem _ (List.mem_append_right _ (h))
  refine lv_aload_n hx hb dX2_addClause_0 rfl (lv_at hl 0 rfl) ?_
  refine wk_Vi hC hK hw hA [0] [1, 2] rfl rfl rfl rfl (by decide) (c_X2_isFull_1 l dC dI cy av0 av1 av2 av3 s.heap.size ) (cwV 0 hC.2.2.2.2 gX2_addClause_X2_isFull rfl rfl rfl (by decide +kernel) ⟨Nat.le_of_ble_eq_true rfl, Nat.le_of_ble_eq_true rfl⟩) rfl 0 rfl rfl hl.1 rfl (Nat.le_of_ble_eq_true rfl) dX2_addClause_1 0 0 ⟨rfl, rfl⟩ ⟨Nat.le_of_ble_eq_true rfl, Nat.le_of_ble_eq_true rfl⟩ (fun r2 u1 H locs hp3 hw => ?_)
  have hw : Wd dC dI A s.heap H locs [(av1, .inl (cy 0, 12, .inl (fun _ => 0))), (av2, .inl (cy 0, 13, .inl (fun _ => 0))), (av0, .inr (2, [.ref av1, .ref av2, .ref av3, .int 0, .int 0, .int 0]))] := hw
  obtain rfl : r2 = 0 := hp3
  refine lv_if_ne (tgt := 61) hx hb dX2_addClause_4 (by decide) (fun c => absurd (by decide) c) (fun _ => ?_)
  refine lv_aload_n hx hb dX2_addClause_7 rfl (lv_at hl 0 rfl) ?_
  refine wk_get hC hK hw hinX2 2 rfl rfl 0 (by decide) (List.mem_of_getElem? (i := 1) rfl) rfl rfl dX2_addClause_8 ?_
  refine lv_aload_n hx hb dX2_addClause_11 rfl (lv_at hl 0 rfl) ?_
  refine wk_get hC hK hw hinX2 2 rfl rfl 4 (by decide) (List.mem_of_getElem? (i := 2) rfl) rfl rfl dX2_addClause_12 ?_
  refine lv_iload_n hx hb dX2_addClause_15 rfl (lv_at hl 1 rfl) ?_
  refine wk_iast hC hK hw 0 rfl (show ¬ ((0 : Int32) < 0 ∨ 12 ≤ (0 : Int32).toNatClampNeg) by decide) dX2_addClause_16 (fun H locs hw => ?_)
  obtain ⟨f4, hw⟩ : ∃ f4 : Nat → Int32, Wd dC dI A s.heap H locs [(av1, .inl (cy 0, 12, .inl f4)), (av2, .inl (cy 0, 13, .inl (fun _ => 0))), (av0, .inr (2, [.ref av1, .ref av2, .ref av3, .int 0, .int 0, .int 0]))] := ⟨_, hw⟩
  refine lv_aload_n hx hb dX2_addClause_17 rfl (lv_at hl 0 rfl) ?_
  refine lv_aload_n hx hb dX2_addClause_18 rfl (lv_at hl 0 rfl) ?_
  refine wk_get hC hK hw hinX2 2 rfl rfl 5 (by decide) (List.mem_of_getElem? (i := 3) rfl) rfl rfl dX2_addClause_19 ?_
  refine lv_if_ne (tgt := 30) hx hb dX2_addClause_22 (by decide) (fun c => absurd (by decide) c) (fun _ => ?_)
  refine lv_iload_n hx hb dX2_addClause_25 rfl (lv_at hl 1 rfl) ?_
  refine lv_iconst (v := 1) hx hb dX2_addClause_26 (by decide) ?_
  refine lv_icmp_ne (tgt := 34) hx hb dX2_addClause_27 (by decide) (fun _ => ?_) (fun c => absurd c (by decide))
  refine lv_iconst (v := 0) hx hb dX2_addClause_34 (by decide) ?_
  refine wk_put hC hK hw hinX2 tyX2_ok nmX2 2 rfl rfl 5 (by decide) (List.mem_of_getElem? (i := 3) rfl) rfl rfl rfl rfl rfl (Nat.le_of_ble_eq_true rfl) dX2_addClause_35 (fun H locs hw => ?_)
  have hw : Wd dC dI A s.heap H locs [(av1, .inl (cy 0, 12, .inl f4)), (av2, .inl (cy 0, 13, .inl (fun _ => 0))), (av0, .inr (2, [.ref av1, .ref av2, .ref av3, .int 0, .int 0, .int 0]))] := hw
  refine lv_aload_n hx hb dX2_addClause_38 rfl (lv_at hl 0 rfl) ?_
  refine lv_dup hx hb dX2_addClause_39 rfl ?_
  refine wk_get hC hK hw hinX2 2 rfl rfl 4 (by decide) (List.mem_of_getElem? (i := 2) rfl) rfl rfl dX2_addClause_40 ?_
  refine lv_iconst (v := 1) hx hb dX2_addClause_43 (by decide) ?_
  refine lv_iadd hx hb dX2_addClause_44 ?_
  refine wk_top 1 (by decide) ?_
  refine wk_put hC hK hw hinX2 tyX2_ok nmX2 2 rfl rfl 4 (by decide) (List.mem_of_getElem? (i := 2) rfl) rfl rfl rfl rfl rfl (Nat.le_of_ble_eq_true rfl) dX2_addClause_45 (fun H locs hw => ?_)
  have hw : Wd dC dI A s.heap H locs [(av1, .inl (cy 0, 12, .inl f4)), (av2, .inl (cy 0, 13, .inl (fun _ => 0))), (av0, .inr (2, [.ref av1, .ref av2, .ref av3, .int 0, .int 1, .int 0]))] := hw
  refine lv_aload_n hx hb dX2_addClause_48 rfl (lv_at hl 0 rfl) ?_
  refine wk_get hC hK hw hinX2 2 rfl rfl 1 (by decide) (List.mem_of_getElem? (i := 4) rfl) rfl rfl dX2_addClause_49 ?_
  refine lv_aload_n hx hb dX2_addClause_52 rfl (lv_at hl 0 rfl) ?_
  refine wk_get hC hK hw hinX2 2 rfl rfl 4 (by decide) (List.mem_of_getElem? (i := 2) rfl) rfl rfl dX2_addClause_53 ?_
  refine lv_aload_n hx hb dX2_addClause_56 rfl (lv_at hl 0 rfl) ?_
  refine wk_get hC hK hw hinX2 2 rfl rfl 3 (by decide) (List.mem_of_getElem? (i := 5) rfl) rfl rfl dX2_addClause_57 ?_
  refine wk_iast hC hK hw 1 rfl (show ¬ ((1 : Int32) < 0 ∨ 13 ≤ (1 : Int32).toNatClampNeg) by decide) dX2_addClause_60 (fun H locs hw => ?_)
  obtain ⟨f5, hw⟩ : ∃ f5 : Nat → Int32, Wd dC dI A s.heap H locs [(av1, .inl (cy 0, 12, .inl f4)), (av2, .inl (cy 0, 13, .inl f5)), (av0, .inr (2, [.ref av1, .ref av2, .ref av3, .int 0, .int 1, .int 0]))] := ⟨_, hw⟩
  exact wk_vret hC hr hlocks hK ((fun _ => 0), (fun k => ([f4, f5] : List (Nat → Int32)).getD k (fun _ => 0))) trivial [2, 0, 1] rfl rfl hw dX2_addClause_61

set_option maxHeartbeats 4000000 in
set_option maxRecDepth 100000 in
theorem c_X3_readInto_1 (l : Launch) (adK adV : Nat → Nat) (dC : Nat → ClassId) (dI : Nat → Nat → Nat) (cy : Nat → ClassId) (av0 : Nat) (av1 : Nat) (av2 : Nat) (av3 : Nat) (av4 : Nat) (av5 : Nat) (av6 : Nat) (sz : Nat)  : Met l yX3_readInto wsX3_readInto ({ frames := 6, cells := 0, slots := 0, locals := 168 }) (va_Pc [.ref av0, .ref av1] (wpreS adK adV dC dI cy sz [(av0, .inr (3, [.ref av2, .null, .int 0])), (av1, .inr (2, [.ref av3, .ref av4, .ref av5, .int 0, .int 0, .int 0])), (av2, .inr (6, [.ref av6, .int 0, .int 0, .int 0, .int 0])), (av3, .inl (cy 0, 12, .inl (fun _ => 0))), (av4, .inl (cy 0, 13, .inl (fun _ => 0)))])) (va_Qv (fun _ : ((Nat → Nat) × (Nat → Nat → Int32)) => True) (fun u => wpost dC dI cy (va_A [(av0, .inr (3, [.ref av2, .null, .int 0])), (av1, .inr (2, [.ref av3, .ref av4, .ref av5, .int 0, .int 0, .int 0])), (av2, .inr (6, [.ref av6, .int 0, .int 0, .int 0, .int 0])), (av3, .inl (cy 0, 12, .inl (fun _ => 0))), (av4, .inl (cy 0, 13, .inl (fun _ => 0)))] sz) [(av0, .inr (3, [.ref av2, .ref av1, .int 0])), (av1, .inr (2, [.ref av3, .ref av4, .ref av5, .int 0, .int 1, .int 0])), (av2, .inr (6, [.ref av6, .int 0, .int 0, .int 0, .int 1])), (av3, .inl (cy 0, 12, .inl (u.2 0))), (av4, .inl (cy 0, 13, .inl (u.2 1)))]) (va_A [(av0, .inr (3, [.ref av2, .null, .int 0])), (av1, .inr (2, [.ref av3, .ref av4, .ref av5, .int 0, .int 0, .int 0])), (av2, .inr (6, [.ref av6, .int 0, .int 0, .int 0, .int 0])), (av3, .inl (cy 0, 12, .inl (fun _ => 0))), (av4, .inl (cy 0, 13, .inl (fun _ => 0)))] sz)) 0 0 (va_A [(av0, .inr (3, [.ref av2, .null, .int 0])), (av1, .inr (2, [.ref av3, .ref av4, .ref av5, .int 0, .int 0, .int 0])), (av2, .inr (6, [.ref av6, .int 0, .int 0, .int 0, .int 0])), (av3, .inl (cy 0, 12, .inl (fun _ => 0))), (av4, .inl (cy 0, 13, .inl (fun _ => 0)))] sz) := by
  refine Met.ofW (cc := cX3_readInto) (maxL := 5) (ret := none) (by decide) rfl ?_
  intro p e s m args below meth c s₁ B hml hv
  obtain ⟨rfl, ⟨hsz, hP, hK, hD0⟩, hE, hSR⟩ := hv
  have hx := B.exec
  have hb := B.bytes
  have hr := B.returns
  have hlocks := B.notSynchronized
  have hC : CallFix p m c cX3_readInto 5 s _ wsX3_readInto RX3 := ⟨hx, hb, hml, findClass_of_methodNamed B.named, atoms_spec (ws := wsX3_readInto) B.pre⟩
  subst hsz
  have hD := hD0.self (sz := s.heap.size)
  generalize hAe : va_A [(av0, .inr (3, [.ref av2, .null, .int 0])), (av1, .inr (2, [.ref av3, .ref av4, .ref av5, .int 0, .int 0, .int 0])), (av2, .inr (6, [.ref av6, .int 0, .int 0, .int 0, .int 0])), (av3, .inl (cy 0, 12, .inl (fun _ => 0))), (av4, .inl (cy 0, 13, .inl (fun _ => 0)))] s.heap.size = A at hD hE ⊢
  have hA : ∀ q : Nat, s.heap.size ≤ q → A q := fun q h => by rw [← hAe]; exact Or.inr h
  have hw : Wd dC dI A s.heap s.heap [] [(av0, .inr (3, [.ref av2, .null, .int 0])), (av1, .inr (2, [.ref av3, .ref av4, .ref av5, .int 0, .int 0, .int 0])), (av2, .inr (6, [.ref av6, .int 0, .int 0, .int 0, .int 0])), (av3, .inl (cy 0, 12, .inl (fun _ => 0))), (av4, .inl (cy 0, 13, .inl (fun _ => 0)))] := ⟨hP, hD, va_S.rf⟩
  have hl := lv_entry ([.ref av0, .ref av1]) (n := 5) (Nat.le_of_ble_eq_true rfl)
  rw [lg_entry_eq]
  generalize (lg_sl ([.ref av0, .ref av1]) ++ List.replicate (5 - (lg_sl ([.ref av0, .ref av1])).length) Slot.unset).toArray = ls at hl ⊢
  have hl : lv_has ls 5 [(0, .ref av0), (1, .ref av1)] := hl
  have hinX3 : ∀ w ∈ u_ws RX3 TX3 3, w ∈ wsX3_readInto := fun _ h => List.mem_cons_of_mem _ (List.mem_append_left _ (List.mem_append_left _ (List.mem_append_right _ (h))))
  refine lv_aload_n hx hb dX3_readInto_0 rfl (lv_at hl 0 rfl) ?_
  refine lv_aload_n hx hb dX3_readInto_1 rfl (lv_at hl 1 rfl) ?_
  refine wk_put hC hK hw hinX3 tyX3_ok nmX3 0 rfl rfl 1 (by decide) (List.mem_of_getElem? (i := 1) rfl) rfl rfl rfl rfl rfl (Nat.le_of_ble_eq_true rfl) dX3_readInto_2 (fun H locs hw => ?_)
  have hw : Wd dC dI A s.heap H locs [(av0, .inr (3, [.ref av2, .ref av1, .int 0])), (av1, .inr (2, [.ref av3, .ref av4, .ref av5, .int 0, .int 0, .int 0])), (av2, .inr (6, [.ref av6, .int 0, .int 0, .int 0, .int 0])), (av3, .inl (cy 0, 12, .inl (fun _ => 0))), (av4, .inl (cy 0, 13, .inl (fun _ => 0)))] := hw
  refine lv_aload_n hx hb dX3_readInto_5 rfl (lv_at hl 0 rfl) ?_
  refine wk_get hC hK hw hinX3 0 rfl rfl 1 (by decide) (List.mem_of_getElem? (i := 1) rfl) rfl rfl dX3_readInto_6 ?_
  refine wk_Vv hC hK hw hA [1] [0, 2, 3, 4] rfl rfl rfl rfl (by decide) (c_X2_clear_1 l dC dI cy av1 av3 av4 av5 H.size ) (cwV 0 hC.2.2.2.2 gX3_readInto_X2_clear rfl rfl rfl (by decide +kernel) ⟨Nat.le_of_ble_eq_true rfl, Nat.le_of_ble_eq_true rfl⟩) rfl 0 rfl rfl hl.1 rfl (Nat.le_of_ble_eq_true rfl) dX3_readInto_9 0 0 ⟨rfl, rfl⟩ ⟨Nat.le_of_ble_eq_true rfl, Nat.le_of_ble_eq_true rfl⟩ (fun u1 H locs hp3 hw => ?_)
  have hw : Wd dC dI A s.heap H locs [(av0, .inr (3, [.ref av2, .ref av1, .int 0])), (av2, .inr (6, [.ref av6, .int 0, .int 0, .int 0, .int 0])), (av3, .inl (cy 0, 12, .inl (fun _ => 0))), (av4, .inl (cy 0, 13, .inl (fun _ => 0))), (av1, .inr (2, [.ref av3, .ref av4, .ref av5, .int 0, .int 0, .int 0]))] := hw
  refine lv_aload_n hx hb dX3_readInto_12 rfl (lv_at hl 0 rfl) ?_
  refine lv_iconst (v := 0) hx hb dX3_readInto_13 (by decide) ?_
  refine wk_put hC hK hw hinX3 tyX3_ok nmX3 0 rfl rfl 2 (by decide) (List.mem_of_getElem? (i := 2) rfl) rfl rfl rfl rfl rfl (Nat.le_of_ble_eq_true rfl) dX3_readInto_14 (fun H locs hw => ?_)
  have hw : Wd dC dI A s.heap H locs [(av0, .inr (3, [.ref av2, .ref av1, .int 0])), (av2, .inr (6, [.ref av6, .int 0, .int 0, .int 0, .int 0])), (av3, .inl (cy 0, 12, .inl (fun _ => 0))), (av4, .inl (cy 0, 13, .inl (fun _ => 0))), (av1, .inr (2, [.ref av3, .ref av4, .ref av5, .int 0, .int 0, .int 0]))] := hw
  refine lv_aload_n hx hb dX3_readInto_17 rfl (lv_at hl 0 rfl) ?_
  refine wk_get hC hK hw hinX3 0 rfl rfl 0 (by decide) (List.mem_of_getElem? (i := 3) rfl) rfl rfl dX3_readInto_18 ?_
  refine wk_Vv hC hK hw hA [1] [0, 2, 3, 4] rfl rfl rfl rfl (by decide) (c_X6_startReading_1 l dC dI cy av2 av6 H.size ) (cwV 0 hC.2.2.2.2 gX3_readInto_X6_startReading rfl rfl rfl (by decide +kernel) ⟨Nat.le_of_ble_eq_true rfl, Nat.le_of_ble_eq_true rfl⟩) rfl 0 rfl rfl hl.1 rfl (Nat.le_of_ble_eq_true rfl) dX3_readInto_21 0 0 ⟨rfl, rfl⟩ ⟨Nat.le_of_ble_eq_true rfl, Nat.le_of_ble_eq_true rfl⟩ (fun u4 H locs hp6 hw => ?_)
  have hw : Wd dC dI A s.heap H locs [(av0, .inr (3, [.ref av2, .ref av1, .int 0])), (av3, .inl (cy 0, 12, .inl (fun _ => 0))), (av4, .inl (cy 0, 13, .inl (fun _ => 0))), (av1, .inr (2, [.ref av3, .ref av4, .ref av5, .int 0, .int 0, .int 0])), (av2, .inr (6, [.ref av6, .int 0, .int 0, .int 0, .int 0]))] := hw
  refine lv_iconst (v := 1) hx hb dX3_readInto_24 (by decide) ?_
  refine lv_istore_n (lv' := [(2, .int 1), (0, .ref av0), (1, .ref av1)]) hx hb dX3_readInto_25 rfl hl (by decide) rfl (fun ls hl => ?_)
  refine lv_iconst (v := 0) hx hb dX3_readInto_26 (by decide) ?_
  refine lv_istore_n (lv' := [(3, .int 0), (2, .int 1), (0, .ref av0), (1, .ref av1)]) hx hb dX3_readInto_27 rfl hl (by decide) rfl (fun ls hl => ?_)
  refine lv_iload_n hx hb dX3_readInto_28 rfl (lv_at hl 1 rfl) ?_
  refine lv_if_eq (tgt := 124) hx hb dX3_readInto_29 (by decide) (fun c => absurd c (by decide)) (fun _ => ?_)
  refine lv_iload_n hx hb dX3_readInto_32 rfl (lv_at hl 0 rfl) ?_
  refine lv_bipush (v := 12) hx hb dX3_readInto_33 (by decide) ?_
  refine lv_icmp_gt (tgt := 124) hx hb dX3_readInto_35 (by decide) (fun c => absurd c (by decide)) (fun _ => ?_)
  refine lv_aload_n hx hb dX3_readInto_38 rfl (lv_at hl 2 rfl) ?_
  refine wk_get hC hK hw hinX3 0 rfl rfl 0 (by decide) (List.mem_of_getElem? (i := 3) rfl) rfl rfl dX3_readInto_39 ?_
  refine va_ldcS hx hb hC.2.2.2.1 hSR.2.2.1 dX3_readInto_42 ?_
  refine wk_ViS hC hK hw hA hE hSR [4] [0, 1, 2, 3] rfl rfl rfl rfl (by decide) (c_X6_readWord_2 l adK adV dC dI cy av2 av6 H.size ) (cwV 1 hC.2.2.2.2 gX3_readInto_X6_readWord rfl rfl rfl (by decide +kernel) ⟨Nat.le_of_ble_eq_true rfl, Nat.le_of_ble_eq_true rfl⟩) rfl 0 rfl rfl hl.1 rfl (Nat.le_of_ble_eq_true rfl) dX3_readInto_44 0 0 ⟨rfl, rfl⟩ ⟨Nat.le_of_ble_eq_true rfl, Nat.le_of_ble_eq_true rfl⟩ (fun r8 u7 H locs hp9 hw => ?_)
  have hw : Wd dC dI A s.heap H locs [(av0, .inr (3, [.ref av2, .ref av1, .int 0])), (av3, .inl (cy 0, 12, .inl (fun _ => 0))), (av4, .inl (cy 0, 13, .inl (fun _ => 0))), (av1, .inr (2, [.ref av3, .ref av4, .ref av5, .int 0, .int 0, .int 0])), (av2, .inr (6, [.ref av6, .int 0, .int 0, .int 0, .int 1]))] := hw
  obtain rfl : r8 = (-1) := hp9
  refine lv_istore (lv' := [(4, .int (-1)), (3, .int 0), (2, .int 1), (0, .ref av0), (1, .ref av1)]) hx hb dX3_readInto_47 hl (by decide) rfl (fun ls hl => ?_)
  refine lv_aload_n hx hb dX3_readInto_49 rfl (lv_at hl 3 rfl) ?_
  refine wk_get hC hK hw hinX3 0 rfl rfl 1 (by decide) (List.mem_of_getElem? (i := 1) rfl) rfl rfl dX3_readInto_50 ?_
  refine wk_Vi hC hK hw hA [3] [0, 1, 2, 4] rfl rfl rfl rfl (by decide) (c_X2_isFull_1 l dC dI cy av1 av3 av4 av5 H.size ) (cwV 0 hC.2.2.2.2 gX3_readInto_X2_isFull rfl rfl rfl (by decide +kernel) ⟨Nat.le_of_ble_eq_true rfl, Nat.le_of_ble_eq_true rfl⟩) rfl 0 rfl rfl hl.1 rfl (Nat.le_of_ble_eq_true rfl) dX3_readInto_53 0 0 ⟨rfl, rfl⟩ ⟨Nat.le_of_ble_eq_true rfl, Nat.le_of_ble_eq_true rfl⟩ (fun r11 u10 H locs hp12 hw => ?_)
  have hw : Wd dC dI A s.heap H locs [(av0, .inr (3, [.ref av2, .ref av1, .int 0])), (av3, .inl (cy 0, 12, .inl (fun _ => 0))), (av4, .inl (cy 0, 13, .inl (fun _ => 0))), (av2, .inr (6, [.ref av6, .int 0, .int 0, .int 0, .int 1])), (av1, .inr (2, [.ref av3, .ref av4, .ref av5, .int 0, .int 0, .int 0]))] := hw
  obtain rfl : r11 = 0 := hp12
  refine lv_if_eq (tgt := 74) hx hb dX3_readInto_56 (by decide) (fun _ => ?_) (fun c => absurd (by decide) c)
  refine lv_aload_n hx hb dX3_readInto_74 rfl (lv_at hl 3 rfl) ?_
  refine wk_get hC hK hw hinX3 0 rfl rfl 1 (by decide) (List.mem_of_getElem? (i := 1) rfl) rfl rfl dX3_readInto_75 ?_
  refine lv_iload hx hb dX3_readInto_78 (lv_at hl 0 rfl) ?_
  refine wk_Vv hC hK hw hA [4, 1, 2] [0, 3] rfl rfl rfl rfl (by decide) (c_X2_addClause_1 l dC dI cy av1 av3 av4 av5 H.size ) (cwV 1 hC.2.2.2.2 gX3_readInto_X2_addClause rfl rfl rfl (by decide +kernel) ⟨Nat.le_of_ble_eq_true rfl, Nat.le_of_ble_eq_true rfl⟩) rfl 0 rfl rfl hl.1 rfl (Nat.le_of_ble_eq_true rfl) dX3_readInto_80 0 0 ⟨rfl, rfl⟩ ⟨Nat.le_of_ble_eq_true rfl, Nat.le_of_ble_eq_true rfl⟩ (fun u13 H locs hp15 hw => ?_)
  have hw : Wd dC dI A s.heap H locs [(av0, .inr (3, [.ref av2, .ref av1, .int 0])), (av2, .inr (6, [.ref av6, .int 0, .int 0, .int 0, .int 1])), (av1, .inr (2, [.ref av3, .ref av4, .ref av5, .int 0, .int 1, .int 0])), (av3, .inl (cy 0, 12, .inl (u13.2 0))), (av4, .inl (cy 0, 13, .inl (u13.2 1)))] := hw
  refine lv_aload_n hx hb dX3_readInto_83 rfl (lv_at hl 3 rfl) ?_
  refine wk_get hC hK hw hinX3 0 rfl rfl 0 (by decide) (List.mem_of_getElem? (i := 3) rfl) rfl rfl dX3_readInto_84 ?_
  refine wk_Vi hC hK hw hA [1] [0, 2, 3, 4] rfl rfl rfl rfl (by decide) (c_X6_isFaulty_1 l dC dI cy av2 av6 H.size ) (cwV 0 hC.2.2.2.2 gX3_readInto_X6_isFaulty rfl rfl rfl (by decide +kernel) ⟨Nat.le_of_ble_eq_true rfl, Nat.le_of_ble_eq_true rfl⟩) rfl 0 rfl rfl hl.1 rfl (Nat.le_of_ble_eq_true rfl) dX3_readInto_87 0 0 ⟨rfl, rfl⟩ ⟨Nat.le_of_ble_eq_true rfl, Nat.le_of_ble_eq_true rfl⟩ (fun r17 u16 H locs hp18 hw => ?_)
  have hw : Wd dC dI A s.heap H locs [(av0, .inr (3, [.ref av2, .ref av1, .int 0])), (av1, .inr (2, [.ref av3, .ref av4, .ref av5, .int 0, .int 1, .int 0])), (av3, .inl (cy 0, 12, .inl (u13.2 0))), (av4, .inl (cy 0, 13, .inl (u13.2 1))), (av2, .inr (6, [.ref av6, .int 0, .int 0, .int 0, .int 1]))] := hw
  obtain rfl : r17 = 1 := hp18
  refine lv_if_ne (tgt := 110) hx hb dX3_readInto_90 (by decide) (fun _ => ?_) (fun c => absurd c (by decide))
  refine lv_aload_n hx hb dX3_readInto_110 rfl (lv_at hl 3 rfl) ?_
  refine wk_get hC hK hw hinX3 0 rfl rfl 0 (by decide) (List.mem_of_getElem? (i := 3) rfl) rfl rfl dX3_readInto_111 ?_
  refine wk_Vi hC hK hw hA [4] [0, 1, 2, 3] rfl rfl rfl rfl (by decide) (c_X6_takeSemicolon_1 l dC dI cy av2 av6 H.size ) (cwV 0 hC.2.2.2.2 gX3_readInto_X6_takeSemicolon rfl rfl rfl (by decide +kernel) ⟨Nat.le_of_ble_eq_true rfl, Nat.le_of_ble_eq_true rfl⟩) rfl 0 rfl rfl hl.1 rfl (Nat.le_of_ble_eq_true rfl) dX3_readInto_114 0 0 ⟨rfl, rfl⟩ ⟨Nat.le_of_ble_eq_true rfl, Nat.le_of_ble_eq_true rfl⟩ (fun r20 u19 H locs hp21 hw => ?_)
  have hw : Wd dC dI A s.heap H locs [(av0, .inr (3, [.ref av2, .ref av1, .int 0])), (av1, .inr (2, [.ref av3, .ref av4, .ref av5, .int 0, .int 1, .int 0])), (av3, .inl (cy 0, 12, .inl (u13.2 0))), (av4, .inl (cy 0, 13, .inl (u13.2 1))), (av2, .inr (6, [.ref av6, .int 0, .int 0, .int 0, .int 1]))] := hw
  obtain rfl : r20 = 0 := hp21
  refine lv_istore_n (lv' := [(2, .int 0), (4, .int (-1)), (3, .int 0), (0, .ref av0), (1, .ref av1)]) hx hb dX3_readInto_117 rfl hl (by decide) rfl (fun ls hl => ?_)
  refine lv_iinc (v := 1) (lv' := [(3, .int 1), (2, .int 0), (4, .int (-1)), (0, .ref av0), (1, .ref av1)]) hx hb dX3_readInto_118 hl (k := 2) rfl (by decide) (by decide) rfl (fun ls hl => ?_)
  refine lv_goto (tgt := 28) hx hb dX3_readInto_121 (by decide) ?_
  refine lv_iload_n hx hb dX3_readInto_28 rfl (lv_at hl 1 rfl) ?_
  refine lv_if_eq (tgt := 124) hx hb dX3_readInto_29 (by decide) (fun _ => ?_) (fun c => absurd (by decide) c)
  exact wk_vret hC hr hlocks hK ((fun _ => 0), (fun k => ([(u13.2 0), (u13.2 1)] : List (Nat → Int32)).getD k (fun _ => 0))) trivial [0, 1, 4, 2, 3] rfl rfl hw dX3_readInto_124

set_option maxHeartbeats 4000000 in
set_option maxRecDepth 100000 in
theorem t_X11_rule (l : Launch) (adK adV : Nat → Nat) (dC : Nat → ClassId) (dI : Nat → Nat → Nat) (cy : Nat → ClassId) (av0 : Nat) (ad : Nat → Nat) (sz : Nat)  : Met l yX11_rule wsX11_rule ({ frames := 7, cells := 0, slots := 0, locals := 192 }) (va_Pc [.ref av0] (wpreS adK adV dC dI cy sz [(av0, .inr (11, [.ref (ad 0), .ref (ad 1), .ref (ad 2), .ref (ad 3), .ref (ad 4), .ref (ad 5), .ref (ad 6), .ref (ad 7), .ref (ad 8), .ref (ad 9), .ref (ad 10), .ref (ad 11), .int 0])), ((ad 0), .inr (6, [.ref (ad 12), .int 0, .int 0, .int 0, .int 0])), ((ad 2), .inl (cy 4, 6, .inr (.inr (.inr (.inr (va_up (va_up (va_up (va_up (va_up (va_up (fun _ => none) 0 (some (ad 21))) 1 (some (ad 22))) 2 (some (ad 23))) 3 (some (ad 24))) 4 (some (ad 25))) 5 (some (ad 26)))))))), ((ad 3), .inr (3, [.ref (ad 0), .null, .int 0])), ((ad 21), .inr (2, [.ref (ad 50), .ref (ad 51), .ref (ad 52), .int 0, .int 0, .int 0])), ((ad 50), .inl (cy 0, 12, .inl (fun _ => 0))), ((ad 51), .inl (cy 0, 13, .inl (fun _ => 0)))])) (va_Qi (fun (r : Int32) (_ : ((Nat → Nat) × (Nat → Nat → Int32))) => r = (-3)) (fun u => wpost dC dI cy (va_A [(av0, .inr (11, [.ref (ad 0), .ref (ad 1), .ref (ad 2), .ref (ad 3), .ref (ad 4), .ref (ad 5), .ref (ad 6), .ref (ad 7), .ref (ad 8), .ref (ad 9), .ref (ad 10), .ref (ad 11), .int 0])), ((ad 0), .inr (6, [.ref (ad 12), .int 0, .int 0, .int 0, .int 0])), ((ad 2), .inl (cy 4, 6, .inr (.inr (.inr (.inr (va_up (va_up (va_up (va_up (va_up (va_up (fun _ => none) 0 (some (ad 21))) 1 (some (ad 22))) 2 (some (ad 23))) 3 (some (ad 24))) 4 (some (ad 25))) 5 (some (ad 26)))))))), ((ad 3), .inr (3, [.ref (ad 0), .null, .int 0])), ((ad 21), .inr (2, [.ref (ad 50), .ref (ad 51), .ref (ad 52), .int 0, .int 0, .int 0])), ((ad 50), .inl (cy 0, 12, .inl (fun _ => 0))), ((ad 51), .inl (cy 0, 13, .inl (fun _ => 0)))] sz) [(av0, .inr (11, [.ref (ad 0), .ref (ad 1), .ref (ad 2), .ref (ad 3), .ref (ad 4), .ref (ad 5), .ref (ad 6), .ref (ad 7), .ref (ad 8), .ref (ad 9), .ref (ad 10), .ref (ad 11), .int 0])), ((ad 0), .inr (6, [.ref (ad 12), .int 0, .int 0, .int 0, .int 1])), ((ad 2), .inl (cy 4, 6, .inr (.inr (.inr (.inr (va_up (va_up (va_up (va_up (va_up (va_up (fun _ => none) 0 (some (ad 21))) 1 (some (ad 22))) 2 (some (ad 23))) 3 (some (ad 24))) 4 (some (ad 25))) 5 (some (ad 26)))))))), ((ad 3), .inr (3, [.ref (ad 0), .ref (ad 21), .int 0])), ((ad 21), .inr (2, [.ref (ad 50), .ref (ad 51), .ref (ad 52), .int 0, .int 1, .int 0])), ((ad 50), .inl (cy 0, 12, .inl (u.2 0))), ((ad 51), .inl (cy 0, 13, .inl (u.2 1)))]) (va_A [(av0, .inr (11, [.ref (ad 0), .ref (ad 1), .ref (ad 2), .ref (ad 3), .ref (ad 4), .ref (ad 5), .ref (ad 6), .ref (ad 7), .ref (ad 8), .ref (ad 9), .ref (ad 10), .ref (ad 11), .int 0])), ((ad 0), .inr (6, [.ref (ad 12), .int 0, .int 0, .int 0, .int 0])), ((ad 2), .inl (cy 4, 6, .inr (.inr (.inr (.inr (va_up (va_up (va_up (va_up (va_up (va_up (fun _ => none) 0 (some (ad 21))) 1 (some (ad 22))) 2 (some (ad 23))) 3 (some (ad 24))) 4 (some (ad 25))) 5 (some (ad 26)))))))), ((ad 3), .inr (3, [.ref (ad 0), .null, .int 0])), ((ad 21), .inr (2, [.ref (ad 50), .ref (ad 51), .ref (ad 52), .int 0, .int 0, .int 0])), ((ad 50), .inl (cy 0, 12, .inl (fun _ => 0))), ((ad 51), .inl (cy 0, 13, .inl (fun _ => 0)))] sz)) 0 0 (va_A [(av0, .inr (11, [.ref (ad 0), .ref (ad 1), .ref (ad 2), .ref (ad 3), .ref (ad 4), .ref (ad 5), .ref (ad 6), .ref (ad 7), .ref (ad 8), .ref (ad 9), .ref (ad 10), .ref (ad 11), .int 0])), ((ad 0), .inr (6, [.ref (ad 12), .int 0, .int 0, .int 0, .int 0])), ((ad 2), .inl (cy 4, 6, .inr (.inr (.inr (.inr (va_up (va_up (va_up (va_up (va_up (va_up (fun _ => none) 0 (some (ad 21))) 1 (some (ad 22))) 2 (some (ad 23))) 3 (some (ad 24))) 4 (some (ad 25))) 5 (some (ad 26)))))))), ((ad 3), .inr (3, [.ref (ad 0), .null, .int 0])), ((ad 21), .inr (2, [.ref (ad 50), .ref (ad 51), .ref (ad 52), .int 0, .int 0, .int 0])), ((ad 50), .inl (cy 0, 12, .inl (fun _ => 0))), ((ad 51), .inl (cy 0, 13, .inl (fun _ => 0)))] sz) := by
  refine Met.ofW (cc := cX11_rule) (maxL := 2) (ret := (some .int)) (by decide) rfl ?_
  intro p e s m args below meth c s₁ B hml hv
  obtain ⟨rfl, ⟨hsz, hP, hK, hD0⟩, hE, hSR⟩ := hv
  have hx := B.exec
  have hb := B.bytes
  have hr := B.returns
  have hlocks := B.notSynchronized
  have hC : CallFix p m c cX11_rule 2 s _ wsX11_rule RX11 := ⟨hx, hb, hml, findClass_of_methodNamed B.named, atoms_spec (ws := wsX11_rule) B.pre⟩
  subst hsz
  have hD := hD0.self (sz := s.heap.size)
  generalize hAe : va_A [(av0, .inr (11, [.ref (ad 0), .ref (ad 1), .ref (ad 2), .ref (ad 3), .ref (ad 4), .ref (ad 5), .ref (ad 6), .ref (ad 7), .ref (ad 8), .ref (ad 9), .ref (ad 10), .ref (ad 11), .int 0])), ((ad 0), .inr (6, [.ref (ad 12), .int 0, .int 0, .int 0, .int 0])), ((ad 2), .inl (cy 4, 6, .inr (.inr (.inr (.inr (va_up (va_up (va_up (va_up (va_up (va_up (fun _ => none) 0 (some (ad 21))) 1 (some (ad 22))) 2 (some (ad 23))) 3 (some (ad 24))) 4 (some (ad 25))) 5 (some (ad 26)))))))), ((ad 3), .inr (3, [.ref (ad 0), .null, .int 0])), ((ad 21), .inr (2, [.ref (ad 50), .ref (ad 51), .ref (ad 52), .int 0, .int 0, .int 0])), ((ad 50), .inl (cy 0, 12, .inl (fun _ => 0))), ((ad 51), .inl (cy 0, 13, .inl (fun _ => 0)))] s.heap.size = A at hD hE ⊢
  have hA : ∀ q : Nat, s.heap.size ≤ q → A q := fun q h => by rw [← hAe]; exact Or.inr h
  have hw : Wd dC dI A s.heap s.heap [] [(av0, .inr (11, [.ref (ad 0), .ref (ad 1), .ref (ad 2), .ref (ad 3), .ref (ad 4), .ref (ad 5), .ref (ad 6), .ref (ad 7), .ref (ad 8), .ref (ad 9), .ref (ad 10), .ref (ad 11), .int 0])), ((ad 0), .inr (6, [.ref (ad 12), .int 0, .int 0, .int 0, .int 0])), ((ad 2), .inl (cy 4, 6, .inr (.inr (.inr (.inr (va_up (va_up (va_up (va_up (va_up (va_up (fun _ => none) 0 (some (ad 21))) 1 (some (ad 22))) 2 (some (ad 23))) 3 (some (ad 24))) 4 (some (ad 25))) 5 (some (ad 26)))))))), ((ad 3), .inr (3, [.ref (ad 0), .null, .int 0])), ((ad 21), .inr (2, [.ref (ad 50), .ref (ad 51), .ref (ad 52), .int 0, .int 0, .int 0])), ((ad 50), .inl (cy 0, 12, .inl (fun _ => 0))), ((ad 51), .inl (cy 0, 13, .inl (fun _ => 0)))] := ⟨hP, hD, va_S.rf⟩
  have hl := lv_entry ([.ref av0]) (n := 2) (Nat.le_of_ble_eq_true rfl)
  rw [lg_entry_eq]
  generalize (lg_sl ([.ref av0]) ++ List.replicate (2 - (lg_sl ([.ref av0])).length) Slot.unset).toArray = ls at hl ⊢
  have hl : lv_has ls 2 [(0, .ref av0)] := hl
  have hinX11 : ∀ w ∈ u_ws RX11 TX11 13, w ∈ wsX11_rule := fun _ h => List.mem_cons_of_mem _ (List.mem_append_left _ (List.mem_append_left _ (List.mem_append_left _ (List.mem_append_right _ (h)))))
  have hinX6 : ∀ w ∈ u_ws RX6 TX6 5, w ∈ wsX11_rule := fun _ h => List.mem_cons_of_mem _ (List.mem_append_left _ (List.mem_append_left _ (List.mem_append_right _ (h))))
  refine lv_aload_n hx hb dX11_rule_0 rfl (lv_at hl 0 rfl) ?_
  refine wk_get hC hK hw hinX11 0 rfl rfl 12 (by decide) (List.mem_of_getElem? (i := 1) rfl) rfl rfl dX11_rule_1 ?_
  refine lv_bipush (v := 6) hx hb dX11_rule_4 (by decide) ?_
  refine lv_icmp_lt (tgt := 11) hx hb dX11_rule_6 (by decide) (fun _ => ?_) (fun c => absurd (by decide) c)
  refine lv_aload_n hx hb dX11_rule_11 rfl (lv_at hl 0 rfl) ?_
  refine wk_get hC hK hw hinX11 0 rfl rfl 3 (by decide) (List.mem_of_getElem? (i := 2) rfl) rfl rfl dX11_rule_12 ?_
  refine lv_aload_n hx hb dX11_rule_15 rfl (lv_at hl 0 rfl) ?_
  refine wk_get hC hK hw hinX11 0 rfl rfl 2 (by decide) (List.mem_of_getElem? (i := 3) rfl) rfl rfl dX11_rule_16 ?_
  refine lv_aload_n hx hb dX11_rule_19 rfl (lv_at hl 0 rfl) ?_
  refine wk_get hC hK hw hinX11 0 rfl rfl 12 (by decide) (List.mem_of_getElem? (i := 1) rfl) rfl rfl dX11_rule_20 ?_
  refine wk_aald 4 hC hK hw 2 rfl rfl (show ¬ ((0 : Int32) < 0 ∨ 6 ≤ (0 : Int32).toNatClampNeg) by decide) dX11_rule_23 ?_
  refine wk_topv (.ref (ad 21)) rfl ?_
  refine wk_VvS hC hK hw hA hE hSR [3, 4, 1, 5, 6] [0, 2] rfl rfl rfl rfl (by decide) (c_X3_readInto_1 l adK adV dC dI cy (ad 3) (ad 21) (ad 0) (ad 50) (ad 51) (ad 52) (ad 12) s.heap.size ) (cwV 1 hC.2.2.2.2 gX11_rule_X3_readInto rfl rfl rfl (by decide +kernel) ⟨Nat.le_of_ble_eq_true rfl, Nat.le_of_ble_eq_true rfl⟩) rfl 0 rfl rfl hl.1 rfl (Nat.le_of_ble_eq_true rfl) dX11_rule_24 0 0 ⟨rfl, rfl⟩ ⟨Nat.le_of_ble_eq_true rfl, Nat.le_of_ble_eq_true rfl⟩ (fun u1 H locs hp3 hw => ?_)
  have hw : Wd dC dI A s.heap H locs [(av0, .inr (11, [.ref (ad 0), .ref (ad 1), .ref (ad 2), .ref (ad 3), .ref (ad 4), .ref (ad 5), .ref (ad 6), .ref (ad 7), .ref (ad 8), .ref (ad 9), .ref (ad 10), .ref (ad 11), .int 0])), ((ad 2), .inl (cy 4, 6, .inr (.inr (.inr (.inr (va_up (va_up (va_up (va_up (va_up (va_up (fun _ => none) 0 (some (ad 21))) 1 (some (ad 22))) 2 (some (ad 23))) 3 (some (ad 24))) 4 (some (ad 25))) 5 (some (ad 26)))))))), ((ad 3), .inr (3, [.ref (ad 0), .ref (ad 21), .int 0])), ((ad 21), .inr (2, [.ref (ad 50), .ref (ad 51), .ref (ad 52), .int 0, .int 1, .int 0])), ((ad 0), .inr (6, [.ref (ad 12), .int 0, .int 0, .int 0, .int 1])), ((ad 50), .inl (cy 0, 12, .inl (u1.2 0))), ((ad 51), .inl (cy 0, 13, .inl (u1.2 1)))] := hw
  refine lv_aload_n hx hb dX11_rule_27 rfl (lv_at hl 0 rfl) ?_
  refine wk_get hC hK hw hinX11 0 rfl rfl 0 (by decide) (List.mem_of_getElem? (i := 4) rfl) rfl rfl dX11_rule_28 ?_
  refine wk_get hC hK hw hinX6 4 rfl rfl 4 (by decide) (List.mem_of_getElem? (i := 5) rfl) rfl rfl dX11_rule_31 ?_
  refine lv_istore_n (lv' := [(1, .int 1), (0, .ref av0)]) hx hb dX11_rule_34 rfl hl (by decide) rfl (fun ls hl => ?_)
  refine lv_aload_n hx hb dX11_rule_35 rfl (lv_at hl 1 rfl) ?_
  refine wk_get hC hK hw hinX11 0 rfl rfl 0 (by decide) (List.mem_of_getElem? (i := 4) rfl) rfl rfl dX11_rule_36 ?_
  refine lv_iconst (v := 0) hx hb dX11_rule_39 (by decide) ?_
  refine wk_put hC hK hw hinX6 tyX6_ok nmX6 4 rfl rfl 2 (by decide) (List.mem_of_getElem? (i := 6) rfl) rfl rfl rfl rfl rfl (Nat.le_of_ble_eq_true rfl) dX11_rule_40 (fun H locs hw => ?_)
  have hw : Wd dC dI A s.heap H locs [(av0, .inr (11, [.ref (ad 0), .ref (ad 1), .ref (ad 2), .ref (ad 3), .ref (ad 4), .ref (ad 5), .ref (ad 6), .ref (ad 7), .ref (ad 8), .ref (ad 9), .ref (ad 10), .ref (ad 11), .int 0])), ((ad 2), .inl (cy 4, 6, .inr (.inr (.inr (.inr (va_up (va_up (va_up (va_up (va_up (va_up (fun _ => none) 0 (some (ad 21))) 1 (some (ad 22))) 2 (some (ad 23))) 3 (some (ad 24))) 4 (some (ad 25))) 5 (some (ad 26)))))))), ((ad 3), .inr (3, [.ref (ad 0), .ref (ad 21), .int 0])), ((ad 21), .inr (2, [.ref (ad 50), .ref (ad 51), .ref (ad 52), .int 0, .int 1, .int 0])), ((ad 0), .inr (6, [.ref (ad 12), .int 0, .int 0, .int 0, .int 1])), ((ad 50), .inl (cy 0, 12, .inl (u1.2 0))), ((ad 51), .inl (cy 0, 13, .inl (u1.2 1)))] := hw
  refine lv_iload_n hx hb dX11_rule_43 rfl (lv_at hl 0 rfl) ?_
  refine lv_if_eq (tgt := 52) hx hb dX11_rule_44 (by decide) (fun c => absurd c (by decide)) (fun _ => ?_)
  refine lv_bipush (v := (-2)) hx hb dX11_rule_47 (by decide) ?_
  refine lv_iload_n hx hb dX11_rule_49 rfl (lv_at hl 0 rfl) ?_
  refine lv_isub hx hb dX11_rule_50 ?_
  refine wk_top (-3) (by decide) ?_
  exact wk_iret (v := (-3)) hC hr hlocks hK ((fun _ => 0), (fun k => ([(u1.2 0), (u1.2 1)] : List (Nat → Int32)).getD k (fun _ => 0))) rfl [0, 4, 1, 2, 3, 5, 6] rfl rfl hw dX11_rule_51

set_option maxHeartbeats 4000000 in
set_option maxRecDepth 100000 in
theorem c_X7_hasStreet_1 (l : Launch) (dC : Nat → ClassId) (dI : Nat → Nat → Nat) (cy : Nat → ClassId) (av0 : Nat) (iv0 : Int32) (av1 : Nat) (av2 : Nat) (av3 : Nat) (av4 : Nat) (av5 : Nat) (av6 : Nat) (av7 : Nat) (av8 : Nat) (sz : Nat)  : Met l yX7_hasStreet wsX7_hasStreet ({ frames := 0, cells := 0, slots := 0, locals := 0 }) (va_Pc [.ref av0, .int iv0] (wpre dC dI cy sz [(av0, .inr (7, [.ref av1, .ref av2, .ref av3, .ref av4, .ref av5, .ref av6, .ref av7, .ref av8, .int 0, .int 0, .int 0, .int 0]))])) (va_Qi (fun (r : Int32) (_ : ((Nat → Nat) × (Nat → Nat → Int32))) => r = 0) (fun u => wpost dC dI cy (va_A [(av0, .inr (7, [.ref av1, .ref av2, .ref av3, .ref av4, .ref av5, .ref av6, .ref av7, .ref av8, .int 0, .int 0, .int 0, .int 0]))] sz) [(av0, .inr (7, [.ref av1, .ref av2, .ref av3, .ref av4, .ref av5, .ref av6, .ref av7, .ref av8, .int 0, .int 0, .int 0, .int 0]))]) (va_A [(av0, .inr (7, [.ref av1, .ref av2, .ref av3, .ref av4, .ref av5, .ref av6, .ref av7, .ref av8, .int 0, .int 0, .int 0, .int 0]))] sz)) 0 0 (va_A [(av0, .inr (7, [.ref av1, .ref av2, .ref av3, .ref av4, .ref av5, .ref av6, .ref av7, .ref av8, .int 0, .int 0, .int 0, .int 0]))] sz) := by
  refine Met.ofW (cc := cX7_hasStreet) (maxL := 2) (ret := (some .boolean)) (by decide) rfl ?_
  intro p e s m args below meth c s₁ B hml hv
  obtain ⟨rfl, hsz, hP, hK, hD0⟩ := hv
  have hx := B.exec
  have hb := B.bytes
  have hr := B.returns
  have hlocks := B.notSynchronized
  have hC : CallFix p m c cX7_hasStreet 2 s _ wsX7_hasStreet RX7 := ⟨hx, hb, hml, findClass_of_methodNamed B.named, atoms_spec (ws := wsX7_hasStreet) B.pre⟩
  subst hsz
  have hD := hD0.self (sz := s.heap.size)
  generalize hAe : va_A [(av0, .inr (7, [.ref av1, .ref av2, .ref av3, .ref av4, .ref av5, .ref av6, .ref av7, .ref av8, .int 0, .int 0, .int 0, .int 0]))] s.heap.size = A at hD ⊢
  have hA : ∀ q : Nat, s.heap.size ≤ q → A q := fun q h => by rw [← hAe]; exact Or.inr h
  have hw : Wd dC dI A s.heap s.heap [] [(av0, .inr (7, [.ref av1, .ref av2, .ref av3, .ref av4, .ref av5, .ref av6, .ref av7, .ref av8, .int 0, .int 0, .int 0, .int 0]))] := ⟨hP, hD, va_S.rf⟩
  have hl := lv_entry ([.ref av0, .int iv0]) (n := 2) (Nat.le_of_ble_eq_true rfl)
  rw [lg_entry_eq]
  generalize (lg_sl ([.ref av0, .int iv0]) ++ List.replicate (2 - (lg_sl ([.ref av0, .int iv0])).length) Slot.unset).toArray = ls at hl ⊢
  have hl : lv_has ls 2 [(0, .ref av0), (1, .int iv0)] := hl
  have hinX7 : ∀ w ∈ u_ws RX7 TX7 12, w ∈ wsX7_hasStreet := fun _ h => List.mem_cons_of_mem _ (List.mem_append_right _ (h))
  refine lv_iload_n hx hb dX7_hasStreet_0 rfl (lv_at hl 1 rfl) ?_
  refine lv_if_lt (tgt := 16) hx hb dX7_hasStreet_1 (by decide) (fun c1 => ?_) (fun c1 => ?_)
  · have c1 : iv0.toInt < 0 := wk_lt.mp c1
    refine lv_iconst (v := 0) hx hb dX7_hasStreet_16 (by decide) ?_
    exact wk_zret (v := 0) hC hr rfl hlocks hK ((fun _ => 0), (fun _ _ => 0)) rfl [0] rfl rfl hw dX7_hasStreet_17
  · have c1 : 0 ≤ iv0.toInt := wk_ltF c1
    refine lv_iload_n hx hb dX7_hasStreet_4 rfl (lv_at hl 1 rfl) ?_
    refine lv_aload_n hx hb dX7_hasStreet_5 rfl (lv_at hl 0 rfl) ?_
    refine wk_get hC hK hw hinX7 0 rfl rfl 9 (by decide) (List.mem_of_getElem? (i := 1) rfl) rfl rfl dX7_hasStreet_6 ?_
    refine lv_icmp_ge (tgt := 16) hx hb dX7_hasStreet_9 (by decide) (fun _ => ?_) (fun c => (c (wk_le.mpr (show 0 ≤ iv0.toInt by omega))).elim)
    refine lv_iconst (v := 0) hx hb dX7_hasStreet_16 (by decide) ?_
    exact wk_zret (v := 0) hC hr rfl hlocks hK ((fun _ => 0), (fun _ _ => 0)) rfl [0] rfl rfl hw dX7_hasStreet_17

set_option maxHeartbeats 4000000 in
set_option maxRecDepth 100000 in
theorem t_X11_street (l : Launch) (dC : Nat → ClassId) (dI : Nat → Nat → Nat) (cy : Nat → ClassId) (av0 : Nat) (ad : Nat → Nat) (p0 : Int32) (p1 : Int32) (sz : Nat)  : Met l yX11_street wsX11_street ({ frames := 1, cells := 0, slots := 0, locals := 21 }) (va_Pc [.ref av0, .int p0, .int p1] (wpre dC dI cy sz [(av0, .inr (11, [.ref (ad 0), .ref (ad 1), .ref (ad 2), .ref (ad 3), .ref (ad 4), .ref (ad 5), .ref (ad 6), .ref (ad 7), .ref (ad 8), .ref (ad 9), .ref (ad 10), .ref (ad 11), .int 0])), ((ad 4), .inr (5, [.ref (ad 27), .ref (ad 28), .ref (ad 29), .ref (ad 30), .ref (ad 31), .ref (ad 32), .ref (ad 33), .ref (ad 34), .int 0, .int 0, .int 0, .int 0, .int 0, .int 0])), ((ad 27), .inr (7, [.ref (ad 68), .ref (ad 69), .ref (ad 70), .ref (ad 71), .ref (ad 72), .ref (ad 73), .ref (ad 74), .ref (ad 75), .int 0, .int 0, .int 0, .int 0]))])) (va_Qi (fun (r : Int32) (_ : ((Nat → Nat) × (Nat → Nat → Int32))) => r = (-1)) (fun u => wpost dC dI cy (va_A [(av0, .inr (11, [.ref (ad 0), .ref (ad 1), .ref (ad 2), .ref (ad 3), .ref (ad 4), .ref (ad 5), .ref (ad 6), .ref (ad 7), .ref (ad 8), .ref (ad 9), .ref (ad 10), .ref (ad 11), .int 0])), ((ad 4), .inr (5, [.ref (ad 27), .ref (ad 28), .ref (ad 29), .ref (ad 30), .ref (ad 31), .ref (ad 32), .ref (ad 33), .ref (ad 34), .int 0, .int 0, .int 0, .int 0, .int 0, .int 0])), ((ad 27), .inr (7, [.ref (ad 68), .ref (ad 69), .ref (ad 70), .ref (ad 71), .ref (ad 72), .ref (ad 73), .ref (ad 74), .ref (ad 75), .int 0, .int 0, .int 0, .int 0]))] sz) [(av0, .inr (11, [.ref (ad 0), .ref (ad 1), .ref (ad 2), .ref (ad 3), .ref (ad 4), .ref (ad 5), .ref (ad 6), .ref (ad 7), .ref (ad 8), .ref (ad 9), .ref (ad 10), .ref (ad 11), .int 0])), ((ad 4), .inr (5, [.ref (ad 27), .ref (ad 28), .ref (ad 29), .ref (ad 30), .ref (ad 31), .ref (ad 32), .ref (ad 33), .ref (ad 34), .int 0, .int 0, .int 0, .int 0, .int 0, .int 0])), ((ad 27), .inr (7, [.ref (ad 68), .ref (ad 69), .ref (ad 70), .ref (ad 71), .ref (ad 72), .ref (ad 73), .ref (ad 74), .ref (ad 75), .int 0, .int 0, .int 0, .int 0]))]) (va_A [(av0, .inr (11, [.ref (ad 0), .ref (ad 1), .ref (ad 2), .ref (ad 3), .ref (ad 4), .ref (ad 5), .ref (ad 6), .ref (ad 7), .ref (ad 8), .ref (ad 9), .ref (ad 10), .ref (ad 11), .int 0])), ((ad 4), .inr (5, [.ref (ad 27), .ref (ad 28), .ref (ad 29), .ref (ad 30), .ref (ad 31), .ref (ad 32), .ref (ad 33), .ref (ad 34), .int 0, .int 0, .int 0, .int 0, .int 0, .int 0])), ((ad 27), .inr (7, [.ref (ad 68), .ref (ad 69), .ref (ad 70), .ref (ad 71), .ref (ad 72), .ref (ad 73), .ref (ad 74), .ref (ad 75), .int 0, .int 0, .int 0, .int 0]))] sz)) 0 0 (va_A [(av0, .inr (11, [.ref (ad 0), .ref (ad 1), .ref (ad 2), .ref (ad 3), .ref (ad 4), .ref (ad 5), .ref (ad 6), .ref (ad 7), .ref (ad 8), .ref (ad 9), .ref (ad 10), .ref (ad 11), .int 0])), ((ad 4), .inr (5, [.ref (ad 27), .ref (ad 28), .ref (ad 29), .ref (ad 30), .ref (ad 31), .ref (ad 32), .ref (ad 33), .ref (ad 34), .int 0, .int 0, .int 0, .int 0, .int 0, .int 0])), ((ad 27), .inr (7, [.ref (ad 68), .ref (ad 69), .ref (ad 70), .ref (ad 71), .ref (ad 72), .ref (ad 73), .ref (ad 74), .ref (ad 75), .int 0, .int 0, .int 0, .int 0]))] sz) := by
  refine Met.ofW (cc := cX11_street) (maxL := 4) (ret := (some .int)) (by decide) rfl ?_
  intro p e s m args below meth c s₁ B hml hv
  obtain ⟨rfl, hsz, hP, hK, hD0⟩ := hv
  have hx := B.exec
  have hb := B.bytes
  have hr := B.returns
  have hlocks := B.notSynchronized
  have hC : CallFix p m c cX11_street 4 s _ wsX11_street RX11 := ⟨hx, hb, hml, findClass_of_methodNamed B.named, atoms_spec (ws := wsX11_street) B.pre⟩
  subst hsz
  have hD := hD0.self (sz := s.heap.size)
  generalize hAe : va_A [(av0, .inr (11, [.ref (ad 0), .ref (ad 1), .ref (ad 2), .ref (ad 3), .ref (ad 4), .ref (ad 5), .ref (ad 6), .ref (ad 7), .ref (ad 8), .ref (ad 9), .ref (ad 10), .ref (ad 11), .int 0])), ((ad 4), .inr (5, [.ref (ad 27), .ref (ad 28), .ref (ad 29), .ref (ad 30), .ref (ad 31), .ref (ad 32), .ref (ad 33), .ref (ad 34), .int 0, .int 0, .int 0, .int 0, .int 0, .int 0])), ((ad 27), .inr (7, [.ref (ad 68), .ref (ad 69), .ref (ad 70), .ref (ad 71), .ref (ad 72), .ref (ad 73), .ref (ad 74), .ref (ad 75), .int 0, .int 0, .int 0, .int 0]))] s.heap.size = A at hD ⊢
  have hA : ∀ q : Nat, s.heap.size ≤ q → A q := fun q h => by rw [← hAe]; exact Or.inr h
  have hw : Wd dC dI A s.heap s.heap [] [(av0, .inr (11, [.ref (ad 0), .ref (ad 1), .ref (ad 2), .ref (ad 3), .ref (ad 4), .ref (ad 5), .ref (ad 6), .ref (ad 7), .ref (ad 8), .ref (ad 9), .ref (ad 10), .ref (ad 11), .int 0])), ((ad 4), .inr (5, [.ref (ad 27), .ref (ad 28), .ref (ad 29), .ref (ad 30), .ref (ad 31), .ref (ad 32), .ref (ad 33), .ref (ad 34), .int 0, .int 0, .int 0, .int 0, .int 0, .int 0])), ((ad 27), .inr (7, [.ref (ad 68), .ref (ad 69), .ref (ad 70), .ref (ad 71), .ref (ad 72), .ref (ad 73), .ref (ad 74), .ref (ad 75), .int 0, .int 0, .int 0, .int 0]))] := ⟨hP, hD, va_S.rf⟩
  have hl := lv_entry ([.ref av0, .int p0, .int p1]) (n := 4) (Nat.le_of_ble_eq_true rfl)
  rw [lg_entry_eq]
  generalize (lg_sl ([.ref av0, .int p0, .int p1]) ++ List.replicate (4 - (lg_sl ([.ref av0, .int p0, .int p1])).length) Slot.unset).toArray = ls at hl ⊢
  have hl : lv_has ls 4 [(0, .ref av0), (1, .int p0), (2, .int p1)] := hl
  have hinX11 : ∀ w ∈ u_ws RX11 TX11 13, w ∈ wsX11_street := fun _ h => List.mem_cons_of_mem _ (List.mem_append_left _ (List.mem_append_left _ (List.mem_append_right _ (h))))
  have hinX5 : ∀ w ∈ u_ws RX5 TX5 14, w ∈ wsX11_street := fun _ h => List.mem_cons_of_mem _ (List.mem_append_left _ (List.mem_append_right _ (h)))
  refine lv_aload_n hx hb dX11_street_0 rfl (lv_at hl 0 rfl) ?_
  refine wk_get hC hK hw hinX11 0 rfl rfl 4 (by decide) (List.mem_of_getElem? (i := 1) rfl) rfl rfl dX11_street_1 ?_
  refine wk_get hC hK hw hinX5 1 rfl rfl 0 (by decide) (List.mem_of_getElem? (i := 2) rfl) rfl rfl dX11_street_4 ?_
  refine lv_astore_n (lv' := [(3, .ref (ad 27)), (0, .ref av0), (1, .int p0), (2, .int p1)]) hx hb dX11_street_7 rfl hl (by decide) rfl (fun ls hl => ?_)
  refine lv_aload_n hx hb dX11_street_8 rfl (lv_at hl 0 rfl) ?_
  refine lv_iload_n hx hb dX11_street_9 rfl (lv_at hl 2 rfl) ?_
  refine wk_Vi hC hK hw hA [2] [0, 1] rfl rfl rfl rfl (by decide) (c_X7_hasStreet_1 l dC dI cy (ad 27) p0 (ad 68) (ad 69) (ad 70) (ad 71) (ad 72) (ad 73) (ad 74) (ad 75) s.heap.size ) (cwV 1 hC.2.2.2.2 gX11_street_X7_hasStreet rfl rfl rfl (by decide +kernel) ⟨Nat.le_of_ble_eq_true rfl, Nat.le_of_ble_eq_true rfl⟩) rfl 0 rfl rfl hl.1 rfl (Nat.le_of_ble_eq_true rfl) dX11_street_10 0 0 ⟨rfl, rfl⟩ ⟨Nat.le_of_ble_eq_true rfl, Nat.le_of_ble_eq_true rfl⟩ (fun r2 u1 H locs hp3 hw => ?_)
  have hw : Wd dC dI A s.heap H locs [(av0, .inr (11, [.ref (ad 0), .ref (ad 1), .ref (ad 2), .ref (ad 3), .ref (ad 4), .ref (ad 5), .ref (ad 6), .ref (ad 7), .ref (ad 8), .ref (ad 9), .ref (ad 10), .ref (ad 11), .int 0])), ((ad 4), .inr (5, [.ref (ad 27), .ref (ad 28), .ref (ad 29), .ref (ad 30), .ref (ad 31), .ref (ad 32), .ref (ad 33), .ref (ad 34), .int 0, .int 0, .int 0, .int 0, .int 0, .int 0])), ((ad 27), .inr (7, [.ref (ad 68), .ref (ad 69), .ref (ad 70), .ref (ad 71), .ref (ad 72), .ref (ad 73), .ref (ad 74), .ref (ad 75), .int 0, .int 0, .int 0, .int 0]))] := hw
  obtain rfl : r2 = 0 := hp3
  refine lv_if_eq (tgt := 26) hx hb dX11_street_13 (by decide) (fun _ => ?_) (fun c => absurd (by decide) c)
  refine lv_iconst (v := (-1)) hx hb dX11_street_26 (by decide) ?_
  exact wk_iret (v := (-1)) hC hr hlocks hK ((fun _ => 0), (fun _ _ => 0)) rfl [0, 1, 2] rfl rfl hw dX11_street_27

set_option maxHeartbeats 4000000 in
set_option maxRecDepth 100000 in
theorem t_X11_open (l : Launch) (dC : Nat → ClassId) (dI : Nat → Nat → Nat) (cy : Nat → ClassId) (av0 : Nat) (ad : Nat → Nat) (p0 : Int32) (p1 : Int32) (p2 : Int32) (sz : Nat)  : Met l yX11_open wsX11_open ({ frames := 1, cells := 0, slots := 0, locals := 21 }) (va_Pc [.ref av0, .int p0, .int p1, .int p2] (wpre dC dI cy sz [(av0, .inr (11, [.ref (ad 0), .ref (ad 1), .ref (ad 2), .ref (ad 3), .ref (ad 4), .ref (ad 5), .ref (ad 6), .ref (ad 7), .ref (ad 8), .ref (ad 9), .ref (ad 10), .ref (ad 11), .int 0])), ((ad 4), .inr (5, [.ref (ad 27), .ref (ad 28), .ref (ad 29), .ref (ad 30), .ref (ad 31), .ref (ad 32), .ref (ad 33), .ref (ad 34), .int 0, .int 0, .int 0, .int 0, .int 0, .int 0])), ((ad 27), .inr (7, [.ref (ad 68), .ref (ad 69), .ref (ad 70), .ref (ad 71), .ref (ad 72), .ref (ad 73), .ref (ad 74), .ref (ad 75), .int 0, .int 0, .int 0, .int 0]))])) (va_Qi (fun (r : Int32) (_ : ((Nat → Nat) × (Nat → Nat → Int32))) => r = (-1)) (fun u => wpost dC dI cy (va_A [(av0, .inr (11, [.ref (ad 0), .ref (ad 1), .ref (ad 2), .ref (ad 3), .ref (ad 4), .ref (ad 5), .ref (ad 6), .ref (ad 7), .ref (ad 8), .ref (ad 9), .ref (ad 10), .ref (ad 11), .int 0])), ((ad 4), .inr (5, [.ref (ad 27), .ref (ad 28), .ref (ad 29), .ref (ad 30), .ref (ad 31), .ref (ad 32), .ref (ad 33), .ref (ad 34), .int 0, .int 0, .int 0, .int 0, .int 0, .int 0])), ((ad 27), .inr (7, [.ref (ad 68), .ref (ad 69), .ref (ad 70), .ref (ad 71), .ref (ad 72), .ref (ad 73), .ref (ad 74), .ref (ad 75), .int 0, .int 0, .int 0, .int 0]))] sz) [(av0, .inr (11, [.ref (ad 0), .ref (ad 1), .ref (ad 2), .ref (ad 3), .ref (ad 4), .ref (ad 5), .ref (ad 6), .ref (ad 7), .ref (ad 8), .ref (ad 9), .ref (ad 10), .ref (ad 11), .int 0])), ((ad 4), .inr (5, [.ref (ad 27), .ref (ad 28), .ref (ad 29), .ref (ad 30), .ref (ad 31), .ref (ad 32), .ref (ad 33), .ref (ad 34), .int 0, .int 0, .int 0, .int 0, .int 0, .int 0])), ((ad 27), .inr (7, [.ref (ad 68), .ref (ad 69), .ref (ad 70), .ref (ad 71), .ref (ad 72), .ref (ad 73), .ref (ad 74), .ref (ad 75), .int 0, .int 0, .int 0, .int 0]))]) (va_A [(av0, .inr (11, [.ref (ad 0), .ref (ad 1), .ref (ad 2), .ref (ad 3), .ref (ad 4), .ref (ad 5), .ref (ad 6), .ref (ad 7), .ref (ad 8), .ref (ad 9), .ref (ad 10), .ref (ad 11), .int 0])), ((ad 4), .inr (5, [.ref (ad 27), .ref (ad 28), .ref (ad 29), .ref (ad 30), .ref (ad 31), .ref (ad 32), .ref (ad 33), .ref (ad 34), .int 0, .int 0, .int 0, .int 0, .int 0, .int 0])), ((ad 27), .inr (7, [.ref (ad 68), .ref (ad 69), .ref (ad 70), .ref (ad 71), .ref (ad 72), .ref (ad 73), .ref (ad 74), .ref (ad 75), .int 0, .int 0, .int 0, .int 0]))] sz)) 0 0 (va_A [(av0, .inr (11, [.ref (ad 0), .ref (ad 1), .ref (ad 2), .ref (ad 3), .ref (ad 4), .ref (ad 5), .ref (ad 6), .ref (ad 7), .ref (ad 8), .ref (ad 9), .ref (ad 10), .ref (ad 11), .int 0])), ((ad 4), .inr (5, [.ref (ad 27), .ref (ad 28), .ref (ad 29), .ref (ad 30), .ref (ad 31), .ref (ad 32), .ref (ad 33), .ref (ad 34), .int 0, .int 0, .int 0, .int 0, .int 0, .int 0])), ((ad 27), .inr (7, [.ref (ad 68), .ref (ad 69), .ref (ad 70), .ref (ad 71), .ref (ad 72), .ref (ad 73), .ref (ad 74), .ref (ad 75), .int 0, .int 0, .int 0, .int 0]))] sz) := by
  refine Met.ofW (cc := cX11_open) (maxL := 6) (ret := (some .int)) (by decide) rfl ?_
  intro p e s m args below meth c s₁ B hml hv
  obtain ⟨rfl, hsz, hP, hK, hD0⟩ := hv
  have hx := B.exec
  have hb := B.bytes
  have hr := B.returns
  have hlocks := B.notSynchronized
  have hC : CallFix p m c cX11_open 6 s _ wsX11_open RX11 := ⟨hx, hb, hml, findClass_of_methodNamed B.named, atoms_spec (ws := wsX11_open) B.pre⟩
  subst hsz
  have hD := hD0.self (sz := s.heap.size)
  generalize hAe : va_A [(av0, .inr (11, [.ref (ad 0), .ref (ad 1), .ref (ad 2), .ref (ad 3), .ref (ad 4), .ref (ad 5), .ref (ad 6), .ref (ad 7), .ref (ad 8), .ref (ad 9), .ref (ad 10), .ref (ad 11), .int 0])), ((ad 4), .inr (5, [.ref (ad 27), .ref (ad 28), .ref (ad 29), .ref (ad 30), .ref (ad 31), .ref (ad 32), .ref (ad 33), .ref (ad 34), .int 0, .int 0, .int 0, .int 0, .int 0, .int 0])), ((ad 27), .inr (7, [.ref (ad 68), .ref (ad 69), .ref (ad 70), .ref (ad 71), .ref (ad 72), .ref (ad 73), .ref (ad 74), .ref (ad 75), .int 0, .int 0, .int 0, .int 0]))] s.heap.size = A at hD ⊢
  have hA : ∀ q : Nat, s.heap.size ≤ q → A q := fun q h => by rw [← hAe]; exact Or.inr h
  have hw : Wd dC dI A s.heap s.heap [] [(av0, .inr (11, [.ref (ad 0), .ref (ad 1), .ref (ad 2), .ref (ad 3), .ref (ad 4), .ref (ad 5), .ref (ad 6), .ref (ad 7), .ref (ad 8), .ref (ad 9), .ref (ad 10), .ref (ad 11), .int 0])), ((ad 4), .inr (5, [.ref (ad 27), .ref (ad 28), .ref (ad 29), .ref (ad 30), .ref (ad 31), .ref (ad 32), .ref (ad 33), .ref (ad 34), .int 0, .int 0, .int 0, .int 0, .int 0, .int 0])), ((ad 27), .inr (7, [.ref (ad 68), .ref (ad 69), .ref (ad 70), .ref (ad 71), .ref (ad 72), .ref (ad 73), .ref (ad 74), .ref (ad 75), .int 0, .int 0, .int 0, .int 0]))] := ⟨hP, hD, va_S.rf⟩
  have hl := lv_entry ([.ref av0, .int p0, .int p1, .int p2]) (n := 6) (Nat.le_of_ble_eq_true rfl)
  rw [lg_entry_eq]
  generalize (lg_sl ([.ref av0, .int p0, .int p1, .int p2]) ++ List.replicate (6 - (lg_sl ([.ref av0, .int p0, .int p1, .int p2])).length) Slot.unset).toArray = ls at hl ⊢
  have hl : lv_has ls 6 [(0, .ref av0), (1, .int p0), (2, .int p1), (3, .int p2)] := hl
  have hinX11 : ∀ w ∈ u_ws RX11 TX11 13, w ∈ wsX11_open := fun _ h => List.mem_cons_of_mem _ (List.mem_append_left _ (List.mem_append_left _ (List.mem_append_right _ (h))))
  have hinX5 : ∀ w ∈ u_ws RX5 TX5 14, w ∈ wsX11_open := fun _ h => List.mem_cons_of_mem _ (List.mem_append_left _ (List.mem_append_right _ (h)))
  refine lv_aload_n hx hb dX11_open_0 rfl (lv_at hl 0 rfl) ?_
  refine wk_get hC hK hw hinX11 0 rfl rfl 4 (by decide) (List.mem_of_getElem? (i := 1) rfl) rfl rfl dX11_open_1 ?_
  refine wk_get hC hK hw hinX5 1 rfl rfl 0 (by decide) (List.mem_of_getElem? (i := 2) rfl) rfl rfl dX11_open_4 ?_
  refine lv_astore (lv' := [(4, .ref (ad 27)), (0, .ref av0), (1, .int p0), (2, .int p1), (3, .int p2)]) hx hb dX11_open_7 hl (by decide) rfl (fun ls hl => ?_)
  refine lv_aload hx hb dX11_open_9 (lv_at hl 0 rfl) ?_
  refine lv_iload_n hx hb dX11_open_11 rfl (lv_at hl 2 rfl) ?_
  refine wk_Vi hC hK hw hA [2] [0, 1] rfl rfl rfl rfl (by decide) (c_X7_hasStreet_1 l dC dI cy (ad 27) p0 (ad 68) (ad 69) (ad 70) (ad 71) (ad 72) (ad 73) (ad 74) (ad 75) s.heap.size ) (cwV 1 hC.2.2.2.2 gX11_open_X7_hasStreet rfl rfl rfl (by decide +kernel) ⟨Nat.le_of_ble_eq_true rfl, Nat.le_of_ble_eq_true rfl⟩) rfl 0 rfl rfl hl.1 rfl (Nat.le_of_ble_eq_true rfl) dX11_open_12 0 0 ⟨rfl, rfl⟩ ⟨Nat.le_of_ble_eq_true rfl, Nat.le_of_ble_eq_true rfl⟩ (fun r2 u1 H locs hp3 hw => ?_)
  have hw : Wd dC dI A s.heap H locs [(av0, .inr (11, [.ref (ad 0), .ref (ad 1), .ref (ad 2), .ref (ad 3), .ref (ad 4), .ref (ad 5), .ref (ad 6), .ref (ad 7), .ref (ad 8), .ref (ad 9), .ref (ad 10), .ref (ad 11), .int 0])), ((ad 4), .inr (5, [.ref (ad 27), .ref (ad 28), .ref (ad 29), .ref (ad 30), .ref (ad 31), .ref (ad 32), .ref (ad 33), .ref (ad 34), .int 0, .int 0, .int 0, .int 0, .int 0, .int 0])), ((ad 27), .inr (7, [.ref (ad 68), .ref (ad 69), .ref (ad 70), .ref (ad 71), .ref (ad 72), .ref (ad 73), .ref (ad 74), .ref (ad 75), .int 0, .int 0, .int 0, .int 0]))] := hw
  obtain rfl : r2 = 0 := hp3
  refine lv_if_eq (tgt := 22) hx hb dX11_open_15 (by decide) (fun _ => ?_) (fun c => absurd (by decide) c)
  refine lv_iconst (v := (-1)) hx hb dX11_open_22 (by decide) ?_
  exact wk_iret (v := (-1)) hC hr hlocks hK ((fun _ => 0), (fun _ _ => 0)) rfl [0, 1, 2] rfl rfl hw dX11_open_23

set_option maxHeartbeats 4000000 in
set_option maxRecDepth 100000 in
theorem c_X11_isWeekday_1 (l : Launch) (dC : Nat → ClassId) (dI : Nat → Nat → Nat) (cy : Nat → ClassId) (iv0 : Int32) (sz : Nat)  : Met l yX11_isWeekday wsX11_isWeekday ({ frames := 0, cells := 0, slots := 0, locals := 0 }) (va_Pc [.int iv0] (wpre dC dI cy sz [])) (va_Qi (fun (_ : Int32) (_ : ((Nat → Nat) × (Nat → Nat → Int32))) => True) (fun u => wpost dC dI cy (va_A [] sz) []) (va_A [] sz)) 0 0 (va_A [] sz) := by
  refine Met.ofW (cc := cX11_isWeekday) (maxL := 1) (ret := (some .boolean)) (by decide) rfl ?_
  intro p e s m args below meth c s₁ B hml hv
  obtain ⟨rfl, hsz, hP, hK, hD0⟩ := hv
  have hx := B.exec
  have hb := B.bytes
  have hr := B.returns
  have hlocks := B.notSynchronized
  have hC : CallFix p m c cX11_isWeekday 1 s _ wsX11_isWeekday RX11 := ⟨hx, hb, hml, findClass_of_methodNamed B.named, atoms_spec (ws := wsX11_isWeekday) B.pre⟩
  subst hsz
  have hD := hD0.self (sz := s.heap.size)
  generalize hAe : va_A [] s.heap.size = A at hD ⊢
  have hA : ∀ q : Nat, s.heap.size ≤ q → A q := fun q h => by rw [← hAe]; exact Or.inr h
  have hw : Wd dC dI A s.heap s.heap [] [] := ⟨hP, hD, va_S.rf⟩
  have hl := lv_entry ([.int iv0]) (n := 1) (Nat.le_of_ble_eq_true rfl)
  rw [lg_entry_eq]
  generalize (lg_sl ([.int iv0]) ++ List.replicate (1 - (lg_sl ([.int iv0])).length) Slot.unset).toArray = ls at hl ⊢
  have hl : lv_has ls 1 [(0, .int iv0)] := hl
  refine lv_iload_n hx hb dX11_isWeekday_0 rfl (lv_at hl 0 rfl) ?_
  refine lv_if_lt (tgt := 14) hx hb dX11_isWeekday_1 (by decide) (fun c1 => ?_) (fun c1 => ?_)
  · have c1 : iv0.toInt < 0 := wk_lt.mp c1
    refine lv_iconst (v := 0) hx hb dX11_isWeekday_14 (by decide) ?_
    exact wk_zret (v := 0) hC hr rfl hlocks hK ((fun _ => 0), (fun _ _ => 0)) trivial [] rfl rfl hw dX11_isWeekday_15
  · have c1 : 0 ≤ iv0.toInt := wk_ltF c1
    refine lv_iload_n hx hb dX11_isWeekday_4 rfl (lv_at hl 0 rfl) ?_
    refine lv_bipush (v := 7) hx hb dX11_isWeekday_5 (by decide) ?_
    refine lv_icmp_ge (tgt := 14) hx hb dX11_isWeekday_7 (by decide) (fun c2 => ?_) (fun c2 => ?_)
    · have c2 : 7 ≤ iv0.toInt := wk_le.mp c2
      refine lv_iconst (v := 0) hx hb dX11_isWeekday_14 (by decide) ?_
      exact wk_zret (v := 0) hC hr rfl hlocks hK ((fun _ => 0), (fun _ _ => 0)) trivial [] rfl rfl hw dX11_isWeekday_15
    · have c2 : iv0.toInt < 7 := wk_leF c2
      refine lv_iconst (v := 1) hx hb dX11_isWeekday_10 (by decide) ?_
      refine lv_goto (tgt := 15) hx hb dX11_isWeekday_11 (by decide) ?_
      exact wk_zret (v := 1) hC hr rfl hlocks hK ((fun _ => 0), (fun _ _ => 0)) trivial [] rfl rfl hw dX11_isWeekday_15

set_option maxHeartbeats 4000000 in
set_option maxRecDepth 100000 in
theorem c_X5_hasTown_1 (l : Launch) (dC : Nat → ClassId) (dI : Nat → Nat → Nat) (cy : Nat → ClassId) (av0 : Nat) (av1 : Nat) (av2 : Nat) (av3 : Nat) (av4 : Nat) (av5 : Nat) (av6 : Nat) (av7 : Nat) (av8 : Nat) (av9 : Nat) (av10 : Nat) (av11 : Nat) (av12 : Nat) (av13 : Nat) (av14 : Nat) (av15 : Nat) (av16 : Nat) (sz : Nat)  : Met l yX5_hasTown wsX5_hasTown ({ frames := 0, cells := 0, slots := 0, locals := 0 }) (va_Pc [.ref av0] (wpre dC dI cy sz [(av0, .inr (5, [.ref av1, .ref av2, .ref av3, .ref av4, .ref av5, .ref av6, .ref av7, .ref av8, .int 0, .int 0, .int 0, .int 0, .int 0, .int 0])), (av1, .inr (7, [.ref av9, .ref av10, .ref av11, .ref av12, .ref av13, .ref av14, .ref av15, .ref av16, .int 0, .int 0, .int 0, .int 0]))])) (va_Qi (fun (r : Int32) (_ : ((Nat → Nat) × (Nat → Nat → Int32))) => r = 0) (fun u => wpost dC dI cy (va_A [(av0, .inr (5, [.ref av1, .ref av2, .ref av3, .ref av4, .ref av5, .ref av6, .ref av7, .ref av8, .int 0, .int 0, .int 0, .int 0, .int 0, .int 0])), (av1, .inr (7, [.ref av9, .ref av10, .ref av11, .ref av12, .ref av13, .ref av14, .ref av15, .ref av16, .int 0, .int 0, .int 0, .int 0]))] sz) [(av0, .inr (5, [.ref av1, .ref av2, .ref av3, .ref av4, .ref av5, .ref av6, .ref av7, .ref av8, .int 0, .int 0, .int 0, .int 0, .int 0, .int 0])), (av1, .inr (7, [.ref av9, .ref av10, .ref av11, .ref av12, .ref av13, .ref av14, .ref av15, .ref av16, .int 0, .int 0, .int 0, .int 0]))]) (va_A [(av0, .inr (5, [.ref av1, .ref av2, .ref av3, .ref av4, .ref av5, .ref av6, .ref av7, .ref av8, .int 0, .int 0, .int 0, .int 0, .int 0, .int 0])), (av1, .inr (7, [.ref av9, .ref av10, .ref av11, .ref av12, .ref av13, .ref av14, .ref av15, .ref av16, .int 0, .int 0, .int 0, .int 0]))] sz)) 0 0 (va_A [(av0, .inr (5, [.ref av1, .ref av2, .ref av3, .ref av4, .ref av5, .ref av6, .ref av7, .ref av8, .int 0, .int 0, .int 0, .int 0, .int 0, .int 0])), (av1, .inr (7, [.ref av9, .ref av10, .ref av11, .ref av12, .ref av13, .ref av14, .ref av15, .ref av16, .int 0, .int 0, .int 0, .int 0]))] sz) := by
  refine Met.ofW (cc := cX5_hasTown) (maxL := 1) (ret := (some .boolean)) (by decide) rfl ?_
  intro p e s m args below meth c s₁ B hml hv
  obtain ⟨rfl, hsz, hP, hK, hD0⟩ := hv
  have hx := B.exec
  have hb := B.bytes
  have hr := B.returns
  have hlocks := B.notSynchronized
  have hC : CallFix p m c cX5_hasTown 1 s _ wsX5_hasTown RX5 := ⟨hx, hb, hml, findClass_of_methodNamed B.named, atoms_spec (ws := wsX5_hasTown) B.pre⟩
  subst hsz
  have hD := hD0.self (sz := s.heap.size)
  generalize hAe : va_A [(av0, .inr (5, [.ref av1, .ref av2, .ref av3, .ref av4, .ref av5, .ref av6, .ref av7, .ref av8, .int 0, .int 0, .int 0, .int 0, .int 0, .int 0])), (av1, .inr (7, [.ref av9, .ref av10, .ref av11, .ref av12, .ref av13, .ref av14, .ref av15, .ref av16, .int 0, .int 0, .int 0, .int 0]))] s.heap.size = A at hD ⊢
  have hA : ∀ q : Nat, s.heap.size ≤ q → A q := fun q h => by rw [← hAe]; exact Or.inr h
  have hw : Wd dC dI A s.heap s.heap [] [(av0, .inr (5, [.ref av1, .ref av2, .ref av3, .ref av4, .ref av5, .ref av6, .ref av7, .ref av8, .int 0, .int 0, .int 0, .int 0, .int 0, .int 0])), (av1, .inr (7, [.ref av9, .ref av10, .ref av11, .ref av12, .ref av13, .ref av14, .ref av15, .ref av16, .int 0, .int 0, .int 0, .int 0]))] := ⟨hP, hD, va_S.rf⟩
  have hl := lv_entry ([.ref av0]) (n := 1) (Nat.le_of_ble_eq_true rfl)
  rw [lg_entry_eq]
  generalize (lg_sl ([.ref av0]) ++ List.replicate (1 - (lg_sl ([.ref av0])).length) Slot.unset).toArray = ls at hl ⊢
  have hl : lv_has ls 1 [(0, .ref av0)] := hl
  have hinX5 : ∀ w ∈ u_ws RX5 TX5 14, w ∈ wsX5_hasTown := fun _ h => List.mem_cons_of_mem _ (List.mem_append_left _ (List.mem_append_right _ (h)))
  have hinX7 : ∀ w ∈ u_ws RX7 TX7 12, w ∈ wsX5_hasTown := fun _ h => List.mem_cons_of_mem _ (List.mem_append_right _ (h))
  refine lv_aload_n hx hb dX5_hasTown_0 rfl (lv_at hl 0 rfl) ?_
  refine wk_get hC hK hw hinX5 0 rfl rfl 0 (by decide) (List.mem_of_getElem? (i := 1) rfl) rfl rfl dX5_hasTown_1 ?_
  refine wk_get hC hK hw hinX7 1 rfl rfl 8 (by decide) (List.mem_of_getElem? (i := 2) rfl) rfl rfl dX5_hasTown_4 ?_
  refine lv_if_le (tgt := 14) hx hb dX5_hasTown_7 (by decide) (fun _ => ?_) (fun c => absurd (by decide) c)
  refine lv_iconst (v := 0) hx hb dX5_hasTown_14 (by decide) ?_
  exact wk_zret (v := 0) hC hr rfl hlocks hK ((fun _ => 0), (fun _ _ => 0)) rfl [0, 1] rfl rfl hw dX5_hasTown_15

set_option maxHeartbeats 4000000 in
set_option maxRecDepth 100000 in
theorem t_X11_print (l : Launch) (dC : Nat → ClassId) (dI : Nat → Nat → Nat) (cy : Nat → ClassId) (av0 : Nat) (ad : Nat → Nat) (p0 : Int32) (sz : Nat)  : Met l yX11_print wsX11_print ({ frames := 1, cells := 0, slots := 0, locals := 20 }) (va_Pc [.ref av0, .int p0] (wpre dC dI cy sz [(av0, .inr (11, [.ref (ad 0), .ref (ad 1), .ref (ad 2), .ref (ad 3), .ref (ad 4), .ref (ad 5), .ref (ad 6), .ref (ad 7), .ref (ad 8), .ref (ad 9), .ref (ad 10), .ref (ad 11), .int 0])), ((ad 4), .inr (5, [.ref (ad 27), .ref (ad 28), .ref (ad 29), .ref (ad 30), .ref (ad 31), .ref (ad 32), .ref (ad 33), .ref (ad 34), .int 0, .int 0, .int 0, .int 0, .int 0, .int 0])), ((ad 27), .inr (7, [.ref (ad 68), .ref (ad 69), .ref (ad 70), .ref (ad 71), .ref (ad 72), .ref (ad 73), .ref (ad 74), .ref (ad 75), .int 0, .int 0, .int 0, .int 0]))])) (va_Qi (fun (r : Int32) (_ : ((Nat → Nat) × (Nat → Nat → Int32))) => r = (-2)) (fun u => wpost dC dI cy (va_A [(av0, .inr (11, [.ref (ad 0), .ref (ad 1), .ref (ad 2), .ref (ad 3), .ref (ad 4), .ref (ad 5), .ref (ad 6), .ref (ad 7), .ref (ad 8), .ref (ad 9), .ref (ad 10), .ref (ad 11), .int 0])), ((ad 4), .inr (5, [.ref (ad 27), .ref (ad 28), .ref (ad 29), .ref (ad 30), .ref (ad 31), .ref (ad 32), .ref (ad 33), .ref (ad 34), .int 0, .int 0, .int 0, .int 0, .int 0, .int 0])), ((ad 27), .inr (7, [.ref (ad 68), .ref (ad 69), .ref (ad 70), .ref (ad 71), .ref (ad 72), .ref (ad 73), .ref (ad 74), .ref (ad 75), .int 0, .int 0, .int 0, .int 0]))] sz) [(av0, .inr (11, [.ref (ad 0), .ref (ad 1), .ref (ad 2), .ref (ad 3), .ref (ad 4), .ref (ad 5), .ref (ad 6), .ref (ad 7), .ref (ad 8), .ref (ad 9), .ref (ad 10), .ref (ad 11), .int 0])), ((ad 4), .inr (5, [.ref (ad 27), .ref (ad 28), .ref (ad 29), .ref (ad 30), .ref (ad 31), .ref (ad 32), .ref (ad 33), .ref (ad 34), .int 0, .int 0, .int 0, .int 0, .int 0, .int 0])), ((ad 27), .inr (7, [.ref (ad 68), .ref (ad 69), .ref (ad 70), .ref (ad 71), .ref (ad 72), .ref (ad 73), .ref (ad 74), .ref (ad 75), .int 0, .int 0, .int 0, .int 0]))]) (va_A [(av0, .inr (11, [.ref (ad 0), .ref (ad 1), .ref (ad 2), .ref (ad 3), .ref (ad 4), .ref (ad 5), .ref (ad 6), .ref (ad 7), .ref (ad 8), .ref (ad 9), .ref (ad 10), .ref (ad 11), .int 0])), ((ad 4), .inr (5, [.ref (ad 27), .ref (ad 28), .ref (ad 29), .ref (ad 30), .ref (ad 31), .ref (ad 32), .ref (ad 33), .ref (ad 34), .int 0, .int 0, .int 0, .int 0, .int 0, .int 0])), ((ad 27), .inr (7, [.ref (ad 68), .ref (ad 69), .ref (ad 70), .ref (ad 71), .ref (ad 72), .ref (ad 73), .ref (ad 74), .ref (ad 75), .int 0, .int 0, .int 0, .int 0]))] sz)) 0 0 (va_A [(av0, .inr (11, [.ref (ad 0), .ref (ad 1), .ref (ad 2), .ref (ad 3), .ref (ad 4), .ref (ad 5), .ref (ad 6), .ref (ad 7), .ref (ad 8), .ref (ad 9), .ref (ad 10), .ref (ad 11), .int 0])), ((ad 4), .inr (5, [.ref (ad 27), .ref (ad 28), .ref (ad 29), .ref (ad 30), .ref (ad 31), .ref (ad 32), .ref (ad 33), .ref (ad 34), .int 0, .int 0, .int 0, .int 0, .int 0, .int 0])), ((ad 27), .inr (7, [.ref (ad 68), .ref (ad 69), .ref (ad 70), .ref (ad 71), .ref (ad 72), .ref (ad 73), .ref (ad 74), .ref (ad 75), .int 0, .int 0, .int 0, .int 0]))] sz) := by
  refine Met.ofW (cc := cX11_print) (maxL := 4) (ret := (some .int)) (by decide) rfl ?_
  intro p e s m args below meth c s₁ B hml hv
  obtain ⟨rfl, hsz, hP, hK, hD0⟩ := hv
  have hx := B.exec
  have hb := B.bytes
  have hr := B.returns
  have hlocks := B.notSynchronized
  have hC : CallFix p m c cX11_print 4 s _ wsX11_print RX11 := ⟨hx, hb, hml, findClass_of_methodNamed B.named, atoms_spec (ws := wsX11_print) B.pre⟩
  subst hsz
  have hD := hD0.self (sz := s.heap.size)
  generalize hAe : va_A [(av0, .inr (11, [.ref (ad 0), .ref (ad 1), .ref (ad 2), .ref (ad 3), .ref (ad 4), .ref (ad 5), .ref (ad 6), .ref (ad 7), .ref (ad 8), .ref (ad 9), .ref (ad 10), .ref (ad 11), .int 0])), ((ad 4), .inr (5, [.ref (ad 27), .ref (ad 28), .ref (ad 29), .ref (ad 30), .ref (ad 31), .ref (ad 32), .ref (ad 33), .ref (ad 34), .int 0, .int 0, .int 0, .int 0, .int 0, .int 0])), ((ad 27), .inr (7, [.ref (ad 68), .ref (ad 69), .ref (ad 70), .ref (ad 71), .ref (ad 72), .ref (ad 73), .ref (ad 74), .ref (ad 75), .int 0, .int 0, .int 0, .int 0]))] s.heap.size = A at hD ⊢
  have hA : ∀ q : Nat, s.heap.size ≤ q → A q := fun q h => by rw [← hAe]; exact Or.inr h
  have hw : Wd dC dI A s.heap s.heap [] [(av0, .inr (11, [.ref (ad 0), .ref (ad 1), .ref (ad 2), .ref (ad 3), .ref (ad 4), .ref (ad 5), .ref (ad 6), .ref (ad 7), .ref (ad 8), .ref (ad 9), .ref (ad 10), .ref (ad 11), .int 0])), ((ad 4), .inr (5, [.ref (ad 27), .ref (ad 28), .ref (ad 29), .ref (ad 30), .ref (ad 31), .ref (ad 32), .ref (ad 33), .ref (ad 34), .int 0, .int 0, .int 0, .int 0, .int 0, .int 0])), ((ad 27), .inr (7, [.ref (ad 68), .ref (ad 69), .ref (ad 70), .ref (ad 71), .ref (ad 72), .ref (ad 73), .ref (ad 74), .ref (ad 75), .int 0, .int 0, .int 0, .int 0]))] := ⟨hP, hD, va_S.rf⟩
  have hl := lv_entry ([.ref av0, .int p0]) (n := 4) (Nat.le_of_ble_eq_true rfl)
  rw [lg_entry_eq]
  generalize (lg_sl ([.ref av0, .int p0]) ++ List.replicate (4 - (lg_sl ([.ref av0, .int p0])).length) Slot.unset).toArray = ls at hl ⊢
  have hl : lv_has ls 4 [(0, .ref av0), (1, .int p0)] := hl
  have hinX11 : ∀ w ∈ u_ws RX11 TX11 13, w ∈ wsX11_print := fun _ h => List.mem_cons_of_mem _ (List.mem_append_left _ (List.mem_append_left _ (List.mem_append_left _ (List.mem_append_right _ (h)))))
  refine lv_iload_n hx hb dX11_print_0 rfl (lv_at hl 1 rfl) ?_
  refine wk_Si hC hK hw hA [] [0, 1, 2] rfl rfl rfl rfl (by decide) (c_X11_isWeekday_1 l dC dI cy p0 s.heap.size ) (va_cwS 1 hC.2.2.2.2 gX11_print_X11_isWeekday rfl rfl rfl (by decide +kernel) ⟨Nat.le_of_ble_eq_true rfl, Nat.le_of_ble_eq_true rfl⟩) rfl hl.1 rfl (Nat.le_of_ble_eq_true rfl) dX11_print_1 0 0 ⟨rfl, rfl⟩ ⟨Nat.le_of_ble_eq_true rfl, Nat.le_of_ble_eq_true rfl⟩ (fun r2 u1 H locs hp3 hw => ?_)
  have hw : Wd dC dI A s.heap H locs [(av0, .inr (11, [.ref (ad 0), .ref (ad 1), .ref (ad 2), .ref (ad 3), .ref (ad 4), .ref (ad 5), .ref (ad 6), .ref (ad 7), .ref (ad 8), .ref (ad 9), .ref (ad 10), .ref (ad 11), .int 0])), ((ad 4), .inr (5, [.ref (ad 27), .ref (ad 28), .ref (ad 29), .ref (ad 30), .ref (ad 31), .ref (ad 32), .ref (ad 33), .ref (ad 34), .int 0, .int 0, .int 0, .int 0, .int 0, .int 0])), ((ad 27), .inr (7, [.ref (ad 68), .ref (ad 69), .ref (ad 70), .ref (ad 71), .ref (ad 72), .ref (ad 73), .ref (ad 74), .ref (ad 75), .int 0, .int 0, .int 0, .int 0]))] := hw
  refine lv_if_eq (tgt := 28) hx hb dX11_print_4 (by decide) (fun c4 => ?_) (fun c4 => ?_)
  · have c4 : r2.toInt = 0 := wk_eq.mp c4
    refine lv_bipush (v := (-2)) hx hb dX11_print_28 (by decide) ?_
    exact wk_iret (v := (-2)) hC hr hlocks hK ((fun _ => 0), (fun _ _ => 0)) rfl [0, 1, 2] rfl rfl hw dX11_print_30
  · have c4 : ¬ r2.toInt = 0 := wk_eqF c4
    refine lv_aload_n hx hb dX11_print_7 rfl (lv_at hl 0 rfl) ?_
    refine wk_get hC hK hw hinX11 0 rfl rfl 4 (by decide) (List.mem_of_getElem? (i := 1) rfl) rfl rfl dX11_print_8 ?_
    refine wk_Vi hC hK hw hA [1, 2] [0] rfl rfl rfl rfl (by decide) (c_X5_hasTown_1 l dC dI cy (ad 4) (ad 27) (ad 28) (ad 29) (ad 30) (ad 31) (ad 32) (ad 33) (ad 34) (ad 68) (ad 69) (ad 70) (ad 71) (ad 72) (ad 73) (ad 74) (ad 75) H.size ) (cwV 0 hC.2.2.2.2 gX11_print_X5_hasTown rfl rfl rfl (by decide +kernel) ⟨Nat.le_of_ble_eq_true rfl, Nat.le_of_ble_eq_true rfl⟩) rfl 0 rfl rfl hl.1 rfl (Nat.le_of_ble_eq_true rfl) dX11_print_11 0 0 ⟨rfl, rfl⟩ ⟨Nat.le_of_ble_eq_true rfl, Nat.le_of_ble_eq_true rfl⟩ (fun r6 u5 H locs hp7 hw => ?_)
    have hw : Wd dC dI A s.heap H locs [(av0, .inr (11, [.ref (ad 0), .ref (ad 1), .ref (ad 2), .ref (ad 3), .ref (ad 4), .ref (ad 5), .ref (ad 6), .ref (ad 7), .ref (ad 8), .ref (ad 9), .ref (ad 10), .ref (ad 11), .int 0])), ((ad 4), .inr (5, [.ref (ad 27), .ref (ad 28), .ref (ad 29), .ref (ad 30), .ref (ad 31), .ref (ad 32), .ref (ad 33), .ref (ad 34), .int 0, .int 0, .int 0, .int 0, .int 0, .int 0])), ((ad 27), .inr (7, [.ref (ad 68), .ref (ad 69), .ref (ad 70), .ref (ad 71), .ref (ad 72), .ref (ad 73), .ref (ad 74), .ref (ad 75), .int 0, .int 0, .int 0, .int 0]))] := hw
    obtain rfl : r6 = 0 := hp7
    refine lv_if_eq (tgt := 28) hx hb dX11_print_14 (by decide) (fun _ => ?_) (fun c => absurd (by decide) c)
    refine lv_bipush (v := (-2)) hx hb dX11_print_28 (by decide) ?_
    exact wk_iret (v := (-2)) hC hr hlocks hK ((fun _ => 0), (fun _ _ => 0)) rfl [0, 1, 2] rfl rfl hw dX11_print_30

set_option maxHeartbeats 4000000 in
set_option maxRecDepth 100000 in
theorem c_X11_hasMap_1 (l : Launch) (dC : Nat → ClassId) (dI : Nat → Nat → Nat) (cy : Nat → ClassId) (av0 : Nat) (iv0 : Int32) (av1 : Nat) (av2 : Nat) (av3 : Nat) (av4 : Nat) (av5 : Nat) (av6 : Nat) (av7 : Nat) (av8 : Nat) (av9 : Nat) (av10 : Nat) (av11 : Nat) (av12 : Nat) (av28 : Nat) (av29 : Nat) (av30 : Nat) (av31 : Nat) (av32 : Nat) (av33 : Nat) (av34 : Nat) (av35 : Nat) (sz : Nat)  : Met l yX11_hasMap wsX11_hasMap ({ frames := 0, cells := 0, slots := 0, locals := 0 }) (va_Pc [.ref av0, .int iv0] (wpre dC dI cy sz [(av0, .inr (11, [.ref av1, .ref av2, .ref av3, .ref av4, .ref av5, .ref av6, .ref av7, .ref av8, .ref av9, .ref av10, .ref av11, .ref av12, .int 0])), (av5, .inr (5, [.ref av28, .ref av29, .ref av30, .ref av31, .ref av32, .ref av33, .ref av34, .ref av35, .int 0, .int 0, .int 0, .int 0, .int 0, .int 0]))])) (va_Qi (fun (r : Int32) (_ : ((Nat → Nat) × (Nat → Nat → Int32))) => r = 0) (fun u => wpost dC dI cy (va_A [(av0, .inr (11, [.ref av1, .ref av2, .ref av3, .ref av4, .ref av5, .ref av6, .ref av7, .ref av8, .ref av9, .ref av10, .ref av11, .ref av12, .int 0])), (av5, .inr (5, [.ref av28, .ref av29, .ref av30, .ref av31, .ref av32, .ref av33, .ref av34, .ref av35, .int 0, .int 0, .int 0, .int 0, .int 0, .int 0]))] sz) [(av0, .inr (11, [.ref av1, .ref av2, .ref av3, .ref av4, .ref av5, .ref av6, .ref av7, .ref av8, .ref av9, .ref av10, .ref av11, .ref av12, .int 0])), (av5, .inr (5, [.ref av28, .ref av29, .ref av30, .ref av31, .ref av32, .ref av33, .ref av34, .ref av35, .int 0, .int 0, .int 0, .int 0, .int 0, .int 0]))]) (va_A [(av0, .inr (11, [.ref av1, .ref av2, .ref av3, .ref av4, .ref av5, .ref av6, .ref av7, .ref av8, .ref av9, .ref av10, .ref av11, .ref av12, .int 0])), (av5, .inr (5, [.ref av28, .ref av29, .ref av30, .ref av31, .ref av32, .ref av33, .ref av34, .ref av35, .int 0, .int 0, .int 0, .int 0, .int 0, .int 0]))] sz)) 0 0 (va_A [(av0, .inr (11, [.ref av1, .ref av2, .ref av3, .ref av4, .ref av5, .ref av6, .ref av7, .ref av8, .ref av9, .ref av10, .ref av11, .ref av12, .int 0])), (av5, .inr (5, [.ref av28, .ref av29, .ref av30, .ref av31, .ref av32, .ref av33, .ref av34, .ref av35, .int 0, .int 0, .int 0, .int 0, .int 0, .int 0]))] sz) := by
  refine Met.ofW (cc := cX11_hasMap) (maxL := 2) (ret := (some .boolean)) (by decide) rfl ?_
  intro p e s m args below meth c s₁ B hml hv
  obtain ⟨rfl, hsz, hP, hK, hD0⟩ := hv
  have hx := B.exec
  have hb := B.bytes
  have hr := B.returns
  have hlocks := B.notSynchronized
  have hC : CallFix p m c cX11_hasMap 2 s _ wsX11_hasMap RX11 := ⟨hx, hb, hml, findClass_of_methodNamed B.named, atoms_spec (ws := wsX11_hasMap) B.pre⟩
  subst hsz
  have hD := hD0.self (sz := s.heap.size)
  generalize hAe : va_A [(av0, .inr (11, [.ref av1, .ref av2, .ref av3, .ref av4, .ref av5, .ref av6, .ref av7, .ref av8, .ref av9, .ref av10, .ref av11, .ref av12, .int 0])), (av5, .inr (5, [.ref av28, .ref av29, .ref av30, .ref av31, .ref av32, .ref av33, .ref av34, .ref av35, .int 0, .int 0, .int 0, .int 0, .int 0, .int 0]))] s.heap.size = A at hD ⊢
  have hA : ∀ q : Nat, s.heap.size ≤ q → A q := fun q h => by rw [← hAe]; exact Or.inr h
  have hw : Wd dC dI A s.heap s.heap [] [(av0, .inr (11, [.ref av1, .ref av2, .ref av3, .ref av4, .ref av5, .ref av6, .ref av7, .ref av8, .ref av9, .ref av10, .ref av11, .ref av12, .int 0])), (av5, .inr (5, [.ref av28, .ref av29, .ref av30, .ref av31, .ref av32, .ref av33, .ref av34, .ref av35, .int 0, .int 0, .int 0, .int 0, .int 0, .int 0]))] := ⟨hP, hD, va_S.rf⟩
  have hl := lv_entry ([.ref av0, .int iv0]) (n := 2) (Nat.le_of_ble_eq_true rfl)
  rw [lg_entry_eq]
  generalize (lg_sl ([.ref av0, .int iv0]) ++ List.replicate (2 - (lg_sl ([.ref av0, .int iv0])).length) Slot.unset).toArray = ls at hl ⊢
  have hl : lv_has ls 2 [(0, .ref av0), (1, .int iv0)] := hl
  have hinX11 : ∀ w ∈ u_ws RX11 TX11 13, w ∈ wsX11_hasMap := fun _ h => List.mem_cons_of_mem _ (List.mem_append_left _ (List.mem_append_right _ (h)))
  have hinX5 : ∀ w ∈ u_ws RX5 TX5 14, w ∈ wsX11_hasMap := fun _ h => List.mem_cons_of_mem _ (List.mem_append_right _ (h))
  refine lv_iload_n hx hb dX11_hasMap_0 rfl (lv_at hl 1 rfl) ?_
  refine lv_if_lt (tgt := 19) hx hb dX11_hasMap_1 (by decide) (fun c1 => ?_) (fun c1 => ?_)
  · have c1 : iv0.toInt < 0 := wk_lt.mp c1
    refine lv_iconst (v := 0) hx hb dX11_hasMap_19 (by decide) ?_
    exact wk_zret (v := 0) hC hr rfl hlocks hK ((fun _ => 0), (fun _ _ => 0)) rfl [0, 1] rfl rfl hw dX11_hasMap_20
  · have c1 : 0 ≤ iv0.toInt := wk_ltF c1
    refine lv_iload_n hx hb dX11_hasMap_4 rfl (lv_at hl 1 rfl) ?_
    refine lv_aload_n hx hb dX11_hasMap_5 rfl (lv_at hl 0 rfl) ?_
    refine wk_get hC hK hw hinX11 0 rfl rfl 4 (by decide) (List.mem_of_getElem? (i := 1) rfl) rfl rfl dX11_hasMap_6 ?_
    refine wk_get hC hK hw hinX5 1 rfl rfl 8 (by decide) (List.mem_of_getElem? (i := 2) rfl) rfl rfl dX11_hasMap_9 ?_
    refine lv_icmp_ge (tgt := 19) hx hb dX11_hasMap_12 (by decide) (fun _ => ?_) (fun c => (c (wk_le.mpr (show 0 ≤ iv0.toInt by omega))).elim)
    refine lv_iconst (v := 0) hx hb dX11_hasMap_19 (by decide) ?_
    exact wk_zret (v := 0) hC hr rfl hlocks hK ((fun _ => 0), (fun _ _ => 0)) rfl [0, 1] rfl rfl hw dX11_hasMap_20

set_option maxHeartbeats 4000000 in
set_option maxRecDepth 100000 in
theorem t_X11_misprint (l : Launch) (dC : Nat → ClassId) (dI : Nat → Nat → Nat) (cy : Nat → ClassId) (av0 : Nat) (ad : Nat → Nat) (p0 : Int32) (p1 : Int32) (p2 : Int32) (sz : Nat)  : Met l yX11_misprint wsX11_misprint ({ frames := 1, cells := 0, slots := 0, locals := 21 }) (va_Pc [.ref av0, .int p0, .int p1, .int p2] (wpre dC dI cy sz [(av0, .inr (11, [.ref (ad 0), .ref (ad 1), .ref (ad 2), .ref (ad 3), .ref (ad 4), .ref (ad 5), .ref (ad 6), .ref (ad 7), .ref (ad 8), .ref (ad 9), .ref (ad 10), .ref (ad 11), .int 0])), ((ad 4), .inr (5, [.ref (ad 27), .ref (ad 28), .ref (ad 29), .ref (ad 30), .ref (ad 31), .ref (ad 32), .ref (ad 33), .ref (ad 34), .int 0, .int 0, .int 0, .int 0, .int 0, .int 0]))])) (va_Qi (fun (r : Int32) (_ : ((Nat → Nat) × (Nat → Nat → Int32))) => r = (-1)) (fun u => wpost dC dI cy (va_A [(av0, .inr (11, [.ref (ad 0), .ref (ad 1), .ref (ad 2), .ref (ad 3), .ref (ad 4), .ref (ad 5), .ref (ad 6), .ref (ad 7), .ref (ad 8), .ref (ad 9), .ref (ad 10), .ref (ad 11), .int 0])), ((ad 4), .inr (5, [.ref (ad 27), .ref (ad 28), .ref (ad 29), .ref (ad 30), .ref (ad 31), .ref (ad 32), .ref (ad 33), .ref (ad 34), .int 0, .int 0, .int 0, .int 0, .int 0, .int 0]))] sz) [(av0, .inr (11, [.ref (ad 0), .ref (ad 1), .ref (ad 2), .ref (ad 3), .ref (ad 4), .ref (ad 5), .ref (ad 6), .ref (ad 7), .ref (ad 8), .ref (ad 9), .ref (ad 10), .ref (ad 11), .int 0])), ((ad 4), .inr (5, [.ref (ad 27), .ref (ad 28), .ref (ad 29), .ref (ad 30), .ref (ad 31), .ref (ad 32), .ref (ad 33), .ref (ad 34), .int 0, .int 0, .int 0, .int 0, .int 0, .int 0]))]) (va_A [(av0, .inr (11, [.ref (ad 0), .ref (ad 1), .ref (ad 2), .ref (ad 3), .ref (ad 4), .ref (ad 5), .ref (ad 6), .ref (ad 7), .ref (ad 8), .ref (ad 9), .ref (ad 10), .ref (ad 11), .int 0])), ((ad 4), .inr (5, [.ref (ad 27), .ref (ad 28), .ref (ad 29), .ref (ad 30), .ref (ad 31), .ref (ad 32), .ref (ad 33), .ref (ad 34), .int 0, .int 0, .int 0, .int 0, .int 0, .int 0]))] sz)) 0 0 (va_A [(av0, .inr (11, [.ref (ad 0), .ref (ad 1), .ref (ad 2), .ref (ad 3), .ref (ad 4), .ref (ad 5), .ref (ad 6), .ref (ad 7), .ref (ad 8), .ref (ad 9), .ref (ad 10), .ref (ad 11), .int 0])), ((ad 4), .inr (5, [.ref (ad 27), .ref (ad 28), .ref (ad 29), .ref (ad 30), .ref (ad 31), .ref (ad 32), .ref (ad 33), .ref (ad 34), .int 0, .int 0, .int 0, .int 0, .int 0, .int 0]))] sz) := by
  refine Met.ofW (cc := cX11_misprint) (maxL := 6) (ret := (some .int)) (by decide) rfl ?_
  intro p e s m args below meth c s₁ B hml hv
  obtain ⟨rfl, hsz, hP, hK, hD0⟩ := hv
  have hx := B.exec
  have hb := B.bytes
  have hr := B.returns
  have hlocks := B.notSynchronized
  have hC : CallFix p m c cX11_misprint 6 s _ wsX11_misprint RX11 := ⟨hx, hb, hml, findClass_of_methodNamed B.named, atoms_spec (ws := wsX11_misprint) B.pre⟩
  subst hsz
  have hD := hD0.self (sz := s.heap.size)
  generalize hAe : va_A [(av0, .inr (11, [.ref (ad 0), .ref (ad 1), .ref (ad 2), .ref (ad 3), .ref (ad 4), .ref (ad 5), .ref (ad 6), .ref (ad 7), .ref (ad 8), .ref (ad 9), .ref (ad 10), .ref (ad 11), .int 0])), ((ad 4), .inr (5, [.ref (ad 27), .ref (ad 28), .ref (ad 29), .ref (ad 30), .ref (ad 31), .ref (ad 32), .ref (ad 33), .ref (ad 34), .int 0, .int 0, .int 0, .int 0, .int 0, .int 0]))] s.heap.size = A at hD ⊢
  have hA : ∀ q : Nat, s.heap.size ≤ q → A q := fun q h => by rw [← hAe]; exact Or.inr h
  have hw : Wd dC dI A s.heap s.heap [] [(av0, .inr (11, [.ref (ad 0), .ref (ad 1), .ref (ad 2), .ref (ad 3), .ref (ad 4), .ref (ad 5), .ref (ad 6), .ref (ad 7), .ref (ad 8), .ref (ad 9), .ref (ad 10), .ref (ad 11), .int 0])), ((ad 4), .inr (5, [.ref (ad 27), .ref (ad 28), .ref (ad 29), .ref (ad 30), .ref (ad 31), .ref (ad 32), .ref (ad 33), .ref (ad 34), .int 0, .int 0, .int 0, .int 0, .int 0, .int 0]))] := ⟨hP, hD, va_S.rf⟩
  have hl := lv_entry ([.ref av0, .int p0, .int p1, .int p2]) (n := 6) (Nat.le_of_ble_eq_true rfl)
  rw [lg_entry_eq]
  generalize (lg_sl ([.ref av0, .int p0, .int p1, .int p2]) ++ List.replicate (6 - (lg_sl ([.ref av0, .int p0, .int p1, .int p2])).length) Slot.unset).toArray = ls at hl ⊢
  have hl : lv_has ls 6 [(0, .ref av0), (1, .int p0), (2, .int p1), (3, .int p2)] := hl
  refine lv_aload_n hx hb dX11_misprint_0 rfl (lv_at hl 0 rfl) ?_
  refine lv_iload_n hx hb dX11_misprint_1 rfl (lv_at hl 1 rfl) ?_
  refine wk_Vi hC hK hw hA [0, 1] [] rfl rfl rfl rfl (by decide) (c_X11_hasMap_1 l dC dI cy av0 p0 (ad 0) (ad 1) (ad 2) (ad 3) (ad 4) (ad 5) (ad 6) (ad 7) (ad 8) (ad 9) (ad 10) (ad 11) (ad 27) (ad 28) (ad 29) (ad 30) (ad 31) (ad 32) (ad 33) (ad 34) s.heap.size ) (cwV 1 hC.2.2.2.2 gX11_misprint_X11_hasMap rfl rfl rfl (by decide +kernel) ⟨Nat.le_of_ble_eq_true rfl, Nat.le_of_ble_eq_true rfl⟩) rfl 0 rfl rfl hl.1 rfl (Nat.le_of_ble_eq_true rfl) dX11_misprint_2 0 0 ⟨rfl, rfl⟩ ⟨Nat.le_of_ble_eq_true rfl, Nat.le_of_ble_eq_true rfl⟩ (fun r2 u1 H locs hp3 hw => ?_)
  have hw : Wd dC dI A s.heap H locs [(av0, .inr (11, [.ref (ad 0), .ref (ad 1), .ref (ad 2), .ref (ad 3), .ref (ad 4), .ref (ad 5), .ref (ad 6), .ref (ad 7), .ref (ad 8), .ref (ad 9), .ref (ad 10), .ref (ad 11), .int 0])), ((ad 4), .inr (5, [.ref (ad 27), .ref (ad 28), .ref (ad 29), .ref (ad 30), .ref (ad 31), .ref (ad 32), .ref (ad 33), .ref (ad 34), .int 0, .int 0, .int 0, .int 0, .int 0, .int 0]))] := hw
  obtain rfl : r2 = 0 := hp3
  refine lv_if_eq (tgt := 29) hx hb dX11_misprint_5 (by decide) (fun _ => ?_) (fun c => absurd (by decide) c)
  refine lv_iconst (v := (-1)) hx hb dX11_misprint_29 (by decide) ?_
  exact wk_iret (v := (-1)) hC hr hlocks hK ((fun _ => 0), (fun _ _ => 0)) rfl [0, 1] rfl rfl hw dX11_misprint_30

set_option maxHeartbeats 4000000 in
set_option maxRecDepth 100000 in
theorem t_X11_shown (l : Launch) (dC : Nat → ClassId) (dI : Nat → Nat → Nat) (cy : Nat → ClassId) (av0 : Nat) (ad : Nat → Nat) (p0 : Int32) (p1 : Int32) (sz : Nat)  : Met l yX11_shown wsX11_shown ({ frames := 1, cells := 0, slots := 0, locals := 21 }) (va_Pc [.ref av0, .int p0, .int p1] (wpre dC dI cy sz [(av0, .inr (11, [.ref (ad 0), .ref (ad 1), .ref (ad 2), .ref (ad 3), .ref (ad 4), .ref (ad 5), .ref (ad 6), .ref (ad 7), .ref (ad 8), .ref (ad 9), .ref (ad 10), .ref (ad 11), .int 0])), ((ad 4), .inr (5, [.ref (ad 27), .ref (ad 28), .ref (ad 29), .ref (ad 30), .ref (ad 31), .ref (ad 32), .ref (ad 33), .ref (ad 34), .int 0, .int 0, .int 0, .int 0, .int 0, .int 0]))])) (va_Qi (fun (r : Int32) (_ : ((Nat → Nat) × (Nat → Nat → Int32))) => r = (-1)) (fun u => wpost dC dI cy (va_A [(av0, .inr (11, [.ref (ad 0), .ref (ad 1), .ref (ad 2), .ref (ad 3), .ref (ad 4), .ref (ad 5), .ref (ad 6), .ref (ad 7), .ref (ad 8), .ref (ad 9), .ref (ad 10), .ref (ad 11), .int 0])), ((ad 4), .inr (5, [.ref (ad 27), .ref (ad 28), .ref (ad 29), .ref (ad 30), .ref (ad 31), .ref (ad 32), .ref (ad 33), .ref (ad 34), .int 0, .int 0, .int 0, .int 0, .int 0, .int 0]))] sz) [(av0, .inr (11, [.ref (ad 0), .ref (ad 1), .ref (ad 2), .ref (ad 3), .ref (ad 4), .ref (ad 5), .ref (ad 6), .ref (ad 7), .ref (ad 8), .ref (ad 9), .ref (ad 10), .ref (ad 11), .int 0])), ((ad 4), .inr (5, [.ref (ad 27), .ref (ad 28), .ref (ad 29), .ref (ad 30), .ref (ad 31), .ref (ad 32), .ref (ad 33), .ref (ad 34), .int 0, .int 0, .int 0, .int 0, .int 0, .int 0]))]) (va_A [(av0, .inr (11, [.ref (ad 0), .ref (ad 1), .ref (ad 2), .ref (ad 3), .ref (ad 4), .ref (ad 5), .ref (ad 6), .ref (ad 7), .ref (ad 8), .ref (ad 9), .ref (ad 10), .ref (ad 11), .int 0])), ((ad 4), .inr (5, [.ref (ad 27), .ref (ad 28), .ref (ad 29), .ref (ad 30), .ref (ad 31), .ref (ad 32), .ref (ad 33), .ref (ad 34), .int 0, .int 0, .int 0, .int 0, .int 0, .int 0]))] sz)) 0 0 (va_A [(av0, .inr (11, [.ref (ad 0), .ref (ad 1), .ref (ad 2), .ref (ad 3), .ref (ad 4), .ref (ad 5), .ref (ad 6), .ref (ad 7), .ref (ad 8), .ref (ad 9), .ref (ad 10), .ref (ad 11), .int 0])), ((ad 4), .inr (5, [.ref (ad 27), .ref (ad 28), .ref (ad 29), .ref (ad 30), .ref (ad 31), .ref (ad 32), .ref (ad 33), .ref (ad 34), .int 0, .int 0, .int 0, .int 0, .int 0, .int 0]))] sz) := by
  refine Met.ofW (cc := cX11_shown) (maxL := 3) (ret := (some .int)) (by decide) rfl ?_
  intro p e s m args below meth c s₁ B hml hv
  obtain ⟨rfl, hsz, hP, hK, hD0⟩ := hv
  have hx := B.exec
  have hb := B.bytes
  have hr := B.returns
  have hlocks := B.notSynchronized
  have hC : CallFix p m c cX11_shown 3 s _ wsX11_shown RX11 := ⟨hx, hb, hml, findClass_of_methodNamed B.named, atoms_spec (ws := wsX11_shown) B.pre⟩
  subst hsz
  have hD := hD0.self (sz := s.heap.size)
  generalize hAe : va_A [(av0, .inr (11, [.ref (ad 0), .ref (ad 1), .ref (ad 2), .ref (ad 3), .ref (ad 4), .ref (ad 5), .ref (ad 6), .ref (ad 7), .ref (ad 8), .ref (ad 9), .ref (ad 10), .ref (ad 11), .int 0])), ((ad 4), .inr (5, [.ref (ad 27), .ref (ad 28), .ref (ad 29), .ref (ad 30), .ref (ad 31), .ref (ad 32), .ref (ad 33), .ref (ad 34), .int 0, .int 0, .int 0, .int 0, .int 0, .int 0]))] s.heap.size = A at hD ⊢
  have hA : ∀ q : Nat, s.heap.size ≤ q → A q := fun q h => by rw [← hAe]; exact Or.inr h
  have hw : Wd dC dI A s.heap s.heap [] [(av0, .inr (11, [.ref (ad 0), .ref (ad 1), .ref (ad 2), .ref (ad 3), .ref (ad 4), .ref (ad 5), .ref (ad 6), .ref (ad 7), .ref (ad 8), .ref (ad 9), .ref (ad 10), .ref (ad 11), .int 0])), ((ad 4), .inr (5, [.ref (ad 27), .ref (ad 28), .ref (ad 29), .ref (ad 30), .ref (ad 31), .ref (ad 32), .ref (ad 33), .ref (ad 34), .int 0, .int 0, .int 0, .int 0, .int 0, .int 0]))] := ⟨hP, hD, va_S.rf⟩
  have hl := lv_entry ([.ref av0, .int p0, .int p1]) (n := 3) (Nat.le_of_ble_eq_true rfl)
  rw [lg_entry_eq]
  generalize (lg_sl ([.ref av0, .int p0, .int p1]) ++ List.replicate (3 - (lg_sl ([.ref av0, .int p0, .int p1])).length) Slot.unset).toArray = ls at hl ⊢
  have hl : lv_has ls 3 [(0, .ref av0), (1, .int p0), (2, .int p1)] := hl
  refine lv_aload_n hx hb dX11_shown_0 rfl (lv_at hl 0 rfl) ?_
  refine lv_iload_n hx hb dX11_shown_1 rfl (lv_at hl 1 rfl) ?_
  refine wk_Vi hC hK hw hA [0, 1] [] rfl rfl rfl rfl (by decide) (c_X11_hasMap_1 l dC dI cy av0 p0 (ad 0) (ad 1) (ad 2) (ad 3) (ad 4) (ad 5) (ad 6) (ad 7) (ad 8) (ad 9) (ad 10) (ad 11) (ad 27) (ad 28) (ad 29) (ad 30) (ad 31) (ad 32) (ad 33) (ad 34) s.heap.size ) (cwV 1 hC.2.2.2.2 gX11_shown_X11_hasMap rfl rfl rfl (by decide +kernel) ⟨Nat.le_of_ble_eq_true rfl, Nat.le_of_ble_eq_true rfl⟩) rfl 0 rfl rfl hl.1 rfl (Nat.le_of_ble_eq_true rfl) dX11_shown_2 0 0 ⟨rfl, rfl⟩ ⟨Nat.le_of_ble_eq_true rfl, Nat.le_of_ble_eq_true rfl⟩ (fun r2 u1 H locs hp3 hw => ?_)
  have hw : Wd dC dI A s.heap H locs [(av0, .inr (11, [.ref (ad 0), .ref (ad 1), .ref (ad 2), .ref (ad 3), .ref (ad 4), .ref (ad 5), .ref (ad 6), .ref (ad 7), .ref (ad 8), .ref (ad 9), .ref (ad 10), .ref (ad 11), .int 0])), ((ad 4), .inr (5, [.ref (ad 27), .ref (ad 28), .ref (ad 29), .ref (ad 30), .ref (ad 31), .ref (ad 32), .ref (ad 33), .ref (ad 34), .int 0, .int 0, .int 0, .int 0, .int 0, .int 0]))] := hw
  obtain rfl : r2 = 0 := hp3
  refine lv_if_eq (tgt := 22) hx hb dX11_shown_5 (by decide) (fun _ => ?_) (fun c => absurd (by decide) c)
  refine lv_iconst (v := (-1)) hx hb dX11_shown_22 (by decide) ?_
  exact wk_iret (v := (-1)) hC hr hlocks hK ((fun _ => 0), (fun _ _ => 0)) rfl [0, 1] rfl rfl hw dX11_shown_23

set_option maxHeartbeats 4000000 in
set_option maxRecDepth 100000 in
theorem t_X11_by (l : Launch) (dC : Nat → ClassId) (dI : Nat → Nat → Nat) (cy : Nat → ClassId) (av0 : Nat) (ad : Nat → Nat) (p0 : Int32) (p1 : Int32) (p2 : Int32) (p3 : Int32) (sz : Nat)  : Met l yX11_by wsX11_by ({ frames := 1, cells := 0, slots := 0, locals := 21 }) (va_Pc [.ref av0, .int p0, .int p1, .int p2, .int p3] (wpre dC dI cy sz [(av0, .inr (11, [.ref (ad 0), .ref (ad 1), .ref (ad 2), .ref (ad 3), .ref (ad 4), .ref (ad 5), .ref (ad 6), .ref (ad 7), .ref (ad 8), .ref (ad 9), .ref (ad 10), .ref (ad 11), .int 0])), ((ad 4), .inr (5, [.ref (ad 27), .ref (ad 28), .ref (ad 29), .ref (ad 30), .ref (ad 31), .ref (ad 32), .ref (ad 33), .ref (ad 34), .int 0, .int 0, .int 0, .int 0, .int 0, .int 0]))])) (va_Qi (fun (r : Int32) (_ : ((Nat → Nat) × (Nat → Nat → Int32))) => r = (-1)) (fun u => wpost dC dI cy (va_A [(av0, .inr (11, [.ref (ad 0), .ref (ad 1), .ref (ad 2), .ref (ad 3), .ref (ad 4), .ref (ad 5), .ref (ad 6), .ref (ad 7), .ref (ad 8), .ref (ad 9), .ref (ad 10), .ref (ad 11), .int 0])), ((ad 4), .inr (5, [.ref (ad 27), .ref (ad 28), .ref (ad 29), .ref (ad 30), .ref (ad 31), .ref (ad 32), .ref (ad 33), .ref (ad 34), .int 0, .int 0, .int 0, .int 0, .int 0, .int 0]))] sz) [(av0, .inr (11, [.ref (ad 0), .ref (ad 1), .ref (ad 2), .ref (ad 3), .ref (ad 4), .ref (ad 5), .ref (ad 6), .ref (ad 7), .ref (ad 8), .ref (ad 9), .ref (ad 10), .ref (ad 11), .int 0])), ((ad 4), .inr (5, [.ref (ad 27), .ref (ad 28), .ref (ad 29), .ref (ad 30), .ref (ad 31), .ref (ad 32), .ref (ad 33), .ref (ad 34), .int 0, .int 0, .int 0, .int 0, .int 0, .int 0]))]) (va_A [(av0, .inr (11, [.ref (ad 0), .ref (ad 1), .ref (ad 2), .ref (ad 3), .ref (ad 4), .ref (ad 5), .ref (ad 6), .ref (ad 7), .ref (ad 8), .ref (ad 9), .ref (ad 10), .ref (ad 11), .int 0])), ((ad 4), .inr (5, [.ref (ad 27), .ref (ad 28), .ref (ad 29), .ref (ad 30), .ref (ad 31), .ref (ad 32), .ref (ad 33), .ref (ad 34), .int 0, .int 0, .int 0, .int 0, .int 0, .int 0]))] sz)) 0 0 (va_A [(av0, .inr (11, [.ref (ad 0), .ref (ad 1), .ref (ad 2), .ref (ad 3), .ref (ad 4), .ref (ad 5), .ref (ad 6), .ref (ad 7), .ref (ad 8), .ref (ad 9), .ref (ad 10), .ref (ad 11), .int 0])), ((ad 4), .inr (5, [.ref (ad 27), .ref (ad 28), .ref (ad 29), .ref (ad 30), .ref (ad 31), .ref (ad 32), .ref (ad 33), .ref (ad 34), .int 0, .int 0, .int 0, .int 0, .int 0, .int 0]))] sz) := by
  refine Met.ofW (cc := cX11_by) (maxL := 6) (ret := (some .int)) (by decide) rfl ?_
  intro p e s m args below meth c s₁ B hml hv
  obtain ⟨rfl, hsz, hP, hK, hD0⟩ := hv
  have hx := B.exec
  have hb := B.bytes
  have hr := B.returns
  have hlocks := B.notSynchronized
  have hC : CallFix p m c cX11_by 6 s _ wsX11_by RX11 := ⟨hx, hb, hml, findClass_of_methodNamed B.named, atoms_spec (ws := wsX11_by) B.pre⟩
  subst hsz
  have hD := hD0.self (sz := s.heap.size)
  generalize hAe : va_A [(av0, .inr (11, [.ref (ad 0), .ref (ad 1), .ref (ad 2), .ref (ad 3), .ref (ad 4), .ref (ad 5), .ref (ad 6), .ref (ad 7), .ref (ad 8), .ref (ad 9), .ref (ad 10), .ref (ad 11), .int 0])), ((ad 4), .inr (5, [.ref (ad 27), .ref (ad 28), .ref (ad 29), .ref (ad 30), .ref (ad 31), .ref (ad 32), .ref (ad 33), .ref (ad 34), .int 0, .int 0, .int 0, .int 0, .int 0, .int 0]))] s.heap.size = A at hD ⊢
  have hA : ∀ q : Nat, s.heap.size ≤ q → A q := fun q h => by rw [← hAe]; exact Or.inr h
  have hw : Wd dC dI A s.heap s.heap [] [(av0, .inr (11, [.ref (ad 0), .ref (ad 1), .ref (ad 2), .ref (ad 3), .ref (ad 4), .ref (ad 5), .ref (ad 6), .ref (ad 7), .ref (ad 8), .ref (ad 9), .ref (ad 10), .ref (ad 11), .int 0])), ((ad 4), .inr (5, [.ref (ad 27), .ref (ad 28), .ref (ad 29), .ref (ad 30), .ref (ad 31), .ref (ad 32), .ref (ad 33), .ref (ad 34), .int 0, .int 0, .int 0, .int 0, .int 0, .int 0]))] := ⟨hP, hD, va_S.rf⟩
  have hl := lv_entry ([.ref av0, .int p0, .int p1, .int p2, .int p3]) (n := 6) (Nat.le_of_ble_eq_true rfl)
  rw [lg_entry_eq]
  generalize (lg_sl ([.ref av0, .int p0, .int p1, .int p2, .int p3]) ++ List.replicate (6 - (lg_sl ([.ref av0, .int p0, .int p1, .int p2, .int p3])).length) Slot.unset).toArray = ls at hl ⊢
  have hl : lv_has ls 6 [(0, .ref av0), (1, .int p0), (2, .int p1), (3, .int p2), (4, .int p3)] := hl
  refine lv_aload_n hx hb dX11_by_0 rfl (lv_at hl 0 rfl) ?_
  refine lv_iload_n hx hb dX11_by_1 rfl (lv_at hl 1 rfl) ?_
  refine wk_Vi hC hK hw hA [0, 1] [] rfl rfl rfl rfl (by decide) (c_X11_hasMap_1 l dC dI cy av0 p0 (ad 0) (ad 1) (ad 2) (ad 3) (ad 4) (ad 5) (ad 6) (ad 7) (ad 8) (ad 9) (ad 10) (ad 11) (ad 27) (ad 28) (ad 29) (ad 30) (ad 31) (ad 32) (ad 33) (ad 34) s.heap.size ) (cwV 1 hC.2.2.2.2 gX11_by_X11_hasMap rfl rfl rfl (by decide +kernel) ⟨Nat.le_of_ble_eq_true rfl, Nat.le_of_ble_eq_true rfl⟩) rfl 0 rfl rfl hl.1 rfl (Nat.le_of_ble_eq_true rfl) dX11_by_2 0 0 ⟨rfl, rfl⟩ ⟨Nat.le_of_ble_eq_true rfl, Nat.le_of_ble_eq_true rfl⟩ (fun r2 u1 H locs hp3 hw => ?_)
  have hw : Wd dC dI A s.heap H locs [(av0, .inr (11, [.ref (ad 0), .ref (ad 1), .ref (ad 2), .ref (ad 3), .ref (ad 4), .ref (ad 5), .ref (ad 6), .ref (ad 7), .ref (ad 8), .ref (ad 9), .ref (ad 10), .ref (ad 11), .int 0])), ((ad 4), .inr (5, [.ref (ad 27), .ref (ad 28), .ref (ad 29), .ref (ad 30), .ref (ad 31), .ref (ad 32), .ref (ad 33), .ref (ad 34), .int 0, .int 0, .int 0, .int 0, .int 0, .int 0]))] := hw
  obtain rfl : r2 = 0 := hp3
  refine lv_if_eq (tgt := 35) hx hb dX11_by_5 (by decide) (fun _ => ?_) (fun c => absurd (by decide) c)
  refine lv_iconst (v := (-1)) hx hb dX11_by_35 (by decide) ?_
  exact wk_iret (v := (-1)) hC hr hlocks hK ((fun _ => 0), (fun _ _ => 0)) rfl [0, 1] rfl rfl hw dX11_by_36

set_option maxHeartbeats 4000000 in
set_option maxRecDepth 100000 in
theorem c_X11_hasCorner_1 (l : Launch) (dC : Nat → ClassId) (dI : Nat → Nat → Nat) (cy : Nat → ClassId) (av0 : Nat) (iv0 : Int32) (av1 : Nat) (av2 : Nat) (av3 : Nat) (av4 : Nat) (av5 : Nat) (av6 : Nat) (av7 : Nat) (av8 : Nat) (av9 : Nat) (av10 : Nat) (av11 : Nat) (av12 : Nat) (av28 : Nat) (av29 : Nat) (av30 : Nat) (av31 : Nat) (av32 : Nat) (av33 : Nat) (av34 : Nat) (av35 : Nat) (av69 : Nat) (av70 : Nat) (av71 : Nat) (av72 : Nat) (av73 : Nat) (av74 : Nat) (av75 : Nat) (av76 : Nat) (sz : Nat)  : Met l yX11_hasCorner wsX11_hasCorner ({ frames := 0, cells := 0, slots := 0, locals := 0 }) (va_Pc [.ref av0, .int iv0] (wpre dC dI cy sz [(av0, .inr (11, [.ref av1, .ref av2, .ref av3, .ref av4, .ref av5, .ref av6, .ref av7, .ref av8, .ref av9, .ref av10, .ref av11, .ref av12, .int 0])), (av5, .inr (5, [.ref av28, .ref av29, .ref av30, .ref av31, .ref av32, .ref av33, .ref av34, .ref av35, .int 0, .int 0, .int 0, .int 0, .int 0, .int 0])), (av28, .inr (7, [.ref av69, .ref av70, .ref av71, .ref av72, .ref av73, .ref av74, .ref av75, .ref av76, .int 0, .int 0, .int 0, .int 0]))])) (va_Qi (fun (r : Int32) (_ : ((Nat → Nat) × (Nat → Nat → Int32))) => r = 0) (fun u => wpost dC dI cy (va_A [(av0, .inr (11, [.ref av1, .ref av2, .ref av3, .ref av4, .ref av5, .ref av6, .ref av7, .ref av8, .ref av9, .ref av10, .ref av11, .ref av12, .int 0])), (av5, .inr (5, [.ref av28, .ref av29, .ref av30, .ref av31, .ref av32, .ref av33, .ref av34, .ref av35, .int 0, .int 0, .int 0, .int 0, .int 0, .int 0])), (av28, .inr (7, [.ref av69, .ref av70, .ref av71, .ref av72, .ref av73, .ref av74, .ref av75, .ref av76, .int 0, .int 0, .int 0, .int 0]))] sz) [(av0, .inr (11, [.ref av1, .ref av2, .ref av3, .ref av4, .ref av5, .ref av6, .ref av7, .ref av8, .ref av9, .ref av10, .ref av11, .ref av12, .int 0])), (av5, .inr (5, [.ref av28, .ref av29, .ref av30, .ref av31, .ref av32, .ref av33, .ref av34, .ref av35, .int 0, .int 0, .int 0, .int 0, .int 0, .int 0])), (av28, .inr (7, [.ref av69, .ref av70, .ref av71, .ref av72, .ref av73, .ref av74, .ref av75, .ref av76, .int 0, .int 0, .int 0, .int 0]))]) (va_A [(av0, .inr (11, [.ref av1, .ref av2, .ref av3, .ref av4, .ref av5, .ref av6, .ref av7, .ref av8, .ref av9, .ref av10, .ref av11, .ref av12, .int 0])), (av5, .inr (5, [.ref av28, .ref av29, .ref av30, .ref av31, .ref av32, .ref av33, .ref av34, .ref av35, .int 0, .int 0, .int 0, .int 0, .int 0, .int 0])), (av28, .inr (7, [.ref av69, .ref av70, .ref av71, .ref av72, .ref av73, .ref av74, .ref av75, .ref av76, .int 0, .int 0, .int 0, .int 0]))] sz)) 0 0 (va_A [(av0, .inr (11, [.ref av1, .ref av2, .ref av3, .ref av4, .ref av5, .ref av6, .ref av7, .ref av8, .ref av9, .ref av10, .ref av11, .ref av12, .int 0])), (av5, .inr (5, [.ref av28, .ref av29, .ref av30, .ref av31, .ref av32, .ref av33, .ref av34, .ref av35, .int 0, .int 0, .int 0, .int 0, .int 0, .int 0])), (av28, .inr (7, [.ref av69, .ref av70, .ref av71, .ref av72, .ref av73, .ref av74, .ref av75, .ref av76, .int 0, .int 0, .int 0, .int 0]))] sz) := by
  refine Met.ofW (cc := cX11_hasCorner) (maxL := 2) (ret := (some .boolean)) (by decide) rfl ?_
  intro p e s m args below meth c s₁ B hml hv
  obtain ⟨rfl, hsz, hP, hK, hD0⟩ := hv
  have hx := B.exec
  have hb := B.bytes
  have hr := B.returns
  have hlocks := B.notSynchronized
  have hC : CallFix p m c cX11_hasCorner 2 s _ wsX11_hasCorner RX11 := ⟨hx, hb, hml, findClass_of_methodNamed B.named, atoms_spec (ws := wsX11_hasCorner) B.pre⟩
  subst hsz
  have hD := hD0.self (sz := s.heap.size)
  generalize hAe : va_A [(av0, .inr (11, [.ref av1, .ref av2, .ref av3, .ref av4, .ref av5, .ref av6, .ref av7, .ref av8, .ref av9, .ref av10, .ref av11, .ref av12, .int 0])), (av5, .inr (5, [.ref av28, .ref av29, .ref av30, .ref av31, .ref av32, .ref av33, .ref av34, .ref av35, .int 0, .int 0, .int 0, .int 0, .int 0, .int 0])), (av28, .inr (7, [.ref av69, .ref av70, .ref av71, .ref av72, .ref av73, .ref av74, .ref av75, .ref av76, .int 0, .int 0, .int 0, .int 0]))] s.heap.size = A at hD ⊢
  have hA : ∀ q : Nat, s.heap.size ≤ q → A q := fun q h => by rw [← hAe]; exact Or.inr h
  have hw : Wd dC dI A s.heap s.heap [] [(av0, .inr (11, [.ref av1, .ref av2, .ref av3, .ref av4, .ref av5, .ref av6, .ref av7, .ref av8, .ref av9, .ref av10, .ref av11, .ref av12, .int 0])), (av5, .inr (5, [.ref av28, .ref av29, .ref av30, .ref av31, .ref av32, .ref av33, .ref av34, .ref av35, .int 0, .int 0, .int 0, .int 0, .int 0, .int 0])), (av28, .inr (7, [.ref av69, .ref av70, .ref av71, .ref av72, .ref av73, .ref av74, .ref av75, .ref av76, .int 0, .int 0, .int 0, .int 0]))] := ⟨hP, hD, va_S.rf⟩
  have hl := lv_entry ([.ref av0, .int iv0]) (n := 2) (Nat.le_of_ble_eq_true rfl)
  rw [lg_entry_eq]
  generalize (lg_sl ([.ref av0, .int iv0]) ++ List.replicate (2 - (lg_sl ([.ref av0, .int iv0])).length) Slot.unset).toArray = ls at hl ⊢
  have hl : lv_has ls 2 [(0, .ref av0), (1, .int iv0)] := hl
  have hinX11 : ∀ w ∈ u_ws RX11 TX11 13, w ∈ wsX11_hasCorner := fun _ h => List.mem_cons_of_mem _ (List.mem_append_left _ (List.mem_append_left _ (List.mem_append_right _ (h))))
  have hinX5 : ∀ w ∈ u_ws RX5 TX5 14, w ∈ wsX11_hasCorner := fun _ h => List.mem_cons_of_mem _ (List.mem_append_left _ (List.mem_append_right _ (h)))
  have hinX7 : ∀ w ∈ u_ws RX7 TX7 12, w ∈ wsX11_hasCorner := fun _ h => List.mem_cons_of_mem _ (List.mem_append_right _ (h))
  refine lv_iload_n hx hb dX11_hasCorner_0 rfl (lv_at hl 1 rfl) ?_
  refine lv_if_lt (tgt := 22) hx hb dX11_hasCorner_1 (by decide) (fun c1 => ?_) (fun c1 => ?_)
  · have c1 : iv0.toInt < 0 := wk_lt.mp c1
    refine lv_iconst (v := 0) hx hb dX11_hasCorner_22 (by decide) ?_
    exact wk_zret (v := 0) hC hr rfl hlocks hK ((fun _ => 0), (fun _ _ => 0)) rfl [0, 1, 2] rfl rfl hw dX11_hasCorner_23
  · have c1 : 0 ≤ iv0.toInt := wk_ltF c1
    refine lv_iload_n hx hb dX11_hasCorner_4 rfl (lv_at hl 1 rfl) ?_
    refine lv_aload_n hx hb dX11_hasCorner_5 rfl (lv_at hl 0 rfl) ?_
    refine wk_get hC hK hw hinX11 0 rfl rfl 4 (by decide) (List.mem_of_getElem? (i := 1) rfl) rfl rfl dX11_hasCorner_6 ?_
    refine wk_get hC hK hw hinX5 1 rfl rfl 0 (by decide) (List.mem_of_getElem? (i := 2) rfl) rfl rfl dX11_hasCorner_9 ?_
    refine wk_get hC hK hw hinX7 2 rfl rfl 8 (by decide) (List.mem_of_getElem? (i := 3) rfl) rfl rfl dX11_hasCorner_12 ?_
    refine lv_icmp_ge (tgt := 22) hx hb dX11_hasCorner_15 (by decide) (fun _ => ?_) (fun c => (c (wk_le.mpr (show 0 ≤ iv0.toInt by omega))).elim)
    refine lv_iconst (v := 0) hx hb dX11_hasCorner_22 (by decide) ?_
    exact wk_zret (v := 0) hC hr rfl hlocks hK ((fun _ => 0), (fun _ _ => 0)) rfl [0, 1, 2] rfl rfl hw dX11_hasCorner_23

set_option maxHeartbeats 4000000 in
set_option maxRecDepth 100000 in
theorem t_X11_walker (l : Launch) (dC : Nat → ClassId) (dI : Nat → Nat → Nat) (cy : Nat → ClassId) (av0 : Nat) (ad : Nat → Nat) (p0 : Int32) (p1 : Int32) (p2 : Int32) (p3 : Int32) (p4 : Int32) (sz : Nat)  : Met l yX11_walker wsX11_walker ({ frames := 1, cells := 0, slots := 0, locals := 21 }) (va_Pc [.ref av0, .int p0, .int p1, .int p2, .int p3, .int p4] (wpre dC dI cy sz [(av0, .inr (11, [.ref (ad 0), .ref (ad 1), .ref (ad 2), .ref (ad 3), .ref (ad 4), .ref (ad 5), .ref (ad 6), .ref (ad 7), .ref (ad 8), .ref (ad 9), .ref (ad 10), .ref (ad 11), .int 0])), ((ad 4), .inr (5, [.ref (ad 27), .ref (ad 28), .ref (ad 29), .ref (ad 30), .ref (ad 31), .ref (ad 32), .ref (ad 33), .ref (ad 34), .int 0, .int 0, .int 0, .int 0, .int 0, .int 0])), ((ad 27), .inr (7, [.ref (ad 68), .ref (ad 69), .ref (ad 70), .ref (ad 71), .ref (ad 72), .ref (ad 73), .ref (ad 74), .ref (ad 75), .int 0, .int 0, .int 0, .int 0]))])) (va_Qi (fun (r : Int32) (_ : ((Nat → Nat) × (Nat → Nat → Int32))) => r = (-2)) (fun u => wpost dC dI cy (va_A [(av0, .inr (11, [.ref (ad 0), .ref (ad 1), .ref (ad 2), .ref (ad 3), .ref (ad 4), .ref (ad 5), .ref (ad 6), .ref (ad 7), .ref (ad 8), .ref (ad 9), .ref (ad 10), .ref (ad 11), .int 0])), ((ad 4), .inr (5, [.ref (ad 27), .ref (ad 28), .ref (ad 29), .ref (ad 30), .ref (ad 31), .ref (ad 32), .ref (ad 33), .ref (ad 34), .int 0, .int 0, .int 0, .int 0, .int 0, .int 0])), ((ad 27), .inr (7, [.ref (ad 68), .ref (ad 69), .ref (ad 70), .ref (ad 71), .ref (ad 72), .ref (ad 73), .ref (ad 74), .ref (ad 75), .int 0, .int 0, .int 0, .int 0]))] sz) [(av0, .inr (11, [.ref (ad 0), .ref (ad 1), .ref (ad 2), .ref (ad 3), .ref (ad 4), .ref (ad 5), .ref (ad 6), .ref (ad 7), .ref (ad 8), .ref (ad 9), .ref (ad 10), .ref (ad 11), .int 0])), ((ad 4), .inr (5, [.ref (ad 27), .ref (ad 28), .ref (ad 29), .ref (ad 30), .ref (ad 31), .ref (ad 32), .ref (ad 33), .ref (ad 34), .int 0, .int 0, .int 0, .int 0, .int 0, .int 0])), ((ad 27), .inr (7, [.ref (ad 68), .ref (ad 69), .ref (ad 70), .ref (ad 71), .ref (ad 72), .ref (ad 73), .ref (ad 74), .ref (ad 75), .int 0, .int 0, .int 0, .int 0]))]) (va_A [(av0, .inr (11, [.ref (ad 0), .ref (ad 1), .ref (ad 2), .ref (ad 3), .ref (ad 4), .ref (ad 5), .ref (ad 6), .ref (ad 7), .ref (ad 8), .ref (ad 9), .ref (ad 10), .ref (ad 11), .int 0])), ((ad 4), .inr (5, [.ref (ad 27), .ref (ad 28), .ref (ad 29), .ref (ad 30), .ref (ad 31), .ref (ad 32), .ref (ad 33), .ref (ad 34), .int 0, .int 0, .int 0, .int 0, .int 0, .int 0])), ((ad 27), .inr (7, [.ref (ad 68), .ref (ad 69), .ref (ad 70), .ref (ad 71), .ref (ad 72), .ref (ad 73), .ref (ad 74), .ref (ad 75), .int 0, .int 0, .int 0, .int 0]))] sz)) 0 0 (va_A [(av0, .inr (11, [.ref (ad 0), .ref (ad 1), .ref (ad 2), .ref (ad 3), .ref (ad 4), .ref (ad 5), .ref (ad 6), .ref (ad 7), .ref (ad 8), .ref (ad 9), .ref (ad 10), .ref (ad 11), .int 0])), ((ad 4), .inr (5, [.ref (ad 27), .ref (ad 28), .ref (ad 29), .ref (ad 30), .ref (ad 31), .ref (ad 32), .ref (ad 33), .ref (ad 34), .int 0, .int 0, .int 0, .int 0, .int 0, .int 0])), ((ad 27), .inr (7, [.ref (ad 68), .ref (ad 69), .ref (ad 70), .ref (ad 71), .ref (ad 72), .ref (ad 73), .ref (ad 74), .ref (ad 75), .int 0, .int 0, .int 0, .int 0]))] sz) := by
  refine Met.ofW (cc := cX11_walker) (maxL := 7) (ret := (some .int)) (by decide) rfl ?_
  intro p e s m args below meth c s₁ B hml hv
  obtain ⟨rfl, hsz, hP, hK, hD0⟩ := hv
  have hx := B.exec
  have hb := B.bytes
  have hr := B.returns
  have hlocks := B.notSynchronized
  have hC : CallFix p m c cX11_walker 7 s _ wsX11_walker RX11 := ⟨hx, hb, hml, findClass_of_methodNamed B.named, atoms_spec (ws := wsX11_walker) B.pre⟩
  subst hsz
  have hD := hD0.self (sz := s.heap.size)
  generalize hAe : va_A [(av0, .inr (11, [.ref (ad 0), .ref (ad 1), .ref (ad 2), .ref (ad 3), .ref (ad 4), .ref (ad 5), .ref (ad 6), .ref (ad 7), .ref (ad 8), .ref (ad 9), .ref (ad 10), .ref (ad 11), .int 0])), ((ad 4), .inr (5, [.ref (ad 27), .ref (ad 28), .ref (ad 29), .ref (ad 30), .ref (ad 31), .ref (ad 32), .ref (ad 33), .ref (ad 34), .int 0, .int 0, .int 0, .int 0, .int 0, .int 0])), ((ad 27), .inr (7, [.ref (ad 68), .ref (ad 69), .ref (ad 70), .ref (ad 71), .ref (ad 72), .ref (ad 73), .ref (ad 74), .ref (ad 75), .int 0, .int 0, .int 0, .int 0]))] s.heap.size = A at hD ⊢
  have hA : ∀ q : Nat, s.heap.size ≤ q → A q := fun q h => by rw [← hAe]; exact Or.inr h
  have hw : Wd dC dI A s.heap s.heap [] [(av0, .inr (11, [.ref (ad 0), .ref (ad 1), .ref (ad 2), .ref (ad 3), .ref (ad 4), .ref (ad 5), .ref (ad 6), .ref (ad 7), .ref (ad 8), .ref (ad 9), .ref (ad 10), .ref (ad 11), .int 0])), ((ad 4), .inr (5, [.ref (ad 27), .ref (ad 28), .ref (ad 29), .ref (ad 30), .ref (ad 31), .ref (ad 32), .ref (ad 33), .ref (ad 34), .int 0, .int 0, .int 0, .int 0, .int 0, .int 0])), ((ad 27), .inr (7, [.ref (ad 68), .ref (ad 69), .ref (ad 70), .ref (ad 71), .ref (ad 72), .ref (ad 73), .ref (ad 74), .ref (ad 75), .int 0, .int 0, .int 0, .int 0]))] := ⟨hP, hD, va_S.rf⟩
  have hl := lv_entry ([.ref av0, .int p0, .int p1, .int p2, .int p3, .int p4]) (n := 7) (Nat.le_of_ble_eq_true rfl)
  rw [lg_entry_eq]
  generalize (lg_sl ([.ref av0, .int p0, .int p1, .int p2, .int p3, .int p4]) ++ List.replicate (7 - (lg_sl ([.ref av0, .int p0, .int p1, .int p2, .int p3, .int p4])).length) Slot.unset).toArray = ls at hl ⊢
  have hl : lv_has ls 7 [(0, .ref av0), (1, .int p0), (2, .int p1), (3, .int p2), (4, .int p3), (5, .int p4)] := hl
  refine lv_aload_n hx hb dX11_walker_0 rfl (lv_at hl 0 rfl) ?_
  refine lv_iload_n hx hb dX11_walker_1 rfl (lv_at hl 1 rfl) ?_
  refine wk_Vi hC hK hw hA [0, 1, 2] [] rfl rfl rfl rfl (by decide) (c_X11_hasCorner_1 l dC dI cy av0 p0 (ad 0) (ad 1) (ad 2) (ad 3) (ad 4) (ad 5) (ad 6) (ad 7) (ad 8) (ad 9) (ad 10) (ad 11) (ad 27) (ad 28) (ad 29) (ad 30) (ad 31) (ad 32) (ad 33) (ad 34) (ad 68) (ad 69) (ad 70) (ad 71) (ad 72) (ad 73) (ad 74) (ad 75) s.heap.size ) (cwV 1 hC.2.2.2.2 gX11_walker_X11_hasCorner rfl rfl rfl (by decide +kernel) ⟨Nat.le_of_ble_eq_true rfl, Nat.le_of_ble_eq_true rfl⟩) rfl 0 rfl rfl hl.1 rfl (Nat.le_of_ble_eq_true rfl) dX11_walker_2 0 0 ⟨rfl, rfl⟩ ⟨Nat.le_of_ble_eq_true rfl, Nat.le_of_ble_eq_true rfl⟩ (fun r2 u1 H locs hp3 hw => ?_)
  have hw : Wd dC dI A s.heap H locs [(av0, .inr (11, [.ref (ad 0), .ref (ad 1), .ref (ad 2), .ref (ad 3), .ref (ad 4), .ref (ad 5), .ref (ad 6), .ref (ad 7), .ref (ad 8), .ref (ad 9), .ref (ad 10), .ref (ad 11), .int 0])), ((ad 4), .inr (5, [.ref (ad 27), .ref (ad 28), .ref (ad 29), .ref (ad 30), .ref (ad 31), .ref (ad 32), .ref (ad 33), .ref (ad 34), .int 0, .int 0, .int 0, .int 0, .int 0, .int 0])), ((ad 27), .inr (7, [.ref (ad 68), .ref (ad 69), .ref (ad 70), .ref (ad 71), .ref (ad 72), .ref (ad 73), .ref (ad 74), .ref (ad 75), .int 0, .int 0, .int 0, .int 0]))] := hw
  obtain rfl : r2 = 0 := hp3
  refine lv_if_eq (tgt := 24) hx hb dX11_walker_5 (by decide) (fun _ => ?_) (fun c => absurd (by decide) c)
  refine lv_bipush (v := (-2)) hx hb dX11_walker_24 (by decide) ?_
  exact wk_iret (v := (-2)) hC hr hlocks hK ((fun _ => 0), (fun _ _ => 0)) rfl [0, 1, 2] rfl rfl hw dX11_walker_26

set_option maxHeartbeats 4000000 in
set_option maxRecDepth 100000 in
theorem c_X11_hasWalker_1 (l : Launch) (dC : Nat → ClassId) (dI : Nat → Nat → Nat) (cy : Nat → ClassId) (av0 : Nat) (iv0 : Int32) (av1 : Nat) (av2 : Nat) (av3 : Nat) (av4 : Nat) (av5 : Nat) (av6 : Nat) (av7 : Nat) (av8 : Nat) (av9 : Nat) (av10 : Nat) (av11 : Nat) (av12 : Nat) (av28 : Nat) (av29 : Nat) (av30 : Nat) (av31 : Nat) (av32 : Nat) (av33 : Nat) (av34 : Nat) (av35 : Nat) (sz : Nat)  : Met l yX11_hasWalker wsX11_hasWalker ({ frames := 0, cells := 0, slots := 0, locals := 0 }) (va_Pc [.ref av0, .int iv0] (wpre dC dI cy sz [(av0, .inr (11, [.ref av1, .ref av2, .ref av3, .ref av4, .ref av5, .ref av6, .ref av7, .ref av8, .ref av9, .ref av10, .ref av11, .ref av12, .int 0])), (av5, .inr (5, [.ref av28, .ref av29, .ref av30, .ref av31, .ref av32, .ref av33, .ref av34, .ref av35, .int 0, .int 0, .int 0, .int 0, .int 0, .int 0]))])) (va_Qi (fun (r : Int32) (_ : ((Nat → Nat) × (Nat → Nat → Int32))) => r = 0) (fun u => wpost dC dI cy (va_A [(av0, .inr (11, [.ref av1, .ref av2, .ref av3, .ref av4, .ref av5, .ref av6, .ref av7, .ref av8, .ref av9, .ref av10, .ref av11, .ref av12, .int 0])), (av5, .inr (5, [.ref av28, .ref av29, .ref av30, .ref av31, .ref av32, .ref av33, .ref av34, .ref av35, .int 0, .int 0, .int 0, .int 0, .int 0, .int 0]))] sz) [(av0, .inr (11, [.ref av1, .ref av2, .ref av3, .ref av4, .ref av5, .ref av6, .ref av7, .ref av8, .ref av9, .ref av10, .ref av11, .ref av12, .int 0])), (av5, .inr (5, [.ref av28, .ref av29, .ref av30, .ref av31, .ref av32, .ref av33, .ref av34, .ref av35, .int 0, .int 0, .int 0, .int 0, .int 0, .int 0]))]) (va_A [(av0, .inr (11, [.ref av1, .ref av2, .ref av3, .ref av4, .ref av5, .ref av6, .ref av7, .ref av8, .ref av9, .ref av10, .ref av11, .ref av12, .int 0])), (av5, .inr (5, [.ref av28, .ref av29, .ref av30, .ref av31, .ref av32, .ref av33, .ref av34, .ref av35, .int 0, .int 0, .int 0, .int 0, .int 0, .int 0]))] sz)) 0 0 (va_A [(av0, .inr (11, [.ref av1, .ref av2, .ref av3, .ref av4, .ref av5, .ref av6, .ref av7, .ref av8, .ref av9, .ref av10, .ref av11, .ref av12, .int 0])), (av5, .inr (5, [.ref av28, .ref av29, .ref av30, .ref av31, .ref av32, .ref av33, .ref av34, .ref av35, .int 0, .int 0, .int 0, .int 0, .int 0, .int 0]))] sz) := by
  refine Met.ofW (cc := cX11_hasWalker) (maxL := 2) (ret := (some .boolean)) (by decide) rfl ?_
  intro p e s m args below meth c s₁ B hml hv
  obtain ⟨rfl, hsz, hP, hK, hD0⟩ := hv
  have hx := B.exec
  have hb := B.bytes
  have hr := B.returns
  have hlocks := B.notSynchronized
  have hC : CallFix p m c cX11_hasWalker 2 s _ wsX11_hasWalker RX11 := ⟨hx, hb, hml, findClass_of_methodNamed B.named, atoms_spec (ws := wsX11_hasWalker) B.pre⟩
  subst hsz
  have hD := hD0.self (sz := s.heap.size)
  generalize hAe : va_A [(av0, .inr (11, [.ref av1, .ref av2, .ref av3, .ref av4, .ref av5, .ref av6, .ref av7, .ref av8, .ref av9, .ref av10, .ref av11, .ref av12, .int 0])), (av5, .inr (5, [.ref av28, .ref av29, .ref av30, .ref av31, .ref av32, .ref av33, .ref av34, .ref av35, .int 0, .int 0, .int 0, .int 0, .int 0, .int 0]))] s.heap.size = A at hD ⊢
  have hA : ∀ q : Nat, s.heap.size ≤ q → A q := fun q h => by rw [← hAe]; exact Or.inr h
  have hw : Wd dC dI A s.heap s.heap [] [(av0, .inr (11, [.ref av1, .ref av2, .ref av3, .ref av4, .ref av5, .ref av6, .ref av7, .ref av8, .ref av9, .ref av10, .ref av11, .ref av12, .int 0])), (av5, .inr (5, [.ref av28, .ref av29, .ref av30, .ref av31, .ref av32, .ref av33, .ref av34, .ref av35, .int 0, .int 0, .int 0, .int 0, .int 0, .int 0]))] := ⟨hP, hD, va_S.rf⟩
  have hl := lv_entry ([.ref av0, .int iv0]) (n := 2) (Nat.le_of_ble_eq_true rfl)
  rw [lg_entry_eq]
  generalize (lg_sl ([.ref av0, .int iv0]) ++ List.replicate (2 - (lg_sl ([.ref av0, .int iv0])).length) Slot.unset).toArray = ls at hl ⊢
  have hl : lv_has ls 2 [(0, .ref av0), (1, .int iv0)] := hl
  have hinX11 : ∀ w ∈ u_ws RX11 TX11 13, w ∈ wsX11_hasWalker := fun _ h => List.mem_cons_of_mem _ (List.mem_append_left _ (List.mem_append_right _ (h)))
  have hinX5 : ∀ w ∈ u_ws RX5 TX5 14, w ∈ wsX11_hasWalker := fun _ h => List.mem_cons_of_mem _ (List.mem_append_right _ (h))
  refine lv_iload_n hx hb dX11_hasWalker_0 rfl (lv_at hl 1 rfl) ?_
  refine lv_if_lt (tgt := 19) hx hb dX11_hasWalker_1 (by decide) (fun c1 => ?_) (fun c1 => ?_)
  · have c1 : iv0.toInt < 0 := wk_lt.mp c1
    refine lv_iconst (v := 0) hx hb dX11_hasWalker_19 (by decide) ?_
    exact wk_zret (v := 0) hC hr rfl hlocks hK ((fun _ => 0), (fun _ _ => 0)) rfl [0, 1] rfl rfl hw dX11_hasWalker_20
  · have c1 : 0 ≤ iv0.toInt := wk_ltF c1
    refine lv_iload_n hx hb dX11_hasWalker_4 rfl (lv_at hl 1 rfl) ?_
    refine lv_aload_n hx hb dX11_hasWalker_5 rfl (lv_at hl 0 rfl) ?_
    refine wk_get hC hK hw hinX11 0 rfl rfl 4 (by decide) (List.mem_of_getElem? (i := 1) rfl) rfl rfl dX11_hasWalker_6 ?_
    refine wk_get hC hK hw hinX5 1 rfl rfl 9 (by decide) (List.mem_of_getElem? (i := 2) rfl) rfl rfl dX11_hasWalker_9 ?_
    refine lv_icmp_ge (tgt := 19) hx hb dX11_hasWalker_12 (by decide) (fun _ => ?_) (fun c => (c (wk_le.mpr (show 0 ≤ iv0.toInt by omega))).elim)
    refine lv_iconst (v := 0) hx hb dX11_hasWalker_19 (by decide) ?_
    exact wk_zret (v := 0) hC hr rfl hlocks hK ((fun _ => 0), (fun _ _ => 0)) rfl [0, 1] rfl rfl hw dX11_hasWalker_20

set_option maxHeartbeats 4000000 in
set_option maxRecDepth 100000 in
theorem t_X11_about (l : Launch) (dC : Nat → ClassId) (dI : Nat → Nat → Nat) (cy : Nat → ClassId) (av0 : Nat) (ad : Nat → Nat) (p0 : Int32) (p1 : Int32) (sz : Nat)  : Met l yX11_about wsX11_about ({ frames := 1, cells := 0, slots := 0, locals := 21 }) (va_Pc [.ref av0, .int p0, .int p1] (wpre dC dI cy sz [(av0, .inr (11, [.ref (ad 0), .ref (ad 1), .ref (ad 2), .ref (ad 3), .ref (ad 4), .ref (ad 5), .ref (ad 6), .ref (ad 7), .ref (ad 8), .ref (ad 9), .ref (ad 10), .ref (ad 11), .int 0])), ((ad 4), .inr (5, [.ref (ad 27), .ref (ad 28), .ref (ad 29), .ref (ad 30), .ref (ad 31), .ref (ad 32), .ref (ad 33), .ref (ad 34), .int 0, .int 0, .int 0, .int 0, .int 0, .int 0]))])) (va_Qi (fun (r : Int32) (_ : ((Nat → Nat) × (Nat → Nat → Int32))) => r = (-1)) (fun u => wpost dC dI cy (va_A [(av0, .inr (11, [.ref (ad 0), .ref (ad 1), .ref (ad 2), .ref (ad 3), .ref (ad 4), .ref (ad 5), .ref (ad 6), .ref (ad 7), .ref (ad 8), .ref (ad 9), .ref (ad 10), .ref (ad 11), .int 0])), ((ad 4), .inr (5, [.ref (ad 27), .ref (ad 28), .ref (ad 29), .ref (ad 30), .ref (ad 31), .ref (ad 32), .ref (ad 33), .ref (ad 34), .int 0, .int 0, .int 0, .int 0, .int 0, .int 0]))] sz) [(av0, .inr (11, [.ref (ad 0), .ref (ad 1), .ref (ad 2), .ref (ad 3), .ref (ad 4), .ref (ad 5), .ref (ad 6), .ref (ad 7), .ref (ad 8), .ref (ad 9), .ref (ad 10), .ref (ad 11), .int 0])), ((ad 4), .inr (5, [.ref (ad 27), .ref (ad 28), .ref (ad 29), .ref (ad 30), .ref (ad 31), .ref (ad 32), .ref (ad 33), .ref (ad 34), .int 0, .int 0, .int 0, .int 0, .int 0, .int 0]))]) (va_A [(av0, .inr (11, [.ref (ad 0), .ref (ad 1), .ref (ad 2), .ref (ad 3), .ref (ad 4), .ref (ad 5), .ref (ad 6), .ref (ad 7), .ref (ad 8), .ref (ad 9), .ref (ad 10), .ref (ad 11), .int 0])), ((ad 4), .inr (5, [.ref (ad 27), .ref (ad 28), .ref (ad 29), .ref (ad 30), .ref (ad 31), .ref (ad 32), .ref (ad 33), .ref (ad 34), .int 0, .int 0, .int 0, .int 0, .int 0, .int 0]))] sz)) 0 0 (va_A [(av0, .inr (11, [.ref (ad 0), .ref (ad 1), .ref (ad 2), .ref (ad 3), .ref (ad 4), .ref (ad 5), .ref (ad 6), .ref (ad 7), .ref (ad 8), .ref (ad 9), .ref (ad 10), .ref (ad 11), .int 0])), ((ad 4), .inr (5, [.ref (ad 27), .ref (ad 28), .ref (ad 29), .ref (ad 30), .ref (ad 31), .ref (ad 32), .ref (ad 33), .ref (ad 34), .int 0, .int 0, .int 0, .int 0, .int 0, .int 0]))] sz) := by
  refine Met.ofW (cc := cX11_about) (maxL := 3) (ret := (some .int)) (by decide) rfl ?_
  intro p e s m args below meth c s₁ B hml hv
  obtain ⟨rfl, hsz, hP, hK, hD0⟩ := hv
  have hx := B.exec
  have hb := B.bytes
  have hr := B.returns
  have hlocks := B.notSynchronized
  have hC : CallFix p m c cX11_about 3 s _ wsX11_about RX11 := ⟨hx, hb, hml, findClass_of_methodNamed B.named, atoms_spec (ws := wsX11_about) B.pre⟩
  subst hsz
  have hD := hD0.self (sz := s.heap.size)
  generalize hAe : va_A [(av0, .inr (11, [.ref (ad 0), .ref (ad 1), .ref (ad 2), .ref (ad 3), .ref (ad 4), .ref (ad 5), .ref (ad 6), .ref (ad 7), .ref (ad 8), .ref (ad 9), .ref (ad 10), .ref (ad 11), .int 0])), ((ad 4), .inr (5, [.ref (ad 27), .ref (ad 28), .ref (ad 29), .ref (ad 30), .ref (ad 31), .ref (ad 32), .ref (ad 33), .ref (ad 34), .int 0, .int 0, .int 0, .int 0, .int 0, .int 0]))] s.heap.size = A at hD ⊢
  have hA : ∀ q : Nat, s.heap.size ≤ q → A q := fun q h => by rw [← hAe]; exact Or.inr h
  have hw : Wd dC dI A s.heap s.heap [] [(av0, .inr (11, [.ref (ad 0), .ref (ad 1), .ref (ad 2), .ref (ad 3), .ref (ad 4), .ref (ad 5), .ref (ad 6), .ref (ad 7), .ref (ad 8), .ref (ad 9), .ref (ad 10), .ref (ad 11), .int 0])), ((ad 4), .inr (5, [.ref (ad 27), .ref (ad 28), .ref (ad 29), .ref (ad 30), .ref (ad 31), .ref (ad 32), .ref (ad 33), .ref (ad 34), .int 0, .int 0, .int 0, .int 0, .int 0, .int 0]))] := ⟨hP, hD, va_S.rf⟩
  have hl := lv_entry ([.ref av0, .int p0, .int p1]) (n := 3) (Nat.le_of_ble_eq_true rfl)
  rw [lg_entry_eq]
  generalize (lg_sl ([.ref av0, .int p0, .int p1]) ++ List.replicate (3 - (lg_sl ([.ref av0, .int p0, .int p1])).length) Slot.unset).toArray = ls at hl ⊢
  have hl : lv_has ls 3 [(0, .ref av0), (1, .int p0), (2, .int p1)] := hl
  refine lv_aload_n hx hb dX11_about_0 rfl (lv_at hl 0 rfl) ?_
  refine lv_iload_n hx hb dX11_about_1 rfl (lv_at hl 1 rfl) ?_
  refine wk_Vi hC hK hw hA [0, 1] [] rfl rfl rfl rfl (by decide) (c_X11_hasWalker_1 l dC dI cy av0 p0 (ad 0) (ad 1) (ad 2) (ad 3) (ad 4) (ad 5) (ad 6) (ad 7) (ad 8) (ad 9) (ad 10) (ad 11) (ad 27) (ad 28) (ad 29) (ad 30) (ad 31) (ad 32) (ad 33) (ad 34) s.heap.size ) (cwV 1 hC.2.2.2.2 gX11_about_X11_hasWalker rfl rfl rfl (by decide +kernel) ⟨Nat.le_of_ble_eq_true rfl, Nat.le_of_ble_eq_true rfl⟩) rfl 0 rfl rfl hl.1 rfl (Nat.le_of_ble_eq_true rfl) dX11_about_2 0 0 ⟨rfl, rfl⟩ ⟨Nat.le_of_ble_eq_true rfl, Nat.le_of_ble_eq_true rfl⟩ (fun r2 u1 H locs hp3 hw => ?_)
  have hw : Wd dC dI A s.heap H locs [(av0, .inr (11, [.ref (ad 0), .ref (ad 1), .ref (ad 2), .ref (ad 3), .ref (ad 4), .ref (ad 5), .ref (ad 6), .ref (ad 7), .ref (ad 8), .ref (ad 9), .ref (ad 10), .ref (ad 11), .int 0])), ((ad 4), .inr (5, [.ref (ad 27), .ref (ad 28), .ref (ad 29), .ref (ad 30), .ref (ad 31), .ref (ad 32), .ref (ad 33), .ref (ad 34), .int 0, .int 0, .int 0, .int 0, .int 0, .int 0]))] := hw
  obtain rfl : r2 = 0 := hp3
  refine lv_if_eq (tgt := 18) hx hb dX11_about_5 (by decide) (fun _ => ?_) (fun c => absurd (by decide) c)
  refine lv_iconst (v := (-1)) hx hb dX11_about_18 (by decide) ?_
  exact wk_iret (v := (-1)) hC hr hlocks hK ((fun _ => 0), (fun _ _ => 0)) rfl [0, 1] rfl rfl hw dX11_about_19

set_option maxHeartbeats 4000000 in
set_option maxRecDepth 100000 in
theorem t_X11_step (l : Launch) (dC : Nat → ClassId) (dI : Nat → Nat → Nat) (cy : Nat → ClassId) (av0 : Nat) (ad : Nat → Nat) (p0 : Int32) (p1 : Int32) (sz : Nat)  : Met l yX11_step wsX11_step ({ frames := 1, cells := 0, slots := 0, locals := 21 }) (va_Pc [.ref av0, .int p0, .int p1] (wpre dC dI cy sz [(av0, .inr (11, [.ref (ad 0), .ref (ad 1), .ref (ad 2), .ref (ad 3), .ref (ad 4), .ref (ad 5), .ref (ad 6), .ref (ad 7), .ref (ad 8), .ref (ad 9), .ref (ad 10), .ref (ad 11), .int 0])), ((ad 4), .inr (5, [.ref (ad 27), .ref (ad 28), .ref (ad 29), .ref (ad 30), .ref (ad 31), .ref (ad 32), .ref (ad 33), .ref (ad 34), .int 0, .int 0, .int 0, .int 0, .int 0, .int 0]))])) (va_Qi (fun (r : Int32) (_ : ((Nat → Nat) × (Nat → Nat → Int32))) => r = (-1)) (fun u => wpost dC dI cy (va_A [(av0, .inr (11, [.ref (ad 0), .ref (ad 1), .ref (ad 2), .ref (ad 3), .ref (ad 4), .ref (ad 5), .ref (ad 6), .ref (ad 7), .ref (ad 8), .ref (ad 9), .ref (ad 10), .ref (ad 11), .int 0])), ((ad 4), .inr (5, [.ref (ad 27), .ref (ad 28), .ref (ad 29), .ref (ad 30), .ref (ad 31), .ref (ad 32), .ref (ad 33), .ref (ad 34), .int 0, .int 0, .int 0, .int 0, .int 0, .int 0]))] sz) [(av0, .inr (11, [.ref (ad 0), .ref (ad 1), .ref (ad 2), .ref (ad 3), .ref (ad 4), .ref (ad 5), .ref (ad 6), .ref (ad 7), .ref (ad 8), .ref (ad 9), .ref (ad 10), .ref (ad 11), .int 0])), ((ad 4), .inr (5, [.ref (ad 27), .ref (ad 28), .ref (ad 29), .ref (ad 30), .ref (ad 31), .ref (ad 32), .ref (ad 33), .ref (ad 34), .int 0, .int 0, .int 0, .int 0, .int 0, .int 0]))]) (va_A [(av0, .inr (11, [.ref (ad 0), .ref (ad 1), .ref (ad 2), .ref (ad 3), .ref (ad 4), .ref (ad 5), .ref (ad 6), .ref (ad 7), .ref (ad 8), .ref (ad 9), .ref (ad 10), .ref (ad 11), .int 0])), ((ad 4), .inr (5, [.ref (ad 27), .ref (ad 28), .ref (ad 29), .ref (ad 30), .ref (ad 31), .ref (ad 32), .ref (ad 33), .ref (ad 34), .int 0, .int 0, .int 0, .int 0, .int 0, .int 0]))] sz)) 0 0 (va_A [(av0, .inr (11, [.ref (ad 0), .ref (ad 1), .ref (ad 2), .ref (ad 3), .ref (ad 4), .ref (ad 5), .ref (ad 6), .ref (ad 7), .ref (ad 8), .ref (ad 9), .ref (ad 10), .ref (ad 11), .int 0])), ((ad 4), .inr (5, [.ref (ad 27), .ref (ad 28), .ref (ad 29), .ref (ad 30), .ref (ad 31), .ref (ad 32), .ref (ad 33), .ref (ad 34), .int 0, .int 0, .int 0, .int 0, .int 0, .int 0]))] sz) := by
  refine Met.ofW (cc := cX11_step) (maxL := 4) (ret := (some .int)) (by decide) rfl ?_
  intro p e s m args below meth c s₁ B hml hv
  obtain ⟨rfl, hsz, hP, hK, hD0⟩ := hv
  have hx := B.exec
  have hb := B.bytes
  have hr := B.returns
  have hlocks := B.notSynchronized
  have hC : CallFix p m c cX11_step 4 s _ wsX11_step RX11 := ⟨hx, hb, hml, findClass_of_methodNamed B.named, atoms_spec (ws := wsX11_step) B.pre⟩
  subst hsz
  have hD := hD0.self (sz := s.heap.size)
  generalize hAe : va_A [(av0, .inr (11, [.ref (ad 0), .ref (ad 1), .ref (ad 2), .ref (ad 3), .ref (ad 4), .ref (ad 5), .ref (ad 6), .ref (ad 7), .ref (ad 8), .ref (ad 9), .ref (ad 10), .ref (ad 11), .int 0])), ((ad 4), .inr (5, [.ref (ad 27), .ref (ad 28), .ref (ad 29), .ref (ad 30), .ref (ad 31), .ref (ad 32), .ref (ad 33), .ref (ad 34), .int 0, .int 0, .int 0, .int 0, .int 0, .int 0]))] s.heap.size = A at hD ⊢
  have hA : ∀ q : Nat, s.heap.size ≤ q → A q := fun q h => by rw [← hAe]; exact Or.inr h
  have hw : Wd dC dI A s.heap s.heap [] [(av0, .inr (11, [.ref (ad 0), .ref (ad 1), .ref (ad 2), .ref (ad 3), .ref (ad 4), .ref (ad 5), .ref (ad 6), .ref (ad 7), .ref (ad 8), .ref (ad 9), .ref (ad 10), .ref (ad 11), .int 0])), ((ad 4), .inr (5, [.ref (ad 27), .ref (ad 28), .ref (ad 29), .ref (ad 30), .ref (ad 31), .ref (ad 32), .ref (ad 33), .ref (ad 34), .int 0, .int 0, .int 0, .int 0, .int 0, .int 0]))] := ⟨hP, hD, va_S.rf⟩
  have hl := lv_entry ([.ref av0, .int p0, .int p1]) (n := 4) (Nat.le_of_ble_eq_true rfl)
  rw [lg_entry_eq]
  generalize (lg_sl ([.ref av0, .int p0, .int p1]) ++ List.replicate (4 - (lg_sl ([.ref av0, .int p0, .int p1])).length) Slot.unset).toArray = ls at hl ⊢
  have hl : lv_has ls 4 [(0, .ref av0), (1, .int p0), (2, .int p1)] := hl
  refine lv_aload_n hx hb dX11_step_0 rfl (lv_at hl 0 rfl) ?_
  refine lv_iload_n hx hb dX11_step_1 rfl (lv_at hl 1 rfl) ?_
  refine wk_Vi hC hK hw hA [0, 1] [] rfl rfl rfl rfl (by decide) (c_X11_hasWalker_1 l dC dI cy av0 p0 (ad 0) (ad 1) (ad 2) (ad 3) (ad 4) (ad 5) (ad 6) (ad 7) (ad 8) (ad 9) (ad 10) (ad 11) (ad 27) (ad 28) (ad 29) (ad 30) (ad 31) (ad 32) (ad 33) (ad 34) s.heap.size ) (cwV 1 hC.2.2.2.2 gX11_step_X11_hasWalker rfl rfl rfl (by decide +kernel) ⟨Nat.le_of_ble_eq_true rfl, Nat.le_of_ble_eq_true rfl⟩) rfl 0 rfl rfl hl.1 rfl (Nat.le_of_ble_eq_true rfl) dX11_step_2 0 0 ⟨rfl, rfl⟩ ⟨Nat.le_of_ble_eq_true rfl, Nat.le_of_ble_eq_true rfl⟩ (fun r2 u1 H locs hp3 hw => ?_)
  have hw : Wd dC dI A s.heap H locs [(av0, .inr (11, [.ref (ad 0), .ref (ad 1), .ref (ad 2), .ref (ad 3), .ref (ad 4), .ref (ad 5), .ref (ad 6), .ref (ad 7), .ref (ad 8), .ref (ad 9), .ref (ad 10), .ref (ad 11), .int 0])), ((ad 4), .inr (5, [.ref (ad 27), .ref (ad 28), .ref (ad 29), .ref (ad 30), .ref (ad 31), .ref (ad 32), .ref (ad 33), .ref (ad 34), .int 0, .int 0, .int 0, .int 0, .int 0, .int 0]))] := hw
  obtain rfl : r2 = 0 := hp3
  refine lv_if_eq (tgt := 20) hx hb dX11_step_5 (by decide) (fun _ => ?_) (fun c => absurd (by decide) c)
  refine lv_iconst (v := (-1)) hx hb dX11_step_20 (by decide) ?_
  exact wk_iret (v := (-1)) hC hr hlocks hK ((fun _ => 0), (fun _ _ => 0)) rfl [0, 1] rfl rfl hw dX11_step_21

set_option maxHeartbeats 4000000 in
set_option maxRecDepth 100000 in
theorem t_X11_soonest (l : Launch) (dC : Nat → ClassId) (dI : Nat → Nat → Nat) (cy : Nat → ClassId) (av0 : Nat) (ad : Nat → Nat) (p0 : Int32) (p1 : Int32) (p2 : Int32) (sz : Nat)  : Met l yX11_soonest wsX11_soonest ({ frames := 1, cells := 0, slots := 0, locals := 21 }) (va_Pc [.ref av0, .int p0, .int p1, .int p2] (wpre dC dI cy sz [(av0, .inr (11, [.ref (ad 0), .ref (ad 1), .ref (ad 2), .ref (ad 3), .ref (ad 4), .ref (ad 5), .ref (ad 6), .ref (ad 7), .ref (ad 8), .ref (ad 9), .ref (ad 10), .ref (ad 11), .int 0])), ((ad 4), .inr (5, [.ref (ad 27), .ref (ad 28), .ref (ad 29), .ref (ad 30), .ref (ad 31), .ref (ad 32), .ref (ad 33), .ref (ad 34), .int 0, .int 0, .int 0, .int 0, .int 0, .int 0])), ((ad 27), .inr (7, [.ref (ad 68), .ref (ad 69), .ref (ad 70), .ref (ad 71), .ref (ad 72), .ref (ad 73), .ref (ad 74), .ref (ad 75), .int 0, .int 0, .int 0, .int 0]))])) (va_Qi (fun (r : Int32) (_ : ((Nat → Nat) × (Nat → Nat → Int32))) => r = (-1)) (fun u => wpost dC dI cy (va_A [(av0, .inr (11, [.ref (ad 0), .ref (ad 1), .ref (ad 2), .ref (ad 3), .ref (ad 4), .ref (ad 5), .ref (ad 6), .ref (ad 7), .ref (ad 8), .ref (ad 9), .ref (ad 10), .ref (ad 11), .int 0])), ((ad 4), .inr (5, [.ref (ad 27), .ref (ad 28), .ref (ad 29), .ref (ad 30), .ref (ad 31), .ref (ad 32), .ref (ad 33), .ref (ad 34), .int 0, .int 0, .int 0, .int 0, .int 0, .int 0])), ((ad 27), .inr (7, [.ref (ad 68), .ref (ad 69), .ref (ad 70), .ref (ad 71), .ref (ad 72), .ref (ad 73), .ref (ad 74), .ref (ad 75), .int 0, .int 0, .int 0, .int 0]))] sz) [(av0, .inr (11, [.ref (ad 0), .ref (ad 1), .ref (ad 2), .ref (ad 3), .ref (ad 4), .ref (ad 5), .ref (ad 6), .ref (ad 7), .ref (ad 8), .ref (ad 9), .ref (ad 10), .ref (ad 11), .int 0])), ((ad 4), .inr (5, [.ref (ad 27), .ref (ad 28), .ref (ad 29), .ref (ad 30), .ref (ad 31), .ref (ad 32), .ref (ad 33), .ref (ad 34), .int 0, .int 0, .int 0, .int 0, .int 0, .int 0])), ((ad 27), .inr (7, [.ref (ad 68), .ref (ad 69), .ref (ad 70), .ref (ad 71), .ref (ad 72), .ref (ad 73), .ref (ad 74), .ref (ad 75), .int 0, .int 0, .int 0, .int 0]))]) (va_A [(av0, .inr (11, [.ref (ad 0), .ref (ad 1), .ref (ad 2), .ref (ad 3), .ref (ad 4), .ref (ad 5), .ref (ad 6), .ref (ad 7), .ref (ad 8), .ref (ad 9), .ref (ad 10), .ref (ad 11), .int 0])), ((ad 4), .inr (5, [.ref (ad 27), .ref (ad 28), .ref (ad 29), .ref (ad 30), .ref (ad 31), .ref (ad 32), .ref (ad 33), .ref (ad 34), .int 0, .int 0, .int 0, .int 0, .int 0, .int 0])), ((ad 27), .inr (7, [.ref (ad 68), .ref (ad 69), .ref (ad 70), .ref (ad 71), .ref (ad 72), .ref (ad 73), .ref (ad 74), .ref (ad 75), .int 0, .int 0, .int 0, .int 0]))] sz)) 0 0 (va_A [(av0, .inr (11, [.ref (ad 0), .ref (ad 1), .ref (ad 2), .ref (ad 3), .ref (ad 4), .ref (ad 5), .ref (ad 6), .ref (ad 7), .ref (ad 8), .ref (ad 9), .ref (ad 10), .ref (ad 11), .int 0])), ((ad 4), .inr (5, [.ref (ad 27), .ref (ad 28), .ref (ad 29), .ref (ad 30), .ref (ad 31), .ref (ad 32), .ref (ad 33), .ref (ad 34), .int 0, .int 0, .int 0, .int 0, .int 0, .int 0])), ((ad 27), .inr (7, [.ref (ad 68), .ref (ad 69), .ref (ad 70), .ref (ad 71), .ref (ad 72), .ref (ad 73), .ref (ad 74), .ref (ad 75), .int 0, .int 0, .int 0, .int 0]))] sz) := by
  refine Met.ofW (cc := cX11_soonest) (maxL := 5) (ret := (some .int)) (by decide) rfl ?_
  intro p e s m args below meth c s₁ B hml hv
  obtain ⟨rfl, hsz, hP, hK, hD0⟩ := hv
  have hx := B.exec
  have hb := B.bytes
  have hr := B.returns
  have hlocks := B.notSynchronized
  have hC : CallFix p m c cX11_soonest 5 s _ wsX11_soonest RX11 := ⟨hx, hb, hml, findClass_of_methodNamed B.named, atoms_spec (ws := wsX11_soonest) B.pre⟩
  subst hsz
  have hD := hD0.self (sz := s.heap.size)
  generalize hAe : va_A [(av0, .inr (11, [.ref (ad 0), .ref (ad 1), .ref (ad 2), .ref (ad 3), .ref (ad 4), .ref (ad 5), .ref (ad 6), .ref (ad 7), .ref (ad 8), .ref (ad 9), .ref (ad 10), .ref (ad 11), .int 0])), ((ad 4), .inr (5, [.ref (ad 27), .ref (ad 28), .ref (ad 29), .ref (ad 30), .ref (ad 31), .ref (ad 32), .ref (ad 33), .ref (ad 34), .int 0, .int 0, .int 0, .int 0, .int 0, .int 0])), ((ad 27), .inr (7, [.ref (ad 68), .ref (ad 69), .ref (ad 70), .ref (ad 71), .ref (ad 72), .ref (ad 73), .ref (ad 74), .ref (ad 75), .int 0, .int 0, .int 0, .int 0]))] s.heap.size = A at hD ⊢
  have hA : ∀ q : Nat, s.heap.size ≤ q → A q := fun q h => by rw [← hAe]; exact Or.inr h
  have hw : Wd dC dI A s.heap s.heap [] [(av0, .inr (11, [.ref (ad 0), .ref (ad 1), .ref (ad 2), .ref (ad 3), .ref (ad 4), .ref (ad 5), .ref (ad 6), .ref (ad 7), .ref (ad 8), .ref (ad 9), .ref (ad 10), .ref (ad 11), .int 0])), ((ad 4), .inr (5, [.ref (ad 27), .ref (ad 28), .ref (ad 29), .ref (ad 30), .ref (ad 31), .ref (ad 32), .ref (ad 33), .ref (ad 34), .int 0, .int 0, .int 0, .int 0, .int 0, .int 0])), ((ad 27), .inr (7, [.ref (ad 68), .ref (ad 69), .ref (ad 70), .ref (ad 71), .ref (ad 72), .ref (ad 73), .ref (ad 74), .ref (ad 75), .int 0, .int 0, .int 0, .int 0]))] := ⟨hP, hD, va_S.rf⟩
  have hl := lv_entry ([.ref av0, .int p0, .int p1, .int p2]) (n := 5) (Nat.le_of_ble_eq_true rfl)
  rw [lg_entry_eq]
  generalize (lg_sl ([.ref av0, .int p0, .int p1, .int p2]) ++ List.replicate (5 - (lg_sl ([.ref av0, .int p0, .int p1, .int p2])).length) Slot.unset).toArray = ls at hl ⊢
  have hl : lv_has ls 5 [(0, .ref av0), (1, .int p0), (2, .int p1), (3, .int p2)] := hl
  refine lv_aload_n hx hb dX11_soonest_0 rfl (lv_at hl 0 rfl) ?_
  refine lv_iload_n hx hb dX11_soonest_1 rfl (lv_at hl 1 rfl) ?_
  refine wk_Vi hC hK hw hA [0, 1, 2] [] rfl rfl rfl rfl (by decide) (c_X11_hasCorner_1 l dC dI cy av0 p0 (ad 0) (ad 1) (ad 2) (ad 3) (ad 4) (ad 5) (ad 6) (ad 7) (ad 8) (ad 9) (ad 10) (ad 11) (ad 27) (ad 28) (ad 29) (ad 30) (ad 31) (ad 32) (ad 33) (ad 34) (ad 68) (ad 69) (ad 70) (ad 71) (ad 72) (ad 73) (ad 74) (ad 75) s.heap.size ) (cwV 1 hC.2.2.2.2 gX11_soonest_X11_hasCorner rfl rfl rfl (by decide +kernel) ⟨Nat.le_of_ble_eq_true rfl, Nat.le_of_ble_eq_true rfl⟩) rfl 0 rfl rfl hl.1 rfl (Nat.le_of_ble_eq_true rfl) dX11_soonest_2 0 0 ⟨rfl, rfl⟩ ⟨Nat.le_of_ble_eq_true rfl, Nat.le_of_ble_eq_true rfl⟩ (fun r2 u1 H locs hp3 hw => ?_)
  have hw : Wd dC dI A s.heap H locs [(av0, .inr (11, [.ref (ad 0), .ref (ad 1), .ref (ad 2), .ref (ad 3), .ref (ad 4), .ref (ad 5), .ref (ad 6), .ref (ad 7), .ref (ad 8), .ref (ad 9), .ref (ad 10), .ref (ad 11), .int 0])), ((ad 4), .inr (5, [.ref (ad 27), .ref (ad 28), .ref (ad 29), .ref (ad 30), .ref (ad 31), .ref (ad 32), .ref (ad 33), .ref (ad 34), .int 0, .int 0, .int 0, .int 0, .int 0, .int 0])), ((ad 27), .inr (7, [.ref (ad 68), .ref (ad 69), .ref (ad 70), .ref (ad 71), .ref (ad 72), .ref (ad 73), .ref (ad 74), .ref (ad 75), .int 0, .int 0, .int 0, .int 0]))] := hw
  obtain rfl : r2 = 0 := hp3
  refine lv_if_eq (tgt := 23) hx hb dX11_soonest_5 (by decide) (fun _ => ?_) (fun c => absurd (by decide) c)
  refine lv_iconst (v := (-1)) hx hb dX11_soonest_23 (by decide) ?_
  exact wk_iret (v := (-1)) hC hr hlocks hK ((fun _ => 0), (fun _ _ => 0)) rfl [0, 1, 2] rfl rfl hw dX11_soonest_24

set_option maxHeartbeats 4000000 in
set_option maxRecDepth 100000 in
theorem t_X11_way (l : Launch) (dC : Nat → ClassId) (dI : Nat → Nat → Nat) (cy : Nat → ClassId) (av0 : Nat) (ad : Nat → Nat) (p0 : Int32) (p1 : Int32) (p2 : Int32) (p3 : Int32) (sz : Nat)  : Met l yX11_way wsX11_way ({ frames := 1, cells := 0, slots := 0, locals := 21 }) (va_Pc [.ref av0, .int p0, .int p1, .int p2, .int p3] (wpre dC dI cy sz [(av0, .inr (11, [.ref (ad 0), .ref (ad 1), .ref (ad 2), .ref (ad 3), .ref (ad 4), .ref (ad 5), .ref (ad 6), .ref (ad 7), .ref (ad 8), .ref (ad 9), .ref (ad 10), .ref (ad 11), .int 0])), ((ad 4), .inr (5, [.ref (ad 27), .ref (ad 28), .ref (ad 29), .ref (ad 30), .ref (ad 31), .ref (ad 32), .ref (ad 33), .ref (ad 34), .int 0, .int 0, .int 0, .int 0, .int 0, .int 0])), ((ad 27), .inr (7, [.ref (ad 68), .ref (ad 69), .ref (ad 70), .ref (ad 71), .ref (ad 72), .ref (ad 73), .ref (ad 74), .ref (ad 75), .int 0, .int 0, .int 0, .int 0]))])) (va_Qi (fun (r : Int32) (_ : ((Nat → Nat) × (Nat → Nat → Int32))) => r = (-1)) (fun u => wpost dC dI cy (va_A [(av0, .inr (11, [.ref (ad 0), .ref (ad 1), .ref (ad 2), .ref (ad 3), .ref (ad 4), .ref (ad 5), .ref (ad 6), .ref (ad 7), .ref (ad 8), .ref (ad 9), .ref (ad 10), .ref (ad 11), .int 0])), ((ad 4), .inr (5, [.ref (ad 27), .ref (ad 28), .ref (ad 29), .ref (ad 30), .ref (ad 31), .ref (ad 32), .ref (ad 33), .ref (ad 34), .int 0, .int 0, .int 0, .int 0, .int 0, .int 0])), ((ad 27), .inr (7, [.ref (ad 68), .ref (ad 69), .ref (ad 70), .ref (ad 71), .ref (ad 72), .ref (ad 73), .ref (ad 74), .ref (ad 75), .int 0, .int 0, .int 0, .int 0]))] sz) [(av0, .inr (11, [.ref (ad 0), .ref (ad 1), .ref (ad 2), .ref (ad 3), .ref (ad 4), .ref (ad 5), .ref (ad 6), .ref (ad 7), .ref (ad 8), .ref (ad 9), .ref (ad 10), .ref (ad 11), .int 0])), ((ad 4), .inr (5, [.ref (ad 27), .ref (ad 28), .ref (ad 29), .ref (ad 30), .ref (ad 31), .ref (ad 32), .ref (ad 33), .ref (ad 34), .int 0, .int 0, .int 0, .int 0, .int 0, .int 0])), ((ad 27), .inr (7, [.ref (ad 68), .ref (ad 69), .ref (ad 70), .ref (ad 71), .ref (ad 72), .ref (ad 73), .ref (ad 74), .ref (ad 75), .int 0, .int 0, .int 0, .int 0]))]) (va_A [(av0, .inr (11, [.ref (ad 0), .ref (ad 1), .ref (ad 2), .ref (ad 3), .ref (ad 4), .ref (ad 5), .ref (ad 6), .ref (ad 7), .ref (ad 8), .ref (ad 9), .ref (ad 10), .ref (ad 11), .int 0])), ((ad 4), .inr (5, [.ref (ad 27), .ref (ad 28), .ref (ad 29), .ref (ad 30), .ref (ad 31), .ref (ad 32), .ref (ad 33), .ref (ad 34), .int 0, .int 0, .int 0, .int 0, .int 0, .int 0])), ((ad 27), .inr (7, [.ref (ad 68), .ref (ad 69), .ref (ad 70), .ref (ad 71), .ref (ad 72), .ref (ad 73), .ref (ad 74), .ref (ad 75), .int 0, .int 0, .int 0, .int 0]))] sz)) 0 0 (va_A [(av0, .inr (11, [.ref (ad 0), .ref (ad 1), .ref (ad 2), .ref (ad 3), .ref (ad 4), .ref (ad 5), .ref (ad 6), .ref (ad 7), .ref (ad 8), .ref (ad 9), .ref (ad 10), .ref (ad 11), .int 0])), ((ad 4), .inr (5, [.ref (ad 27), .ref (ad 28), .ref (ad 29), .ref (ad 30), .ref (ad 31), .ref (ad 32), .ref (ad 33), .ref (ad 34), .int 0, .int 0, .int 0, .int 0, .int 0, .int 0])), ((ad 27), .inr (7, [.ref (ad 68), .ref (ad 69), .ref (ad 70), .ref (ad 71), .ref (ad 72), .ref (ad 73), .ref (ad 74), .ref (ad 75), .int 0, .int 0, .int 0, .int 0]))] sz) := by
  refine Met.ofW (cc := cX11_way) (maxL := 6) (ret := (some .int)) (by decide) rfl ?_
  intro p e s m args below meth c s₁ B hml hv
  obtain ⟨rfl, hsz, hP, hK, hD0⟩ := hv
  have hx := B.exec
  have hb := B.bytes
  have hr := B.returns
  have hlocks := B.notSynchronized
  have hC : CallFix p m c cX11_way 6 s _ wsX11_way RX11 := ⟨hx, hb, hml, findClass_of_methodNamed B.named, atoms_spec (ws := wsX11_way) B.pre⟩
  subst hsz
  have hD := hD0.self (sz := s.heap.size)
  generalize hAe : va_A [(av0, .inr (11, [.ref (ad 0), .ref (ad 1), .ref (ad 2), .ref (ad 3), .ref (ad 4), .ref (ad 5), .ref (ad 6), .ref (ad 7), .ref (ad 8), .ref (ad 9), .ref (ad 10), .ref (ad 11), .int 0])), ((ad 4), .inr (5, [.ref (ad 27), .ref (ad 28), .ref (ad 29), .ref (ad 30), .ref (ad 31), .ref (ad 32), .ref (ad 33), .ref (ad 34), .int 0, .int 0, .int 0, .int 0, .int 0, .int 0])), ((ad 27), .inr (7, [.ref (ad 68), .ref (ad 69), .ref (ad 70), .ref (ad 71), .ref (ad 72), .ref (ad 73), .ref (ad 74), .ref (ad 75), .int 0, .int 0, .int 0, .int 0]))] s.heap.size = A at hD ⊢
  have hA : ∀ q : Nat, s.heap.size ≤ q → A q := fun q h => by rw [← hAe]; exact Or.inr h
  have hw : Wd dC dI A s.heap s.heap [] [(av0, .inr (11, [.ref (ad 0), .ref (ad 1), .ref (ad 2), .ref (ad 3), .ref (ad 4), .ref (ad 5), .ref (ad 6), .ref (ad 7), .ref (ad 8), .ref (ad 9), .ref (ad 10), .ref (ad 11), .int 0])), ((ad 4), .inr (5, [.ref (ad 27), .ref (ad 28), .ref (ad 29), .ref (ad 30), .ref (ad 31), .ref (ad 32), .ref (ad 33), .ref (ad 34), .int 0, .int 0, .int 0, .int 0, .int 0, .int 0])), ((ad 27), .inr (7, [.ref (ad 68), .ref (ad 69), .ref (ad 70), .ref (ad 71), .ref (ad 72), .ref (ad 73), .ref (ad 74), .ref (ad 75), .int 0, .int 0, .int 0, .int 0]))] := ⟨hP, hD, va_S.rf⟩
  have hl := lv_entry ([.ref av0, .int p0, .int p1, .int p2, .int p3]) (n := 6) (Nat.le_of_ble_eq_true rfl)
  rw [lg_entry_eq]
  generalize (lg_sl ([.ref av0, .int p0, .int p1, .int p2, .int p3]) ++ List.replicate (6 - (lg_sl ([.ref av0, .int p0, .int p1, .int p2, .int p3])).length) Slot.unset).toArray = ls at hl ⊢
  have hl : lv_has ls 6 [(0, .ref av0), (1, .int p0), (2, .int p1), (3, .int p2), (4, .int p3)] := hl
  refine lv_aload_n hx hb dX11_way_0 rfl (lv_at hl 0 rfl) ?_
  refine lv_iload_n hx hb dX11_way_1 rfl (lv_at hl 1 rfl) ?_
  refine wk_Vi hC hK hw hA [0, 1, 2] [] rfl rfl rfl rfl (by decide) (c_X11_hasCorner_1 l dC dI cy av0 p0 (ad 0) (ad 1) (ad 2) (ad 3) (ad 4) (ad 5) (ad 6) (ad 7) (ad 8) (ad 9) (ad 10) (ad 11) (ad 27) (ad 28) (ad 29) (ad 30) (ad 31) (ad 32) (ad 33) (ad 34) (ad 68) (ad 69) (ad 70) (ad 71) (ad 72) (ad 73) (ad 74) (ad 75) s.heap.size ) (cwV 1 hC.2.2.2.2 gX11_way_X11_hasCorner rfl rfl rfl (by decide +kernel) ⟨Nat.le_of_ble_eq_true rfl, Nat.le_of_ble_eq_true rfl⟩) rfl 0 rfl rfl hl.1 rfl (Nat.le_of_ble_eq_true rfl) dX11_way_2 0 0 ⟨rfl, rfl⟩ ⟨Nat.le_of_ble_eq_true rfl, Nat.le_of_ble_eq_true rfl⟩ (fun r2 u1 H locs hp3 hw => ?_)
  have hw : Wd dC dI A s.heap H locs [(av0, .inr (11, [.ref (ad 0), .ref (ad 1), .ref (ad 2), .ref (ad 3), .ref (ad 4), .ref (ad 5), .ref (ad 6), .ref (ad 7), .ref (ad 8), .ref (ad 9), .ref (ad 10), .ref (ad 11), .int 0])), ((ad 4), .inr (5, [.ref (ad 27), .ref (ad 28), .ref (ad 29), .ref (ad 30), .ref (ad 31), .ref (ad 32), .ref (ad 33), .ref (ad 34), .int 0, .int 0, .int 0, .int 0, .int 0, .int 0])), ((ad 27), .inr (7, [.ref (ad 68), .ref (ad 69), .ref (ad 70), .ref (ad 71), .ref (ad 72), .ref (ad 73), .ref (ad 74), .ref (ad 75), .int 0, .int 0, .int 0, .int 0]))] := hw
  obtain rfl : r2 = 0 := hp3
  refine lv_if_eq (tgt := 28) hx hb dX11_way_5 (by decide) (fun _ => ?_) (fun c => absurd (by decide) c)
  refine lv_iconst (v := (-1)) hx hb dX11_way_28 (by decide) ?_
  exact wk_iret (v := (-1)) hC hr hlocks hK ((fun _ => 0), (fun _ _ => 0)) rfl [0, 1, 2] rfl rfl hw dX11_way_29

set_option maxHeartbeats 4000000 in
set_option maxRecDepth 100000 in
theorem t_X11_comes (l : Launch) (dC : Nat → ClassId) (dI : Nat → Nat → Nat) (cy : Nat → ClassId) (av0 : Nat) (ad : Nat → Nat) (p0 : Int32) (p1 : Int32) (p2 : Int32) (sz : Nat)  : Met l yX11_comes wsX11_comes ({ frames := 1, cells := 0, slots := 0, locals := 21 }) (va_Pc [.ref av0, .int p0, .int p1, .int p2] (wpre dC dI cy sz [(av0, .inr (11, [.ref (ad 0), .ref (ad 1), .ref (ad 2), .ref (ad 3), .ref (ad 4), .ref (ad 5), .ref (ad 6), .ref (ad 7), .ref (ad 8), .ref (ad 9), .ref (ad 10), .ref (ad 11), .int 0])), ((ad 4), .inr (5, [.ref (ad 27), .ref (ad 28), .ref (ad 29), .ref (ad 30), .ref (ad 31), .ref (ad 32), .ref (ad 33), .ref (ad 34), .int 0, .int 0, .int 0, .int 0, .int 0, .int 0]))])) (va_Qi (fun (r : Int32) (_ : ((Nat → Nat) × (Nat → Nat → Int32))) => r = (-1)) (fun u => wpost dC dI cy (va_A [(av0, .inr (11, [.ref (ad 0), .ref (ad 1), .ref (ad 2), .ref (ad 3), .ref (ad 4), .ref (ad 5), .ref (ad 6), .ref (ad 7), .ref (ad 8), .ref (ad 9), .ref (ad 10), .ref (ad 11), .int 0])), ((ad 4), .inr (5, [.ref (ad 27), .ref (ad 28), .ref (ad 29), .ref (ad 30), .ref (ad 31), .ref (ad 32), .ref (ad 33), .ref (ad 34), .int 0, .int 0, .int 0, .int 0, .int 0, .int 0]))] sz) [(av0, .inr (11, [.ref (ad 0), .ref (ad 1), .ref (ad 2), .ref (ad 3), .ref (ad 4), .ref (ad 5), .ref (ad 6), .ref (ad 7), .ref (ad 8), .ref (ad 9), .ref (ad 10), .ref (ad 11), .int 0])), ((ad 4), .inr (5, [.ref (ad 27), .ref (ad 28), .ref (ad 29), .ref (ad 30), .ref (ad 31), .ref (ad 32), .ref (ad 33), .ref (ad 34), .int 0, .int 0, .int 0, .int 0, .int 0, .int 0]))]) (va_A [(av0, .inr (11, [.ref (ad 0), .ref (ad 1), .ref (ad 2), .ref (ad 3), .ref (ad 4), .ref (ad 5), .ref (ad 6), .ref (ad 7), .ref (ad 8), .ref (ad 9), .ref (ad 10), .ref (ad 11), .int 0])), ((ad 4), .inr (5, [.ref (ad 27), .ref (ad 28), .ref (ad 29), .ref (ad 30), .ref (ad 31), .ref (ad 32), .ref (ad 33), .ref (ad 34), .int 0, .int 0, .int 0, .int 0, .int 0, .int 0]))] sz)) 0 0 (va_A [(av0, .inr (11, [.ref (ad 0), .ref (ad 1), .ref (ad 2), .ref (ad 3), .ref (ad 4), .ref (ad 5), .ref (ad 6), .ref (ad 7), .ref (ad 8), .ref (ad 9), .ref (ad 10), .ref (ad 11), .int 0])), ((ad 4), .inr (5, [.ref (ad 27), .ref (ad 28), .ref (ad 29), .ref (ad 30), .ref (ad 31), .ref (ad 32), .ref (ad 33), .ref (ad 34), .int 0, .int 0, .int 0, .int 0, .int 0, .int 0]))] sz) := by
  refine Met.ofW (cc := cX11_comes) (maxL := 4) (ret := (some .int)) (by decide) rfl ?_
  intro p e s m args below meth c s₁ B hml hv
  obtain ⟨rfl, hsz, hP, hK, hD0⟩ := hv
  have hx := B.exec
  have hb := B.bytes
  have hr := B.returns
  have hlocks := B.notSynchronized
  have hC : CallFix p m c cX11_comes 4 s _ wsX11_comes RX11 := ⟨hx, hb, hml, findClass_of_methodNamed B.named, atoms_spec (ws := wsX11_comes) B.pre⟩
  subst hsz
  have hD := hD0.self (sz := s.heap.size)
  generalize hAe : va_A [(av0, .inr (11, [.ref (ad 0), .ref (ad 1), .ref (ad 2), .ref (ad 3), .ref (ad 4), .ref (ad 5), .ref (ad 6), .ref (ad 7), .ref (ad 8), .ref (ad 9), .ref (ad 10), .ref (ad 11), .int 0])), ((ad 4), .inr (5, [.ref (ad 27), .ref (ad 28), .ref (ad 29), .ref (ad 30), .ref (ad 31), .ref (ad 32), .ref (ad 33), .ref (ad 34), .int 0, .int 0, .int 0, .int 0, .int 0, .int 0]))] s.heap.size = A at hD ⊢
  have hA : ∀ q : Nat, s.heap.size ≤ q → A q := fun q h => by rw [← hAe]; exact Or.inr h
  have hw : Wd dC dI A s.heap s.heap [] [(av0, .inr (11, [.ref (ad 0), .ref (ad 1), .ref (ad 2), .ref (ad 3), .ref (ad 4), .ref (ad 5), .ref (ad 6), .ref (ad 7), .ref (ad 8), .ref (ad 9), .ref (ad 10), .ref (ad 11), .int 0])), ((ad 4), .inr (5, [.ref (ad 27), .ref (ad 28), .ref (ad 29), .ref (ad 30), .ref (ad 31), .ref (ad 32), .ref (ad 33), .ref (ad 34), .int 0, .int 0, .int 0, .int 0, .int 0, .int 0]))] := ⟨hP, hD, va_S.rf⟩
  have hl := lv_entry ([.ref av0, .int p0, .int p1, .int p2]) (n := 4) (Nat.le_of_ble_eq_true rfl)
  rw [lg_entry_eq]
  generalize (lg_sl ([.ref av0, .int p0, .int p1, .int p2]) ++ List.replicate (4 - (lg_sl ([.ref av0, .int p0, .int p1, .int p2])).length) Slot.unset).toArray = ls at hl ⊢
  have hl : lv_has ls 4 [(0, .ref av0), (1, .int p0), (2, .int p1), (3, .int p2)] := hl
  refine lv_aload_n hx hb dX11_comes_0 rfl (lv_at hl 0 rfl) ?_
  refine lv_iload_n hx hb dX11_comes_1 rfl (lv_at hl 1 rfl) ?_
  refine wk_Vi hC hK hw hA [0, 1] [] rfl rfl rfl rfl (by decide) (c_X11_hasWalker_1 l dC dI cy av0 p0 (ad 0) (ad 1) (ad 2) (ad 3) (ad 4) (ad 5) (ad 6) (ad 7) (ad 8) (ad 9) (ad 10) (ad 11) (ad 27) (ad 28) (ad 29) (ad 30) (ad 31) (ad 32) (ad 33) (ad 34) s.heap.size ) (cwV 1 hC.2.2.2.2 gX11_comes_X11_hasWalker rfl rfl rfl (by decide +kernel) ⟨Nat.le_of_ble_eq_true rfl, Nat.le_of_ble_eq_true rfl⟩) rfl 0 rfl rfl hl.1 rfl (Nat.le_of_ble_eq_true rfl) dX11_comes_2 0 0 ⟨rfl, rfl⟩ ⟨Nat.le_of_ble_eq_true rfl, Nat.le_of_ble_eq_true rfl⟩ (fun r2 u1 H locs hp3 hw => ?_)
  have hw : Wd dC dI A s.heap H locs [(av0, .inr (11, [.ref (ad 0), .ref (ad 1), .ref (ad 2), .ref (ad 3), .ref (ad 4), .ref (ad 5), .ref (ad 6), .ref (ad 7), .ref (ad 8), .ref (ad 9), .ref (ad 10), .ref (ad 11), .int 0])), ((ad 4), .inr (5, [.ref (ad 27), .ref (ad 28), .ref (ad 29), .ref (ad 30), .ref (ad 31), .ref (ad 32), .ref (ad 33), .ref (ad 34), .int 0, .int 0, .int 0, .int 0, .int 0, .int 0]))] := hw
  obtain rfl : r2 = 0 := hp3
  refine lv_if_eq (tgt := 28) hx hb dX11_comes_5 (by decide) (fun _ => ?_) (fun c => absurd (by decide) c)
  refine lv_iconst (v := (-1)) hx hb dX11_comes_28 (by decide) ?_
  exact wk_iret (v := (-1)) hC hr hlocks hK ((fun _ => 0), (fun _ _ => 0)) rfl [0, 1] rfl rfl hw dX11_comes_29

set_option maxHeartbeats 4000000 in
set_option maxRecDepth 100000 in
theorem t_X11_round (l : Launch) (dC : Nat → ClassId) (dI : Nat → Nat → Nat) (cy : Nat → ClassId) (av0 : Nat) (ad : Nat → Nat) (p0 : Int32) (p1 : Int32) (sz : Nat)  : Met l yX11_round wsX11_round ({ frames := 1, cells := 0, slots := 0, locals := 21 }) (va_Pc [.ref av0, .int p0, .int p1] (wpre dC dI cy sz [(av0, .inr (11, [.ref (ad 0), .ref (ad 1), .ref (ad 2), .ref (ad 3), .ref (ad 4), .ref (ad 5), .ref (ad 6), .ref (ad 7), .ref (ad 8), .ref (ad 9), .ref (ad 10), .ref (ad 11), .int 0])), ((ad 4), .inr (5, [.ref (ad 27), .ref (ad 28), .ref (ad 29), .ref (ad 30), .ref (ad 31), .ref (ad 32), .ref (ad 33), .ref (ad 34), .int 0, .int 0, .int 0, .int 0, .int 0, .int 0]))])) (va_Qi (fun (r : Int32) (_ : ((Nat → Nat) × (Nat → Nat → Int32))) => r = (-1)) (fun u => wpost dC dI cy (va_A [(av0, .inr (11, [.ref (ad 0), .ref (ad 1), .ref (ad 2), .ref (ad 3), .ref (ad 4), .ref (ad 5), .ref (ad 6), .ref (ad 7), .ref (ad 8), .ref (ad 9), .ref (ad 10), .ref (ad 11), .int 0])), ((ad 4), .inr (5, [.ref (ad 27), .ref (ad 28), .ref (ad 29), .ref (ad 30), .ref (ad 31), .ref (ad 32), .ref (ad 33), .ref (ad 34), .int 0, .int 0, .int 0, .int 0, .int 0, .int 0]))] sz) [(av0, .inr (11, [.ref (ad 0), .ref (ad 1), .ref (ad 2), .ref (ad 3), .ref (ad 4), .ref (ad 5), .ref (ad 6), .ref (ad 7), .ref (ad 8), .ref (ad 9), .ref (ad 10), .ref (ad 11), .int 0])), ((ad 4), .inr (5, [.ref (ad 27), .ref (ad 28), .ref (ad 29), .ref (ad 30), .ref (ad 31), .ref (ad 32), .ref (ad 33), .ref (ad 34), .int 0, .int 0, .int 0, .int 0, .int 0, .int 0]))]) (va_A [(av0, .inr (11, [.ref (ad 0), .ref (ad 1), .ref (ad 2), .ref (ad 3), .ref (ad 4), .ref (ad 5), .ref (ad 6), .ref (ad 7), .ref (ad 8), .ref (ad 9), .ref (ad 10), .ref (ad 11), .int 0])), ((ad 4), .inr (5, [.ref (ad 27), .ref (ad 28), .ref (ad 29), .ref (ad 30), .ref (ad 31), .ref (ad 32), .ref (ad 33), .ref (ad 34), .int 0, .int 0, .int 0, .int 0, .int 0, .int 0]))] sz)) 0 0 (va_A [(av0, .inr (11, [.ref (ad 0), .ref (ad 1), .ref (ad 2), .ref (ad 3), .ref (ad 4), .ref (ad 5), .ref (ad 6), .ref (ad 7), .ref (ad 8), .ref (ad 9), .ref (ad 10), .ref (ad 11), .int 0])), ((ad 4), .inr (5, [.ref (ad 27), .ref (ad 28), .ref (ad 29), .ref (ad 30), .ref (ad 31), .ref (ad 32), .ref (ad 33), .ref (ad 34), .int 0, .int 0, .int 0, .int 0, .int 0, .int 0]))] sz) := by
  refine Met.ofW (cc := cX11_round) (maxL := 3) (ret := (some .int)) (by decide) rfl ?_
  intro p e s m args below meth c s₁ B hml hv
  obtain ⟨rfl, hsz, hP, hK, hD0⟩ := hv
  have hx := B.exec
  have hb := B.bytes
  have hr := B.returns
  have hlocks := B.notSynchronized
  have hC : CallFix p m c cX11_round 3 s _ wsX11_round RX11 := ⟨hx, hb, hml, findClass_of_methodNamed B.named, atoms_spec (ws := wsX11_round) B.pre⟩
  subst hsz
  have hD := hD0.self (sz := s.heap.size)
  generalize hAe : va_A [(av0, .inr (11, [.ref (ad 0), .ref (ad 1), .ref (ad 2), .ref (ad 3), .ref (ad 4), .ref (ad 5), .ref (ad 6), .ref (ad 7), .ref (ad 8), .ref (ad 9), .ref (ad 10), .ref (ad 11), .int 0])), ((ad 4), .inr (5, [.ref (ad 27), .ref (ad 28), .ref (ad 29), .ref (ad 30), .ref (ad 31), .ref (ad 32), .ref (ad 33), .ref (ad 34), .int 0, .int 0, .int 0, .int 0, .int 0, .int 0]))] s.heap.size = A at hD ⊢
  have hA : ∀ q : Nat, s.heap.size ≤ q → A q := fun q h => by rw [← hAe]; exact Or.inr h
  have hw : Wd dC dI A s.heap s.heap [] [(av0, .inr (11, [.ref (ad 0), .ref (ad 1), .ref (ad 2), .ref (ad 3), .ref (ad 4), .ref (ad 5), .ref (ad 6), .ref (ad 7), .ref (ad 8), .ref (ad 9), .ref (ad 10), .ref (ad 11), .int 0])), ((ad 4), .inr (5, [.ref (ad 27), .ref (ad 28), .ref (ad 29), .ref (ad 30), .ref (ad 31), .ref (ad 32), .ref (ad 33), .ref (ad 34), .int 0, .int 0, .int 0, .int 0, .int 0, .int 0]))] := ⟨hP, hD, va_S.rf⟩
  have hl := lv_entry ([.ref av0, .int p0, .int p1]) (n := 3) (Nat.le_of_ble_eq_true rfl)
  rw [lg_entry_eq]
  generalize (lg_sl ([.ref av0, .int p0, .int p1]) ++ List.replicate (3 - (lg_sl ([.ref av0, .int p0, .int p1])).length) Slot.unset).toArray = ls at hl ⊢
  have hl : lv_has ls 3 [(0, .ref av0), (1, .int p0), (2, .int p1)] := hl
  refine lv_aload_n hx hb dX11_round_0 rfl (lv_at hl 0 rfl) ?_
  refine lv_iload_n hx hb dX11_round_1 rfl (lv_at hl 1 rfl) ?_
  refine wk_Vi hC hK hw hA [0, 1] [] rfl rfl rfl rfl (by decide) (c_X11_hasWalker_1 l dC dI cy av0 p0 (ad 0) (ad 1) (ad 2) (ad 3) (ad 4) (ad 5) (ad 6) (ad 7) (ad 8) (ad 9) (ad 10) (ad 11) (ad 27) (ad 28) (ad 29) (ad 30) (ad 31) (ad 32) (ad 33) (ad 34) s.heap.size ) (cwV 1 hC.2.2.2.2 gX11_round_X11_hasWalker rfl rfl rfl (by decide +kernel) ⟨Nat.le_of_ble_eq_true rfl, Nat.le_of_ble_eq_true rfl⟩) rfl 0 rfl rfl hl.1 rfl (Nat.le_of_ble_eq_true rfl) dX11_round_2 0 0 ⟨rfl, rfl⟩ ⟨Nat.le_of_ble_eq_true rfl, Nat.le_of_ble_eq_true rfl⟩ (fun r2 u1 H locs hp3 hw => ?_)
  have hw : Wd dC dI A s.heap H locs [(av0, .inr (11, [.ref (ad 0), .ref (ad 1), .ref (ad 2), .ref (ad 3), .ref (ad 4), .ref (ad 5), .ref (ad 6), .ref (ad 7), .ref (ad 8), .ref (ad 9), .ref (ad 10), .ref (ad 11), .int 0])), ((ad 4), .inr (5, [.ref (ad 27), .ref (ad 28), .ref (ad 29), .ref (ad 30), .ref (ad 31), .ref (ad 32), .ref (ad 33), .ref (ad 34), .int 0, .int 0, .int 0, .int 0, .int 0, .int 0]))] := hw
  obtain rfl : r2 = 0 := hp3
  refine lv_if_eq (tgt := 17) hx hb dX11_round_5 (by decide) (fun _ => ?_) (fun c => absurd (by decide) c)
  refine lv_iconst (v := (-1)) hx hb dX11_round_17 (by decide) ?_
  exact wk_iret (v := (-1)) hC hr hlocks hK ((fun _ => 0), (fun _ _ => 0)) rfl [0, 1] rfl rfl hw dX11_round_18

set_option maxHeartbeats 4000000 in
set_option maxRecDepth 100000 in
theorem t_X11_questions (l : Launch) (dC : Nat → ClassId) (dI : Nat → Nat → Nat) (cy : Nat → ClassId) (av0 : Nat) (ad : Nat → Nat) (p0 : Int32) (p1 : Int32) (sz : Nat)  : Met l yX11_questions wsX11_questions ({ frames := 1, cells := 0, slots := 0, locals := 21 }) (va_Pc [.ref av0, .int p0, .int p1] (wpre dC dI cy sz [(av0, .inr (11, [.ref (ad 0), .ref (ad 1), .ref (ad 2), .ref (ad 3), .ref (ad 4), .ref (ad 5), .ref (ad 6), .ref (ad 7), .ref (ad 8), .ref (ad 9), .ref (ad 10), .ref (ad 11), .int 0])), ((ad 4), .inr (5, [.ref (ad 27), .ref (ad 28), .ref (ad 29), .ref (ad 30), .ref (ad 31), .ref (ad 32), .ref (ad 33), .ref (ad 34), .int 0, .int 0, .int 0, .int 0, .int 0, .int 0]))])) (va_Qi (fun (r : Int32) (_ : ((Nat → Nat) × (Nat → Nat → Int32))) => r = (-1)) (fun u => wpost dC dI cy (va_A [(av0, .inr (11, [.ref (ad 0), .ref (ad 1), .ref (ad 2), .ref (ad 3), .ref (ad 4), .ref (ad 5), .ref (ad 6), .ref (ad 7), .ref (ad 8), .ref (ad 9), .ref (ad 10), .ref (ad 11), .int 0])), ((ad 4), .inr (5, [.ref (ad 27), .ref (ad 28), .ref (ad 29), .ref (ad 30), .ref (ad 31), .ref (ad 32), .ref (ad 33), .ref (ad 34), .int 0, .int 0, .int 0, .int 0, .int 0, .int 0]))] sz) [(av0, .inr (11, [.ref (ad 0), .ref (ad 1), .ref (ad 2), .ref (ad 3), .ref (ad 4), .ref (ad 5), .ref (ad 6), .ref (ad 7), .ref (ad 8), .ref (ad 9), .ref (ad 10), .ref (ad 11), .int 0])), ((ad 4), .inr (5, [.ref (ad 27), .ref (ad 28), .ref (ad 29), .ref (ad 30), .ref (ad 31), .ref (ad 32), .ref (ad 33), .ref (ad 34), .int 0, .int 0, .int 0, .int 0, .int 0, .int 0]))]) (va_A [(av0, .inr (11, [.ref (ad 0), .ref (ad 1), .ref (ad 2), .ref (ad 3), .ref (ad 4), .ref (ad 5), .ref (ad 6), .ref (ad 7), .ref (ad 8), .ref (ad 9), .ref (ad 10), .ref (ad 11), .int 0])), ((ad 4), .inr (5, [.ref (ad 27), .ref (ad 28), .ref (ad 29), .ref (ad 30), .ref (ad 31), .ref (ad 32), .ref (ad 33), .ref (ad 34), .int 0, .int 0, .int 0, .int 0, .int 0, .int 0]))] sz)) 0 0 (va_A [(av0, .inr (11, [.ref (ad 0), .ref (ad 1), .ref (ad 2), .ref (ad 3), .ref (ad 4), .ref (ad 5), .ref (ad 6), .ref (ad 7), .ref (ad 8), .ref (ad 9), .ref (ad 10), .ref (ad 11), .int 0])), ((ad 4), .inr (5, [.ref (ad 27), .ref (ad 28), .ref (ad 29), .ref (ad 30), .ref (ad 31), .ref (ad 32), .ref (ad 33), .ref (ad 34), .int 0, .int 0, .int 0, .int 0, .int 0, .int 0]))] sz) := by
  refine Met.ofW (cc := cX11_questions) (maxL := 3) (ret := (some .int)) (by decide) rfl ?_
  intro p e s m args below meth c s₁ B hml hv
  obtain ⟨rfl, hsz, hP, hK, hD0⟩ := hv
  have hx := B.exec
  have hb := B.bytes
  have hr := B.returns
  have hlocks := B.notSynchronized
  have hC : CallFix p m c cX11_questions 3 s _ wsX11_questions RX11 := ⟨hx, hb, hml, findClass_of_methodNamed B.named, atoms_spec (ws := wsX11_questions) B.pre⟩
  subst hsz
  have hD := hD0.self (sz := s.heap.size)
  generalize hAe : va_A [(av0, .inr (11, [.ref (ad 0), .ref (ad 1), .ref (ad 2), .ref (ad 3), .ref (ad 4), .ref (ad 5), .ref (ad 6), .ref (ad 7), .ref (ad 8), .ref (ad 9), .ref (ad 10), .ref (ad 11), .int 0])), ((ad 4), .inr (5, [.ref (ad 27), .ref (ad 28), .ref (ad 29), .ref (ad 30), .ref (ad 31), .ref (ad 32), .ref (ad 33), .ref (ad 34), .int 0, .int 0, .int 0, .int 0, .int 0, .int 0]))] s.heap.size = A at hD ⊢
  have hA : ∀ q : Nat, s.heap.size ≤ q → A q := fun q h => by rw [← hAe]; exact Or.inr h
  have hw : Wd dC dI A s.heap s.heap [] [(av0, .inr (11, [.ref (ad 0), .ref (ad 1), .ref (ad 2), .ref (ad 3), .ref (ad 4), .ref (ad 5), .ref (ad 6), .ref (ad 7), .ref (ad 8), .ref (ad 9), .ref (ad 10), .ref (ad 11), .int 0])), ((ad 4), .inr (5, [.ref (ad 27), .ref (ad 28), .ref (ad 29), .ref (ad 30), .ref (ad 31), .ref (ad 32), .ref (ad 33), .ref (ad 34), .int 0, .int 0, .int 0, .int 0, .int 0, .int 0]))] := ⟨hP, hD, va_S.rf⟩
  have hl := lv_entry ([.ref av0, .int p0, .int p1]) (n := 3) (Nat.le_of_ble_eq_true rfl)
  rw [lg_entry_eq]
  generalize (lg_sl ([.ref av0, .int p0, .int p1]) ++ List.replicate (3 - (lg_sl ([.ref av0, .int p0, .int p1])).length) Slot.unset).toArray = ls at hl ⊢
  have hl : lv_has ls 3 [(0, .ref av0), (1, .int p0), (2, .int p1)] := hl
  refine lv_aload_n hx hb dX11_questions_0 rfl (lv_at hl 0 rfl) ?_
  refine lv_iload_n hx hb dX11_questions_1 rfl (lv_at hl 1 rfl) ?_
  refine wk_Vi hC hK hw hA [0, 1] [] rfl rfl rfl rfl (by decide) (c_X11_hasWalker_1 l dC dI cy av0 p0 (ad 0) (ad 1) (ad 2) (ad 3) (ad 4) (ad 5) (ad 6) (ad 7) (ad 8) (ad 9) (ad 10) (ad 11) (ad 27) (ad 28) (ad 29) (ad 30) (ad 31) (ad 32) (ad 33) (ad 34) s.heap.size ) (cwV 1 hC.2.2.2.2 gX11_questions_X11_hasWalker rfl rfl rfl (by decide +kernel) ⟨Nat.le_of_ble_eq_true rfl, Nat.le_of_ble_eq_true rfl⟩) rfl 0 rfl rfl hl.1 rfl (Nat.le_of_ble_eq_true rfl) dX11_questions_2 0 0 ⟨rfl, rfl⟩ ⟨Nat.le_of_ble_eq_true rfl, Nat.le_of_ble_eq_true rfl⟩ (fun r2 u1 H locs hp3 hw => ?_)
  have hw : Wd dC dI A s.heap H locs [(av0, .inr (11, [.ref (ad 0), .ref (ad 1), .ref (ad 2), .ref (ad 3), .ref (ad 4), .ref (ad 5), .ref (ad 6), .ref (ad 7), .ref (ad 8), .ref (ad 9), .ref (ad 10), .ref (ad 11), .int 0])), ((ad 4), .inr (5, [.ref (ad 27), .ref (ad 28), .ref (ad 29), .ref (ad 30), .ref (ad 31), .ref (ad 32), .ref (ad 33), .ref (ad 34), .int 0, .int 0, .int 0, .int 0, .int 0, .int 0]))] := hw
  obtain rfl : r2 = 0 := hp3
  refine lv_if_eq (tgt := 18) hx hb dX11_questions_5 (by decide) (fun _ => ?_) (fun c => absurd (by decide) c)
  refine lv_iconst (v := (-1)) hx hb dX11_questions_18 (by decide) ?_
  exact wk_iret (v := (-1)) hC hr hlocks hK ((fun _ => 0), (fun _ _ => 0)) rfl [0, 1] rfl rfl hw dX11_questions_19

set_option maxHeartbeats 4000000 in
set_option maxRecDepth 100000 in
theorem t_X11_cheap (l : Launch) (dC : Nat → ClassId) (dI : Nat → Nat → Nat) (cy : Nat → ClassId) (av0 : Nat) (ad : Nat → Nat) (p0 : Int32) (sz : Nat)  : Met l yX11_cheap wsX11_cheap ({ frames := 1, cells := 0, slots := 0, locals := 21 }) (va_Pc [.ref av0, .int p0] (wpre dC dI cy sz [(av0, .inr (11, [.ref (ad 0), .ref (ad 1), .ref (ad 2), .ref (ad 3), .ref (ad 4), .ref (ad 5), .ref (ad 6), .ref (ad 7), .ref (ad 8), .ref (ad 9), .ref (ad 10), .ref (ad 11), .int 0])), ((ad 4), .inr (5, [.ref (ad 27), .ref (ad 28), .ref (ad 29), .ref (ad 30), .ref (ad 31), .ref (ad 32), .ref (ad 33), .ref (ad 34), .int 0, .int 0, .int 0, .int 0, .int 0, .int 0])), ((ad 27), .inr (7, [.ref (ad 68), .ref (ad 69), .ref (ad 70), .ref (ad 71), .ref (ad 72), .ref (ad 73), .ref (ad 74), .ref (ad 75), .int 0, .int 0, .int 0, .int 0]))])) (va_Qi (fun (r : Int32) (_ : ((Nat → Nat) × (Nat → Nat → Int32))) => r = (-1)) (fun u => wpost dC dI cy (va_A [(av0, .inr (11, [.ref (ad 0), .ref (ad 1), .ref (ad 2), .ref (ad 3), .ref (ad 4), .ref (ad 5), .ref (ad 6), .ref (ad 7), .ref (ad 8), .ref (ad 9), .ref (ad 10), .ref (ad 11), .int 0])), ((ad 4), .inr (5, [.ref (ad 27), .ref (ad 28), .ref (ad 29), .ref (ad 30), .ref (ad 31), .ref (ad 32), .ref (ad 33), .ref (ad 34), .int 0, .int 0, .int 0, .int 0, .int 0, .int 0])), ((ad 27), .inr (7, [.ref (ad 68), .ref (ad 69), .ref (ad 70), .ref (ad 71), .ref (ad 72), .ref (ad 73), .ref (ad 74), .ref (ad 75), .int 0, .int 0, .int 0, .int 0]))] sz) [(av0, .inr (11, [.ref (ad 0), .ref (ad 1), .ref (ad 2), .ref (ad 3), .ref (ad 4), .ref (ad 5), .ref (ad 6), .ref (ad 7), .ref (ad 8), .ref (ad 9), .ref (ad 10), .ref (ad 11), .int 0])), ((ad 4), .inr (5, [.ref (ad 27), .ref (ad 28), .ref (ad 29), .ref (ad 30), .ref (ad 31), .ref (ad 32), .ref (ad 33), .ref (ad 34), .int 0, .int 0, .int 0, .int 0, .int 0, .int 0])), ((ad 27), .inr (7, [.ref (ad 68), .ref (ad 69), .ref (ad 70), .ref (ad 71), .ref (ad 72), .ref (ad 73), .ref (ad 74), .ref (ad 75), .int 0, .int 0, .int 0, .int 0]))]) (va_A [(av0, .inr (11, [.ref (ad 0), .ref (ad 1), .ref (ad 2), .ref (ad 3), .ref (ad 4), .ref (ad 5), .ref (ad 6), .ref (ad 7), .ref (ad 8), .ref (ad 9), .ref (ad 10), .ref (ad 11), .int 0])), ((ad 4), .inr (5, [.ref (ad 27), .ref (ad 28), .ref (ad 29), .ref (ad 30), .ref (ad 31), .ref (ad 32), .ref (ad 33), .ref (ad 34), .int 0, .int 0, .int 0, .int 0, .int 0, .int 0])), ((ad 27), .inr (7, [.ref (ad 68), .ref (ad 69), .ref (ad 70), .ref (ad 71), .ref (ad 72), .ref (ad 73), .ref (ad 74), .ref (ad 75), .int 0, .int 0, .int 0, .int 0]))] sz)) 0 0 (va_A [(av0, .inr (11, [.ref (ad 0), .ref (ad 1), .ref (ad 2), .ref (ad 3), .ref (ad 4), .ref (ad 5), .ref (ad 6), .ref (ad 7), .ref (ad 8), .ref (ad 9), .ref (ad 10), .ref (ad 11), .int 0])), ((ad 4), .inr (5, [.ref (ad 27), .ref (ad 28), .ref (ad 29), .ref (ad 30), .ref (ad 31), .ref (ad 32), .ref (ad 33), .ref (ad 34), .int 0, .int 0, .int 0, .int 0, .int 0, .int 0])), ((ad 27), .inr (7, [.ref (ad 68), .ref (ad 69), .ref (ad 70), .ref (ad 71), .ref (ad 72), .ref (ad 73), .ref (ad 74), .ref (ad 75), .int 0, .int 0, .int 0, .int 0]))] sz) := by
  refine Met.ofW (cc := cX11_cheap) (maxL := 2) (ret := (some .int)) (by decide) rfl ?_
  intro p e s m args below meth c s₁ B hml hv
  obtain ⟨rfl, hsz, hP, hK, hD0⟩ := hv
  have hx := B.exec
  have hb := B.bytes
  have hr := B.returns
  have hlocks := B.notSynchronized
  have hC : CallFix p m c cX11_cheap 2 s _ wsX11_cheap RX11 := ⟨hx, hb, hml, findClass_of_methodNamed B.named, atoms_spec (ws := wsX11_cheap) B.pre⟩
  subst hsz
  have hD := hD0.self (sz := s.heap.size)
  generalize hAe : va_A [(av0, .inr (11, [.ref (ad 0), .ref (ad 1), .ref (ad 2), .ref (ad 3), .ref (ad 4), .ref (ad 5), .ref (ad 6), .ref (ad 7), .ref (ad 8), .ref (ad 9), .ref (ad 10), .ref (ad 11), .int 0])), ((ad 4), .inr (5, [.ref (ad 27), .ref (ad 28), .ref (ad 29), .ref (ad 30), .ref (ad 31), .ref (ad 32), .ref (ad 33), .ref (ad 34), .int 0, .int 0, .int 0, .int 0, .int 0, .int 0])), ((ad 27), .inr (7, [.ref (ad 68), .ref (ad 69), .ref (ad 70), .ref (ad 71), .ref (ad 72), .ref (ad 73), .ref (ad 74), .ref (ad 75), .int 0, .int 0, .int 0, .int 0]))] s.heap.size = A at hD ⊢
  have hA : ∀ q : Nat, s.heap.size ≤ q → A q := fun q h => by rw [← hAe]; exact Or.inr h
  have hw : Wd dC dI A s.heap s.heap [] [(av0, .inr (11, [.ref (ad 0), .ref (ad 1), .ref (ad 2), .ref (ad 3), .ref (ad 4), .ref (ad 5), .ref (ad 6), .ref (ad 7), .ref (ad 8), .ref (ad 9), .ref (ad 10), .ref (ad 11), .int 0])), ((ad 4), .inr (5, [.ref (ad 27), .ref (ad 28), .ref (ad 29), .ref (ad 30), .ref (ad 31), .ref (ad 32), .ref (ad 33), .ref (ad 34), .int 0, .int 0, .int 0, .int 0, .int 0, .int 0])), ((ad 27), .inr (7, [.ref (ad 68), .ref (ad 69), .ref (ad 70), .ref (ad 71), .ref (ad 72), .ref (ad 73), .ref (ad 74), .ref (ad 75), .int 0, .int 0, .int 0, .int 0]))] := ⟨hP, hD, va_S.rf⟩
  have hl := lv_entry ([.ref av0, .int p0]) (n := 2) (Nat.le_of_ble_eq_true rfl)
  rw [lg_entry_eq]
  generalize (lg_sl ([.ref av0, .int p0]) ++ List.replicate (2 - (lg_sl ([.ref av0, .int p0])).length) Slot.unset).toArray = ls at hl ⊢
  have hl : lv_has ls 2 [(0, .ref av0), (1, .int p0)] := hl
  have hinX11 : ∀ w ∈ u_ws RX11 TX11 13, w ∈ wsX11_cheap := fun _ h => List.mem_cons_of_mem _ (List.mem_append_left _ (List.mem_append_left _ (List.mem_append_right _ (h))))
  have hinX5 : ∀ w ∈ u_ws RX5 TX5 14, w ∈ wsX11_cheap := fun _ h => List.mem_cons_of_mem _ (List.mem_append_left _ (List.mem_append_right _ (h)))
  refine lv_aload_n hx hb dX11_cheap_0 rfl (lv_at hl 0 rfl) ?_
  refine wk_get hC hK hw hinX11 0 rfl rfl 4 (by decide) (List.mem_of_getElem? (i := 1) rfl) rfl rfl dX11_cheap_1 ?_
  refine wk_get hC hK hw hinX5 1 rfl rfl 0 (by decide) (List.mem_of_getElem? (i := 2) rfl) rfl rfl dX11_cheap_4 ?_
  refine lv_iload_n hx hb dX11_cheap_7 rfl (lv_at hl 1 rfl) ?_
  refine wk_Vi hC hK hw hA [2] [0, 1] rfl rfl rfl rfl (by decide) (c_X7_hasStreet_1 l dC dI cy (ad 27) p0 (ad 68) (ad 69) (ad 70) (ad 71) (ad 72) (ad 73) (ad 74) (ad 75) s.heap.size ) (cwV 1 hC.2.2.2.2 gX11_cheap_X7_hasStreet rfl rfl rfl (by decide +kernel) ⟨Nat.le_of_ble_eq_true rfl, Nat.le_of_ble_eq_true rfl⟩) rfl 0 rfl rfl hl.1 rfl (Nat.le_of_ble_eq_true rfl) dX11_cheap_8 0 0 ⟨rfl, rfl⟩ ⟨Nat.le_of_ble_eq_true rfl, Nat.le_of_ble_eq_true rfl⟩ (fun r2 u1 H locs hp3 hw => ?_)
  have hw : Wd dC dI A s.heap H locs [(av0, .inr (11, [.ref (ad 0), .ref (ad 1), .ref (ad 2), .ref (ad 3), .ref (ad 4), .ref (ad 5), .ref (ad 6), .ref (ad 7), .ref (ad 8), .ref (ad 9), .ref (ad 10), .ref (ad 11), .int 0])), ((ad 4), .inr (5, [.ref (ad 27), .ref (ad 28), .ref (ad 29), .ref (ad 30), .ref (ad 31), .ref (ad 32), .ref (ad 33), .ref (ad 34), .int 0, .int 0, .int 0, .int 0, .int 0, .int 0])), ((ad 27), .inr (7, [.ref (ad 68), .ref (ad 69), .ref (ad 70), .ref (ad 71), .ref (ad 72), .ref (ad 73), .ref (ad 74), .ref (ad 75), .int 0, .int 0, .int 0, .int 0]))] := hw
  obtain rfl : r2 = 0 := hp3
  refine lv_if_eq (tgt := 28) hx hb dX11_cheap_11 (by decide) (fun _ => ?_) (fun c => absurd (by decide) c)
  refine lv_iconst (v := (-1)) hx hb dX11_cheap_28 (by decide) ?_
  exact wk_iret (v := (-1)) hC hr hlocks hK ((fun _ => 0), (fun _ _ => 0)) rfl [0, 1, 2] rfl rfl hw dX11_cheap_29

set_option maxHeartbeats 4000000 in
set_option maxRecDepth 100000 in
theorem t_X11_wrong (l : Launch) (dC : Nat → ClassId) (dI : Nat → Nat → Nat) (cy : Nat → ClassId) (av0 : Nat) (ad : Nat → Nat) (p0 : Int32) (sz : Nat)  : Met l yX11_wrong wsX11_wrong ({ frames := 1, cells := 0, slots := 0, locals := 20 }) (va_Pc [.ref av0, .int p0] (wpre dC dI cy sz [(av0, .inr (11, [.ref (ad 0), .ref (ad 1), .ref (ad 2), .ref (ad 3), .ref (ad 4), .ref (ad 5), .ref (ad 6), .ref (ad 7), .ref (ad 8), .ref (ad 9), .ref (ad 10), .ref (ad 11), .int 0])), ((ad 4), .inr (5, [.ref (ad 27), .ref (ad 28), .ref (ad 29), .ref (ad 30), .ref (ad 31), .ref (ad 32), .ref (ad 33), .ref (ad 34), .int 0, .int 0, .int 0, .int 0, .int 0, .int 0])), ((ad 27), .inr (7, [.ref (ad 68), .ref (ad 69), .ref (ad 70), .ref (ad 71), .ref (ad 72), .ref (ad 73), .ref (ad 74), .ref (ad 75), .int 0, .int 0, .int 0, .int 0]))])) (va_Qi (fun (r : Int32) (_ : ((Nat → Nat) × (Nat → Nat → Int32))) => r = (-1)) (fun u => wpost dC dI cy (va_A [(av0, .inr (11, [.ref (ad 0), .ref (ad 1), .ref (ad 2), .ref (ad 3), .ref (ad 4), .ref (ad 5), .ref (ad 6), .ref (ad 7), .ref (ad 8), .ref (ad 9), .ref (ad 10), .ref (ad 11), .int 0])), ((ad 4), .inr (5, [.ref (ad 27), .ref (ad 28), .ref (ad 29), .ref (ad 30), .ref (ad 31), .ref (ad 32), .ref (ad 33), .ref (ad 34), .int 0, .int 0, .int 0, .int 0, .int 0, .int 0])), ((ad 27), .inr (7, [.ref (ad 68), .ref (ad 69), .ref (ad 70), .ref (ad 71), .ref (ad 72), .ref (ad 73), .ref (ad 74), .ref (ad 75), .int 0, .int 0, .int 0, .int 0]))] sz) [(av0, .inr (11, [.ref (ad 0), .ref (ad 1), .ref (ad 2), .ref (ad 3), .ref (ad 4), .ref (ad 5), .ref (ad 6), .ref (ad 7), .ref (ad 8), .ref (ad 9), .ref (ad 10), .ref (ad 11), .int 0])), ((ad 4), .inr (5, [.ref (ad 27), .ref (ad 28), .ref (ad 29), .ref (ad 30), .ref (ad 31), .ref (ad 32), .ref (ad 33), .ref (ad 34), .int 0, .int 0, .int 0, .int 0, .int 0, .int 0])), ((ad 27), .inr (7, [.ref (ad 68), .ref (ad 69), .ref (ad 70), .ref (ad 71), .ref (ad 72), .ref (ad 73), .ref (ad 74), .ref (ad 75), .int 0, .int 0, .int 0, .int 0]))]) (va_A [(av0, .inr (11, [.ref (ad 0), .ref (ad 1), .ref (ad 2), .ref (ad 3), .ref (ad 4), .ref (ad 5), .ref (ad 6), .ref (ad 7), .ref (ad 8), .ref (ad 9), .ref (ad 10), .ref (ad 11), .int 0])), ((ad 4), .inr (5, [.ref (ad 27), .ref (ad 28), .ref (ad 29), .ref (ad 30), .ref (ad 31), .ref (ad 32), .ref (ad 33), .ref (ad 34), .int 0, .int 0, .int 0, .int 0, .int 0, .int 0])), ((ad 27), .inr (7, [.ref (ad 68), .ref (ad 69), .ref (ad 70), .ref (ad 71), .ref (ad 72), .ref (ad 73), .ref (ad 74), .ref (ad 75), .int 0, .int 0, .int 0, .int 0]))] sz)) 0 0 (va_A [(av0, .inr (11, [.ref (ad 0), .ref (ad 1), .ref (ad 2), .ref (ad 3), .ref (ad 4), .ref (ad 5), .ref (ad 6), .ref (ad 7), .ref (ad 8), .ref (ad 9), .ref (ad 10), .ref (ad 11), .int 0])), ((ad 4), .inr (5, [.ref (ad 27), .ref (ad 28), .ref (ad 29), .ref (ad 30), .ref (ad 31), .ref (ad 32), .ref (ad 33), .ref (ad 34), .int 0, .int 0, .int 0, .int 0, .int 0, .int 0])), ((ad 27), .inr (7, [.ref (ad 68), .ref (ad 69), .ref (ad 70), .ref (ad 71), .ref (ad 72), .ref (ad 73), .ref (ad 74), .ref (ad 75), .int 0, .int 0, .int 0, .int 0]))] sz) := by
  refine Met.ofW (cc := cX11_wrong) (maxL := 4) (ret := (some .int)) (by decide) rfl ?_
  intro p e s m args below meth c s₁ B hml hv
  obtain ⟨rfl, hsz, hP, hK, hD0⟩ := hv
  have hx := B.exec
  have hb := B.bytes
  have hr := B.returns
  have hlocks := B.notSynchronized
  have hC : CallFix p m c cX11_wrong 4 s _ wsX11_wrong RX11 := ⟨hx, hb, hml, findClass_of_methodNamed B.named, atoms_spec (ws := wsX11_wrong) B.pre⟩
  subst hsz
  have hD := hD0.self (sz := s.heap.size)
  generalize hAe : va_A [(av0, .inr (11, [.ref (ad 0), .ref (ad 1), .ref (ad 2), .ref (ad 3), .ref (ad 4), .ref (ad 5), .ref (ad 6), .ref (ad 7), .ref (ad 8), .ref (ad 9), .ref (ad 10), .ref (ad 11), .int 0])), ((ad 4), .inr (5, [.ref (ad 27), .ref (ad 28), .ref (ad 29), .ref (ad 30), .ref (ad 31), .ref (ad 32), .ref (ad 33), .ref (ad 34), .int 0, .int 0, .int 0, .int 0, .int 0, .int 0])), ((ad 27), .inr (7, [.ref (ad 68), .ref (ad 69), .ref (ad 70), .ref (ad 71), .ref (ad 72), .ref (ad 73), .ref (ad 74), .ref (ad 75), .int 0, .int 0, .int 0, .int 0]))] s.heap.size = A at hD ⊢
  have hA : ∀ q : Nat, s.heap.size ≤ q → A q := fun q h => by rw [← hAe]; exact Or.inr h
  have hw : Wd dC dI A s.heap s.heap [] [(av0, .inr (11, [.ref (ad 0), .ref (ad 1), .ref (ad 2), .ref (ad 3), .ref (ad 4), .ref (ad 5), .ref (ad 6), .ref (ad 7), .ref (ad 8), .ref (ad 9), .ref (ad 10), .ref (ad 11), .int 0])), ((ad 4), .inr (5, [.ref (ad 27), .ref (ad 28), .ref (ad 29), .ref (ad 30), .ref (ad 31), .ref (ad 32), .ref (ad 33), .ref (ad 34), .int 0, .int 0, .int 0, .int 0, .int 0, .int 0])), ((ad 27), .inr (7, [.ref (ad 68), .ref (ad 69), .ref (ad 70), .ref (ad 71), .ref (ad 72), .ref (ad 73), .ref (ad 74), .ref (ad 75), .int 0, .int 0, .int 0, .int 0]))] := ⟨hP, hD, va_S.rf⟩
  have hl := lv_entry ([.ref av0, .int p0]) (n := 4) (Nat.le_of_ble_eq_true rfl)
  rw [lg_entry_eq]
  generalize (lg_sl ([.ref av0, .int p0]) ++ List.replicate (4 - (lg_sl ([.ref av0, .int p0])).length) Slot.unset).toArray = ls at hl ⊢
  have hl : lv_has ls 4 [(0, .ref av0), (1, .int p0)] := hl
  have hinX11 : ∀ w ∈ u_ws RX11 TX11 13, w ∈ wsX11_wrong := fun _ h => List.mem_cons_of_mem _ (List.mem_append_left _ (List.mem_append_left _ (List.mem_append_right _ (h))))
  refine lv_aload_n hx hb dX11_wrong_0 rfl (lv_at hl 0 rfl) ?_
  refine wk_get hC hK hw hinX11 0 rfl rfl 4 (by decide) (List.mem_of_getElem? (i := 1) rfl) rfl rfl dX11_wrong_1 ?_
  refine wk_Vi hC hK hw hA [1, 2] [0] rfl rfl rfl rfl (by decide) (c_X5_hasTown_1 l dC dI cy (ad 4) (ad 27) (ad 28) (ad 29) (ad 30) (ad 31) (ad 32) (ad 33) (ad 34) (ad 68) (ad 69) (ad 70) (ad 71) (ad 72) (ad 73) (ad 74) (ad 75) s.heap.size ) (cwV 0 hC.2.2.2.2 gX11_wrong_X5_hasTown rfl rfl rfl (by decide +kernel) ⟨Nat.le_of_ble_eq_true rfl, Nat.le_of_ble_eq_true rfl⟩) rfl 0 rfl rfl hl.1 rfl (Nat.le_of_ble_eq_true rfl) dX11_wrong_4 0 0 ⟨rfl, rfl⟩ ⟨Nat.le_of_ble_eq_true rfl, Nat.le_of_ble_eq_true rfl⟩ (fun r2 u1 H locs hp3 hw => ?_)
  have hw : Wd dC dI A s.heap H locs [(av0, .inr (11, [.ref (ad 0), .ref (ad 1), .ref (ad 2), .ref (ad 3), .ref (ad 4), .ref (ad 5), .ref (ad 6), .ref (ad 7), .ref (ad 8), .ref (ad 9), .ref (ad 10), .ref (ad 11), .int 0])), ((ad 4), .inr (5, [.ref (ad 27), .ref (ad 28), .ref (ad 29), .ref (ad 30), .ref (ad 31), .ref (ad 32), .ref (ad 33), .ref (ad 34), .int 0, .int 0, .int 0, .int 0, .int 0, .int 0])), ((ad 27), .inr (7, [.ref (ad 68), .ref (ad 69), .ref (ad 70), .ref (ad 71), .ref (ad 72), .ref (ad 73), .ref (ad 74), .ref (ad 75), .int 0, .int 0, .int 0, .int 0]))] := hw
  obtain rfl : r2 = 0 := hp3
  refine lv_if_eq (tgt := 20) hx hb dX11_wrong_7 (by decide) (fun _ => ?_) (fun c => absurd (by decide) c)
  refine lv_iconst (v := (-1)) hx hb dX11_wrong_20 (by decide) ?_
  exact wk_iret (v := (-1)) hC hr hlocks hK ((fun _ => 0), (fun _ _ => 0)) rfl [0, 1, 2] rfl rfl hw dX11_wrong_21

set_option maxHeartbeats 4000000 in
set_option maxRecDepth 100000 in
theorem t_X11_errand_0 (l : Launch) (dC : Nat → ClassId) (dI : Nat → Nat → Nat) (cy : Nat → ClassId) (av0 : Nat) (ad : Nat → Nat) (p0 : Int32) (p1 : Int32) (sz : Nat) (hp : p0.toInt ≤ -2) : Met l yX11_errand wsX11_errand ({ frames := 1, cells := 0, slots := 0, locals := 21 }) (va_Pc [.ref av0, .int p0, .int p1] (wpre dC dI cy sz [(av0, .inr (11, [.ref (ad 0), .ref (ad 1), .ref (ad 2), .ref (ad 3), .ref (ad 4), .ref (ad 5), .ref (ad 6), .ref (ad 7), .ref (ad 8), .ref (ad 9), .ref (ad 10), .ref (ad 11), .int 0])), ((ad 4), .inr (5, [.ref (ad 27), .ref (ad 28), .ref (ad 29), .ref (ad 30), .ref (ad 31), .ref (ad 32), .ref (ad 33), .ref (ad 34), .int 0, .int 0, .int 0, .int 0, .int 0, .int 0])), ((ad 27), .inr (7, [.ref (ad 68), .ref (ad 69), .ref (ad 70), .ref (ad 71), .ref (ad 72), .ref (ad 73), .ref (ad 74), .ref (ad 75), .int 0, .int 0, .int 0, .int 0]))])) (va_Qi (fun (r : Int32) (_ : ((Nat → Nat) × (Nat → Nat → Int32))) => r = (-2)) (fun u => wpost dC dI cy (va_A [(av0, .inr (11, [.ref (ad 0), .ref (ad 1), .ref (ad 2), .ref (ad 3), .ref (ad 4), .ref (ad 5), .ref (ad 6), .ref (ad 7), .ref (ad 8), .ref (ad 9), .ref (ad 10), .ref (ad 11), .int 0])), ((ad 4), .inr (5, [.ref (ad 27), .ref (ad 28), .ref (ad 29), .ref (ad 30), .ref (ad 31), .ref (ad 32), .ref (ad 33), .ref (ad 34), .int 0, .int 0, .int 0, .int 0, .int 0, .int 0])), ((ad 27), .inr (7, [.ref (ad 68), .ref (ad 69), .ref (ad 70), .ref (ad 71), .ref (ad 72), .ref (ad 73), .ref (ad 74), .ref (ad 75), .int 0, .int 0, .int 0, .int 0]))] sz) [(av0, .inr (11, [.ref (ad 0), .ref (ad 1), .ref (ad 2), .ref (ad 3), .ref (ad 4), .ref (ad 5), .ref (ad 6), .ref (ad 7), .ref (ad 8), .ref (ad 9), .ref (ad 10), .ref (ad 11), .int 0])), ((ad 4), .inr (5, [.ref (ad 27), .ref (ad 28), .ref (ad 29), .ref (ad 30), .ref (ad 31), .ref (ad 32), .ref (ad 33), .ref (ad 34), .int 0, .int 0, .int 0, .int 0, .int 0, .int 0])), ((ad 27), .inr (7, [.ref (ad 68), .ref (ad 69), .ref (ad 70), .ref (ad 71), .ref (ad 72), .ref (ad 73), .ref (ad 74), .ref (ad 75), .int 0, .int 0, .int 0, .int 0]))]) (va_A [(av0, .inr (11, [.ref (ad 0), .ref (ad 1), .ref (ad 2), .ref (ad 3), .ref (ad 4), .ref (ad 5), .ref (ad 6), .ref (ad 7), .ref (ad 8), .ref (ad 9), .ref (ad 10), .ref (ad 11), .int 0])), ((ad 4), .inr (5, [.ref (ad 27), .ref (ad 28), .ref (ad 29), .ref (ad 30), .ref (ad 31), .ref (ad 32), .ref (ad 33), .ref (ad 34), .int 0, .int 0, .int 0, .int 0, .int 0, .int 0])), ((ad 27), .inr (7, [.ref (ad 68), .ref (ad 69), .ref (ad 70), .ref (ad 71), .ref (ad 72), .ref (ad 73), .ref (ad 74), .ref (ad 75), .int 0, .int 0, .int 0, .int 0]))] sz)) 0 0 (va_A [(av0, .inr (11, [.ref (ad 0), .ref (ad 1), .ref (ad 2), .ref (ad 3), .ref (ad 4), .ref (ad 5), .ref (ad 6), .ref (ad 7), .ref (ad 8), .ref (ad 9), .ref (ad 10), .ref (ad 11), .int 0])), ((ad 4), .inr (5, [.ref (ad 27), .ref (ad 28), .ref (ad 29), .ref (ad 30), .ref (ad 31), .ref (ad 32), .ref (ad 33), .ref (ad 34), .int 0, .int 0, .int 0, .int 0, .int 0, .int 0])), ((ad 27), .inr (7, [.ref (ad 68), .ref (ad 69), .ref (ad 70), .ref (ad 71), .ref (ad 72), .ref (ad 73), .ref (ad 74), .ref (ad 75), .int 0, .int 0, .int 0, .int 0]))] sz) := by
  refine Met.ofW (cc := cX11_errand) (maxL := 3) (ret := (some .int)) (by decide) rfl ?_
  intro p e s m args below meth c s₁ B hml hv
  obtain ⟨rfl, hsz, hP, hK, hD0⟩ := hv
  have hx := B.exec
  have hb := B.bytes
  have hr := B.returns
  have hlocks := B.notSynchronized
  have hC : CallFix p m c cX11_errand 3 s _ wsX11_errand RX11 := ⟨hx, hb, hml, findClass_of_methodNamed B.named, atoms_spec (ws := wsX11_errand) B.pre⟩
  subst hsz
  have hD := hD0.self (sz := s.heap.size)
  generalize hAe : va_A [(av0, .inr (11, [.ref (ad 0), .ref (ad 1), .ref (ad 2), .ref (ad 3), .ref (ad 4), .ref (ad 5), .ref (ad 6), .ref (ad 7), .ref (ad 8), .ref (ad 9), .ref (ad 10), .ref (ad 11), .int 0])), ((ad 4), .inr (5, [.ref (ad 27), .ref (ad 28), .ref (ad 29), .ref (ad 30), .ref (ad 31), .ref (ad 32), .ref (ad 33), .ref (ad 34), .int 0, .int 0, .int 0, .int 0, .int 0, .int 0])), ((ad 27), .inr (7, [.ref (ad 68), .ref (ad 69), .ref (ad 70), .ref (ad 71), .ref (ad 72), .ref (ad 73), .ref (ad 74), .ref (ad 75), .int 0, .int 0, .int 0, .int 0]))] s.heap.size = A at hD ⊢
  have hA : ∀ q : Nat, s.heap.size ≤ q → A q := fun q h => by rw [← hAe]; exact Or.inr h
  have hw : Wd dC dI A s.heap s.heap [] [(av0, .inr (11, [.ref (ad 0), .ref (ad 1), .ref (ad 2), .ref (ad 3), .ref (ad 4), .ref (ad 5), .ref (ad 6), .ref (ad 7), .ref (ad 8), .ref (ad 9), .ref (ad 10), .ref (ad 11), .int 0])), ((ad 4), .inr (5, [.ref (ad 27), .ref (ad 28), .ref (ad 29), .ref (ad 30), .ref (ad 31), .ref (ad 32), .ref (ad 33), .ref (ad 34), .int 0, .int 0, .int 0, .int 0, .int 0, .int 0])), ((ad 27), .inr (7, [.ref (ad 68), .ref (ad 69), .ref (ad 70), .ref (ad 71), .ref (ad 72), .ref (ad 73), .ref (ad 74), .ref (ad 75), .int 0, .int 0, .int 0, .int 0]))] := ⟨hP, hD, va_S.rf⟩
  have hl := lv_entry ([.ref av0, .int p0, .int p1]) (n := 3) (Nat.le_of_ble_eq_true rfl)
  rw [lg_entry_eq]
  generalize (lg_sl ([.ref av0, .int p0, .int p1]) ++ List.replicate (3 - (lg_sl ([.ref av0, .int p0, .int p1])).length) Slot.unset).toArray = ls at hl ⊢
  have hl : lv_has ls 3 [(0, .ref av0), (1, .int p0), (2, .int p1)] := hl
  refine lv_iload_n hx hb dX11_errand_0 rfl (lv_at hl 1 rfl) ?_
  refine lv_iconst (v := (-1)) hx hb dX11_errand_1 (by decide) ?_
  refine lv_icmp_ne (tgt := 15) hx hb dX11_errand_2 (by decide) (fun _ => ?_) (fun c => absurd (show p0.toInt = (-1 : Int) from wk_eq.mp c) (by omega))
  refine lv_aload_n hx hb dX11_errand_15 rfl (lv_at hl 0 rfl) ?_
  refine lv_iload_n hx hb dX11_errand_16 rfl (lv_at hl 1 rfl) ?_
  refine wk_Vi hC hK hw hA [0, 1, 2] [] rfl rfl rfl rfl (by decide) (c_X11_hasCorner_1 l dC dI cy av0 p0 (ad 0) (ad 1) (ad 2) (ad 3) (ad 4) (ad 5) (ad 6) (ad 7) (ad 8) (ad 9) (ad 10) (ad 11) (ad 27) (ad 28) (ad 29) (ad 30) (ad 31) (ad 32) (ad 33) (ad 34) (ad 68) (ad 69) (ad 70) (ad 71) (ad 72) (ad 73) (ad 74) (ad 75) s.heap.size ) (cwV 1 hC.2.2.2.2 gX11_errand_X11_hasCorner rfl rfl rfl (by decide +kernel) ⟨Nat.le_of_ble_eq_true rfl, Nat.le_of_ble_eq_true rfl⟩) rfl 0 rfl rfl hl.1 rfl (Nat.le_of_ble_eq_true rfl) dX11_errand_17 0 0 ⟨rfl, rfl⟩ ⟨Nat.le_of_ble_eq_true rfl, Nat.le_of_ble_eq_true rfl⟩ (fun r2 u1 H locs hp3 hw => ?_)
  have hw : Wd dC dI A s.heap H locs [(av0, .inr (11, [.ref (ad 0), .ref (ad 1), .ref (ad 2), .ref (ad 3), .ref (ad 4), .ref (ad 5), .ref (ad 6), .ref (ad 7), .ref (ad 8), .ref (ad 9), .ref (ad 10), .ref (ad 11), .int 0])), ((ad 4), .inr (5, [.ref (ad 27), .ref (ad 28), .ref (ad 29), .ref (ad 30), .ref (ad 31), .ref (ad 32), .ref (ad 33), .ref (ad 34), .int 0, .int 0, .int 0, .int 0, .int 0, .int 0])), ((ad 27), .inr (7, [.ref (ad 68), .ref (ad 69), .ref (ad 70), .ref (ad 71), .ref (ad 72), .ref (ad 73), .ref (ad 74), .ref (ad 75), .int 0, .int 0, .int 0, .int 0]))] := hw
  obtain rfl : r2 = 0 := hp3
  refine lv_if_eq (tgt := 48) hx hb dX11_errand_20 (by decide) (fun _ => ?_) (fun c => absurd (by decide) c)
  refine lv_bipush (v := (-2)) hx hb dX11_errand_48 (by decide) ?_
  exact wk_iret (v := (-2)) hC hr hlocks hK ((fun _ => 0), (fun _ _ => 0)) rfl [0, 1, 2] rfl rfl hw dX11_errand_50

set_option maxHeartbeats 4000000 in
set_option maxRecDepth 100000 in
theorem t_X11_errand_1 (l : Launch) (dC : Nat → ClassId) (dI : Nat → Nat → Nat) (cy : Nat → ClassId) (av0 : Nat) (ad : Nat → Nat) (p1 : Int32) (sz : Nat)  : Met l yX11_errand wsX11_errand ({ frames := 0, cells := 0, slots := 0, locals := 0 }) (va_Pc [.ref av0, .int (-1), .int p1] (wpre dC dI cy sz [(av0, .inr (11, [.ref (ad 0), .ref (ad 1), .ref (ad 2), .ref (ad 3), .ref (ad 4), .ref (ad 5), .ref (ad 6), .ref (ad 7), .ref (ad 8), .ref (ad 9), .ref (ad 10), .ref (ad 11), .int 0])), ((ad 4), .inr (5, [.ref (ad 27), .ref (ad 28), .ref (ad 29), .ref (ad 30), .ref (ad 31), .ref (ad 32), .ref (ad 33), .ref (ad 34), .int 0, .int 0, .int 0, .int 0, .int 0, .int 0]))])) (va_Qi (fun (r : Int32) (_ : ((Nat → Nat) × (Nat → Nat → Int32))) => r = 0) (fun u => wpost dC dI cy (va_A [(av0, .inr (11, [.ref (ad 0), .ref (ad 1), .ref (ad 2), .ref (ad 3), .ref (ad 4), .ref (ad 5), .ref (ad 6), .ref (ad 7), .ref (ad 8), .ref (ad 9), .ref (ad 10), .ref (ad 11), .int 0])), ((ad 4), .inr (5, [.ref (ad 27), .ref (ad 28), .ref (ad 29), .ref (ad 30), .ref (ad 31), .ref (ad 32), .ref (ad 33), .ref (ad 34), .int 0, .int 0, .int 0, .int 0, .int 0, .int 0]))] sz) [(av0, .inr (11, [.ref (ad 0), .ref (ad 1), .ref (ad 2), .ref (ad 3), .ref (ad 4), .ref (ad 5), .ref (ad 6), .ref (ad 7), .ref (ad 8), .ref (ad 9), .ref (ad 10), .ref (ad 11), .int 0])), ((ad 4), .inr (5, [.ref (ad 27), .ref (ad 28), .ref (ad 29), .ref (ad 30), .ref (ad 31), .ref (ad 32), .ref (ad 33), .ref (ad 34), .int 0, .int 0, .int 0, .int 0, .int 0, .int 0]))]) (va_A [(av0, .inr (11, [.ref (ad 0), .ref (ad 1), .ref (ad 2), .ref (ad 3), .ref (ad 4), .ref (ad 5), .ref (ad 6), .ref (ad 7), .ref (ad 8), .ref (ad 9), .ref (ad 10), .ref (ad 11), .int 0])), ((ad 4), .inr (5, [.ref (ad 27), .ref (ad 28), .ref (ad 29), .ref (ad 30), .ref (ad 31), .ref (ad 32), .ref (ad 33), .ref (ad 34), .int 0, .int 0, .int 0, .int 0, .int 0, .int 0]))] sz)) 0 0 (va_A [(av0, .inr (11, [.ref (ad 0), .ref (ad 1), .ref (ad 2), .ref (ad 3), .ref (ad 4), .ref (ad 5), .ref (ad 6), .ref (ad 7), .ref (ad 8), .ref (ad 9), .ref (ad 10), .ref (ad 11), .int 0])), ((ad 4), .inr (5, [.ref (ad 27), .ref (ad 28), .ref (ad 29), .ref (ad 30), .ref (ad 31), .ref (ad 32), .ref (ad 33), .ref (ad 34), .int 0, .int 0, .int 0, .int 0, .int 0, .int 0]))] sz) := by
  refine Met.ofW (cc := cX11_errand) (maxL := 3) (ret := (some .int)) (by decide) rfl ?_
  intro p e s m args below meth c s₁ B hml hv
  obtain ⟨rfl, hsz, hP, hK, hD0⟩ := hv
  have hx := B.exec
  have hb := B.bytes
  have hr := B.returns
  have hlocks := B.notSynchronized
  have hC : CallFix p m c cX11_errand 3 s _ wsX11_errand RX11 := ⟨hx, hb, hml, findClass_of_methodNamed B.named, atoms_spec (ws := wsX11_errand) B.pre⟩
  subst hsz
  have hD := hD0.self (sz := s.heap.size)
  generalize hAe : va_A [(av0, .inr (11, [.ref (ad 0), .ref (ad 1), .ref (ad 2), .ref (ad 3), .ref (ad 4), .ref (ad 5), .ref (ad 6), .ref (ad 7), .ref (ad 8), .ref (ad 9), .ref (ad 10), .ref (ad 11), .int 0])), ((ad 4), .inr (5, [.ref (ad 27), .ref (ad 28), .ref (ad 29), .ref (ad 30), .ref (ad 31), .ref (ad 32), .ref (ad 33), .ref (ad 34), .int 0, .int 0, .int 0, .int 0, .int 0, .int 0]))] s.heap.size = A at hD ⊢
  have hA : ∀ q : Nat, s.heap.size ≤ q → A q := fun q h => by rw [← hAe]; exact Or.inr h
  have hw : Wd dC dI A s.heap s.heap [] [(av0, .inr (11, [.ref (ad 0), .ref (ad 1), .ref (ad 2), .ref (ad 3), .ref (ad 4), .ref (ad 5), .ref (ad 6), .ref (ad 7), .ref (ad 8), .ref (ad 9), .ref (ad 10), .ref (ad 11), .int 0])), ((ad 4), .inr (5, [.ref (ad 27), .ref (ad 28), .ref (ad 29), .ref (ad 30), .ref (ad 31), .ref (ad 32), .ref (ad 33), .ref (ad 34), .int 0, .int 0, .int 0, .int 0, .int 0, .int 0]))] := ⟨hP, hD, va_S.rf⟩
  have hl := lv_entry ([.ref av0, .int (-1), .int p1]) (n := 3) (Nat.le_of_ble_eq_true rfl)
  rw [lg_entry_eq]
  generalize (lg_sl ([.ref av0, .int (-1), .int p1]) ++ List.replicate (3 - (lg_sl ([.ref av0, .int (-1), .int p1])).length) Slot.unset).toArray = ls at hl ⊢
  have hl : lv_has ls 3 [(0, .ref av0), (1, .int (-1)), (2, .int p1)] := hl
  have hinX11 : ∀ w ∈ u_ws RX11 TX11 13, w ∈ wsX11_errand := fun _ h => List.mem_cons_of_mem _ (List.mem_append_left _ (List.mem_append_left _ (List.mem_append_right _ (h))))
  have hinX5 : ∀ w ∈ u_ws RX5 TX5 14, w ∈ wsX11_errand := fun _ h => List.mem_cons_of_mem _ (List.mem_append_left _ (List.mem_append_right _ (h)))
  refine lv_iload_n hx hb dX11_errand_0 rfl (lv_at hl 1 rfl) ?_
  refine lv_iconst (v := (-1)) hx hb dX11_errand_1 (by decide) ?_
  refine lv_icmp_ne (tgt := 15) hx hb dX11_errand_2 (by decide) (fun c => absurd (by decide) c) (fun _ => ?_)
  refine lv_aload_n hx hb dX11_errand_5 rfl (lv_at hl 0 rfl) ?_
  refine wk_get hC hK hw hinX11 0 rfl rfl 4 (by decide) (List.mem_of_getElem? (i := 1) rfl) rfl rfl dX11_errand_6 ?_
  refine lv_iconst (v := 0) hx hb dX11_errand_9 (by decide) ?_
  refine wk_put hC hK hw hinX5 tyX5_ok nmX5 1 rfl rfl 10 (by decide) (List.mem_of_getElem? (i := 2) rfl) rfl rfl rfl rfl rfl (Nat.le_of_ble_eq_true rfl) dX11_errand_10 (fun H locs hw => ?_)
  have hw : Wd dC dI A s.heap H locs [(av0, .inr (11, [.ref (ad 0), .ref (ad 1), .ref (ad 2), .ref (ad 3), .ref (ad 4), .ref (ad 5), .ref (ad 6), .ref (ad 7), .ref (ad 8), .ref (ad 9), .ref (ad 10), .ref (ad 11), .int 0])), ((ad 4), .inr (5, [.ref (ad 27), .ref (ad 28), .ref (ad 29), .ref (ad 30), .ref (ad 31), .ref (ad 32), .ref (ad 33), .ref (ad 34), .int 0, .int 0, .int 0, .int 0, .int 0, .int 0]))] := hw
  refine lv_iconst (v := 0) hx hb dX11_errand_13 (by decide) ?_
  exact wk_iret (v := 0) hC hr hlocks hK ((fun _ => 0), (fun _ _ => 0)) rfl [0, 1] rfl rfl hw dX11_errand_14

set_option maxHeartbeats 4000000 in
set_option maxRecDepth 100000 in
theorem t_X11_errand_2 (l : Launch) (dC : Nat → ClassId) (dI : Nat → Nat → Nat) (cy : Nat → ClassId) (av0 : Nat) (ad : Nat → Nat) (p0 : Int32) (p1 : Int32) (sz : Nat) (hp : 0 ≤ p0.toInt) : Met l yX11_errand wsX11_errand ({ frames := 1, cells := 0, slots := 0, locals := 21 }) (va_Pc [.ref av0, .int p0, .int p1] (wpre dC dI cy sz [(av0, .inr (11, [.ref (ad 0), .ref (ad 1), .ref (ad 2), .ref (ad 3), .ref (ad 4), .ref (ad 5), .ref (ad 6), .ref (ad 7), .ref (ad 8), .ref (ad 9), .ref (ad 10), .ref (ad 11), .int 0])), ((ad 4), .inr (5, [.ref (ad 27), .ref (ad 28), .ref (ad 29), .ref (ad 30), .ref (ad 31), .ref (ad 32), .ref (ad 33), .ref (ad 34), .int 0, .int 0, .int 0, .int 0, .int 0, .int 0])), ((ad 27), .inr (7, [.ref (ad 68), .ref (ad 69), .ref (ad 70), .ref (ad 71), .ref (ad 72), .ref (ad 73), .ref (ad 74), .ref (ad 75), .int 0, .int 0, .int 0, .int 0]))])) (va_Qi (fun (r : Int32) (_ : ((Nat → Nat) × (Nat → Nat → Int32))) => r = (-2)) (fun u => wpost dC dI cy (va_A [(av0, .inr (11, [.ref (ad 0), .ref (ad 1), .ref (ad 2), .ref (ad 3), .ref (ad 4), .ref (ad 5), .ref (ad 6), .ref (ad 7), .ref (ad 8), .ref (ad 9), .ref (ad 10), .ref (ad 11), .int 0])), ((ad 4), .inr (5, [.ref (ad 27), .ref (ad 28), .ref (ad 29), .ref (ad 30), .ref (ad 31), .ref (ad 32), .ref (ad 33), .ref (ad 34), .int 0, .int 0, .int 0, .int 0, .int 0, .int 0])), ((ad 27), .inr (7, [.ref (ad 68), .ref (ad 69), .ref (ad 70), .ref (ad 71), .ref (ad 72), .ref (ad 73), .ref (ad 74), .ref (ad 75), .int 0, .int 0, .int 0, .int 0]))] sz) [(av0, .inr (11, [.ref (ad 0), .ref (ad 1), .ref (ad 2), .ref (ad 3), .ref (ad 4), .ref (ad 5), .ref (ad 6), .ref (ad 7), .ref (ad 8), .ref (ad 9), .ref (ad 10), .ref (ad 11), .int 0])), ((ad 4), .inr (5, [.ref (ad 27), .ref (ad 28), .ref (ad 29), .ref (ad 30), .ref (ad 31), .ref (ad 32), .ref (ad 33), .ref (ad 34), .int 0, .int 0, .int 0, .int 0, .int 0, .int 0])), ((ad 27), .inr (7, [.ref (ad 68), .ref (ad 69), .ref (ad 70), .ref (ad 71), .ref (ad 72), .ref (ad 73), .ref (ad 74), .ref (ad 75), .int 0, .int 0, .int 0, .int 0]))]) (va_A [(av0, .inr (11, [.ref (ad 0), .ref (ad 1), .ref (ad 2), .ref (ad 3), .ref (ad 4), .ref (ad 5), .ref (ad 6), .ref (ad 7), .ref (ad 8), .ref (ad 9), .ref (ad 10), .ref (ad 11), .int 0])), ((ad 4), .inr (5, [.ref (ad 27), .ref (ad 28), .ref (ad 29), .ref (ad 30), .ref (ad 31), .ref (ad 32), .ref (ad 33), .ref (ad 34), .int 0, .int 0, .int 0, .int 0, .int 0, .int 0])), ((ad 27), .inr (7, [.ref (ad 68), .ref (ad 69), .ref (ad 70), .ref (ad 71), .ref (ad 72), .ref (ad 73), .ref (ad 74), .ref (ad 75), .int 0, .int 0, .int 0, .int 0]))] sz)) 0 0 (va_A [(av0, .inr (11, [.ref (ad 0), .ref (ad 1), .ref (ad 2), .ref (ad 3), .ref (ad 4), .ref (ad 5), .ref (ad 6), .ref (ad 7), .ref (ad 8), .ref (ad 9), .ref (ad 10), .ref (ad 11), .int 0])), ((ad 4), .inr (5, [.ref (ad 27), .ref (ad 28), .ref (ad 29), .ref (ad 30), .ref (ad 31), .ref (ad 32), .ref (ad 33), .ref (ad 34), .int 0, .int 0, .int 0, .int 0, .int 0, .int 0])), ((ad 27), .inr (7, [.ref (ad 68), .ref (ad 69), .ref (ad 70), .ref (ad 71), .ref (ad 72), .ref (ad 73), .ref (ad 74), .ref (ad 75), .int 0, .int 0, .int 0, .int 0]))] sz) := by
  refine Met.ofW (cc := cX11_errand) (maxL := 3) (ret := (some .int)) (by decide) rfl ?_
  intro p e s m args below meth c s₁ B hml hv
  obtain ⟨rfl, hsz, hP, hK, hD0⟩ := hv
  have hx := B.exec
  have hb := B.bytes
  have hr := B.returns
  have hlocks := B.notSynchronized
  have hC : CallFix p m c cX11_errand 3 s _ wsX11_errand RX11 := ⟨hx, hb, hml, findClass_of_methodNamed B.named, atoms_spec (ws := wsX11_errand) B.pre⟩
  subst hsz
  have hD := hD0.self (sz := s.heap.size)
  generalize hAe : va_A [(av0, .inr (11, [.ref (ad 0), .ref (ad 1), .ref (ad 2), .ref (ad 3), .ref (ad 4), .ref (ad 5), .ref (ad 6), .ref (ad 7), .ref (ad 8), .ref (ad 9), .ref (ad 10), .ref (ad 11), .int 0])), ((ad 4), .inr (5, [.ref (ad 27), .ref (ad 28), .ref (ad 29), .ref (ad 30), .ref (ad 31), .ref (ad 32), .ref (ad 33), .ref (ad 34), .int 0, .int 0, .int 0, .int 0, .int 0, .int 0])), ((ad 27), .inr (7, [.ref (ad 68), .ref (ad 69), .ref (ad 70), .ref (ad 71), .ref (ad 72), .ref (ad 73), .ref (ad 74), .ref (ad 75), .int 0, .int 0, .int 0, .int 0]))] s.heap.size = A at hD ⊢
  have hA : ∀ q : Nat, s.heap.size ≤ q → A q := fun q h => by rw [← hAe]; exact Or.inr h
  have hw : Wd dC dI A s.heap s.heap [] [(av0, .inr (11, [.ref (ad 0), .ref (ad 1), .ref (ad 2), .ref (ad 3), .ref (ad 4), .ref (ad 5), .ref (ad 6), .ref (ad 7), .ref (ad 8), .ref (ad 9), .ref (ad 10), .ref (ad 11), .int 0])), ((ad 4), .inr (5, [.ref (ad 27), .ref (ad 28), .ref (ad 29), .ref (ad 30), .ref (ad 31), .ref (ad 32), .ref (ad 33), .ref (ad 34), .int 0, .int 0, .int 0, .int 0, .int 0, .int 0])), ((ad 27), .inr (7, [.ref (ad 68), .ref (ad 69), .ref (ad 70), .ref (ad 71), .ref (ad 72), .ref (ad 73), .ref (ad 74), .ref (ad 75), .int 0, .int 0, .int 0, .int 0]))] := ⟨hP, hD, va_S.rf⟩
  have hl := lv_entry ([.ref av0, .int p0, .int p1]) (n := 3) (Nat.le_of_ble_eq_true rfl)
  rw [lg_entry_eq]
  generalize (lg_sl ([.ref av0, .int p0, .int p1]) ++ List.replicate (3 - (lg_sl ([.ref av0, .int p0, .int p1])).length) Slot.unset).toArray = ls at hl ⊢
  have hl : lv_has ls 3 [(0, .ref av0), (1, .int p0), (2, .int p1)] := hl
  refine lv_iload_n hx hb dX11_errand_0 rfl (lv_at hl 1 rfl) ?_
  refine lv_iconst (v := (-1)) hx hb dX11_errand_1 (by decide) ?_
  refine lv_icmp_ne (tgt := 15) hx hb dX11_errand_2 (by decide) (fun _ => ?_) (fun c => absurd (show p0.toInt = (-1 : Int) from wk_eq.mp c) (by omega))
  refine lv_aload_n hx hb dX11_errand_15 rfl (lv_at hl 0 rfl) ?_
  refine lv_iload_n hx hb dX11_errand_16 rfl (lv_at hl 1 rfl) ?_
  refine wk_Vi hC hK hw hA [0, 1, 2] [] rfl rfl rfl rfl (by decide) (c_X11_hasCorner_1 l dC dI cy av0 p0 (ad 0) (ad 1) (ad 2) (ad 3) (ad 4) (ad 5) (ad 6) (ad 7) (ad 8) (ad 9) (ad 10) (ad 11) (ad 27) (ad 28) (ad 29) (ad 30) (ad 31) (ad 32) (ad 33) (ad 34) (ad 68) (ad 69) (ad 70) (ad 71) (ad 72) (ad 73) (ad 74) (ad 75) s.heap.size ) (cwV 1 hC.2.2.2.2 gX11_errand_X11_hasCorner rfl rfl rfl (by decide +kernel) ⟨Nat.le_of_ble_eq_true rfl, Nat.le_of_ble_eq_true rfl⟩) rfl 0 rfl rfl hl.1 rfl (Nat.le_of_ble_eq_true rfl) dX11_errand_17 0 0 ⟨rfl, rfl⟩ ⟨Nat.le_of_ble_eq_true rfl, Nat.le_of_ble_eq_true rfl⟩ (fun r2 u1 H locs hp3 hw => ?_)
  have hw : Wd dC dI A s.heap H locs [(av0, .inr (11, [.ref (ad 0), .ref (ad 1), .ref (ad 2), .ref (ad 3), .ref (ad 4), .ref (ad 5), .ref (ad 6), .ref (ad 7), .ref (ad 8), .ref (ad 9), .ref (ad 10), .ref (ad 11), .int 0])), ((ad 4), .inr (5, [.ref (ad 27), .ref (ad 28), .ref (ad 29), .ref (ad 30), .ref (ad 31), .ref (ad 32), .ref (ad 33), .ref (ad 34), .int 0, .int 0, .int 0, .int 0, .int 0, .int 0])), ((ad 27), .inr (7, [.ref (ad 68), .ref (ad 69), .ref (ad 70), .ref (ad 71), .ref (ad 72), .ref (ad 73), .ref (ad 74), .ref (ad 75), .int 0, .int 0, .int 0, .int 0]))] := hw
  obtain rfl : r2 = 0 := hp3
  refine lv_if_eq (tgt := 48) hx hb dX11_errand_20 (by decide) (fun _ => ?_) (fun c => absurd (by decide) c)
  refine lv_bipush (v := (-2)) hx hb dX11_errand_48 (by decide) ?_
  exact wk_iret (v := (-2)) hC hr hlocks hK ((fun _ => 0), (fun _ _ => 0)) rfl [0, 1, 2] rfl rfl hw dX11_errand_50

set_option maxHeartbeats 4000000 in
set_option maxRecDepth 100000 in
theorem t_X11_ways (l : Launch) (dC : Nat → ClassId) (dI : Nat → Nat → Nat) (cy : Nat → ClassId) (av0 : Nat) (ad : Nat → Nat) (p0 : Int32) (p1 : Int32) (sz : Nat)  : Met l yX11_ways wsX11_ways ({ frames := 1, cells := 0, slots := 0, locals := 20 }) (va_Pc [.ref av0, .int p0, .int p1] (wpre dC dI cy sz [(av0, .inr (11, [.ref (ad 0), .ref (ad 1), .ref (ad 2), .ref (ad 3), .ref (ad 4), .ref (ad 5), .ref (ad 6), .ref (ad 7), .ref (ad 8), .ref (ad 9), .ref (ad 10), .ref (ad 11), .int 0])), ((ad 4), .inr (5, [.ref (ad 27), .ref (ad 28), .ref (ad 29), .ref (ad 30), .ref (ad 31), .ref (ad 32), .ref (ad 33), .ref (ad 34), .int 0, .int 0, .int 0, .int 0, .int 0, .int 0])), ((ad 27), .inr (7, [.ref (ad 68), .ref (ad 69), .ref (ad 70), .ref (ad 71), .ref (ad 72), .ref (ad 73), .ref (ad 74), .ref (ad 75), .int 0, .int 0, .int 0, .int 0]))])) (va_Qi (fun (r : Int32) (_ : ((Nat → Nat) × (Nat → Nat → Int32))) => r = (-1)) (fun u => wpost dC dI cy (va_A [(av0, .inr (11, [.ref (ad 0), .ref (ad 1), .ref (ad 2), .ref (ad 3), .ref (ad 4), .ref (ad 5), .ref (ad 6), .ref (ad 7), .ref (ad 8), .ref (ad 9), .ref (ad 10), .ref (ad 11), .int 0])), ((ad 4), .inr (5, [.ref (ad 27), .ref (ad 28), .ref (ad 29), .ref (ad 30), .ref (ad 31), .ref (ad 32), .ref (ad 33), .ref (ad 34), .int 0, .int 0, .int 0, .int 0, .int 0, .int 0])), ((ad 27), .inr (7, [.ref (ad 68), .ref (ad 69), .ref (ad 70), .ref (ad 71), .ref (ad 72), .ref (ad 73), .ref (ad 74), .ref (ad 75), .int 0, .int 0, .int 0, .int 0]))] sz) [(av0, .inr (11, [.ref (ad 0), .ref (ad 1), .ref (ad 2), .ref (ad 3), .ref (ad 4), .ref (ad 5), .ref (ad 6), .ref (ad 7), .ref (ad 8), .ref (ad 9), .ref (ad 10), .ref (ad 11), .int 0])), ((ad 4), .inr (5, [.ref (ad 27), .ref (ad 28), .ref (ad 29), .ref (ad 30), .ref (ad 31), .ref (ad 32), .ref (ad 33), .ref (ad 34), .int 0, .int 0, .int 0, .int 0, .int 0, .int 0])), ((ad 27), .inr (7, [.ref (ad 68), .ref (ad 69), .ref (ad 70), .ref (ad 71), .ref (ad 72), .ref (ad 73), .ref (ad 74), .ref (ad 75), .int 0, .int 0, .int 0, .int 0]))]) (va_A [(av0, .inr (11, [.ref (ad 0), .ref (ad 1), .ref (ad 2), .ref (ad 3), .ref (ad 4), .ref (ad 5), .ref (ad 6), .ref (ad 7), .ref (ad 8), .ref (ad 9), .ref (ad 10), .ref (ad 11), .int 0])), ((ad 4), .inr (5, [.ref (ad 27), .ref (ad 28), .ref (ad 29), .ref (ad 30), .ref (ad 31), .ref (ad 32), .ref (ad 33), .ref (ad 34), .int 0, .int 0, .int 0, .int 0, .int 0, .int 0])), ((ad 27), .inr (7, [.ref (ad 68), .ref (ad 69), .ref (ad 70), .ref (ad 71), .ref (ad 72), .ref (ad 73), .ref (ad 74), .ref (ad 75), .int 0, .int 0, .int 0, .int 0]))] sz)) 0 0 (va_A [(av0, .inr (11, [.ref (ad 0), .ref (ad 1), .ref (ad 2), .ref (ad 3), .ref (ad 4), .ref (ad 5), .ref (ad 6), .ref (ad 7), .ref (ad 8), .ref (ad 9), .ref (ad 10), .ref (ad 11), .int 0])), ((ad 4), .inr (5, [.ref (ad 27), .ref (ad 28), .ref (ad 29), .ref (ad 30), .ref (ad 31), .ref (ad 32), .ref (ad 33), .ref (ad 34), .int 0, .int 0, .int 0, .int 0, .int 0, .int 0])), ((ad 27), .inr (7, [.ref (ad 68), .ref (ad 69), .ref (ad 70), .ref (ad 71), .ref (ad 72), .ref (ad 73), .ref (ad 74), .ref (ad 75), .int 0, .int 0, .int 0, .int 0]))] sz) := by
  refine Met.ofW (cc := cX11_ways) (maxL := 4) (ret := (some .int)) (by decide) rfl ?_
  intro p e s m args below meth c s₁ B hml hv
  obtain ⟨rfl, hsz, hP, hK, hD0⟩ := hv
  have hx := B.exec
  have hb := B.bytes
  have hr := B.returns
  have hlocks := B.notSynchronized
  have hC : CallFix p m c cX11_ways 4 s _ wsX11_ways RX11 := ⟨hx, hb, hml, findClass_of_methodNamed B.named, atoms_spec (ws := wsX11_ways) B.pre⟩
  subst hsz
  have hD := hD0.self (sz := s.heap.size)
  generalize hAe : va_A [(av0, .inr (11, [.ref (ad 0), .ref (ad 1), .ref (ad 2), .ref (ad 3), .ref (ad 4), .ref (ad 5), .ref (ad 6), .ref (ad 7), .ref (ad 8), .ref (ad 9), .ref (ad 10), .ref (ad 11), .int 0])), ((ad 4), .inr (5, [.ref (ad 27), .ref (ad 28), .ref (ad 29), .ref (ad 30), .ref (ad 31), .ref (ad 32), .ref (ad 33), .ref (ad 34), .int 0, .int 0, .int 0, .int 0, .int 0, .int 0])), ((ad 27), .inr (7, [.ref (ad 68), .ref (ad 69), .ref (ad 70), .ref (ad 71), .ref (ad 72), .ref (ad 73), .ref (ad 74), .ref (ad 75), .int 0, .int 0, .int 0, .int 0]))] s.heap.size = A at hD ⊢
  have hA : ∀ q : Nat, s.heap.size ≤ q → A q := fun q h => by rw [← hAe]; exact Or.inr h
  have hw : Wd dC dI A s.heap s.heap [] [(av0, .inr (11, [.ref (ad 0), .ref (ad 1), .ref (ad 2), .ref (ad 3), .ref (ad 4), .ref (ad 5), .ref (ad 6), .ref (ad 7), .ref (ad 8), .ref (ad 9), .ref (ad 10), .ref (ad 11), .int 0])), ((ad 4), .inr (5, [.ref (ad 27), .ref (ad 28), .ref (ad 29), .ref (ad 30), .ref (ad 31), .ref (ad 32), .ref (ad 33), .ref (ad 34), .int 0, .int 0, .int 0, .int 0, .int 0, .int 0])), ((ad 27), .inr (7, [.ref (ad 68), .ref (ad 69), .ref (ad 70), .ref (ad 71), .ref (ad 72), .ref (ad 73), .ref (ad 74), .ref (ad 75), .int 0, .int 0, .int 0, .int 0]))] := ⟨hP, hD, va_S.rf⟩
  have hl := lv_entry ([.ref av0, .int p0, .int p1]) (n := 4) (Nat.le_of_ble_eq_true rfl)
  rw [lg_entry_eq]
  generalize (lg_sl ([.ref av0, .int p0, .int p1]) ++ List.replicate (4 - (lg_sl ([.ref av0, .int p0, .int p1])).length) Slot.unset).toArray = ls at hl ⊢
  have hl : lv_has ls 4 [(0, .ref av0), (1, .int p0), (2, .int p1)] := hl
  have hinX11 : ∀ w ∈ u_ws RX11 TX11 13, w ∈ wsX11_ways := fun _ h => List.mem_cons_of_mem _ (List.mem_append_left _ (List.mem_append_left _ (List.mem_append_left _ (List.mem_append_right _ (h)))))
  refine lv_aload_n hx hb dX11_ways_0 rfl (lv_at hl 0 rfl) ?_
  refine wk_get hC hK hw hinX11 0 rfl rfl 4 (by decide) (List.mem_of_getElem? (i := 1) rfl) rfl rfl dX11_ways_1 ?_
  refine wk_Vi hC hK hw hA [1, 2] [0] rfl rfl rfl rfl (by decide) (c_X5_hasTown_1 l dC dI cy (ad 4) (ad 27) (ad 28) (ad 29) (ad 30) (ad 31) (ad 32) (ad 33) (ad 34) (ad 68) (ad 69) (ad 70) (ad 71) (ad 72) (ad 73) (ad 74) (ad 75) s.heap.size ) (cwV 0 hC.2.2.2.2 gX11_ways_X5_hasTown rfl rfl rfl (by decide +kernel) ⟨Nat.le_of_ble_eq_true rfl, Nat.le_of_ble_eq_true rfl⟩) rfl 0 rfl rfl hl.1 rfl (Nat.le_of_ble_eq_true rfl) dX11_ways_4 0 0 ⟨rfl, rfl⟩ ⟨Nat.le_of_ble_eq_true rfl, Nat.le_of_ble_eq_true rfl⟩ (fun r2 u1 H locs hp3 hw => ?_)
  have hw : Wd dC dI A s.heap H locs [(av0, .inr (11, [.ref (ad 0), .ref (ad 1), .ref (ad 2), .ref (ad 3), .ref (ad 4), .ref (ad 5), .ref (ad 6), .ref (ad 7), .ref (ad 8), .ref (ad 9), .ref (ad 10), .ref (ad 11), .int 0])), ((ad 4), .inr (5, [.ref (ad 27), .ref (ad 28), .ref (ad 29), .ref (ad 30), .ref (ad 31), .ref (ad 32), .ref (ad 33), .ref (ad 34), .int 0, .int 0, .int 0, .int 0, .int 0, .int 0])), ((ad 27), .inr (7, [.ref (ad 68), .ref (ad 69), .ref (ad 70), .ref (ad 71), .ref (ad 72), .ref (ad 73), .ref (ad 74), .ref (ad 75), .int 0, .int 0, .int 0, .int 0]))] := hw
  obtain rfl : r2 = 0 := hp3
  refine lv_if_eq (tgt := 26) hx hb dX11_ways_7 (by decide) (fun _ => ?_) (fun c => absurd (by decide) c)
  refine lv_iconst (v := (-1)) hx hb dX11_ways_26 (by decide) ?_
  exact wk_iret (v := (-1)) hC hr hlocks hK ((fun _ => 0), (fun _ _ => 0)) rfl [0, 1, 2] rfl rfl hw dX11_ways_27

set_option maxHeartbeats 4000000 in
set_option maxRecDepth 100000 in
theorem t_X11_sight_0 (l : Launch) (dC : Nat → ClassId) (dI : Nat → Nat → Nat) (cy : Nat → ClassId) (av0 : Nat) (ad : Nat → Nat) (p0 : Int32) (p1 : Int32) (sz : Nat) (hp : p0.toInt ≤ -2) : Met l yX11_sight wsX11_sight ({ frames := 1, cells := 0, slots := 0, locals := 21 }) (va_Pc [.ref av0, .int p0, .int p1] (wpre dC dI cy sz [(av0, .inr (11, [.ref (ad 0), .ref (ad 1), .ref (ad 2), .ref (ad 3), .ref (ad 4), .ref (ad 5), .ref (ad 6), .ref (ad 7), .ref (ad 8), .ref (ad 9), .ref (ad 10), .ref (ad 11), .int 0])), ((ad 4), .inr (5, [.ref (ad 27), .ref (ad 28), .ref (ad 29), .ref (ad 30), .ref (ad 31), .ref (ad 32), .ref (ad 33), .ref (ad 34), .int 0, .int 0, .int 0, .int 0, .int 0, .int 0])), ((ad 27), .inr (7, [.ref (ad 68), .ref (ad 69), .ref (ad 70), .ref (ad 71), .ref (ad 72), .ref (ad 73), .ref (ad 74), .ref (ad 75), .int 0, .int 0, .int 0, .int 0]))])) (va_Qi (fun (r : Int32) (_ : ((Nat → Nat) × (Nat → Nat → Int32))) => r = (-2)) (fun u => wpost dC dI cy (va_A [(av0, .inr (11, [.ref (ad 0), .ref (ad 1), .ref (ad 2), .ref (ad 3), .ref (ad 4), .ref (ad 5), .ref (ad 6), .ref (ad 7), .ref (ad 8), .ref (ad 9), .ref (ad 10), .ref (ad 11), .int 0])), ((ad 4), .inr (5, [.ref (ad 27), .ref (ad 28), .ref (ad 29), .ref (ad 30), .ref (ad 31), .ref (ad 32), .ref (ad 33), .ref (ad 34), .int 0, .int 0, .int 0, .int 0, .int 0, .int 0])), ((ad 27), .inr (7, [.ref (ad 68), .ref (ad 69), .ref (ad 70), .ref (ad 71), .ref (ad 72), .ref (ad 73), .ref (ad 74), .ref (ad 75), .int 0, .int 0, .int 0, .int 0]))] sz) [(av0, .inr (11, [.ref (ad 0), .ref (ad 1), .ref (ad 2), .ref (ad 3), .ref (ad 4), .ref (ad 5), .ref (ad 6), .ref (ad 7), .ref (ad 8), .ref (ad 9), .ref (ad 10), .ref (ad 11), .int 0])), ((ad 4), .inr (5, [.ref (ad 27), .ref (ad 28), .ref (ad 29), .ref (ad 30), .ref (ad 31), .ref (ad 32), .ref (ad 33), .ref (ad 34), .int 0, .int 0, .int 0, .int 0, .int 0, .int 0])), ((ad 27), .inr (7, [.ref (ad 68), .ref (ad 69), .ref (ad 70), .ref (ad 71), .ref (ad 72), .ref (ad 73), .ref (ad 74), .ref (ad 75), .int 0, .int 0, .int 0, .int 0]))]) (va_A [(av0, .inr (11, [.ref (ad 0), .ref (ad 1), .ref (ad 2), .ref (ad 3), .ref (ad 4), .ref (ad 5), .ref (ad 6), .ref (ad 7), .ref (ad 8), .ref (ad 9), .ref (ad 10), .ref (ad 11), .int 0])), ((ad 4), .inr (5, [.ref (ad 27), .ref (ad 28), .ref (ad 29), .ref (ad 30), .ref (ad 31), .ref (ad 32), .ref (ad 33), .ref (ad 34), .int 0, .int 0, .int 0, .int 0, .int 0, .int 0])), ((ad 27), .inr (7, [.ref (ad 68), .ref (ad 69), .ref (ad 70), .ref (ad 71), .ref (ad 72), .ref (ad 73), .ref (ad 74), .ref (ad 75), .int 0, .int 0, .int 0, .int 0]))] sz)) 0 0 (va_A [(av0, .inr (11, [.ref (ad 0), .ref (ad 1), .ref (ad 2), .ref (ad 3), .ref (ad 4), .ref (ad 5), .ref (ad 6), .ref (ad 7), .ref (ad 8), .ref (ad 9), .ref (ad 10), .ref (ad 11), .int 0])), ((ad 4), .inr (5, [.ref (ad 27), .ref (ad 28), .ref (ad 29), .ref (ad 30), .ref (ad 31), .ref (ad 32), .ref (ad 33), .ref (ad 34), .int 0, .int 0, .int 0, .int 0, .int 0, .int 0])), ((ad 27), .inr (7, [.ref (ad 68), .ref (ad 69), .ref (ad 70), .ref (ad 71), .ref (ad 72), .ref (ad 73), .ref (ad 74), .ref (ad 75), .int 0, .int 0, .int 0, .int 0]))] sz) := by
  refine Met.ofW (cc := cX11_sight) (maxL := 3) (ret := (some .int)) (by decide) rfl ?_
  intro p e s m args below meth c s₁ B hml hv
  obtain ⟨rfl, hsz, hP, hK, hD0⟩ := hv
  have hx := B.exec
  have hb := B.bytes
  have hr := B.returns
  have hlocks := B.notSynchronized
  have hC : CallFix p m c cX11_sight 3 s _ wsX11_sight RX11 := ⟨hx, hb, hml, findClass_of_methodNamed B.named, atoms_spec (ws := wsX11_sight) B.pre⟩
  subst hsz
  have hD := hD0.self (sz := s.heap.size)
  generalize hAe : va_A [(av0, .inr (11, [.ref (ad 0), .ref (ad 1), .ref (ad 2), .ref (ad 3), .ref (ad 4), .ref (ad 5), .ref (ad 6), .ref (ad 7), .ref (ad 8), .ref (ad 9), .ref (ad 10), .ref (ad 11), .int 0])), ((ad 4), .inr (5, [.ref (ad 27), .ref (ad 28), .ref (ad 29), .ref (ad 30), .ref (ad 31), .ref (ad 32), .ref (ad 33), .ref (ad 34), .int 0, .int 0, .int 0, .int 0, .int 0, .int 0])), ((ad 27), .inr (7, [.ref (ad 68), .ref (ad 69), .ref (ad 70), .ref (ad 71), .ref (ad 72), .ref (ad 73), .ref (ad 74), .ref (ad 75), .int 0, .int 0, .int 0, .int 0]))] s.heap.size = A at hD ⊢
  have hA : ∀ q : Nat, s.heap.size ≤ q → A q := fun q h => by rw [← hAe]; exact Or.inr h
  have hw : Wd dC dI A s.heap s.heap [] [(av0, .inr (11, [.ref (ad 0), .ref (ad 1), .ref (ad 2), .ref (ad 3), .ref (ad 4), .ref (ad 5), .ref (ad 6), .ref (ad 7), .ref (ad 8), .ref (ad 9), .ref (ad 10), .ref (ad 11), .int 0])), ((ad 4), .inr (5, [.ref (ad 27), .ref (ad 28), .ref (ad 29), .ref (ad 30), .ref (ad 31), .ref (ad 32), .ref (ad 33), .ref (ad 34), .int 0, .int 0, .int 0, .int 0, .int 0, .int 0])), ((ad 27), .inr (7, [.ref (ad 68), .ref (ad 69), .ref (ad 70), .ref (ad 71), .ref (ad 72), .ref (ad 73), .ref (ad 74), .ref (ad 75), .int 0, .int 0, .int 0, .int 0]))] := ⟨hP, hD, va_S.rf⟩
  have hl := lv_entry ([.ref av0, .int p0, .int p1]) (n := 3) (Nat.le_of_ble_eq_true rfl)
  rw [lg_entry_eq]
  generalize (lg_sl ([.ref av0, .int p0, .int p1]) ++ List.replicate (3 - (lg_sl ([.ref av0, .int p0, .int p1])).length) Slot.unset).toArray = ls at hl ⊢
  have hl : lv_has ls 3 [(0, .ref av0), (1, .int p0), (2, .int p1)] := hl
  have hinX11 : ∀ w ∈ u_ws RX11 TX11 13, w ∈ wsX11_sight := fun _ h => List.mem_cons_of_mem _ (List.mem_append_left _ (List.mem_append_left _ (List.mem_append_right _ (h))))
  have hinX5 : ∀ w ∈ u_ws RX5 TX5 14, w ∈ wsX11_sight := fun _ h => List.mem_cons_of_mem _ (List.mem_append_left _ (List.mem_append_right _ (h)))
  refine lv_iload_n hx hb dX11_sight_0 rfl (lv_at hl 1 rfl) ?_
  refine lv_iconst (v := (-1)) hx hb dX11_sight_1 (by decide) ?_
  refine lv_icmp_ne (tgt := 15) hx hb dX11_sight_2 (by decide) (fun _ => ?_) (fun c => absurd (show p0.toInt = (-1 : Int) from wk_eq.mp c) (by omega))
  refine lv_aload_n hx hb dX11_sight_15 rfl (lv_at hl 0 rfl) ?_
  refine wk_get hC hK hw hinX11 0 rfl rfl 4 (by decide) (List.mem_of_getElem? (i := 1) rfl) rfl rfl dX11_sight_16 ?_
  refine wk_get hC hK hw hinX5 1 rfl rfl 0 (by decide) (List.mem_of_getElem? (i := 3) rfl) rfl rfl dX11_sight_19 ?_
  refine lv_iload_n hx hb dX11_sight_22 rfl (lv_at hl 1 rfl) ?_
  refine wk_Vi hC hK hw hA [2] [0, 1] rfl rfl rfl rfl (by decide) (c_X7_hasStreet_1 l dC dI cy (ad 27) p0 (ad 68) (ad 69) (ad 70) (ad 71) (ad 72) (ad 73) (ad 74) (ad 75) s.heap.size ) (cwV 1 hC.2.2.2.2 gX11_sight_X7_hasStreet rfl rfl rfl (by decide +kernel) ⟨Nat.le_of_ble_eq_true rfl, Nat.le_of_ble_eq_true rfl⟩) rfl 0 rfl rfl hl.1 rfl (Nat.le_of_ble_eq_true rfl) dX11_sight_23 0 0 ⟨rfl, rfl⟩ ⟨Nat.le_of_ble_eq_true rfl, Nat.le_of_ble_eq_true rfl⟩ (fun r2 u1 H locs hp3 hw => ?_)
  have hw : Wd dC dI A s.heap H locs [(av0, .inr (11, [.ref (ad 0), .ref (ad 1), .ref (ad 2), .ref (ad 3), .ref (ad 4), .ref (ad 5), .ref (ad 6), .ref (ad 7), .ref (ad 8), .ref (ad 9), .ref (ad 10), .ref (ad 11), .int 0])), ((ad 4), .inr (5, [.ref (ad 27), .ref (ad 28), .ref (ad 29), .ref (ad 30), .ref (ad 31), .ref (ad 32), .ref (ad 33), .ref (ad 34), .int 0, .int 0, .int 0, .int 0, .int 0, .int 0])), ((ad 27), .inr (7, [.ref (ad 68), .ref (ad 69), .ref (ad 70), .ref (ad 71), .ref (ad 72), .ref (ad 73), .ref (ad 74), .ref (ad 75), .int 0, .int 0, .int 0, .int 0]))] := hw
  obtain rfl : r2 = 0 := hp3
  refine lv_if_eq (tgt := 48) hx hb dX11_sight_26 (by decide) (fun _ => ?_) (fun c => absurd (by decide) c)
  refine lv_bipush (v := (-2)) hx hb dX11_sight_48 (by decide) ?_
  exact wk_iret (v := (-2)) hC hr hlocks hK ((fun _ => 0), (fun _ _ => 0)) rfl [0, 1, 2] rfl rfl hw dX11_sight_50

set_option maxHeartbeats 4000000 in
set_option maxRecDepth 100000 in
theorem t_X11_sight_1 (l : Launch) (dC : Nat → ClassId) (dI : Nat → Nat → Nat) (cy : Nat → ClassId) (av0 : Nat) (ad : Nat → Nat) (p1 : Int32) (sz : Nat)  : Met l yX11_sight wsX11_sight ({ frames := 0, cells := 0, slots := 0, locals := 0 }) (va_Pc [.ref av0, .int (-1), .int p1] (wpre dC dI cy sz [(av0, .inr (11, [.ref (ad 0), .ref (ad 1), .ref (ad 2), .ref (ad 3), .ref (ad 4), .ref (ad 5), .ref (ad 6), .ref (ad 7), .ref (ad 8), .ref (ad 9), .ref (ad 10), .ref (ad 11), .int 0])), ((ad 4), .inr (5, [.ref (ad 27), .ref (ad 28), .ref (ad 29), .ref (ad 30), .ref (ad 31), .ref (ad 32), .ref (ad 33), .ref (ad 34), .int 0, .int 0, .int 0, .int 0, .int 0, .int 0]))])) (va_Qi (fun (r : Int32) (_ : ((Nat → Nat) × (Nat → Nat → Int32))) => r = 0) (fun u => wpost dC dI cy (va_A [(av0, .inr (11, [.ref (ad 0), .ref (ad 1), .ref (ad 2), .ref (ad 3), .ref (ad 4), .ref (ad 5), .ref (ad 6), .ref (ad 7), .ref (ad 8), .ref (ad 9), .ref (ad 10), .ref (ad 11), .int 0])), ((ad 4), .inr (5, [.ref (ad 27), .ref (ad 28), .ref (ad 29), .ref (ad 30), .ref (ad 31), .ref (ad 32), .ref (ad 33), .ref (ad 34), .int 0, .int 0, .int 0, .int 0, .int 0, .int 0]))] sz) [(av0, .inr (11, [.ref (ad 0), .ref (ad 1), .ref (ad 2), .ref (ad 3), .ref (ad 4), .ref (ad 5), .ref (ad 6), .ref (ad 7), .ref (ad 8), .ref (ad 9), .ref (ad 10), .ref (ad 11), .int 0])), ((ad 4), .inr (5, [.ref (ad 27), .ref (ad 28), .ref (ad 29), .ref (ad 30), .ref (ad 31), .ref (ad 32), .ref (ad 33), .ref (ad 34), .int 0, .int 0, .int 0, .int 0, .int 0, .int 0]))]) (va_A [(av0, .inr (11, [.ref (ad 0), .ref (ad 1), .ref (ad 2), .ref (ad 3), .ref (ad 4), .ref (ad 5), .ref (ad 6), .ref (ad 7), .ref (ad 8), .ref (ad 9), .ref (ad 10), .ref (ad 11), .int 0])), ((ad 4), .inr (5, [.ref (ad 27), .ref (ad 28), .ref (ad 29), .ref (ad 30), .ref (ad 31), .ref (ad 32), .ref (ad 33), .ref (ad 34), .int 0, .int 0, .int 0, .int 0, .int 0, .int 0]))] sz)) 0 0 (va_A [(av0, .inr (11, [.ref (ad 0), .ref (ad 1), .ref (ad 2), .ref (ad 3), .ref (ad 4), .ref (ad 5), .ref (ad 6), .ref (ad 7), .ref (ad 8), .ref (ad 9), .ref (ad 10), .ref (ad 11), .int 0])), ((ad 4), .inr (5, [.ref (ad 27), .ref (ad 28), .ref (ad 29), .ref (ad 30), .ref (ad 31), .ref (ad 32), .ref (ad 33), .ref (ad 34), .int 0, .int 0, .int 0, .int 0, .int 0, .int 0]))] sz) := by
  refine Met.ofW (cc := cX11_sight) (maxL := 3) (ret := (some .int)) (by decide) rfl ?_
  intro p e s m args below meth c s₁ B hml hv
  obtain ⟨rfl, hsz, hP, hK, hD0⟩ := hv
  have hx := B.exec
  have hb := B.bytes
  have hr := B.returns
  have hlocks := B.notSynchronized
  have hC : CallFix p m c cX11_sight 3 s _ wsX11_sight RX11 := ⟨hx, hb, hml, findClass_of_methodNamed B.named, atoms_spec (ws := wsX11_sight) B.pre⟩
  subst hsz
  have hD := hD0.self (sz := s.heap.size)
  generalize hAe : va_A [(av0, .inr (11, [.ref (ad 0), .ref (ad 1), .ref (ad 2), .ref (ad 3), .ref (ad 4), .ref (ad 5), .ref (ad 6), .ref (ad 7), .ref (ad 8), .ref (ad 9), .ref (ad 10), .ref (ad 11), .int 0])), ((ad 4), .inr (5, [.ref (ad 27), .ref (ad 28), .ref (ad 29), .ref (ad 30), .ref (ad 31), .ref (ad 32), .ref (ad 33), .ref (ad 34), .int 0, .int 0, .int 0, .int 0, .int 0, .int 0]))] s.heap.size = A at hD ⊢
  have hA : ∀ q : Nat, s.heap.size ≤ q → A q := fun q h => by rw [← hAe]; exact Or.inr h
  have hw : Wd dC dI A s.heap s.heap [] [(av0, .inr (11, [.ref (ad 0), .ref (ad 1), .ref (ad 2), .ref (ad 3), .ref (ad 4), .ref (ad 5), .ref (ad 6), .ref (ad 7), .ref (ad 8), .ref (ad 9), .ref (ad 10), .ref (ad 11), .int 0])), ((ad 4), .inr (5, [.ref (ad 27), .ref (ad 28), .ref (ad 29), .ref (ad 30), .ref (ad 31), .ref (ad 32), .ref (ad 33), .ref (ad 34), .int 0, .int 0, .int 0, .int 0, .int 0, .int 0]))] := ⟨hP, hD, va_S.rf⟩
  have hl := lv_entry ([.ref av0, .int (-1), .int p1]) (n := 3) (Nat.le_of_ble_eq_true rfl)
  rw [lg_entry_eq]
  generalize (lg_sl ([.ref av0, .int (-1), .int p1]) ++ List.replicate (3 - (lg_sl ([.ref av0, .int (-1), .int p1])).length) Slot.unset).toArray = ls at hl ⊢
  have hl : lv_has ls 3 [(0, .ref av0), (1, .int (-1)), (2, .int p1)] := hl
  have hinX11 : ∀ w ∈ u_ws RX11 TX11 13, w ∈ wsX11_sight := fun _ h => List.mem_cons_of_mem _ (List.mem_append_left _ (List.mem_append_left _ (List.mem_append_right _ (h))))
  have hinX5 : ∀ w ∈ u_ws RX5 TX5 14, w ∈ wsX11_sight := fun _ h => List.mem_cons_of_mem _ (List.mem_append_left _ (List.mem_append_right _ (h)))
  refine lv_iload_n hx hb dX11_sight_0 rfl (lv_at hl 1 rfl) ?_
  refine lv_iconst (v := (-1)) hx hb dX11_sight_1 (by decide) ?_
  refine lv_icmp_ne (tgt := 15) hx hb dX11_sight_2 (by decide) (fun c => absurd (by decide) c) (fun _ => ?_)
  refine lv_aload_n hx hb dX11_sight_5 rfl (lv_at hl 0 rfl) ?_
  refine wk_get hC hK hw hinX11 0 rfl rfl 4 (by decide) (List.mem_of_getElem? (i := 1) rfl) rfl rfl dX11_sight_6 ?_
  refine lv_iconst (v := 0) hx hb dX11_sight_9 (by decide) ?_
  refine wk_put hC hK hw hinX5 tyX5_ok nmX5 1 rfl rfl 11 (by decide) (List.mem_of_getElem? (i := 2) rfl) rfl rfl rfl rfl rfl (Nat.le_of_ble_eq_true rfl) dX11_sight_10 (fun H locs hw => ?_)
  have hw : Wd dC dI A s.heap H locs [(av0, .inr (11, [.ref (ad 0), .ref (ad 1), .ref (ad 2), .ref (ad 3), .ref (ad 4), .ref (ad 5), .ref (ad 6), .ref (ad 7), .ref (ad 8), .ref (ad 9), .ref (ad 10), .ref (ad 11), .int 0])), ((ad 4), .inr (5, [.ref (ad 27), .ref (ad 28), .ref (ad 29), .ref (ad 30), .ref (ad 31), .ref (ad 32), .ref (ad 33), .ref (ad 34), .int 0, .int 0, .int 0, .int 0, .int 0, .int 0]))] := hw
  refine lv_iconst (v := 0) hx hb dX11_sight_13 (by decide) ?_
  exact wk_iret (v := 0) hC hr hlocks hK ((fun _ => 0), (fun _ _ => 0)) rfl [0, 1] rfl rfl hw dX11_sight_14

set_option maxHeartbeats 4000000 in
set_option maxRecDepth 100000 in
theorem t_X11_sight_2 (l : Launch) (dC : Nat → ClassId) (dI : Nat → Nat → Nat) (cy : Nat → ClassId) (av0 : Nat) (ad : Nat → Nat) (p0 : Int32) (p1 : Int32) (sz : Nat) (hp : 0 ≤ p0.toInt) : Met l yX11_sight wsX11_sight ({ frames := 1, cells := 0, slots := 0, locals := 21 }) (va_Pc [.ref av0, .int p0, .int p1] (wpre dC dI cy sz [(av0, .inr (11, [.ref (ad 0), .ref (ad 1), .ref (ad 2), .ref (ad 3), .ref (ad 4), .ref (ad 5), .ref (ad 6), .ref (ad 7), .ref (ad 8), .ref (ad 9), .ref (ad 10), .ref (ad 11), .int 0])), ((ad 4), .inr (5, [.ref (ad 27), .ref (ad 28), .ref (ad 29), .ref (ad 30), .ref (ad 31), .ref (ad 32), .ref (ad 33), .ref (ad 34), .int 0, .int 0, .int 0, .int 0, .int 0, .int 0])), ((ad 27), .inr (7, [.ref (ad 68), .ref (ad 69), .ref (ad 70), .ref (ad 71), .ref (ad 72), .ref (ad 73), .ref (ad 74), .ref (ad 75), .int 0, .int 0, .int 0, .int 0]))])) (va_Qi (fun (r : Int32) (_ : ((Nat → Nat) × (Nat → Nat → Int32))) => r = (-2)) (fun u => wpost dC dI cy (va_A [(av0, .inr (11, [.ref (ad 0), .ref (ad 1), .ref (ad 2), .ref (ad 3), .ref (ad 4), .ref (ad 5), .ref (ad 6), .ref (ad 7), .ref (ad 8), .ref (ad 9), .ref (ad 10), .ref (ad 11), .int 0])), ((ad 4), .inr (5, [.ref (ad 27), .ref (ad 28), .ref (ad 29), .ref (ad 30), .ref (ad 31), .ref (ad 32), .ref (ad 33), .ref (ad 34), .int 0, .int 0, .int 0, .int 0, .int 0, .int 0])), ((ad 27), .inr (7, [.ref (ad 68), .ref (ad 69), .ref (ad 70), .ref (ad 71), .ref (ad 72), .ref (ad 73), .ref (ad 74), .ref (ad 75), .int 0, .int 0, .int 0, .int 0]))] sz) [(av0, .inr (11, [.ref (ad 0), .ref (ad 1), .ref (ad 2), .ref (ad 3), .ref (ad 4), .ref (ad 5), .ref (ad 6), .ref (ad 7), .ref (ad 8), .ref (ad 9), .ref (ad 10), .ref (ad 11), .int 0])), ((ad 4), .inr (5, [.ref (ad 27), .ref (ad 28), .ref (ad 29), .ref (ad 30), .ref (ad 31), .ref (ad 32), .ref (ad 33), .ref (ad 34), .int 0, .int 0, .int 0, .int 0, .int 0, .int 0])), ((ad 27), .inr (7, [.ref (ad 68), .ref (ad 69), .ref (ad 70), .ref (ad 71), .ref (ad 72), .ref (ad 73), .ref (ad 74), .ref (ad 75), .int 0, .int 0, .int 0, .int 0]))]) (va_A [(av0, .inr (11, [.ref (ad 0), .ref (ad 1), .ref (ad 2), .ref (ad 3), .ref (ad 4), .ref (ad 5), .ref (ad 6), .ref (ad 7), .ref (ad 8), .ref (ad 9), .ref (ad 10), .ref (ad 11), .int 0])), ((ad 4), .inr (5, [.ref (ad 27), .ref (ad 28), .ref (ad 29), .ref (ad 30), .ref (ad 31), .ref (ad 32), .ref (ad 33), .ref (ad 34), .int 0, .int 0, .int 0, .int 0, .int 0, .int 0])), ((ad 27), .inr (7, [.ref (ad 68), .ref (ad 69), .ref (ad 70), .ref (ad 71), .ref (ad 72), .ref (ad 73), .ref (ad 74), .ref (ad 75), .int 0, .int 0, .int 0, .int 0]))] sz)) 0 0 (va_A [(av0, .inr (11, [.ref (ad 0), .ref (ad 1), .ref (ad 2), .ref (ad 3), .ref (ad 4), .ref (ad 5), .ref (ad 6), .ref (ad 7), .ref (ad 8), .ref (ad 9), .ref (ad 10), .ref (ad 11), .int 0])), ((ad 4), .inr (5, [.ref (ad 27), .ref (ad 28), .ref (ad 29), .ref (ad 30), .ref (ad 31), .ref (ad 32), .ref (ad 33), .ref (ad 34), .int 0, .int 0, .int 0, .int 0, .int 0, .int 0])), ((ad 27), .inr (7, [.ref (ad 68), .ref (ad 69), .ref (ad 70), .ref (ad 71), .ref (ad 72), .ref (ad 73), .ref (ad 74), .ref (ad 75), .int 0, .int 0, .int 0, .int 0]))] sz) := by
  refine Met.ofW (cc := cX11_sight) (maxL := 3) (ret := (some .int)) (by decide) rfl ?_
  intro p e s m args below meth c s₁ B hml hv
  obtain ⟨rfl, hsz, hP, hK, hD0⟩ := hv
  have hx := B.exec
  have hb := B.bytes
  have hr := B.returns
  have hlocks := B.notSynchronized
  have hC : CallFix p m c cX11_sight 3 s _ wsX11_sight RX11 := ⟨hx, hb, hml, findClass_of_methodNamed B.named, atoms_spec (ws := wsX11_sight) B.pre⟩
  subst hsz
  have hD := hD0.self (sz := s.heap.size)
  generalize hAe : va_A [(av0, .inr (11, [.ref (ad 0), .ref (ad 1), .ref (ad 2), .ref (ad 3), .ref (ad 4), .ref (ad 5), .ref (ad 6), .ref (ad 7), .ref (ad 8), .ref (ad 9), .ref (ad 10), .ref (ad 11), .int 0])), ((ad 4), .inr (5, [.ref (ad 27), .ref (ad 28), .ref (ad 29), .ref (ad 30), .ref (ad 31), .ref (ad 32), .ref (ad 33), .ref (ad 34), .int 0, .int 0, .int 0, .int 0, .int 0, .int 0])), ((ad 27), .inr (7, [.ref (ad 68), .ref (ad 69), .ref (ad 70), .ref (ad 71), .ref (ad 72), .ref (ad 73), .ref (ad 74), .ref (ad 75), .int 0, .int 0, .int 0, .int 0]))] s.heap.size = A at hD ⊢
  have hA : ∀ q : Nat, s.heap.size ≤ q → A q := fun q h => by rw [← hAe]; exact Or.inr h
  have hw : Wd dC dI A s.heap s.heap [] [(av0, .inr (11, [.ref (ad 0), .ref (ad 1), .ref (ad 2), .ref (ad 3), .ref (ad 4), .ref (ad 5), .ref (ad 6), .ref (ad 7), .ref (ad 8), .ref (ad 9), .ref (ad 10), .ref (ad 11), .int 0])), ((ad 4), .inr (5, [.ref (ad 27), .ref (ad 28), .ref (ad 29), .ref (ad 30), .ref (ad 31), .ref (ad 32), .ref (ad 33), .ref (ad 34), .int 0, .int 0, .int 0, .int 0, .int 0, .int 0])), ((ad 27), .inr (7, [.ref (ad 68), .ref (ad 69), .ref (ad 70), .ref (ad 71), .ref (ad 72), .ref (ad 73), .ref (ad 74), .ref (ad 75), .int 0, .int 0, .int 0, .int 0]))] := ⟨hP, hD, va_S.rf⟩
  have hl := lv_entry ([.ref av0, .int p0, .int p1]) (n := 3) (Nat.le_of_ble_eq_true rfl)
  rw [lg_entry_eq]
  generalize (lg_sl ([.ref av0, .int p0, .int p1]) ++ List.replicate (3 - (lg_sl ([.ref av0, .int p0, .int p1])).length) Slot.unset).toArray = ls at hl ⊢
  have hl : lv_has ls 3 [(0, .ref av0), (1, .int p0), (2, .int p1)] := hl
  have hinX11 : ∀ w ∈ u_ws RX11 TX11 13, w ∈ wsX11_sight := fun _ h => List.mem_cons_of_mem _ (List.mem_append_left _ (List.mem_append_left _ (List.mem_append_right _ (h))))
  have hinX5 : ∀ w ∈ u_ws RX5 TX5 14, w ∈ wsX11_sight := fun _ h => List.mem_cons_of_mem _ (List.mem_append_left _ (List.mem_append_right _ (h)))
  refine lv_iload_n hx hb dX11_sight_0 rfl (lv_at hl 1 rfl) ?_
  refine lv_iconst (v := (-1)) hx hb dX11_sight_1 (by decide) ?_
  refine lv_icmp_ne (tgt := 15) hx hb dX11_sight_2 (by decide) (fun _ => ?_) (fun c => absurd (show p0.toInt = (-1 : Int) from wk_eq.mp c) (by omega))
  refine lv_aload_n hx hb dX11_sight_15 rfl (lv_at hl 0 rfl) ?_
  refine wk_get hC hK hw hinX11 0 rfl rfl 4 (by decide) (List.mem_of_getElem? (i := 1) rfl) rfl rfl dX11_sight_16 ?_
  refine wk_get hC hK hw hinX5 1 rfl rfl 0 (by decide) (List.mem_of_getElem? (i := 3) rfl) rfl rfl dX11_sight_19 ?_
  refine lv_iload_n hx hb dX11_sight_22 rfl (lv_at hl 1 rfl) ?_
  refine wk_Vi hC hK hw hA [2] [0, 1] rfl rfl rfl rfl (by decide) (c_X7_hasStreet_1 l dC dI cy (ad 27) p0 (ad 68) (ad 69) (ad 70) (ad 71) (ad 72) (ad 73) (ad 74) (ad 75) s.heap.size ) (cwV 1 hC.2.2.2.2 gX11_sight_X7_hasStreet rfl rfl rfl (by decide +kernel) ⟨Nat.le_of_ble_eq_true rfl, Nat.le_of_ble_eq_true rfl⟩) rfl 0 rfl rfl hl.1 rfl (Nat.le_of_ble_eq_true rfl) dX11_sight_23 0 0 ⟨rfl, rfl⟩ ⟨Nat.le_of_ble_eq_true rfl, Nat.le_of_ble_eq_true rfl⟩ (fun r2 u1 H locs hp3 hw => ?_)
  have hw : Wd dC dI A s.heap H locs [(av0, .inr (11, [.ref (ad 0), .ref (ad 1), .ref (ad 2), .ref (ad 3), .ref (ad 4), .ref (ad 5), .ref (ad 6), .ref (ad 7), .ref (ad 8), .ref (ad 9), .ref (ad 10), .ref (ad 11), .int 0])), ((ad 4), .inr (5, [.ref (ad 27), .ref (ad 28), .ref (ad 29), .ref (ad 30), .ref (ad 31), .ref (ad 32), .ref (ad 33), .ref (ad 34), .int 0, .int 0, .int 0, .int 0, .int 0, .int 0])), ((ad 27), .inr (7, [.ref (ad 68), .ref (ad 69), .ref (ad 70), .ref (ad 71), .ref (ad 72), .ref (ad 73), .ref (ad 74), .ref (ad 75), .int 0, .int 0, .int 0, .int 0]))] := hw
  obtain rfl : r2 = 0 := hp3
  refine lv_if_eq (tgt := 48) hx hb dX11_sight_26 (by decide) (fun _ => ?_) (fun c => absurd (by decide) c)
  refine lv_bipush (v := (-2)) hx hb dX11_sight_48 (by decide) ?_
  exact wk_iret (v := (-2)) hC hr hlocks hK ((fun _ => 0), (fun _ _ => 0)) rfl [0, 1, 2] rfl rfl hw dX11_sight_50

set_option maxHeartbeats 4000000 in
set_option maxRecDepth 100000 in
theorem t_X11_weekdays (l : Launch) (dC : Nat → ClassId) (dI : Nat → Nat → Nat) (cy : Nat → ClassId) (av0 : Nat) (ad : Nat → Nat) (p0 : Int32) (sz : Nat)  : Met l yX11_weekdays wsX11_weekdays ({ frames := 1, cells := 0, slots := 0, locals := 20 }) (va_Pc [.ref av0, .int p0] (wpre dC dI cy sz [(av0, .inr (11, [.ref (ad 0), .ref (ad 1), .ref (ad 2), .ref (ad 3), .ref (ad 4), .ref (ad 5), .ref (ad 6), .ref (ad 7), .ref (ad 8), .ref (ad 9), .ref (ad 10), .ref (ad 11), .int 0])), ((ad 4), .inr (5, [.ref (ad 27), .ref (ad 28), .ref (ad 29), .ref (ad 30), .ref (ad 31), .ref (ad 32), .ref (ad 33), .ref (ad 34), .int 0, .int 0, .int 0, .int 0, .int 0, .int 0])), ((ad 27), .inr (7, [.ref (ad 68), .ref (ad 69), .ref (ad 70), .ref (ad 71), .ref (ad 72), .ref (ad 73), .ref (ad 74), .ref (ad 75), .int 0, .int 0, .int 0, .int 0]))])) (va_Qi (fun (r : Int32) (_ : ((Nat → Nat) × (Nat → Nat → Int32))) => r = (-1)) (fun u => wpost dC dI cy (va_A [(av0, .inr (11, [.ref (ad 0), .ref (ad 1), .ref (ad 2), .ref (ad 3), .ref (ad 4), .ref (ad 5), .ref (ad 6), .ref (ad 7), .ref (ad 8), .ref (ad 9), .ref (ad 10), .ref (ad 11), .int 0])), ((ad 4), .inr (5, [.ref (ad 27), .ref (ad 28), .ref (ad 29), .ref (ad 30), .ref (ad 31), .ref (ad 32), .ref (ad 33), .ref (ad 34), .int 0, .int 0, .int 0, .int 0, .int 0, .int 0])), ((ad 27), .inr (7, [.ref (ad 68), .ref (ad 69), .ref (ad 70), .ref (ad 71), .ref (ad 72), .ref (ad 73), .ref (ad 74), .ref (ad 75), .int 0, .int 0, .int 0, .int 0]))] sz) [(av0, .inr (11, [.ref (ad 0), .ref (ad 1), .ref (ad 2), .ref (ad 3), .ref (ad 4), .ref (ad 5), .ref (ad 6), .ref (ad 7), .ref (ad 8), .ref (ad 9), .ref (ad 10), .ref (ad 11), .int 0])), ((ad 4), .inr (5, [.ref (ad 27), .ref (ad 28), .ref (ad 29), .ref (ad 30), .ref (ad 31), .ref (ad 32), .ref (ad 33), .ref (ad 34), .int 0, .int 0, .int 0, .int 0, .int 0, .int 0])), ((ad 27), .inr (7, [.ref (ad 68), .ref (ad 69), .ref (ad 70), .ref (ad 71), .ref (ad 72), .ref (ad 73), .ref (ad 74), .ref (ad 75), .int 0, .int 0, .int 0, .int 0]))]) (va_A [(av0, .inr (11, [.ref (ad 0), .ref (ad 1), .ref (ad 2), .ref (ad 3), .ref (ad 4), .ref (ad 5), .ref (ad 6), .ref (ad 7), .ref (ad 8), .ref (ad 9), .ref (ad 10), .ref (ad 11), .int 0])), ((ad 4), .inr (5, [.ref (ad 27), .ref (ad 28), .ref (ad 29), .ref (ad 30), .ref (ad 31), .ref (ad 32), .ref (ad 33), .ref (ad 34), .int 0, .int 0, .int 0, .int 0, .int 0, .int 0])), ((ad 27), .inr (7, [.ref (ad 68), .ref (ad 69), .ref (ad 70), .ref (ad 71), .ref (ad 72), .ref (ad 73), .ref (ad 74), .ref (ad 75), .int 0, .int 0, .int 0, .int 0]))] sz)) 0 0 (va_A [(av0, .inr (11, [.ref (ad 0), .ref (ad 1), .ref (ad 2), .ref (ad 3), .ref (ad 4), .ref (ad 5), .ref (ad 6), .ref (ad 7), .ref (ad 8), .ref (ad 9), .ref (ad 10), .ref (ad 11), .int 0])), ((ad 4), .inr (5, [.ref (ad 27), .ref (ad 28), .ref (ad 29), .ref (ad 30), .ref (ad 31), .ref (ad 32), .ref (ad 33), .ref (ad 34), .int 0, .int 0, .int 0, .int 0, .int 0, .int 0])), ((ad 27), .inr (7, [.ref (ad 68), .ref (ad 69), .ref (ad 70), .ref (ad 71), .ref (ad 72), .ref (ad 73), .ref (ad 74), .ref (ad 75), .int 0, .int 0, .int 0, .int 0]))] sz) := by
  refine Met.ofW (cc := cX11_weekdays) (maxL := 3) (ret := (some .int)) (by decide) rfl ?_
  intro p e s m args below meth c s₁ B hml hv
  obtain ⟨rfl, hsz, hP, hK, hD0⟩ := hv
  have hx := B.exec
  have hb := B.bytes
  have hr := B.returns
  have hlocks := B.notSynchronized
  have hC : CallFix p m c cX11_weekdays 3 s _ wsX11_weekdays RX11 := ⟨hx, hb, hml, findClass_of_methodNamed B.named, atoms_spec (ws := wsX11_weekdays) B.pre⟩
  subst hsz
  have hD := hD0.self (sz := s.heap.size)
  generalize hAe : va_A [(av0, .inr (11, [.ref (ad 0), .ref (ad 1), .ref (ad 2), .ref (ad 3), .ref (ad 4), .ref (ad 5), .ref (ad 6), .ref (ad 7), .ref (ad 8), .ref (ad 9), .ref (ad 10), .ref (ad 11), .int 0])), ((ad 4), .inr (5, [.ref (ad 27), .ref (ad 28), .ref (ad 29), .ref (ad 30), .ref (ad 31), .ref (ad 32), .ref (ad 33), .ref (ad 34), .int 0, .int 0, .int 0, .int 0, .int 0, .int 0])), ((ad 27), .inr (7, [.ref (ad 68), .ref (ad 69), .ref (ad 70), .ref (ad 71), .ref (ad 72), .ref (ad 73), .ref (ad 74), .ref (ad 75), .int 0, .int 0, .int 0, .int 0]))] s.heap.size = A at hD ⊢
  have hA : ∀ q : Nat, s.heap.size ≤ q → A q := fun q h => by rw [← hAe]; exact Or.inr h
  have hw : Wd dC dI A s.heap s.heap [] [(av0, .inr (11, [.ref (ad 0), .ref (ad 1), .ref (ad 2), .ref (ad 3), .ref (ad 4), .ref (ad 5), .ref (ad 6), .ref (ad 7), .ref (ad 8), .ref (ad 9), .ref (ad 10), .ref (ad 11), .int 0])), ((ad 4), .inr (5, [.ref (ad 27), .ref (ad 28), .ref (ad 29), .ref (ad 30), .ref (ad 31), .ref (ad 32), .ref (ad 33), .ref (ad 34), .int 0, .int 0, .int 0, .int 0, .int 0, .int 0])), ((ad 27), .inr (7, [.ref (ad 68), .ref (ad 69), .ref (ad 70), .ref (ad 71), .ref (ad 72), .ref (ad 73), .ref (ad 74), .ref (ad 75), .int 0, .int 0, .int 0, .int 0]))] := ⟨hP, hD, va_S.rf⟩
  have hl := lv_entry ([.ref av0, .int p0]) (n := 3) (Nat.le_of_ble_eq_true rfl)
  rw [lg_entry_eq]
  generalize (lg_sl ([.ref av0, .int p0]) ++ List.replicate (3 - (lg_sl ([.ref av0, .int p0])).length) Slot.unset).toArray = ls at hl ⊢
  have hl : lv_has ls 3 [(0, .ref av0), (1, .int p0)] := hl
  have hinX11 : ∀ w ∈ u_ws RX11 TX11 13, w ∈ wsX11_weekdays := fun _ h => List.mem_cons_of_mem _ (List.mem_append_left _ (List.mem_append_left _ (List.mem_append_right _ (h))))
  refine lv_aload_n hx hb dX11_weekdays_0 rfl (lv_at hl 0 rfl) ?_
  refine wk_get hC hK hw hinX11 0 rfl rfl 4 (by decide) (List.mem_of_getElem? (i := 1) rfl) rfl rfl dX11_weekdays_1 ?_
  refine wk_Vi hC hK hw hA [1, 2] [0] rfl rfl rfl rfl (by decide) (c_X5_hasTown_1 l dC dI cy (ad 4) (ad 27) (ad 28) (ad 29) (ad 30) (ad 31) (ad 32) (ad 33) (ad 34) (ad 68) (ad 69) (ad 70) (ad 71) (ad 72) (ad 73) (ad 74) (ad 75) s.heap.size ) (cwV 0 hC.2.2.2.2 gX11_weekdays_X5_hasTown rfl rfl rfl (by decide +kernel) ⟨Nat.le_of_ble_eq_true rfl, Nat.le_of_ble_eq_true rfl⟩) rfl 0 rfl rfl hl.1 rfl (Nat.le_of_ble_eq_true rfl) dX11_weekdays_4 0 0 ⟨rfl, rfl⟩ ⟨Nat.le_of_ble_eq_true rfl, Nat.le_of_ble_eq_true rfl⟩ (fun r2 u1 H locs hp3 hw => ?_)
  have hw : Wd dC dI A s.heap H locs [(av0, .inr (11, [.ref (ad 0), .ref (ad 1), .ref (ad 2), .ref (ad 3), .ref (ad 4), .ref (ad 5), .ref (ad 6), .ref (ad 7), .ref (ad 8), .ref (ad 9), .ref (ad 10), .ref (ad 11), .int 0])), ((ad 4), .inr (5, [.ref (ad 27), .ref (ad 28), .ref (ad 29), .ref (ad 30), .ref (ad 31), .ref (ad 32), .ref (ad 33), .ref (ad 34), .int 0, .int 0, .int 0, .int 0, .int 0, .int 0])), ((ad 27), .inr (7, [.ref (ad 68), .ref (ad 69), .ref (ad 70), .ref (ad 71), .ref (ad 72), .ref (ad 73), .ref (ad 74), .ref (ad 75), .int 0, .int 0, .int 0, .int 0]))] := hw
  obtain rfl : r2 = 0 := hp3
  refine lv_if_eq (tgt := 19) hx hb dX11_weekdays_7 (by decide) (fun _ => ?_) (fun c => absurd (by decide) c)
  refine lv_iconst (v := (-1)) hx hb dX11_weekdays_19 (by decide) ?_
  exact wk_iret (v := (-1)) hC hr hlocks hK ((fun _ => 0), (fun _ _ => 0)) rfl [0, 1, 2] rfl rfl hw dX11_weekdays_20
