set_option maxHeartbeats 4000000 in
set_option maxRecDepth 100000 in
theorem c_X12_four_4 (l : Launch) (dC : Nat → ClassId) (dI : Nat → Nat → Nat) (cy : Nat → ClassId) (av0 : Nat) (iv0 : Int32) (av1 : Nat) (av2 : Nat) (av3 : Nat) (av4 : Nat) (av5 : Nat) (av6 : Nat) (av7 : Nat) (av8 : Nat) (av9 : Nat) (av10 : Nat) (av11 : Nat) (av12 : Nat) (av13 : Nat) (av14 : Nat) (av15 : Nat) (av16 : Nat) (av17 : Nat) (av18 : Nat) (av19 : Nat) (av20 : Nat) (av21 : Nat) (av22 : Nat) (gv0 : Nat → Int32) (sz : Nat)  : Met l yX12_four wsX12_four ({ frames := 0, cells := 0, slots := 0, locals := 0 }) (va_Pc [.ref av0, .int iv0] (wpre dC dI cy sz [(av0, .inr (12, [.ref av1, .int 12, .int 0, .ref av2, .ref av3, .ref av4, .ref av5, .int 0, .int 0, .int 0, .int 0, .ref av6, .ref av7, .ref av8, .int 0, .int 0, .int 0, .int 0, .int 0, .int 0, .int 0, .ref av9, .int 0, .ref av10, .int 0, .ref av11, .ref av12, .int 1, .ref av13, .ref av14, .int 0, .int 0, .ref av15, .ref av16, .ref av17, .ref av18, .ref av19, .int 0, .ref av20, .long 0, .ref av21, .ref av22])), (av1, .inl (cy 3, 400, .inl gv0))])) (va_Qv (fun _ : ((Nat → Nat) × (Nat → Nat → Int32)) => True) (fun u => wpost dC dI cy (va_A [(av0, .inr (12, [.ref av1, .int 12, .int 0, .ref av2, .ref av3, .ref av4, .ref av5, .int 0, .int 0, .int 0, .int 0, .ref av6, .ref av7, .ref av8, .int 0, .int 0, .int 0, .int 0, .int 0, .int 0, .int 0, .ref av9, .int 0, .ref av10, .int 0, .ref av11, .ref av12, .int 1, .ref av13, .ref av14, .int 0, .int 0, .ref av15, .ref av16, .ref av17, .ref av18, .ref av19, .int 0, .ref av20, .long 0, .ref av21, .ref av22])), (av1, .inl (cy 3, 400, .inl gv0))] sz) [(av0, .inr (12, [.ref av1, .int 16, .int 0, .ref av2, .ref av3, .ref av4, .ref av5, .int 0, .int 0, .int 0, .int 0, .ref av6, .ref av7, .ref av8, .int 0, .int 0, .int 0, .int 0, .int 0, .int 0, .int 0, .ref av9, .int 0, .ref av10, .int 0, .ref av11, .ref av12, .int 1, .ref av13, .ref av14, .int 0, .int 0, .ref av15, .ref av16, .ref av17, .ref av18, .ref av19, .int 0, .ref av20, .long 0, .ref av21, .ref av22])), (av1, .inl (cy 3, 400, .inl (u.2 0)))]) (va_A [(av0, .inr (12, [.ref av1, .int 12, .int 0, .ref av2, .ref av3, .ref av4, .ref av5, .int 0, .int 0, .int 0, .int 0, .ref av6, .ref av7, .ref av8, .int 0, .int 0, .int 0, .int 0, .int 0, .int 0, .int 0, .ref av9, .int 0, .ref av10, .int 0, .ref av11, .ref av12, .int 1, .ref av13, .ref av14, .int 0, .int 0, .ref av15, .ref av16, .ref av17, .ref av18, .ref av19, .int 0, .ref av20, .long 0, .ref av21, .ref av22])), (av1, .inl (cy 3, 400, .inl gv0))] sz)) 0 0 (va_A [(av0, .inr (12, [.ref av1, .int 12, .int 0, .ref av2, .ref av3, .ref av4, .ref av5, .int 0, .int 0, .int 0, .int 0, .ref av6, .ref av7, .ref av8, .int 0, .int 0, .int 0, .int 0, .int 0, .int 0, .int 0, .ref av9, .int 0, .ref av10, .int 0, .ref av11, .ref av12, .int 1, .ref av13, .ref av14, .int 0, .int 0, .ref av15, .ref av16, .ref av17, .ref av18, .ref av19, .int 0, .ref av20, .long 0, .ref av21, .ref av22])), (av1, .inl (cy 3, 400, .inl gv0))] sz) := by
  refine Met.ofW (cc := cX12_four) (maxL := 3) (ret := none) (by decide) rfl ?_
  intro p e s m args below meth c s₁ B hml hv
  obtain ⟨rfl, hsz, hP, hK, hD0⟩ := hv
  have hx := B.exec
  have hb := B.bytes
  have hr := B.returns
  have hlocks := B.notSynchronized
  have hC : CallFix p m c cX12_four 3 s _ wsX12_four RX12 := ⟨hx, hb, hml, findClass_of_methodNamed B.named, atoms_spec (ws := wsX12_four) B.pre⟩
  subst hsz
  have hD := hD0.self (sz := s.heap.size)
  generalize hAe : va_A [(av0, .inr (12, [.ref av1, .int 12, .int 0, .ref av2, .ref av3, .ref av4, .ref av5, .int 0, .int 0, .int 0, .int 0, .ref av6, .ref av7, .ref av8, .int 0, .int 0, .int 0, .int 0, .int 0, .int 0, .int 0, .ref av9, .int 0, .ref av10, .int 0, .ref av11, .ref av12, .int 1, .ref av13, .ref av14, .int 0, .int 0, .ref av15, .ref av16, .ref av17, .ref av18, .ref av19, .int 0, .ref av20, .long 0, .ref av21, .ref av22])), (av1, .inl (cy 3, 400, .inl gv0))] s.heap.size = A at hD ⊢
  have hA : ∀ q : Nat, s.heap.size ≤ q → A q := fun q h => by rw [← hAe]; exact Or.inr h
  have hw : Wd dC dI A s.heap s.heap [] [(av0, .inr (12, [.ref av1, .int 12, .int 0, .ref av2, .ref av3, .ref av4, .ref av5, .int 0, .int 0, .int 0, .int 0, .ref av6, .ref av7, .ref av8, .int 0, .int 0, .int 0, .int 0, .int 0, .int 0, .int 0, .ref av9, .int 0, .ref av10, .int 0, .ref av11, .ref av12, .int 1, .ref av13, .ref av14, .int 0, .int 0, .ref av15, .ref av16, .ref av17, .ref av18, .ref av19, .int 0, .ref av20, .long 0, .ref av21, .ref av22])), (av1, .inl (cy 3, 400, .inl gv0))] := ⟨hP, hD, va_S.rf⟩
  have hl := lv_entry ([.ref av0, .int iv0]) (n := 3) (Nat.le_of_ble_eq_true rfl)
  rw [lg_entry_eq]
  generalize (lg_sl ([.ref av0, .int iv0]) ++ List.replicate (3 - (lg_sl ([.ref av0, .int iv0])).length) Slot.unset).toArray = ls at hl ⊢
  have hl : lv_has ls 3 [(0, .ref av0), (1, .int iv0)] := hl
  have hinX12 : ∀ w ∈ u_ws RX12 TX12 42, w ∈ wsX12_four := fun _ h => List.mem_cons_of_mem _ (List.mem_append_right _ (h))
  refine lv_bipush (v := 24) hx hb dX12_four_0 (by decide) ?_
  refine lv_istore_n (lv' := [(2, .int 24), (0, .ref av0), (1, .int iv0)]) hx hb dX12_four_2 rfl hl (by decide) rfl (fun ls hl => ?_)
  refine lv_iload_n hx hb dX12_four_3 rfl (lv_at hl 0 rfl) ?_
  refine lv_if_lt (tgt := 36) hx hb dX12_four_4 (by decide) (fun c => absurd c (by decide)) (fun _ => ?_)
  refine lv_aload_n hx hb dX12_four_7 rfl (lv_at hl 1 rfl) ?_
  refine wk_get hC hK hw hinX12 0 rfl rfl 0 (by decide) (List.mem_of_getElem? (i := 1) rfl) rfl rfl dX12_four_8 ?_
  refine lv_aload_n hx hb dX12_four_11 rfl (lv_at hl 1 rfl) ?_
  refine wk_get hC hK hw hinX12 0 rfl rfl 1 (by decide) (List.mem_of_getElem? (i := 2) rfl) rfl rfl dX12_four_12 ?_
  refine lv_iload_n hx hb dX12_four_15 rfl (lv_at hl 2 rfl) ?_
  refine lv_iload_n hx hb dX12_four_16 rfl (lv_at hl 0 rfl) ?_
  refine lv_ishr hx hb dX12_four_17 ?_
  refine lv_topi (fun x1 ex1 => ?_)
  refine lv_i2b hx hb dX12_four_18 ?_
  refine lv_topi (fun x2 ex2 => ?_)
  refine wk_bast hC hK hw 1 rfl (show ¬ ((12 : Int32) < 0 ∨ 400 ≤ (12 : Int32).toNatClampNeg) by decide) dX12_four_19 (fun H locs hw => ?_)
  obtain ⟨f3, hw⟩ : ∃ f3 : Nat → Int32, Wd dC dI A s.heap H locs [(av0, .inr (12, [.ref av1, .int 12, .int 0, .ref av2, .ref av3, .ref av4, .ref av5, .int 0, .int 0, .int 0, .int 0, .ref av6, .ref av7, .ref av8, .int 0, .int 0, .int 0, .int 0, .int 0, .int 0, .int 0, .ref av9, .int 0, .ref av10, .int 0, .ref av11, .ref av12, .int 1, .ref av13, .ref av14, .int 0, .int 0, .ref av15, .ref av16, .ref av17, .ref av18, .ref av19, .int 0, .ref av20, .long 0, .ref av21, .ref av22])), (av1, .inl (cy 3, 400, .inl f3))] := ⟨_, hw⟩
  refine lv_aload_n hx hb dX12_four_20 rfl (lv_at hl 1 rfl) ?_
  refine lv_dup hx hb dX12_four_21 rfl ?_
  refine wk_get hC hK hw hinX12 0 rfl rfl 1 (by decide) (List.mem_of_getElem? (i := 2) rfl) rfl rfl dX12_four_22 ?_
  refine lv_iconst (v := 1) hx hb dX12_four_25 (by decide) ?_
  refine lv_iadd hx hb dX12_four_26 ?_
  refine wk_top 13 (by decide) ?_
  refine wk_put hC hK hw hinX12 tyX12_ok nmX12 0 rfl rfl 1 (by decide) (List.mem_of_getElem? (i := 2) rfl) rfl rfl rfl rfl rfl (Nat.le_of_ble_eq_true rfl) dX12_four_27 (fun H locs hw => ?_)
  have hw : Wd dC dI A s.heap H locs [(av0, .inr (12, [.ref av1, .int 13, .int 0, .ref av2, .ref av3, .ref av4, .ref av5, .int 0, .int 0, .int 0, .int 0, .ref av6, .ref av7, .ref av8, .int 0, .int 0, .int 0, .int 0, .int 0, .int 0, .int 0, .ref av9, .int 0, .ref av10, .int 0, .ref av11, .ref av12, .int 1, .ref av13, .ref av14, .int 0, .int 0, .ref av15, .ref av16, .ref av17, .ref av18, .ref av19, .int 0, .ref av20, .long 0, .ref av21, .ref av22])), (av1, .inl (cy 3, 400, .inl f3))] := hw
  refine lv_iinc (v := 16) (lv' := [(2, .int 16), (0, .ref av0), (1, .int iv0)]) hx hb dX12_four_30 hl (k := 0) rfl (by decide) (by decide) rfl (fun ls hl => ?_)
  refine lv_goto (tgt := 3) hx hb dX12_four_33 (by decide) ?_
  refine lv_iload_n hx hb dX12_four_3 rfl (lv_at hl 0 rfl) ?_
  refine lv_if_lt (tgt := 36) hx hb dX12_four_4 (by decide) (fun c => absurd c (by decide)) (fun _ => ?_)
  refine lv_aload_n hx hb dX12_four_7 rfl (lv_at hl 1 rfl) ?_
  refine wk_get hC hK hw hinX12 0 rfl rfl 0 (by decide) (List.mem_of_getElem? (i := 1) rfl) rfl rfl dX12_four_8 ?_
  refine lv_aload_n hx hb dX12_four_11 rfl (lv_at hl 1 rfl) ?_
  refine wk_get hC hK hw hinX12 0 rfl rfl 1 (by decide) (List.mem_of_getElem? (i := 2) rfl) rfl rfl dX12_four_12 ?_
  refine lv_iload_n hx hb dX12_four_15 rfl (lv_at hl 2 rfl) ?_
  refine lv_iload_n hx hb dX12_four_16 rfl (lv_at hl 0 rfl) ?_
  refine lv_ishr hx hb dX12_four_17 ?_
  refine lv_topi (fun x4 ex4 => ?_)
  refine lv_i2b hx hb dX12_four_18 ?_
  refine lv_topi (fun x5 ex5 => ?_)
  refine wk_bast hC hK hw 1 rfl (show ¬ ((13 : Int32) < 0 ∨ 400 ≤ (13 : Int32).toNatClampNeg) by decide) dX12_four_19 (fun H locs hw => ?_)
  obtain ⟨f6, hw⟩ : ∃ f6 : Nat → Int32, Wd dC dI A s.heap H locs [(av0, .inr (12, [.ref av1, .int 13, .int 0, .ref av2, .ref av3, .ref av4, .ref av5, .int 0, .int 0, .int 0, .int 0, .ref av6, .ref av7, .ref av8, .int 0, .int 0, .int 0, .int 0, .int 0, .int 0, .int 0, .ref av9, .int 0, .ref av10, .int 0, .ref av11, .ref av12, .int 1, .ref av13, .ref av14, .int 0, .int 0, .ref av15, .ref av16, .ref av17, .ref av18, .ref av19, .int 0, .ref av20, .long 0, .ref av21, .ref av22])), (av1, .inl (cy 3, 400, .inl f6))] := ⟨_, hw⟩
  refine lv_aload_n hx hb dX12_four_20 rfl (lv_at hl 1 rfl) ?_
  refine lv_dup hx hb dX12_four_21 rfl ?_
  refine wk_get hC hK hw hinX12 0 rfl rfl 1 (by decide) (List.mem_of_getElem? (i := 2) rfl) rfl rfl dX12_four_22 ?_
  refine lv_iconst (v := 1) hx hb dX12_four_25 (by decide) ?_
  refine lv_iadd hx hb dX12_four_26 ?_
  refine wk_top 14 (by decide) ?_
  refine wk_put hC hK hw hinX12 tyX12_ok nmX12 0 rfl rfl 1 (by decide) (List.mem_of_getElem? (i := 2) rfl) rfl rfl rfl rfl rfl (Nat.le_of_ble_eq_true rfl) dX12_four_27 (fun H locs hw => ?_)
  have hw : Wd dC dI A s.heap H locs [(av0, .inr (12, [.ref av1, .int 14, .int 0, .ref av2, .ref av3, .ref av4, .ref av5, .int 0, .int 0, .int 0, .int 0, .ref av6, .ref av7, .ref av8, .int 0, .int 0, .int 0, .int 0, .int 0, .int 0, .int 0, .ref av9, .int 0, .ref av10, .int 0, .ref av11, .ref av12, .int 1, .ref av13, .ref av14, .int 0, .int 0, .ref av15, .ref av16, .ref av17, .ref av18, .ref av19, .int 0, .ref av20, .long 0, .ref av21, .ref av22])), (av1, .inl (cy 3, 400, .inl f6))] := hw
  refine lv_iinc (v := 8) (lv' := [(2, .int 8), (0, .ref av0), (1, .int iv0)]) hx hb dX12_four_30 hl (k := 0) rfl (by decide) (by decide) rfl (fun ls hl => ?_)
  refine lv_goto (tgt := 3) hx hb dX12_four_33 (by decide) ?_
  refine lv_iload_n hx hb dX12_four_3 rfl (lv_at hl 0 rfl) ?_
  refine lv_if_lt (tgt := 36) hx hb dX12_four_4 (by decide) (fun c => absurd c (by decide)) (fun _ => ?_)
  refine lv_aload_n hx hb dX12_four_7 rfl (lv_at hl 1 rfl) ?_
  refine wk_get hC hK hw hinX12 0 rfl rfl 0 (by decide) (List.mem_of_getElem? (i := 1) rfl) rfl rfl dX12_four_8 ?_
  refine lv_aload_n hx hb dX12_four_11 rfl (lv_at hl 1 rfl) ?_
  refine wk_get hC hK hw hinX12 0 rfl rfl 1 (by decide) (List.mem_of_getElem? (i := 2) rfl) rfl rfl dX12_four_12 ?_
  refine lv_iload_n hx hb dX12_four_15 rfl (lv_at hl 2 rfl) ?_
  refine lv_iload_n hx hb dX12_four_16 rfl (lv_at hl 0 rfl) ?_
  refine lv_ishr hx hb dX12_four_17 ?_
  refine lv_topi (fun x7 ex7 => ?_)
  refine lv_i2b hx hb dX12_four_18 ?_
  refine lv_topi (fun x8 ex8 => ?_)
  refine wk_bast hC hK hw 1 rfl (show ¬ ((14 : Int32) < 0 ∨ 400 ≤ (14 : Int32).toNatClampNeg) by decide) dX12_four_19 (fun H locs hw => ?_)
  obtain ⟨f9, hw⟩ : ∃ f9 : Nat → Int32, Wd dC dI A s.heap H locs [(av0, .inr (12, [.ref av1, .int 14, .int 0, .ref av2, .ref av3, .ref av4, .ref av5, .int 0, .int 0, .int 0, .int 0, .ref av6, .ref av7, .ref av8, .int 0, .int 0, .int 0, .int 0, .int 0, .int 0, .int 0, .ref av9, .int 0, .ref av10, .int 0, .ref av11, .ref av12, .int 1, .ref av13, .ref av14, .int 0, .int 0, .ref av15, .ref av16, .ref av17, .ref av18, .ref av19, .int 0, .ref av20, .long 0, .ref av21, .ref av22])), (av1, .inl (cy 3, 400, .inl f9))] := ⟨_, hw⟩
  refine lv_aload_n hx hb dX12_four_20 rfl (lv_at hl 1 rfl) ?_
  refine lv_dup hx hb dX12_four_21 rfl ?_
  refine wk_get hC hK hw hinX12 0 rfl rfl 1 (by decide) (List.mem_of_getElem? (i := 2) rfl) rfl rfl dX12_four_22 ?_
  refine lv_iconst (v := 1) hx hb dX12_four_25 (by decide) ?_
  refine lv_iadd hx hb dX12_four_26 ?_
  refine wk_top 15 (by decide) ?_
  refine wk_put hC hK hw hinX12 tyX12_ok nmX12 0 rfl rfl 1 (by decide) (List.mem_of_getElem? (i := 2) rfl) rfl rfl rfl rfl rfl (Nat.le_of_ble_eq_true rfl) dX12_four_27 (fun H locs hw => ?_)
  have hw : Wd dC dI A s.heap H locs [(av0, .inr (12, [.ref av1, .int 15, .int 0, .ref av2, .ref av3, .ref av4, .ref av5, .int 0, .int 0, .int 0, .int 0, .ref av6, .ref av7, .ref av8, .int 0, .int 0, .int 0, .int 0, .int 0, .int 0, .int 0, .ref av9, .int 0, .ref av10, .int 0, .ref av11, .ref av12, .int 1, .ref av13, .ref av14, .int 0, .int 0, .ref av15, .ref av16, .ref av17, .ref av18, .ref av19, .int 0, .ref av20, .long 0, .ref av21, .ref av22])), (av1, .inl (cy 3, 400, .inl f9))] := hw
  refine lv_iinc (v := 0) (lv' := [(2, .int 0), (0, .ref av0), (1, .int iv0)]) hx hb dX12_four_30 hl (k := 0) rfl (by decide) (by decide) rfl (fun ls hl => ?_)
  refine lv_goto (tgt := 3) hx hb dX12_four_33 (by decide) ?_
  refine lv_iload_n hx hb dX12_four_3 rfl (lv_at hl 0 rfl) ?_
  refine lv_if_lt (tgt := 36) hx hb dX12_four_4 (by decide) (fun c => absurd c (by decide)) (fun _ => ?_)
  refine lv_aload_n hx hb dX12_four_7 rfl (lv_at hl 1 rfl) ?_
  refine wk_get hC hK hw hinX12 0 rfl rfl 0 (by decide) (List.mem_of_getElem? (i := 1) rfl) rfl rfl dX12_four_8 ?_
  refine lv_aload_n hx hb dX12_four_11 rfl (lv_at hl 1 rfl) ?_
  refine wk_get hC hK hw hinX12 0 rfl rfl 1 (by decide) (List.mem_of_getElem? (i := 2) rfl) rfl rfl dX12_four_12 ?_
  refine lv_iload_n hx hb dX12_four_15 rfl (lv_at hl 2 rfl) ?_
  refine lv_iload_n hx hb dX12_four_16 rfl (lv_at hl 0 rfl) ?_
  refine lv_ishr hx hb dX12_four_17 ?_
  refine lv_topi (fun x10 ex10 => ?_)
  refine lv_i2b hx hb dX12_four_18 ?_
  refine lv_topi (fun x11 ex11 => ?_)
  refine wk_bast hC hK hw 1 rfl (show ¬ ((15 : Int32) < 0 ∨ 400 ≤ (15 : Int32).toNatClampNeg) by decide) dX12_four_19 (fun H locs hw => ?_)
  obtain ⟨f12, hw⟩ : ∃ f12 : Nat → Int32, Wd dC dI A s.heap H locs [(av0, .inr (12, [.ref av1, .int 15, .int 0, .ref av2, .ref av3, .ref av4, .ref av5, .int 0, .int 0, .int 0, .int 0, .ref av6, .ref av7, .ref av8, .int 0, .int 0, .int 0, .int 0, .int 0, .int 0, .int 0, .ref av9, .int 0, .ref av10, .int 0, .ref av11, .ref av12, .int 1, .ref av13, .ref av14, .int 0, .int 0, .ref av15, .ref av16, .ref av17, .ref av18, .ref av19, .int 0, .ref av20, .long 0, .ref av21, .ref av22])), (av1, .inl (cy 3, 400, .inl f12))] := ⟨_, hw⟩
  refine lv_aload_n hx hb dX12_four_20 rfl (lv_at hl 1 rfl) ?_
  refine lv_dup hx hb dX12_four_21 rfl ?_
  refine wk_get hC hK hw hinX12 0 rfl rfl 1 (by decide) (List.mem_of_getElem? (i := 2) rfl) rfl rfl dX12_four_22 ?_
  refine lv_iconst (v := 1) hx hb dX12_four_25 (by decide) ?_
  refine lv_iadd hx hb dX12_four_26 ?_
  refine wk_top 16 (by decide) ?_
  refine wk_put hC hK hw hinX12 tyX12_ok nmX12 0 rfl rfl 1 (by decide) (List.mem_of_getElem? (i := 2) rfl) rfl rfl rfl rfl rfl (Nat.le_of_ble_eq_true rfl) dX12_four_27 (fun H locs hw => ?_)
  have hw : Wd dC dI A s.heap H locs [(av0, .inr (12, [.ref av1, .int 16, .int 0, .ref av2, .ref av3, .ref av4, .ref av5, .int 0, .int 0, .int 0, .int 0, .ref av6, .ref av7, .ref av8, .int 0, .int 0, .int 0, .int 0, .int 0, .int 0, .int 0, .ref av9, .int 0, .ref av10, .int 0, .ref av11, .ref av12, .int 1, .ref av13, .ref av14, .int 0, .int 0, .ref av15, .ref av16, .ref av17, .ref av18, .ref av19, .int 0, .ref av20, .long 0, .ref av21, .ref av22])), (av1, .inl (cy 3, 400, .inl f12))] := hw
  refine lv_iinc (v := (-8)) (lv' := [(2, .int (-8)), (0, .ref av0), (1, .int iv0)]) hx hb dX12_four_30 hl (k := 0) rfl (by decide) (by decide) rfl (fun ls hl => ?_)
  refine lv_goto (tgt := 3) hx hb dX12_four_33 (by decide) ?_
  refine lv_iload_n hx hb dX12_four_3 rfl (lv_at hl 0 rfl) ?_
  refine lv_if_lt (tgt := 36) hx hb dX12_four_4 (by decide) (fun _ => ?_) (fun c => absurd (by decide) c)
  exact wk_vret hC hr hlocks hK ((fun _ => 0), (fun k => ([f12] : List (Nat → Int32)).getD k (fun _ => 0))) trivial [0, 1] rfl rfl hw dX12_four_36

set_option maxHeartbeats 4000000 in
set_option maxRecDepth 100000 in
theorem c_X12_four_5 (l : Launch) (dC : Nat → ClassId) (dI : Nat → Nat → Nat) (cy : Nat → ClassId) (av0 : Nat) (iv0 : Int32) (av1 : Nat) (av2 : Nat) (av3 : Nat) (av4 : Nat) (av5 : Nat) (av6 : Nat) (av7 : Nat) (av8 : Nat) (av9 : Nat) (av10 : Nat) (av11 : Nat) (av12 : Nat) (av13 : Nat) (av14 : Nat) (av15 : Nat) (av16 : Nat) (av17 : Nat) (av18 : Nat) (av19 : Nat) (av20 : Nat) (av21 : Nat) (av22 : Nat) (gv0 : Nat → Int32) (sz : Nat)  : Met l yX12_four wsX12_four ({ frames := 0, cells := 0, slots := 0, locals := 0 }) (va_Pc [.ref av0, .int iv0] (wpre dC dI cy sz [(av0, .inr (12, [.ref av1, .int 16, .int 0, .ref av2, .ref av3, .ref av4, .ref av5, .int 0, .int 0, .int 0, .int 0, .ref av6, .ref av7, .ref av8, .int 0, .int 0, .int 0, .int 0, .int 0, .int 0, .int 0, .ref av9, .int 0, .ref av10, .int 0, .ref av11, .ref av12, .int 1, .ref av13, .ref av14, .int 0, .int 0, .ref av15, .ref av16, .ref av17, .ref av18, .ref av19, .int 0, .ref av20, .long 0, .ref av21, .ref av22])), (av1, .inl (cy 3, 400, .inl gv0))])) (va_Qv (fun _ : ((Nat → Nat) × (Nat → Nat → Int32)) => True) (fun u => wpost dC dI cy (va_A [(av0, .inr (12, [.ref av1, .int 16, .int 0, .ref av2, .ref av3, .ref av4, .ref av5, .int 0, .int 0, .int 0, .int 0, .ref av6, .ref av7, .ref av8, .int 0, .int 0, .int 0, .int 0, .int 0, .int 0, .int 0, .ref av9, .int 0, .ref av10, .int 0, .ref av11, .ref av12, .int 1, .ref av13, .ref av14, .int 0, .int 0, .ref av15, .ref av16, .ref av17, .ref av18, .ref av19, .int 0, .ref av20, .long 0, .ref av21, .ref av22])), (av1, .inl (cy 3, 400, .inl gv0))] sz) [(av0, .inr (12, [.ref av1, .int 20, .int 0, .ref av2, .ref av3, .ref av4, .ref av5, .int 0, .int 0, .int 0, .int 0, .ref av6, .ref av7, .ref av8, .int 0, .int 0, .int 0, .int 0, .int 0, .int 0, .int 0, .ref av9, .int 0, .ref av10, .int 0, .ref av11, .ref av12, .int 1, .ref av13, .ref av14, .int 0, .int 0, .ref av15, .ref av16, .ref av17, .ref av18, .ref av19, .int 0, .ref av20, .long 0, .ref av21, .ref av22])), (av1, .inl (cy 3, 400, .inl (u.2 0)))]) (va_A [(av0, .inr (12, [.ref av1, .int 16, .int 0, .ref av2, .ref av3, .ref av4, .ref av5, .int 0, .int 0, .int 0, .int 0, .ref av6, .ref av7, .ref av8, .int 0, .int 0, .int 0, .int 0, .int 0, .int 0, .int 0, .ref av9, .int 0, .ref av10, .int 0, .ref av11, .ref av12, .int 1, .ref av13, .ref av14, .int 0, .int 0, .ref av15, .ref av16, .ref av17, .ref av18, .ref av19, .int 0, .ref av20, .long 0, .ref av21, .ref av22])), (av1, .inl (cy 3, 400, .inl gv0))] sz)) 0 0 (va_A [(av0, .inr (12, [.ref av1, .int 16, .int 0, .ref av2, .ref av3, .ref av4, .ref av5, .int 0, .int 0, .int 0, .int 0, .ref av6, .ref av7, .ref av8, .int 0, .int 0, .int 0, .int 0, .int 0, .int 0, .int 0, .ref av9, .int 0, .ref av10, .int 0, .ref av11, .ref av12, .int 1, .ref av13, .ref av14, .int 0, .int 0, .ref av15, .ref av16, .ref av17, .ref av18, .ref av19, .int 0, .ref av20, .long 0, .ref av21, .ref av22])), (av1, .inl (cy 3, 400, .inl gv0))] sz) := by
  refine Met.ofW (cc := cX12_four) (maxL := 3) (ret := none) (by decide) rfl ?_
  intro p e s m args below meth c s₁ B hml hv
  obtain ⟨rfl, hsz, hP, hK, hD0⟩ := hv
  have hx := B.exec
  have hb := B.bytes
  have hr := B.returns
  have hlocks := B.notSynchronized
  have hC : CallFix p m c cX12_four 3 s _ wsX12_four RX12 := ⟨hx, hb, hml, findClass_of_methodNamed B.named, atoms_spec (ws := wsX12_four) B.pre⟩
  subst hsz
  have hD := hD0.self (sz := s.heap.size)
  generalize hAe : va_A [(av0, .inr (12, [.ref av1, .int 16, .int 0, .ref av2, .ref av3, .ref av4, .ref av5, .int 0, .int 0, .int 0, .int 0, .ref av6, .ref av7, .ref av8, .int 0, .int 0, .int 0, .int 0, .int 0, .int 0, .int 0, .ref av9, .int 0, .ref av10, .int 0, .ref av11, .ref av12, .int 1, .ref av13, .ref av14, .int 0, .int 0, .ref av15, .ref av16, .ref av17, .ref av18, .ref av19, .int 0, .ref av20, .long 0, .ref av21, .ref av22])), (av1, .inl (cy 3, 400, .inl gv0))] s.heap.size = A at hD ⊢
  have hA : ∀ q : Nat, s.heap.size ≤ q → A q := fun q h => by rw [← hAe]; exact Or.inr h
  have hw : Wd dC dI A s.heap s.heap [] [(av0, .inr (12, [.ref av1, .int 16, .int 0, .ref av2, .ref av3, .ref av4, .ref av5, .int 0, .int 0, .int 0, .int 0, .ref av6, .ref av7, .ref av8, .int 0, .int 0, .int 0, .int 0, .int 0, .int 0, .int 0, .ref av9, .int 0, .ref av10, .int 0, .ref av11, .ref av12, .int 1, .ref av13, .ref av14, .int 0, .int 0, .ref av15, .ref av16, .ref av17, .ref av18, .ref av19, .int 0, .ref av20, .long 0, .ref av21, .ref av22])), (av1, .inl (cy 3, 400, .inl gv0))] := ⟨hP, hD, va_S.rf⟩
  have hl := lv_entry ([.ref av0, .int iv0]) (n := 3) (Nat.le_of_ble_eq_true rfl)
  rw [lg_entry_eq]
  generalize (lg_sl ([.ref av0, .int iv0]) ++ List.replicate (3 - (lg_sl ([.ref av0, .int iv0])).length) Slot.unset).toArray = ls at hl ⊢
  have hl : lv_has ls 3 [(0, .ref av0), (1, .int iv0)] := hl
  have hinX12 : ∀ w ∈ u_ws RX12 TX12 42, w ∈ wsX12_four := fun _ h => List.mem_cons_of_mem _ (List.mem_append_right _ (h))
  refine lv_bipush (v := 24) hx hb dX12_four_0 (by decide) ?_
  refine lv_istore_n (lv' := [(2, .int 24), (0, .ref av0), (1, .int iv0)]) hx hb dX12_four_2 rfl hl (by decide) rfl (fun ls hl => ?_)
  refine lv_iload_n hx hb dX12_four_3 rfl (lv_at hl 0 rfl) ?_
  refine lv_if_lt (tgt := 36) hx hb dX12_four_4 (by decide) (fun c => absurd c (by decide)) (fun _ => ?_)
  refine lv_aload_n hx hb dX12_four_7 rfl (lv_at hl 1 rfl) ?_
  refine wk_get hC hK hw hinX12 0 rfl rfl 0 (by decide) (List.mem_of_getElem? (i := 1) rfl) rfl rfl dX12_four_8 ?_
  refine lv_aload_n hx hb dX12_four_11 rfl (lv_at hl 1 rfl) ?_
  refine wk_get hC hK hw hinX12 0 rfl rfl 1 (by decide) (List.mem_of_getElem? (i := 2) rfl) rfl rfl dX12_four_12 ?_
  refine lv_iload_n hx hb dX12_four_15 rfl (lv_at hl 2 rfl) ?_
  refine lv_iload_n hx hb dX12_four_16 rfl (lv_at hl 0 rfl) ?_
  refine lv_ishr hx hb dX12_four_17 ?_
  refine lv_topi (fun x1 ex1 => ?_)
  refine lv_i2b hx hb dX12_four_18 ?_
  refine lv_topi (fun x2 ex2 => ?_)
  refine wk_bast hC hK hw 1 rfl (show ¬ ((16 : Int32) < 0 ∨ 400 ≤ (16 : Int32).toNatClampNeg) by decide) dX12_four_19 (fun H locs hw => ?_)
  obtain ⟨f3, hw⟩ : ∃ f3 : Nat → Int32, Wd dC dI A s.heap H locs [(av0, .inr (12, [.ref av1, .int 16, .int 0, .ref av2, .ref av3, .ref av4, .ref av5, .int 0, .int 0, .int 0, .int 0, .ref av6, .ref av7, .ref av8, .int 0, .int 0, .int 0, .int 0, .int 0, .int 0, .int 0, .ref av9, .int 0, .ref av10, .int 0, .ref av11, .ref av12, .int 1, .ref av13, .ref av14, .int 0, .int 0, .ref av15, .ref av16, .ref av17, .ref av18, .ref av19, .int 0, .ref av20, .long 0, .ref av21, .ref av22])), (av1, .inl (cy 3, 400, .inl f3))] := ⟨_, hw⟩
  refine lv_aload_n hx hb dX12_four_20 rfl (lv_at hl 1 rfl) ?_
  refine lv_dup hx hb dX12_four_21 rfl ?_
  refine wk_get hC hK hw hinX12 0 rfl rfl 1 (by decide) (List.mem_of_getElem? (i := 2) rfl) rfl rfl dX12_four_22 ?_
  refine lv_iconst (v := 1) hx hb dX12_four_25 (by decide) ?_
  refine lv_iadd hx hb dX12_four_26 ?_
  refine wk_top 17 (by decide) ?_
  refine wk_put hC hK hw hinX12 tyX12_ok nmX12 0 rfl rfl 1 (by decide) (List.mem_of_getElem? (i := 2) rfl) rfl rfl rfl rfl rfl (Nat.le_of_ble_eq_true rfl) dX12_four_27 (fun H locs hw => ?_)
  have hw : Wd dC dI A s.heap H locs [(av0, .inr (12, [.ref av1, .int 17, .int 0, .ref av2, .ref av3, .ref av4, .ref av5, .int 0, .int 0, .int 0, .int 0, .ref av6, .ref av7, .ref av8, .int 0, .int 0, .int 0, .int 0, .int 0, .int 0, .int 0, .ref av9, .int 0, .ref av10, .int 0, .ref av11, .ref av12, .int 1, .ref av13, .ref av14, .int 0, .int 0, .ref av15, .ref av16, .ref av17, .ref av18, .ref av19, .int 0, .ref av20, .long 0, .ref av21, .ref av22])), (av1, .inl (cy 3, 400, .inl f3))] := hw
  refine lv_iinc (v := 16) (lv' := [(2, .int 16), (0, .ref av0), (1, .int iv0)]) hx hb dX12_four_30 hl (k := 0) rfl (by decide) (by decide) rfl (fun ls hl => ?_)
  refine lv_goto (tgt := 3) hx hb dX12_four_33 (by decide) ?_
  refine lv_iload_n hx hb dX12_four_3 rfl (lv_at hl 0 rfl) ?_
  refine lv_if_lt (tgt := 36) hx hb dX12_four_4 (by decide) (fun c => absurd c (by decide)) (fun _ => ?_)
  refine lv_aload_n hx hb dX12_four_7 rfl (lv_at hl 1 rfl) ?_
  refine wk_get hC hK hw hinX12 0 rfl rfl 0 (by decide) (List.mem_of_getElem? (i := 1) rfl) rfl rfl dX12_four_8 ?_
  refine lv_aload_n hx hb dX12_four_11 rfl (lv_at hl 1 rfl) ?_
  refine wk_get hC hK hw hinX12 0 rfl rfl 1 (by decide) (List.mem_of_getElem? (i := 2) rfl) rfl rfl dX12_four_12 ?_
  refine lv_iload_n hx hb dX12_four_15 rfl (lv_at hl 2 rfl) ?_
  refine lv_iload_n hx hb dX12_four_16 rfl (lv_at hl 0 rfl) ?_
  refine lv_ishr hx hb dX12_four_17 ?_
  refine lv_topi (fun x4 ex4 => ?_)
  refine lv_i2b hx hb dX12_four_18 ?_
  refine lv_topi (fun x5 ex5 => ?_)
  refine wk_bast hC hK hw 1 rfl (show ¬ ((17 : Int32) < 0 ∨ 400 ≤ (17 : Int32).toNatClampNeg) by decide) dX12_four_19 (fun H locs hw => ?_)
  obtain ⟨f6, hw⟩ : ∃ f6 : Nat → Int32, Wd dC dI A s.heap H locs [(av0, .inr (12, [.ref av1, .int 17, .int 0, .ref av2, .ref av3, .ref av4, .ref av5, .int 0, .int 0, .int 0, .int 0, .ref av6, .ref av7, .ref av8, .int 0, .int 0, .int 0, .int 0, .int 0, .int 0, .int 0, .ref av9, .int 0, .ref av10, .int 0, .ref av11, .ref av12, .int 1, .ref av13, .ref av14, .int 0, .int 0, .ref av15, .ref av16, .ref av17, .ref av18, .ref av19, .int 0, .ref av20, .long 0, .ref av21, .ref av22])), (av1, .inl (cy 3, 400, .inl f6))] := ⟨_, hw⟩
  refine lv_aload_n hx hb dX12_four_20 rfl (lv_at hl 1 rfl) ?_
  refine lv_dup hx hb dX12_four_21 rfl ?_
  refine wk_get hC hK hw hinX12 0 rfl rfl 1 (by decide) (List.mem_of_getElem? (i := 2) rfl) rfl rfl dX12_four_22 ?_
  refine lv_iconst (v := 1) hx hb dX12_four_25 (by decide) ?_
  refine lv_iadd hx hb dX12_four_26 ?_
  refine wk_top 18 (by decide) ?_
  refine wk_put hC hK hw hinX12 tyX12_ok nmX12 0 rfl rfl 1 (by decide) (List.mem_of_getElem? (i := 2) rfl) rfl rfl rfl rfl rfl (Nat.le_of_ble_eq_true rfl) dX12_four_27 (fun H locs hw => ?_)
  have hw : Wd dC dI A s.heap H locs [(av0, .inr (12, [.ref av1, .int 18, .int 0, .ref av2, .ref av3, .ref av4, .ref av5, .int 0, .int 0, .int 0, .int 0, .ref av6, .ref av7, .ref av8, .int 0, .int 0, .int 0, .int 0, .int 0, .int 0, .int 0, .ref av9, .int 0, .ref av10, .int 0, .ref av11, .ref av12, .int 1, .ref av13, .ref av14, .int 0, .int 0, .ref av15, .ref av16, .ref av17, .ref av18, .ref av19, .int 0, .ref av20, .long 0, .ref av21, .ref av22])), (av1, .inl (cy 3, 400, .inl f6))] := hw
  refine lv_iinc (v := 8) (lv' := [(2, .int 8), (0, .ref av0), (1, .int iv0)]) hx hb dX12_four_30 hl (k := 0) rfl (by decide) (by decide) rfl (fun ls hl => ?_)
  refine lv_goto (tgt := 3) hx hb dX12_four_33 (by decide) ?_
  refine lv_iload_n hx hb dX12_four_3 rfl (lv_at hl 0 rfl) ?_
  refine lv_if_lt (tgt := 36) hx hb dX12_four_4 (by decide) (fun c => absurd c (by decide)) (fun _ => ?_)
  refine lv_aload_n hx hb dX12_four_7 rfl (lv_at hl 1 rfl) ?_
  refine wk_get hC hK hw hinX12 0 rfl rfl 0 (by decide) (List.mem_of_getElem? (i := 1) rfl) rfl rfl dX12_four_8 ?_
  refine lv_aload_n hx hb dX12_four_11 rfl (lv_at hl 1 rfl) ?_
  refine wk_get hC hK hw hinX12 0 rfl rfl 1 (by decide) (List.mem_of_getElem? (i := 2) rfl) rfl rfl dX12_four_12 ?_
  refine lv_iload_n hx hb dX12_four_15 rfl (lv_at hl 2 rfl) ?_
  refine lv_iload_n hx hb dX12_four_16 rfl (lv_at hl 0 rfl) ?_
  refine lv_ishr hx hb dX12_four_17 ?_
  refine lv_topi (fun x7 ex7 => ?_)
  refine lv_i2b hx hb dX12_four_18 ?_
  refine lv_topi (fun x8 ex8 => ?_)
  refine wk_bast hC hK hw 1 rfl (show ¬ ((18 : Int32) < 0 ∨ 400 ≤ (18 : Int32).toNatClampNeg) by decide) dX12_four_19 (fun H locs hw => ?_)
  obtain ⟨f9, hw⟩ : ∃ f9 : Nat → Int32, Wd dC dI A s.heap H locs [(av0, .inr (12, [.ref av1, .int 18, .int 0, .ref av2, .ref av3, .ref av4, .ref av5, .int 0, .int 0, .int 0, .int 0, .ref av6, .ref av7, .ref av8, .int 0, .int 0, .int 0, .int 0, .int 0, .int 0, .int 0, .ref av9, .int 0, .ref av10, .int 0, .ref av11, .ref av12, .int 1, .ref av13, .ref av14, .int 0, .int 0, .ref av15, .ref av16, .ref av17, .ref av18, .ref av19, .int 0, .ref av20, .long 0, .ref av21, .ref av22])), (av1, .inl (cy 3, 400, .inl f9))] := ⟨_, hw⟩
  refine lv_aload_n hx hb dX12_four_20 rfl (lv_at hl 1 rfl) ?_
  refine lv_dup hx hb dX12_four_21 rfl ?_
  refine wk_get hC hK hw hinX12 0 rfl rfl 1 (by decide) (List.mem_of_getElem? (i := 2) rfl) rfl rfl dX12_four_22 ?_
  refine lv_iconst (v := 1) hx hb dX12_four_25 (by decide) ?_
  refine lv_iadd hx hb dX12_four_26 ?_
  refine wk_top 19 (by decide) ?_
  refine wk_put hC hK hw hinX12 tyX12_ok nmX12 0 rfl rfl 1 (by decide) (List.mem_of_getElem? (i := 2) rfl) rfl rfl rfl rfl rfl (Nat.le_of_ble_eq_true rfl) dX12_four_27 (fun H locs hw => ?_)
  have hw : Wd dC dI A s.heap H locs [(av0, .inr (12, [.ref av1, .int 19, .int 0, .ref av2, .ref av3, .ref av4, .ref av5, .int 0, .int 0, .int 0, .int 0, .ref av6, .ref av7, .ref av8, .int 0, .int 0, .int 0, .int 0, .int 0, .int 0, .int 0, .ref av9, .int 0, .ref av10, .int 0, .ref av11, .ref av12, .int 1, .ref av13, .ref av14, .int 0, .int 0, .ref av15, .ref av16, .ref av17, .ref av18, .ref av19, .int 0, .ref av20, .long 0, .ref av21, .ref av22])), (av1, .inl (cy 3, 400, .inl f9))] := hw
  refine lv_iinc (v := 0) (lv' := [(2, .int 0), (0, .ref av0), (1, .int iv0)]) hx hb dX12_four_30 hl (k := 0) rfl (by decide) (by decide) rfl (fun ls hl => ?_)
  refine lv_goto (tgt := 3) hx hb dX12_four_33 (by decide) ?_
  refine lv_iload_n hx hb dX12_four_3 rfl (lv_at hl 0 rfl) ?_
  refine lv_if_lt (tgt := 36) hx hb dX12_four_4 (by decide) (fun c => absurd c (by decide)) (fun _ => ?_)
  refine lv_aload_n hx hb dX12_four_7 rfl (lv_at hl 1 rfl) ?_
  refine wk_get hC hK hw hinX12 0 rfl rfl 0 (by decide) (List.mem_of_getElem? (i := 1) rfl) rfl rfl dX12_four_8 ?_
  refine lv_aload_n hx hb dX12_four_11 rfl (lv_at hl 1 rfl) ?_
  refine wk_get hC hK hw hinX12 0 rfl rfl 1 (by decide) (List.mem_of_getElem? (i := 2) rfl) rfl rfl dX12_four_12 ?_
  refine lv_iload_n hx hb dX12_four_15 rfl (lv_at hl 2 rfl) ?_
  refine lv_iload_n hx hb dX12_four_16 rfl (lv_at hl 0 rfl) ?_
  refine lv_ishr hx hb dX12_four_17 ?_
  refine lv_topi (fun x10 ex10 => ?_)
  refine lv_i2b hx hb dX12_four_18 ?_
  refine lv_topi (fun x11 ex11 => ?_)
  refine wk_bast hC hK hw 1 rfl (show ¬ ((19 : Int32) < 0 ∨ 400 ≤ (19 : Int32).toNatClampNeg) by decide) dX12_four_19 (fun H locs hw => ?_)
  obtain ⟨f12, hw⟩ : ∃ f12 : Nat → Int32, Wd dC dI A s.heap H locs [(av0, .inr (12, [.ref av1, .int 19, .int 0, .ref av2, .ref av3, .ref av4, .ref av5, .int 0, .int 0, .int 0, .int 0, .ref av6, .ref av7, .ref av8, .int 0, .int 0, .int 0, .int 0, .int 0, .int 0, .int 0, .ref av9, .int 0, .ref av10, .int 0, .ref av11, .ref av12, .int 1, .ref av13, .ref av14, .int 0, .int 0, .ref av15, .ref av16, .ref av17, .ref av18, .ref av19, .int 0, .ref av20, .long 0, .ref av21, .ref av22])), (av1, .inl (cy 3, 400, .inl f12))] := ⟨_, hw⟩
  refine lv_aload_n hx hb dX12_four_20 rfl (lv_at hl 1 rfl) ?_
  refine lv_dup hx hb dX12_four_21 rfl ?_
  refine wk_get hC hK hw hinX12 0 rfl rfl 1 (by decide) (List.mem_of_getElem? (i := 2) rfl) rfl rfl dX12_four_22 ?_
  refine lv_iconst (v := 1) hx hb dX12_four_25 (by decide) ?_
  refine lv_iadd hx hb dX12_four_26 ?_
  refine wk_top 20 (by decide) ?_
  refine wk_put hC hK hw hinX12 tyX12_ok nmX12 0 rfl rfl 1 (by decide) (List.mem_of_getElem? (i := 2) rfl) rfl rfl rfl rfl rfl (Nat.le_of_ble_eq_true rfl) dX12_four_27 (fun H locs hw => ?_)
  have hw : Wd dC dI A s.heap H locs [(av0, .inr (12, [.ref av1, .int 20, .int 0, .ref av2, .ref av3, .ref av4, .ref av5, .int 0, .int 0, .int 0, .int 0, .ref av6, .ref av7, .ref av8, .int 0, .int 0, .int 0, .int 0, .int 0, .int 0, .int 0, .ref av9, .int 0, .ref av10, .int 0, .ref av11, .ref av12, .int 1, .ref av13, .ref av14, .int 0, .int 0, .ref av15, .ref av16, .ref av17, .ref av18, .ref av19, .int 0, .ref av20, .long 0, .ref av21, .ref av22])), (av1, .inl (cy 3, 400, .inl f12))] := hw
  refine lv_iinc (v := (-8)) (lv' := [(2, .int (-8)), (0, .ref av0), (1, .int iv0)]) hx hb dX12_four_30 hl (k := 0) rfl (by decide) (by decide) rfl (fun ls hl => ?_)
  refine lv_goto (tgt := 3) hx hb dX12_four_33 (by decide) ?_
  refine lv_iload_n hx hb dX12_four_3 rfl (lv_at hl 0 rfl) ?_
  refine lv_if_lt (tgt := 36) hx hb dX12_four_4 (by decide) (fun _ => ?_) (fun c => absurd (by decide) c)
  exact wk_vret hC hr hlocks hK ((fun _ => 0), (fun k => ([f12] : List (Nat → Int32)).getD k (fun _ => 0))) trivial [0, 1] rfl rfl hw dX12_four_36

set_option maxHeartbeats 4000000 in
set_option maxRecDepth 100000 in
theorem t_X12_feed (l : Launch) (dC : Nat → ClassId) (dI : Nat → Nat → Nat) (cy : Nat → ClassId) (av0 : Nat) (ad : Nat → Nat) (p0 : Int32) (p1 : Int32) (p2 : Int32) (p3 : Int32) (p4 : Int32) (sz : Nat)  : Met l yX12_feed wsX12_feed ({ frames := 1, cells := 0, slots := 0, locals := 22 }) (va_Pc [.ref av0, .int p0, .int p1, .int p2, .int p3, .int p4] (wpre dC dI cy sz [(av0, .inr (12, [.ref (ad 0), .int 0, .int 0, .ref (ad 1), .ref (ad 2), .ref (ad 3), .ref (ad 4), .int 0, .int 0, .int 0, .int 0, .ref (ad 5), .ref (ad 6), .ref (ad 7), .int 0, .int 0, .int 0, .int 0, .int 0, .int 0, .int 0, .ref (ad 8), .int 0, .ref (ad 9), .int 0, .ref (ad 10), .ref (ad 11), .int 1, .ref (ad 12), .ref (ad 13), .int 0, .int 0, .ref (ad 14), .ref (ad 15), .ref (ad 16), .ref (ad 17), .ref (ad 18), .int 0, .ref (ad 19), .long 0, .ref (ad 20), .ref (ad 21)])), ((ad 0), .inl (cy 3, 400, .inl (fun _ => 0)))])) (va_Qi (fun (r : Int32) (_ : ((Nat → Nat) × (Nat → Nat → Int32))) => r = 20) (fun u => wpost dC dI cy (va_A [(av0, .inr (12, [.ref (ad 0), .int 0, .int 0, .ref (ad 1), .ref (ad 2), .ref (ad 3), .ref (ad 4), .int 0, .int 0, .int 0, .int 0, .ref (ad 5), .ref (ad 6), .ref (ad 7), .int 0, .int 0, .int 0, .int 0, .int 0, .int 0, .int 0, .ref (ad 8), .int 0, .ref (ad 9), .int 0, .ref (ad 10), .ref (ad 11), .int 1, .ref (ad 12), .ref (ad 13), .int 0, .int 0, .ref (ad 14), .ref (ad 15), .ref (ad 16), .ref (ad 17), .ref (ad 18), .int 0, .ref (ad 19), .long 0, .ref (ad 20), .ref (ad 21)])), ((ad 0), .inl (cy 3, 400, .inl (fun _ => 0)))] sz) [(av0, .inr (12, [.ref (ad 0), .int 20, .int 0, .ref (ad 1), .ref (ad 2), .ref (ad 3), .ref (ad 4), .int 0, .int 0, .int 0, .int 0, .ref (ad 5), .ref (ad 6), .ref (ad 7), .int 0, .int 0, .int 0, .int 0, .int 0, .int 0, .int 0, .ref (ad 8), .int 0, .ref (ad 9), .int 0, .ref (ad 10), .ref (ad 11), .int 1, .ref (ad 12), .ref (ad 13), .int 0, .int 0, .ref (ad 14), .ref (ad 15), .ref (ad 16), .ref (ad 17), .ref (ad 18), .int 0, .ref (ad 19), .long 0, .ref (ad 20), .ref (ad 21)])), ((ad 0), .inl (cy 3, 400, .inl (u.2 0)))]) (va_A [(av0, .inr (12, [.ref (ad 0), .int 0, .int 0, .ref (ad 1), .ref (ad 2), .ref (ad 3), .ref (ad 4), .int 0, .int 0, .int 0, .int 0, .ref (ad 5), .ref (ad 6), .ref (ad 7), .int 0, .int 0, .int 0, .int 0, .int 0, .int 0, .int 0, .ref (ad 8), .int 0, .ref (ad 9), .int 0, .ref (ad 10), .ref (ad 11), .int 1, .ref (ad 12), .ref (ad 13), .int 0, .int 0, .ref (ad 14), .ref (ad 15), .ref (ad 16), .ref (ad 17), .ref (ad 18), .int 0, .ref (ad 19), .long 0, .ref (ad 20), .ref (ad 21)])), ((ad 0), .inl (cy 3, 400, .inl (fun _ => 0)))] sz)) 0 0 (va_A [(av0, .inr (12, [.ref (ad 0), .int 0, .int 0, .ref (ad 1), .ref (ad 2), .ref (ad 3), .ref (ad 4), .int 0, .int 0, .int 0, .int 0, .ref (ad 5), .ref (ad 6), .ref (ad 7), .int 0, .int 0, .int 0, .int 0, .int 0, .int 0, .int 0, .ref (ad 8), .int 0, .ref (ad 9), .int 0, .ref (ad 10), .ref (ad 11), .int 1, .ref (ad 12), .ref (ad 13), .int 0, .int 0, .ref (ad 14), .ref (ad 15), .ref (ad 16), .ref (ad 17), .ref (ad 18), .int 0, .ref (ad 19), .long 0, .ref (ad 20), .ref (ad 21)])), ((ad 0), .inl (cy 3, 400, .inl (fun _ => 0)))] sz) := by
  refine Met.ofW (cc := cX12_feed) (maxL := 6) (ret := (some .int)) (by decide) rfl ?_
  intro p e s m args below meth c s₁ B hml hv
  obtain ⟨rfl, hsz, hP, hK, hD0⟩ := hv
  have hx := B.exec
  have hb := B.bytes
  have hr := B.returns
  have hlocks := B.notSynchronized
  have hC : CallFix p m c cX12_feed 6 s _ wsX12_feed RX12 := ⟨hx, hb, hml, findClass_of_methodNamed B.named, atoms_spec (ws := wsX12_feed) B.pre⟩
  subst hsz
  have hD := hD0.self (sz := s.heap.size)
  generalize hAe : va_A [(av0, .inr (12, [.ref (ad 0), .int 0, .int 0, .ref (ad 1), .ref (ad 2), .ref (ad 3), .ref (ad 4), .int 0, .int 0, .int 0, .int 0, .ref (ad 5), .ref (ad 6), .ref (ad 7), .int 0, .int 0, .int 0, .int 0, .int 0, .int 0, .int 0, .ref (ad 8), .int 0, .ref (ad 9), .int 0, .ref (ad 10), .ref (ad 11), .int 1, .ref (ad 12), .ref (ad 13), .int 0, .int 0, .ref (ad 14), .ref (ad 15), .ref (ad 16), .ref (ad 17), .ref (ad 18), .int 0, .ref (ad 19), .long 0, .ref (ad 20), .ref (ad 21)])), ((ad 0), .inl (cy 3, 400, .inl (fun _ => 0)))] s.heap.size = A at hD ⊢
  have hA : ∀ q : Nat, s.heap.size ≤ q → A q := fun q h => by rw [← hAe]; exact Or.inr h
  have hw : Wd dC dI A s.heap s.heap [] [(av0, .inr (12, [.ref (ad 0), .int 0, .int 0, .ref (ad 1), .ref (ad 2), .ref (ad 3), .ref (ad 4), .int 0, .int 0, .int 0, .int 0, .ref (ad 5), .ref (ad 6), .ref (ad 7), .int 0, .int 0, .int 0, .int 0, .int 0, .int 0, .int 0, .ref (ad 8), .int 0, .ref (ad 9), .int 0, .ref (ad 10), .ref (ad 11), .int 1, .ref (ad 12), .ref (ad 13), .int 0, .int 0, .ref (ad 14), .ref (ad 15), .ref (ad 16), .ref (ad 17), .ref (ad 18), .int 0, .ref (ad 19), .long 0, .ref (ad 20), .ref (ad 21)])), ((ad 0), .inl (cy 3, 400, .inl (fun _ => 0)))] := ⟨hP, hD, va_S.rf⟩
  have hl := lv_entry ([.ref av0, .int p0, .int p1, .int p2, .int p3, .int p4]) (n := 6) (Nat.le_of_ble_eq_true rfl)
  rw [lg_entry_eq]
  generalize (lg_sl ([.ref av0, .int p0, .int p1, .int p2, .int p3, .int p4]) ++ List.replicate (6 - (lg_sl ([.ref av0, .int p0, .int p1, .int p2, .int p3, .int p4])).length) Slot.unset).toArray = ls at hl ⊢
  have hl : lv_has ls 6 [(0, .ref av0), (1, .int p0), (2, .int p1), (3, .int p2), (4, .int p3), (5, .int p4)] := hl
  have hinX12 : ∀ w ∈ u_ws RX12 TX12 42, w ∈ wsX12_feed := fun _ h => List.mem_cons_of_mem _ (List.mem_append_right _ (h))
  refine lv_aload_n hx hb dX12_feed_0 rfl (lv_at hl 0 rfl) ?_
  refine wk_get hC hK hw hinX12 0 rfl rfl 1 (by decide) (List.mem_of_getElem? (i := 1) rfl) rfl rfl dX12_feed_1 ?_
  refine lv_bipush (v := 20) hx hb dX12_feed_4 (by decide) ?_
  refine lv_iadd hx hb dX12_feed_6 ?_
  refine wk_top 20 (by decide) ?_
  refine lv_sipush (v := 400) hx hb dX12_feed_7 (by decide) ?_
  refine lv_icmp_le (tgt := 15) hx hb dX12_feed_10 (by decide) (fun _ => ?_) (fun c => absurd (by decide) c)
  refine lv_aload_n hx hb dX12_feed_15 rfl (lv_at hl 0 rfl) ?_
  refine lv_iload_n hx hb dX12_feed_16 rfl (lv_at hl 1 rfl) ?_
  refine wk_Vv hC hK hw hA [0, 1] [] rfl rfl rfl rfl (by decide) (c_X12_four_1 l dC dI cy av0 p0 (ad 0) (ad 1) (ad 2) (ad 3) (ad 4) (ad 5) (ad 6) (ad 7) (ad 8) (ad 9) (ad 10) (ad 11) (ad 12) (ad 13) (ad 14) (ad 15) (ad 16) (ad 17) (ad 18) (ad 19) (ad 20) (ad 21) s.heap.size ) (cwV 1 hC.2.2.2.2 gX12_feed_X12_four rfl rfl rfl (by decide +kernel) ⟨Nat.le_of_ble_eq_true rfl, Nat.le_of_ble_eq_true rfl⟩) rfl 0 rfl rfl hl.1 rfl (Nat.le_of_ble_eq_true rfl) dX12_feed_17 0 0 ⟨rfl, rfl⟩ ⟨Nat.le_of_ble_eq_true rfl, Nat.le_of_ble_eq_true rfl⟩ (fun u1 H locs p3 hw => ?_)
  have hw : Wd dC dI A s.heap H locs [(av0, .inr (12, [.ref (ad 0), .int 4, .int 0, .ref (ad 1), .ref (ad 2), .ref (ad 3), .ref (ad 4), .int 0, .int 0, .int 0, .int 0, .ref (ad 5), .ref (ad 6), .ref (ad 7), .int 0, .int 0, .int 0, .int 0, .int 0, .int 0, .int 0, .ref (ad 8), .int 0, .ref (ad 9), .int 0, .ref (ad 10), .ref (ad 11), .int 1, .ref (ad 12), .ref (ad 13), .int 0, .int 0, .ref (ad 14), .ref (ad 15), .ref (ad 16), .ref (ad 17), .ref (ad 18), .int 0, .ref (ad 19), .long 0, .ref (ad 20), .ref (ad 21)])), ((ad 0), .inl (cy 3, 400, .inl (u1.2 0)))] := hw
  refine lv_aload_n hx hb dX12_feed_20 rfl (lv_at hl 0 rfl) ?_
  refine lv_iload_n hx hb dX12_feed_21 rfl (lv_at hl 2 rfl) ?_
  refine wk_Vv hC hK hw hA [0, 1] [] rfl rfl rfl rfl (by decide) (c_X12_four_2 l dC dI cy av0 p1 (ad 0) (ad 1) (ad 2) (ad 3) (ad 4) (ad 5) (ad 6) (ad 7) (ad 8) (ad 9) (ad 10) (ad 11) (ad 12) (ad 13) (ad 14) (ad 15) (ad 16) (ad 17) (ad 18) (ad 19) (ad 20) (ad 21) (u1.2 0) H.size ) (cwV 1 hC.2.2.2.2 gX12_feed_X12_four rfl rfl rfl (by decide +kernel) ⟨Nat.le_of_ble_eq_true rfl, Nat.le_of_ble_eq_true rfl⟩) rfl 0 rfl rfl hl.1 rfl (Nat.le_of_ble_eq_true rfl) dX12_feed_22 0 0 ⟨rfl, rfl⟩ ⟨Nat.le_of_ble_eq_true rfl, Nat.le_of_ble_eq_true rfl⟩ (fun u4 H locs p6 hw => ?_)
  have hw : Wd dC dI A s.heap H locs [(av0, .inr (12, [.ref (ad 0), .int 8, .int 0, .ref (ad 1), .ref (ad 2), .ref (ad 3), .ref (ad 4), .int 0, .int 0, .int 0, .int 0, .ref (ad 5), .ref (ad 6), .ref (ad 7), .int 0, .int 0, .int 0, .int 0, .int 0, .int 0, .int 0, .ref (ad 8), .int 0, .ref (ad 9), .int 0, .ref (ad 10), .ref (ad 11), .int 1, .ref (ad 12), .ref (ad 13), .int 0, .int 0, .ref (ad 14), .ref (ad 15), .ref (ad 16), .ref (ad 17), .ref (ad 18), .int 0, .ref (ad 19), .long 0, .ref (ad 20), .ref (ad 21)])), ((ad 0), .inl (cy 3, 400, .inl (u4.2 0)))] := hw
  refine lv_aload_n hx hb dX12_feed_25 rfl (lv_at hl 0 rfl) ?_
  refine lv_iload_n hx hb dX12_feed_26 rfl (lv_at hl 3 rfl) ?_
  refine wk_Vv hC hK hw hA [0, 1] [] rfl rfl rfl rfl (by decide) (c_X12_four_3 l dC dI cy av0 p2 (ad 0) (ad 1) (ad 2) (ad 3) (ad 4) (ad 5) (ad 6) (ad 7) (ad 8) (ad 9) (ad 10) (ad 11) (ad 12) (ad 13) (ad 14) (ad 15) (ad 16) (ad 17) (ad 18) (ad 19) (ad 20) (ad 21) (u4.2 0) H.size ) (cwV 1 hC.2.2.2.2 gX12_feed_X12_four rfl rfl rfl (by decide +kernel) ⟨Nat.le_of_ble_eq_true rfl, Nat.le_of_ble_eq_true rfl⟩) rfl 0 rfl rfl hl.1 rfl (Nat.le_of_ble_eq_true rfl) dX12_feed_27 0 0 ⟨rfl, rfl⟩ ⟨Nat.le_of_ble_eq_true rfl, Nat.le_of_ble_eq_true rfl⟩ (fun u7 H locs p9 hw => ?_)
  have hw : Wd dC dI A s.heap H locs [(av0, .inr (12, [.ref (ad 0), .int 12, .int 0, .ref (ad 1), .ref (ad 2), .ref (ad 3), .ref (ad 4), .int 0, .int 0, .int 0, .int 0, .ref (ad 5), .ref (ad 6), .ref (ad 7), .int 0, .int 0, .int 0, .int 0, .int 0, .int 0, .int 0, .ref (ad 8), .int 0, .ref (ad 9), .int 0, .ref (ad 10), .ref (ad 11), .int 1, .ref (ad 12), .ref (ad 13), .int 0, .int 0, .ref (ad 14), .ref (ad 15), .ref (ad 16), .ref (ad 17), .ref (ad 18), .int 0, .ref (ad 19), .long 0, .ref (ad 20), .ref (ad 21)])), ((ad 0), .inl (cy 3, 400, .inl (u7.2 0)))] := hw
  refine lv_aload_n hx hb dX12_feed_30 rfl (lv_at hl 0 rfl) ?_
  refine lv_iload hx hb dX12_feed_31 (lv_at hl 4 rfl) ?_
  refine wk_Vv hC hK hw hA [0, 1] [] rfl rfl rfl rfl (by decide) (c_X12_four_4 l dC dI cy av0 p3 (ad 0) (ad 1) (ad 2) (ad 3) (ad 4) (ad 5) (ad 6) (ad 7) (ad 8) (ad 9) (ad 10) (ad 11) (ad 12) (ad 13) (ad 14) (ad 15) (ad 16) (ad 17) (ad 18) (ad 19) (ad 20) (ad 21) (u7.2 0) H.size ) (cwV 1 hC.2.2.2.2 gX12_feed_X12_four rfl rfl rfl (by decide +kernel) ⟨Nat.le_of_ble_eq_true rfl, Nat.le_of_ble_eq_true rfl⟩) rfl 0 rfl rfl hl.1 rfl (Nat.le_of_ble_eq_true rfl) dX12_feed_33 0 0 ⟨rfl, rfl⟩ ⟨Nat.le_of_ble_eq_true rfl, Nat.le_of_ble_eq_true rfl⟩ (fun u10 H locs p12 hw => ?_)
  have hw : Wd dC dI A s.heap H locs [(av0, .inr (12, [.ref (ad 0), .int 16, .int 0, .ref (ad 1), .ref (ad 2), .ref (ad 3), .ref (ad 4), .int 0, .int 0, .int 0, .int 0, .ref (ad 5), .ref (ad 6), .ref (ad 7), .int 0, .int 0, .int 0, .int 0, .int 0, .int 0, .int 0, .ref (ad 8), .int 0, .ref (ad 9), .int 0, .ref (ad 10), .ref (ad 11), .int 1, .ref (ad 12), .ref (ad 13), .int 0, .int 0, .ref (ad 14), .ref (ad 15), .ref (ad 16), .ref (ad 17), .ref (ad 18), .int 0, .ref (ad 19), .long 0, .ref (ad 20), .ref (ad 21)])), ((ad 0), .inl (cy 3, 400, .inl (u10.2 0)))] := hw
  refine lv_aload_n hx hb dX12_feed_36 rfl (lv_at hl 0 rfl) ?_
  refine lv_iload hx hb dX12_feed_37 (lv_at hl 5 rfl) ?_
  refine wk_Vv hC hK hw hA [0, 1] [] rfl rfl rfl rfl (by decide) (c_X12_four_5 l dC dI cy av0 p4 (ad 0) (ad 1) (ad 2) (ad 3) (ad 4) (ad 5) (ad 6) (ad 7) (ad 8) (ad 9) (ad 10) (ad 11) (ad 12) (ad 13) (ad 14) (ad 15) (ad 16) (ad 17) (ad 18) (ad 19) (ad 20) (ad 21) (u10.2 0) H.size ) (cwV 1 hC.2.2.2.2 gX12_feed_X12_four rfl rfl rfl (by decide +kernel) ⟨Nat.le_of_ble_eq_true rfl, Nat.le_of_ble_eq_true rfl⟩) rfl 0 rfl rfl hl.1 rfl (Nat.le_of_ble_eq_true rfl) dX12_feed_39 0 0 ⟨rfl, rfl⟩ ⟨Nat.le_of_ble_eq_true rfl, Nat.le_of_ble_eq_true rfl⟩ (fun u13 H locs p15 hw => ?_)
  have hw : Wd dC dI A s.heap H locs [(av0, .inr (12, [.ref (ad 0), .int 20, .int 0, .ref (ad 1), .ref (ad 2), .ref (ad 3), .ref (ad 4), .int 0, .int 0, .int 0, .int 0, .ref (ad 5), .ref (ad 6), .ref (ad 7), .int 0, .int 0, .int 0, .int 0, .int 0, .int 0, .int 0, .ref (ad 8), .int 0, .ref (ad 9), .int 0, .ref (ad 10), .ref (ad 11), .int 1, .ref (ad 12), .ref (ad 13), .int 0, .int 0, .ref (ad 14), .ref (ad 15), .ref (ad 16), .ref (ad 17), .ref (ad 18), .int 0, .ref (ad 19), .long 0, .ref (ad 20), .ref (ad 21)])), ((ad 0), .inl (cy 3, 400, .inl (u13.2 0)))] := hw
  refine lv_aload_n hx hb dX12_feed_42 rfl (lv_at hl 0 rfl) ?_
  refine wk_get hC hK hw hinX12 0 rfl rfl 1 (by decide) (List.mem_of_getElem? (i := 1) rfl) rfl rfl dX12_feed_43 ?_
  exact wk_iret (v := 20) hC hr hlocks hK ((fun _ => 0), (fun k => ([(u13.2 0)] : List (Nat → Int32)).getD k (fun _ => 0))) rfl [0, 1] rfl rfl hw dX12_feed_46

set_option maxHeartbeats 4000000 in
set_option maxRecDepth 100000 in
theorem t_X12_end_0 (l : Launch) (dC : Nat → ClassId) (dI : Nat → Nat → Nat) (cy : Nat → ClassId) (av0 : Nat) (ad : Nat → Nat) (p0 : Int32) (sz : Nat) (hp : p0.toInt ≤ -1) : Met l yX12_end wsX12_end ({ frames := 0, cells := 0, slots := 0, locals := 0 }) (va_Pc [.ref av0, .int p0] (wpre dC dI cy sz [(av0, .inr (12, [.ref (ad 0), .int 0, .int 0, .ref (ad 1), .ref (ad 2), .ref (ad 3), .ref (ad 4), .int 0, .int 0, .int 0, .int 0, .ref (ad 5), .ref (ad 6), .ref (ad 7), .int 0, .int 0, .int 0, .int 0, .int 0, .int 0, .int 0, .ref (ad 8), .int 0, .ref (ad 9), .int 0, .ref (ad 10), .ref (ad 11), .int 1, .ref (ad 12), .ref (ad 13), .int 0, .int 0, .ref (ad 14), .ref (ad 15), .ref (ad 16), .ref (ad 17), .ref (ad 18), .int 0, .ref (ad 19), .long 0, .ref (ad 20), .ref (ad 21)]))])) (va_Qi (fun (r : Int32) (_ : ((Nat → Nat) × (Nat → Nat → Int32))) => r = (-1)) (fun u => wpost dC dI cy (va_A [(av0, .inr (12, [.ref (ad 0), .int 0, .int 0, .ref (ad 1), .ref (ad 2), .ref (ad 3), .ref (ad 4), .int 0, .int 0, .int 0, .int 0, .ref (ad 5), .ref (ad 6), .ref (ad 7), .int 0, .int 0, .int 0, .int 0, .int 0, .int 0, .int 0, .ref (ad 8), .int 0, .ref (ad 9), .int 0, .ref (ad 10), .ref (ad 11), .int 1, .ref (ad 12), .ref (ad 13), .int 0, .int 0, .ref (ad 14), .ref (ad 15), .ref (ad 16), .ref (ad 17), .ref (ad 18), .int 0, .ref (ad 19), .long 0, .ref (ad 20), .ref (ad 21)]))] sz) [(av0, .inr (12, [.ref (ad 0), .int 0, .int 0, .ref (ad 1), .ref (ad 2), .ref (ad 3), .ref (ad 4), .int 0, .int 0, .int 0, .int 0, .ref (ad 5), .ref (ad 6), .ref (ad 7), .int 0, .int 0, .int 0, .int 0, .int 0, .int 0, .int 0, .ref (ad 8), .int 0, .ref (ad 9), .int 0, .ref (ad 10), .ref (ad 11), .int 1, .ref (ad 12), .ref (ad 13), .int 0, .int 0, .ref (ad 14), .ref (ad 15), .ref (ad 16), .ref (ad 17), .ref (ad 18), .int 0, .ref (ad 19), .long 0, .ref (ad 20), .ref (ad 21)]))]) (va_A [(av0, .inr (12, [.ref (ad 0), .int 0, .int 0, .ref (ad 1), .ref (ad 2), .ref (ad 3), .ref (ad 4), .int 0, .int 0, .int 0, .int 0, .ref (ad 5), .ref (ad 6), .ref (ad 7), .int 0, .int 0, .int 0, .int 0, .int 0, .int 0, .int 0, .ref (ad 8), .int 0, .ref (ad 9), .int 0, .ref (ad 10), .ref (ad 11), .int 1, .ref (ad 12), .ref (ad 13), .int 0, .int 0, .ref (ad 14), .ref (ad 15), .ref (ad 16), .ref (ad 17), .ref (ad 18), .int 0, .ref (ad 19), .long 0, .ref (ad 20), .ref (ad 21)]))] sz)) 0 0 (va_A [(av0, .inr (12, [.ref (ad 0), .int 0, .int 0, .ref (ad 1), .ref (ad 2), .ref (ad 3), .ref (ad 4), .int 0, .int 0, .int 0, .int 0, .ref (ad 5), .ref (ad 6), .ref (ad 7), .int 0, .int 0, .int 0, .int 0, .int 0, .int 0, .int 0, .ref (ad 8), .int 0, .ref (ad 9), .int 0, .ref (ad 10), .ref (ad 11), .int 1, .ref (ad 12), .ref (ad 13), .int 0, .int 0, .ref (ad 14), .ref (ad 15), .ref (ad 16), .ref (ad 17), .ref (ad 18), .int 0, .ref (ad 19), .long 0, .ref (ad 20), .ref (ad 21)]))] sz) := by
  refine Met.ofW (cc := cX12_end) (maxL := 2) (ret := (some .int)) (by decide) rfl ?_
  intro p e s m args below meth c s₁ B hml hv
  obtain ⟨rfl, hsz, hP, hK, hD0⟩ := hv
  have hx := B.exec
  have hb := B.bytes
  have hr := B.returns
  have hlocks := B.notSynchronized
  have hC : CallFix p m c cX12_end 2 s _ wsX12_end RX12 := ⟨hx, hb, hml, findClass_of_methodNamed B.named, atoms_spec (ws := wsX12_end) B.pre⟩
  subst hsz
  have hD := hD0.self (sz := s.heap.size)
  generalize hAe : va_A [(av0, .inr (12, [.ref (ad 0), .int 0, .int 0, .ref (ad 1), .ref (ad 2), .ref (ad 3), .ref (ad 4), .int 0, .int 0, .int 0, .int 0, .ref (ad 5), .ref (ad 6), .ref (ad 7), .int 0, .int 0, .int 0, .int 0, .int 0, .int 0, .int 0, .ref (ad 8), .int 0, .ref (ad 9), .int 0, .ref (ad 10), .ref (ad 11), .int 1, .ref (ad 12), .ref (ad 13), .int 0, .int 0, .ref (ad 14), .ref (ad 15), .ref (ad 16), .ref (ad 17), .ref (ad 18), .int 0, .ref (ad 19), .long 0, .ref (ad 20), .ref (ad 21)]))] s.heap.size = A at hD ⊢
  have hA : ∀ q : Nat, s.heap.size ≤ q → A q := fun q h => by rw [← hAe]; exact Or.inr h
  have hw : Wd dC dI A s.heap s.heap [] [(av0, .inr (12, [.ref (ad 0), .int 0, .int 0, .ref (ad 1), .ref (ad 2), .ref (ad 3), .ref (ad 4), .int 0, .int 0, .int 0, .int 0, .ref (ad 5), .ref (ad 6), .ref (ad 7), .int 0, .int 0, .int 0, .int 0, .int 0, .int 0, .int 0, .ref (ad 8), .int 0, .ref (ad 9), .int 0, .ref (ad 10), .ref (ad 11), .int 1, .ref (ad 12), .ref (ad 13), .int 0, .int 0, .ref (ad 14), .ref (ad 15), .ref (ad 16), .ref (ad 17), .ref (ad 18), .int 0, .ref (ad 19), .long 0, .ref (ad 20), .ref (ad 21)]))] := ⟨hP, hD, va_S.rf⟩
  have hl := lv_entry ([.ref av0, .int p0]) (n := 2) (Nat.le_of_ble_eq_true rfl)
  rw [lg_entry_eq]
  generalize (lg_sl ([.ref av0, .int p0]) ++ List.replicate (2 - (lg_sl ([.ref av0, .int p0])).length) Slot.unset).toArray = ls at hl ⊢
  have hl : lv_has ls 2 [(0, .ref av0), (1, .int p0)] := hl
  refine lv_iload_n hx hb dX12_end_0 rfl (lv_at hl 1 rfl) ?_
  refine lv_if_lt (tgt := 12) hx hb dX12_end_1 (by decide) (fun _ => ?_) (fun c => absurd (wk_lt.mpr (show p0.toInt < 0 by omega)) c)
  refine lv_iconst (v := (-1)) hx hb dX12_end_12 (by decide) ?_
  exact wk_iret (v := (-1)) hC hr hlocks hK ((fun _ => 0), (fun _ _ => 0)) rfl [0] rfl rfl hw dX12_end_13

set_option maxHeartbeats 4000000 in
set_option maxRecDepth 100000 in
theorem t_X12_end_1 (l : Launch) (dC : Nat → ClassId) (dI : Nat → Nat → Nat) (cy : Nat → ClassId) (av0 : Nat) (ad : Nat → Nat) (sz : Nat)  : Met l yX12_end wsX12_end ({ frames := 0, cells := 0, slots := 0, locals := 0 }) (va_Pc [.ref av0, .int 0] (wpre dC dI cy sz [(av0, .inr (12, [.ref (ad 0), .int 0, .int 0, .ref (ad 1), .ref (ad 2), .ref (ad 3), .ref (ad 4), .int 0, .int 0, .int 0, .int 0, .ref (ad 5), .ref (ad 6), .ref (ad 7), .int 0, .int 0, .int 0, .int 0, .int 0, .int 0, .int 0, .ref (ad 8), .int 0, .ref (ad 9), .int 0, .ref (ad 10), .ref (ad 11), .int 1, .ref (ad 12), .ref (ad 13), .int 0, .int 0, .ref (ad 14), .ref (ad 15), .ref (ad 16), .ref (ad 17), .ref (ad 18), .int 0, .ref (ad 19), .long 0, .ref (ad 20), .ref (ad 21)]))])) (va_Qi (fun (r : Int32) (_ : ((Nat → Nat) × (Nat → Nat → Int32))) => r = 0) (fun u => wpost dC dI cy (va_A [(av0, .inr (12, [.ref (ad 0), .int 0, .int 0, .ref (ad 1), .ref (ad 2), .ref (ad 3), .ref (ad 4), .int 0, .int 0, .int 0, .int 0, .ref (ad 5), .ref (ad 6), .ref (ad 7), .int 0, .int 0, .int 0, .int 0, .int 0, .int 0, .int 0, .ref (ad 8), .int 0, .ref (ad 9), .int 0, .ref (ad 10), .ref (ad 11), .int 1, .ref (ad 12), .ref (ad 13), .int 0, .int 0, .ref (ad 14), .ref (ad 15), .ref (ad 16), .ref (ad 17), .ref (ad 18), .int 0, .ref (ad 19), .long 0, .ref (ad 20), .ref (ad 21)]))] sz) [(av0, .inr (12, [.ref (ad 0), .int 0, .int 0, .ref (ad 1), .ref (ad 2), .ref (ad 3), .ref (ad 4), .int 0, .int 0, .int 0, .int 0, .ref (ad 5), .ref (ad 6), .ref (ad 7), .int 0, .int 0, .int 0, .int 0, .int 0, .int 0, .int 0, .ref (ad 8), .int 0, .ref (ad 9), .int 0, .ref (ad 10), .ref (ad 11), .int 1, .ref (ad 12), .ref (ad 13), .int 0, .int 0, .ref (ad 14), .ref (ad 15), .ref (ad 16), .ref (ad 17), .ref (ad 18), .int 0, .ref (ad 19), .long 0, .ref (ad 20), .ref (ad 21)]))]) (va_A [(av0, .inr (12, [.ref (ad 0), .int 0, .int 0, .ref (ad 1), .ref (ad 2), .ref (ad 3), .ref (ad 4), .int 0, .int 0, .int 0, .int 0, .ref (ad 5), .ref (ad 6), .ref (ad 7), .int 0, .int 0, .int 0, .int 0, .int 0, .int 0, .int 0, .ref (ad 8), .int 0, .ref (ad 9), .int 0, .ref (ad 10), .ref (ad 11), .int 1, .ref (ad 12), .ref (ad 13), .int 0, .int 0, .ref (ad 14), .ref (ad 15), .ref (ad 16), .ref (ad 17), .ref (ad 18), .int 0, .ref (ad 19), .long 0, .ref (ad 20), .ref (ad 21)]))] sz)) 0 0 (va_A [(av0, .inr (12, [.ref (ad 0), .int 0, .int 0, .ref (ad 1), .ref (ad 2), .ref (ad 3), .ref (ad 4), .int 0, .int 0, .int 0, .int 0, .ref (ad 5), .ref (ad 6), .ref (ad 7), .int 0, .int 0, .int 0, .int 0, .int 0, .int 0, .int 0, .ref (ad 8), .int 0, .ref (ad 9), .int 0, .ref (ad 10), .ref (ad 11), .int 1, .ref (ad 12), .ref (ad 13), .int 0, .int 0, .ref (ad 14), .ref (ad 15), .ref (ad 16), .ref (ad 17), .ref (ad 18), .int 0, .ref (ad 19), .long 0, .ref (ad 20), .ref (ad 21)]))] sz) := by
  refine Met.ofW (cc := cX12_end) (maxL := 2) (ret := (some .int)) (by decide) rfl ?_
  intro p e s m args below meth c s₁ B hml hv
  obtain ⟨rfl, hsz, hP, hK, hD0⟩ := hv
  have hx := B.exec
  have hb := B.bytes
  have hr := B.returns
  have hlocks := B.notSynchronized
  have hC : CallFix p m c cX12_end 2 s _ wsX12_end RX12 := ⟨hx, hb, hml, findClass_of_methodNamed B.named, atoms_spec (ws := wsX12_end) B.pre⟩
  subst hsz
  have hD := hD0.self (sz := s.heap.size)
  generalize hAe : va_A [(av0, .inr (12, [.ref (ad 0), .int 0, .int 0, .ref (ad 1), .ref (ad 2), .ref (ad 3), .ref (ad 4), .int 0, .int 0, .int 0, .int 0, .ref (ad 5), .ref (ad 6), .ref (ad 7), .int 0, .int 0, .int 0, .int 0, .int 0, .int 0, .int 0, .ref (ad 8), .int 0, .ref (ad 9), .int 0, .ref (ad 10), .ref (ad 11), .int 1, .ref (ad 12), .ref (ad 13), .int 0, .int 0, .ref (ad 14), .ref (ad 15), .ref (ad 16), .ref (ad 17), .ref (ad 18), .int 0, .ref (ad 19), .long 0, .ref (ad 20), .ref (ad 21)]))] s.heap.size = A at hD ⊢
  have hA : ∀ q : Nat, s.heap.size ≤ q → A q := fun q h => by rw [← hAe]; exact Or.inr h
  have hw : Wd dC dI A s.heap s.heap [] [(av0, .inr (12, [.ref (ad 0), .int 0, .int 0, .ref (ad 1), .ref (ad 2), .ref (ad 3), .ref (ad 4), .int 0, .int 0, .int 0, .int 0, .ref (ad 5), .ref (ad 6), .ref (ad 7), .int 0, .int 0, .int 0, .int 0, .int 0, .int 0, .int 0, .ref (ad 8), .int 0, .ref (ad 9), .int 0, .ref (ad 10), .ref (ad 11), .int 1, .ref (ad 12), .ref (ad 13), .int 0, .int 0, .ref (ad 14), .ref (ad 15), .ref (ad 16), .ref (ad 17), .ref (ad 18), .int 0, .ref (ad 19), .long 0, .ref (ad 20), .ref (ad 21)]))] := ⟨hP, hD, va_S.rf⟩
  have hl := lv_entry ([.ref av0, .int 0]) (n := 2) (Nat.le_of_ble_eq_true rfl)
  rw [lg_entry_eq]
  generalize (lg_sl ([.ref av0, .int 0]) ++ List.replicate (2 - (lg_sl ([.ref av0, .int 0])).length) Slot.unset).toArray = ls at hl ⊢
  have hl : lv_has ls 2 [(0, .ref av0), (1, .int 0)] := hl
  have hinX12 : ∀ w ∈ u_ws RX12 TX12 42, w ∈ wsX12_end := fun _ h => List.mem_cons_of_mem _ (List.mem_append_right _ (h))
  refine lv_iload_n hx hb dX12_end_0 rfl (lv_at hl 1 rfl) ?_
  refine lv_if_lt (tgt := 12) hx hb dX12_end_1 (by decide) (fun c => absurd c (by decide)) (fun _ => ?_)
  refine lv_iload_n hx hb dX12_end_4 rfl (lv_at hl 1 rfl) ?_
  refine lv_aload_n hx hb dX12_end_5 rfl (lv_at hl 0 rfl) ?_
  refine wk_get hC hK hw hinX12 0 rfl rfl 1 (by decide) (List.mem_of_getElem? (i := 1) rfl) rfl rfl dX12_end_6 ?_
  refine lv_icmp_le (tgt := 14) hx hb dX12_end_9 (by decide) (fun _ => ?_) (fun c => absurd (by decide) c)
  refine lv_aload_n hx hb dX12_end_14 rfl (lv_at hl 0 rfl) ?_
  refine lv_iload_n hx hb dX12_end_15 rfl (lv_at hl 1 rfl) ?_
  refine wk_put hC hK hw hinX12 tyX12_ok nmX12 0 rfl rfl 1 (by decide) (List.mem_of_getElem? (i := 1) rfl) rfl rfl rfl rfl rfl (Nat.le_of_ble_eq_true rfl) dX12_end_16 (fun H locs hw => ?_)
  have hw : Wd dC dI A s.heap H locs [(av0, .inr (12, [.ref (ad 0), .int 0, .int 0, .ref (ad 1), .ref (ad 2), .ref (ad 3), .ref (ad 4), .int 0, .int 0, .int 0, .int 0, .ref (ad 5), .ref (ad 6), .ref (ad 7), .int 0, .int 0, .int 0, .int 0, .int 0, .int 0, .int 0, .ref (ad 8), .int 0, .ref (ad 9), .int 0, .ref (ad 10), .ref (ad 11), .int 1, .ref (ad 12), .ref (ad 13), .int 0, .int 0, .ref (ad 14), .ref (ad 15), .ref (ad 16), .ref (ad 17), .ref (ad 18), .int 0, .ref (ad 19), .long 0, .ref (ad 20), .ref (ad 21)]))] := hw
  refine lv_iload_n hx hb dX12_end_19 rfl (lv_at hl 1 rfl) ?_
  exact wk_iret (v := 0) hC hr hlocks hK ((fun _ => 0), (fun _ _ => 0)) rfl [0] rfl rfl hw dX12_end_20

set_option maxHeartbeats 4000000 in
set_option maxRecDepth 100000 in
theorem t_X12_end_2 (l : Launch) (dC : Nat → ClassId) (dI : Nat → Nat → Nat) (cy : Nat → ClassId) (av0 : Nat) (ad : Nat → Nat) (p0 : Int32) (sz : Nat) (hp : 1 ≤ p0.toInt) : Met l yX12_end wsX12_end ({ frames := 0, cells := 0, slots := 0, locals := 0 }) (va_Pc [.ref av0, .int p0] (wpre dC dI cy sz [(av0, .inr (12, [.ref (ad 0), .int 0, .int 0, .ref (ad 1), .ref (ad 2), .ref (ad 3), .ref (ad 4), .int 0, .int 0, .int 0, .int 0, .ref (ad 5), .ref (ad 6), .ref (ad 7), .int 0, .int 0, .int 0, .int 0, .int 0, .int 0, .int 0, .ref (ad 8), .int 0, .ref (ad 9), .int 0, .ref (ad 10), .ref (ad 11), .int 1, .ref (ad 12), .ref (ad 13), .int 0, .int 0, .ref (ad 14), .ref (ad 15), .ref (ad 16), .ref (ad 17), .ref (ad 18), .int 0, .ref (ad 19), .long 0, .ref (ad 20), .ref (ad 21)]))])) (va_Qi (fun (r : Int32) (_ : ((Nat → Nat) × (Nat → Nat → Int32))) => r = (-1)) (fun u => wpost dC dI cy (va_A [(av0, .inr (12, [.ref (ad 0), .int 0, .int 0, .ref (ad 1), .ref (ad 2), .ref (ad 3), .ref (ad 4), .int 0, .int 0, .int 0, .int 0, .ref (ad 5), .ref (ad 6), .ref (ad 7), .int 0, .int 0, .int 0, .int 0, .int 0, .int 0, .int 0, .ref (ad 8), .int 0, .ref (ad 9), .int 0, .ref (ad 10), .ref (ad 11), .int 1, .ref (ad 12), .ref (ad 13), .int 0, .int 0, .ref (ad 14), .ref (ad 15), .ref (ad 16), .ref (ad 17), .ref (ad 18), .int 0, .ref (ad 19), .long 0, .ref (ad 20), .ref (ad 21)]))] sz) [(av0, .inr (12, [.ref (ad 0), .int 0, .int 0, .ref (ad 1), .ref (ad 2), .ref (ad 3), .ref (ad 4), .int 0, .int 0, .int 0, .int 0, .ref (ad 5), .ref (ad 6), .ref (ad 7), .int 0, .int 0, .int 0, .int 0, .int 0, .int 0, .int 0, .ref (ad 8), .int 0, .ref (ad 9), .int 0, .ref (ad 10), .ref (ad 11), .int 1, .ref (ad 12), .ref (ad 13), .int 0, .int 0, .ref (ad 14), .ref (ad 15), .ref (ad 16), .ref (ad 17), .ref (ad 18), .int 0, .ref (ad 19), .long 0, .ref (ad 20), .ref (ad 21)]))]) (va_A [(av0, .inr (12, [.ref (ad 0), .int 0, .int 0, .ref (ad 1), .ref (ad 2), .ref (ad 3), .ref (ad 4), .int 0, .int 0, .int 0, .int 0, .ref (ad 5), .ref (ad 6), .ref (ad 7), .int 0, .int 0, .int 0, .int 0, .int 0, .int 0, .int 0, .ref (ad 8), .int 0, .ref (ad 9), .int 0, .ref (ad 10), .ref (ad 11), .int 1, .ref (ad 12), .ref (ad 13), .int 0, .int 0, .ref (ad 14), .ref (ad 15), .ref (ad 16), .ref (ad 17), .ref (ad 18), .int 0, .ref (ad 19), .long 0, .ref (ad 20), .ref (ad 21)]))] sz)) 0 0 (va_A [(av0, .inr (12, [.ref (ad 0), .int 0, .int 0, .ref (ad 1), .ref (ad 2), .ref (ad 3), .ref (ad 4), .int 0, .int 0, .int 0, .int 0, .ref (ad 5), .ref (ad 6), .ref (ad 7), .int 0, .int 0, .int 0, .int 0, .int 0, .int 0, .int 0, .ref (ad 8), .int 0, .ref (ad 9), .int 0, .ref (ad 10), .ref (ad 11), .int 1, .ref (ad 12), .ref (ad 13), .int 0, .int 0, .ref (ad 14), .ref (ad 15), .ref (ad 16), .ref (ad 17), .ref (ad 18), .int 0, .ref (ad 19), .long 0, .ref (ad 20), .ref (ad 21)]))] sz) := by
  refine Met.ofW (cc := cX12_end) (maxL := 2) (ret := (some .int)) (by decide) rfl ?_
  intro p e s m args below meth c s₁ B hml hv
  obtain ⟨rfl, hsz, hP, hK, hD0⟩ := hv
  have hx := B.exec
  have hb := B.bytes
  have hr := B.returns
  have hlocks := B.notSynchronized
  have hC : CallFix p m c cX12_end 2 s _ wsX12_end RX12 := ⟨hx, hb, hml, findClass_of_methodNamed B.named, atoms_spec (ws := wsX12_end) B.pre⟩
  subst hsz
  have hD := hD0.self (sz := s.heap.size)
  generalize hAe : va_A [(av0, .inr (12, [.ref (ad 0), .int 0, .int 0, .ref (ad 1), .ref (ad 2), .ref (ad 3), .ref (ad 4), .int 0, .int 0, .int 0, .int 0, .ref (ad 5), .ref (ad 6), .ref (ad 7), .int 0, .int 0, .int 0, .int 0, .int 0, .int 0, .int 0, .ref (ad 8), .int 0, .ref (ad 9), .int 0, .ref (ad 10), .ref (ad 11), .int 1, .ref (ad 12), .ref (ad 13), .int 0, .int 0, .ref (ad 14), .ref (ad 15), .ref (ad 16), .ref (ad 17), .ref (ad 18), .int 0, .ref (ad 19), .long 0, .ref (ad 20), .ref (ad 21)]))] s.heap.size = A at hD ⊢
  have hA : ∀ q : Nat, s.heap.size ≤ q → A q := fun q h => by rw [← hAe]; exact Or.inr h
  have hw : Wd dC dI A s.heap s.heap [] [(av0, .inr (12, [.ref (ad 0), .int 0, .int 0, .ref (ad 1), .ref (ad 2), .ref (ad 3), .ref (ad 4), .int 0, .int 0, .int 0, .int 0, .ref (ad 5), .ref (ad 6), .ref (ad 7), .int 0, .int 0, .int 0, .int 0, .int 0, .int 0, .int 0, .ref (ad 8), .int 0, .ref (ad 9), .int 0, .ref (ad 10), .ref (ad 11), .int 1, .ref (ad 12), .ref (ad 13), .int 0, .int 0, .ref (ad 14), .ref (ad 15), .ref (ad 16), .ref (ad 17), .ref (ad 18), .int 0, .ref (ad 19), .long 0, .ref (ad 20), .ref (ad 21)]))] := ⟨hP, hD, va_S.rf⟩
  have hl := lv_entry ([.ref av0, .int p0]) (n := 2) (Nat.le_of_ble_eq_true rfl)
  rw [lg_entry_eq]
  generalize (lg_sl ([.ref av0, .int p0]) ++ List.replicate (2 - (lg_sl ([.ref av0, .int p0])).length) Slot.unset).toArray = ls at hl ⊢
  have hl : lv_has ls 2 [(0, .ref av0), (1, .int p0)] := hl
  have hinX12 : ∀ w ∈ u_ws RX12 TX12 42, w ∈ wsX12_end := fun _ h => List.mem_cons_of_mem _ (List.mem_append_right _ (h))
  refine lv_iload_n hx hb dX12_end_0 rfl (lv_at hl 1 rfl) ?_
  refine lv_if_lt (tgt := 12) hx hb dX12_end_1 (by decide) (fun c => absurd c (fun h => absurd (show p0.toInt < 0 from wk_lt.mp h) (by omega))) (fun _ => ?_)
  refine lv_iload_n hx hb dX12_end_4 rfl (lv_at hl 1 rfl) ?_
  refine lv_aload_n hx hb dX12_end_5 rfl (lv_at hl 0 rfl) ?_
  refine wk_get hC hK hw hinX12 0 rfl rfl 1 (by decide) (List.mem_of_getElem? (i := 1) rfl) rfl rfl dX12_end_6 ?_
  refine lv_icmp_le (tgt := 14) hx hb dX12_end_9 (by decide) (fun c => absurd c (fun h => absurd (show p0.toInt ≤ 0 from wk_le.mp h) (by omega))) (fun _ => ?_)
  refine lv_iconst (v := (-1)) hx hb dX12_end_12 (by decide) ?_
  exact wk_iret (v := (-1)) hC hr hlocks hK ((fun _ => 0), (fun _ _ => 0)) rfl [0] rfl rfl hw dX12_end_13

set_option maxHeartbeats 4000000 in
set_option maxRecDepth 100000 in
theorem c_X12_see_1 (l : Launch) (dC : Nat → ClassId) (dI : Nat → Nat → Nat) (cy : Nat → ClassId) (av0 : Nat) (av1 : Nat) (av2 : Nat) (av3 : Nat) (av4 : Nat) (av5 : Nat) (av6 : Nat) (av7 : Nat) (av8 : Nat) (av9 : Nat) (av10 : Nat) (av11 : Nat) (av12 : Nat) (av13 : Nat) (av14 : Nat) (av15 : Nat) (av16 : Nat) (av17 : Nat) (av18 : Nat) (av19 : Nat) (av20 : Nat) (av21 : Nat) (av22 : Nat) (sz : Nat)  : Met l yX12_see wsX12_see ({ frames := 0, cells := 0, slots := 0, locals := 0 }) (va_Pc [.ref av0] (wpre dC dI cy sz [(av0, .inr (12, [.ref av1, .int 0, .int 0, .ref av2, .ref av3, .ref av4, .ref av5, .int 0, .int 0, .int 0, .int 0, .ref av6, .ref av7, .ref av8, .int 0, .int 0, .int 0, .int 6, .int 0, .int 0, .int 0, .ref av9, .int 0, .ref av10, .int 0, .ref av11, .ref av12, .int 1, .ref av13, .ref av14, .int 0, .int 0, .ref av15, .ref av16, .ref av17, .ref av18, .ref av19, .int 0, .ref av20, .long 0, .ref av21, .ref av22]))])) (va_Qi (fun (r : Int32) (_ : ((Nat → Nat) × (Nat → Nat → Int32))) => r = (-1)) (fun u => wpost dC dI cy (va_A [(av0, .inr (12, [.ref av1, .int 0, .int 0, .ref av2, .ref av3, .ref av4, .ref av5, .int 0, .int 0, .int 0, .int 0, .ref av6, .ref av7, .ref av8, .int 0, .int 0, .int 0, .int 6, .int 0, .int 0, .int 0, .ref av9, .int 0, .ref av10, .int 0, .ref av11, .ref av12, .int 1, .ref av13, .ref av14, .int 0, .int 0, .ref av15, .ref av16, .ref av17, .ref av18, .ref av19, .int 0, .ref av20, .long 0, .ref av21, .ref av22]))] sz) [(av0, .inr (12, [.ref av1, .int 0, .int 0, .ref av2, .ref av3, .ref av4, .ref av5, .int 0, .int 0, .int 0, .int 0, .ref av6, .ref av7, .ref av8, .int 0, .int 0, .int 0, .int 6, .int 0, .int 0, .int 0, .ref av9, .int 0, .ref av10, .int 0, .ref av11, .ref av12, .int 1, .ref av13, .ref av14, .int 0, .int 0, .ref av15, .ref av16, .ref av17, .ref av18, .ref av19, .int 0, .ref av20, .long 0, .ref av21, .ref av22]))]) (va_A [(av0, .inr (12, [.ref av1, .int 0, .int 0, .ref av2, .ref av3, .ref av4, .ref av5, .int 0, .int 0, .int 0, .int 0, .ref av6, .ref av7, .ref av8, .int 0, .int 0, .int 0, .int 6, .int 0, .int 0, .int 0, .ref av9, .int 0, .ref av10, .int 0, .ref av11, .ref av12, .int 1, .ref av13, .ref av14, .int 0, .int 0, .ref av15, .ref av16, .ref av17, .ref av18, .ref av19, .int 0, .ref av20, .long 0, .ref av21, .ref av22]))] sz)) 0 0 (va_A [(av0, .inr (12, [.ref av1, .int 0, .int 0, .ref av2, .ref av3, .ref av4, .ref av5, .int 0, .int 0, .int 0, .int 0, .ref av6, .ref av7, .ref av8, .int 0, .int 0, .int 0, .int 6, .int 0, .int 0, .int 0, .ref av9, .int 0, .ref av10, .int 0, .ref av11, .ref av12, .int 1, .ref av13, .ref av14, .int 0, .int 0, .ref av15, .ref av16, .ref av17, .ref av18, .ref av19, .int 0, .ref av20, .long 0, .ref av21, .ref av22]))] sz) := by
  refine Met.ofW (cc := cX12_see) (maxL := 1) (ret := (some .int)) (by decide) rfl ?_
  intro p e s m args below meth c s₁ B hml hv
  obtain ⟨rfl, hsz, hP, hK, hD0⟩ := hv
  have hx := B.exec
  have hb := B.bytes
  have hr := B.returns
  have hlocks := B.notSynchronized
  have hC : CallFix p m c cX12_see 1 s _ wsX12_see RX12 := ⟨hx, hb, hml, findClass_of_methodNamed B.named, atoms_spec (ws := wsX12_see) B.pre⟩
  subst hsz
  have hD := hD0.self (sz := s.heap.size)
  generalize hAe : va_A [(av0, .inr (12, [.ref av1, .int 0, .int 0, .ref av2, .ref av3, .ref av4, .ref av5, .int 0, .int 0, .int 0, .int 0, .ref av6, .ref av7, .ref av8, .int 0, .int 0, .int 0, .int 6, .int 0, .int 0, .int 0, .ref av9, .int 0, .ref av10, .int 0, .ref av11, .ref av12, .int 1, .ref av13, .ref av14, .int 0, .int 0, .ref av15, .ref av16, .ref av17, .ref av18, .ref av19, .int 0, .ref av20, .long 0, .ref av21, .ref av22]))] s.heap.size = A at hD ⊢
  have hA : ∀ q : Nat, s.heap.size ≤ q → A q := fun q h => by rw [← hAe]; exact Or.inr h
  have hw : Wd dC dI A s.heap s.heap [] [(av0, .inr (12, [.ref av1, .int 0, .int 0, .ref av2, .ref av3, .ref av4, .ref av5, .int 0, .int 0, .int 0, .int 0, .ref av6, .ref av7, .ref av8, .int 0, .int 0, .int 0, .int 6, .int 0, .int 0, .int 0, .ref av9, .int 0, .ref av10, .int 0, .ref av11, .ref av12, .int 1, .ref av13, .ref av14, .int 0, .int 0, .ref av15, .ref av16, .ref av17, .ref av18, .ref av19, .int 0, .ref av20, .long 0, .ref av21, .ref av22]))] := ⟨hP, hD, va_S.rf⟩
  have hl := lv_entry ([.ref av0]) (n := 1) (Nat.le_of_ble_eq_true rfl)
  rw [lg_entry_eq]
  generalize (lg_sl ([.ref av0]) ++ List.replicate (1 - (lg_sl ([.ref av0])).length) Slot.unset).toArray = ls at hl ⊢
  have hl : lv_has ls 1 [(0, .ref av0)] := hl
  have hinX12 : ∀ w ∈ u_ws RX12 TX12 42, w ∈ wsX12_see := fun _ h => List.mem_cons_of_mem _ (List.mem_append_right _ (h))
  refine lv_aload_n hx hb dX12_see_0 rfl (lv_at hl 0 rfl) ?_
  refine wk_get hC hK hw hinX12 0 rfl rfl 14 (by decide) (List.mem_of_getElem? (i := 1) rfl) rfl rfl dX12_see_1 ?_
  refine lv_aload_n hx hb dX12_see_4 rfl (lv_at hl 0 rfl) ?_
  refine wk_get hC hK hw hinX12 0 rfl rfl 1 (by decide) (List.mem_of_getElem? (i := 2) rfl) rfl rfl dX12_see_5 ?_
  refine lv_icmp_ge (tgt := 38) hx hb dX12_see_8 (by decide) (fun _ => ?_) (fun c => absurd (by decide) c)
  refine lv_aload_n hx hb dX12_see_38 rfl (lv_at hl 0 rfl) ?_
  refine wk_get hC hK hw hinX12 0 rfl rfl 14 (by decide) (List.mem_of_getElem? (i := 1) rfl) rfl rfl dX12_see_39 ?_
  refine lv_aload_n hx hb dX12_see_42 rfl (lv_at hl 0 rfl) ?_
  refine wk_get hC hK hw hinX12 0 rfl rfl 1 (by decide) (List.mem_of_getElem? (i := 2) rfl) rfl rfl dX12_see_43 ?_
  refine lv_icmp_ge (tgt := 65) hx hb dX12_see_46 (by decide) (fun _ => ?_) (fun c => absurd (by decide) c)
  refine lv_iconst (v := (-1)) hx hb dX12_see_65 (by decide) ?_
  exact wk_iret (v := (-1)) hC hr hlocks hK ((fun _ => 0), (fun _ _ => 0)) rfl [0] rfl rfl hw dX12_see_66

set_option maxHeartbeats 4000000 in
set_option maxRecDepth 100000 in
theorem c_X12_isLetter_1 (l : Launch) (dC : Nat → ClassId) (dI : Nat → Nat → Nat) (cy : Nat → ClassId) (av0 : Nat) (av1 : Nat) (av2 : Nat) (av3 : Nat) (av4 : Nat) (av5 : Nat) (av6 : Nat) (av7 : Nat) (av8 : Nat) (av9 : Nat) (av10 : Nat) (av11 : Nat) (av12 : Nat) (av13 : Nat) (av14 : Nat) (av15 : Nat) (av16 : Nat) (av17 : Nat) (av18 : Nat) (av19 : Nat) (av20 : Nat) (av21 : Nat) (av22 : Nat) (sz : Nat)  : Met l yX12_isLetter wsX12_isLetter ({ frames := 0, cells := 0, slots := 0, locals := 0 }) (va_Pc [.ref av0, .int 0] (wpre dC dI cy sz [(av0, .inr (12, [.ref av1, .int 0, .int 0, .ref av2, .ref av3, .ref av4, .ref av5, .int 0, .int 0, .int 0, .int 0, .ref av6, .ref av7, .ref av8, .int 0, .int 0, .int 0, .int 6, .int 0, .int 0, .int 0, .ref av9, .int 0, .ref av10, .int 0, .ref av11, .ref av12, .int 1, .ref av13, .ref av14, .int 0, .int 0, .ref av15, .ref av16, .ref av17, .ref av18, .ref av19, .int 0, .ref av20, .long 0, .ref av21, .ref av22]))])) (va_Qi (fun (r : Int32) (_ : ((Nat → Nat) × (Nat → Nat → Int32))) => r = 0) (fun u => wpost dC dI cy (va_A [(av0, .inr (12, [.ref av1, .int 0, .int 0, .ref av2, .ref av3, .ref av4, .ref av5, .int 0, .int 0, .int 0, .int 0, .ref av6, .ref av7, .ref av8, .int 0, .int 0, .int 0, .int 6, .int 0, .int 0, .int 0, .ref av9, .int 0, .ref av10, .int 0, .ref av11, .ref av12, .int 1, .ref av13, .ref av14, .int 0, .int 0, .ref av15, .ref av16, .ref av17, .ref av18, .ref av19, .int 0, .ref av20, .long 0, .ref av21, .ref av22]))] sz) [(av0, .inr (12, [.ref av1, .int 0, .int 0, .ref av2, .ref av3, .ref av4, .ref av5, .int 0, .int 0, .int 0, .int 0, .ref av6, .ref av7, .ref av8, .int 0, .int 0, .int 0, .int 6, .int 0, .int 0, .int 0, .ref av9, .int 0, .ref av10, .int 0, .ref av11, .ref av12, .int 1, .ref av13, .ref av14, .int 0, .int 0, .ref av15, .ref av16, .ref av17, .ref av18, .ref av19, .int 0, .ref av20, .long 0, .ref av21, .ref av22]))]) (va_A [(av0, .inr (12, [.ref av1, .int 0, .int 0, .ref av2, .ref av3, .ref av4, .ref av5, .int 0, .int 0, .int 0, .int 0, .ref av6, .ref av7, .ref av8, .int 0, .int 0, .int 0, .int 6, .int 0, .int 0, .int 0, .ref av9, .int 0, .ref av10, .int 0, .ref av11, .ref av12, .int 1, .ref av13, .ref av14, .int 0, .int 0, .ref av15, .ref av16, .ref av17, .ref av18, .ref av19, .int 0, .ref av20, .long 0, .ref av21, .ref av22]))] sz)) 0 0 (va_A [(av0, .inr (12, [.ref av1, .int 0, .int 0, .ref av2, .ref av3, .ref av4, .ref av5, .int 0, .int 0, .int 0, .int 0, .ref av6, .ref av7, .ref av8, .int 0, .int 0, .int 0, .int 6, .int 0, .int 0, .int 0, .ref av9, .int 0, .ref av10, .int 0, .ref av11, .ref av12, .int 1, .ref av13, .ref av14, .int 0, .int 0, .ref av15, .ref av16, .ref av17, .ref av18, .ref av19, .int 0, .ref av20, .long 0, .ref av21, .ref av22]))] sz) := by
  refine Met.ofW (cc := cX12_isLetter) (maxL := 2) (ret := (some .boolean)) (by decide) rfl ?_
  intro p e s m args below meth c s₁ B hml hv
  obtain ⟨rfl, hsz, hP, hK, hD0⟩ := hv
  have hx := B.exec
  have hb := B.bytes
  have hr := B.returns
  have hlocks := B.notSynchronized
  have hC : CallFix p m c cX12_isLetter 2 s _ wsX12_isLetter RX12 := ⟨hx, hb, hml, findClass_of_methodNamed B.named, atoms_spec (ws := wsX12_isLetter) B.pre⟩
  subst hsz
  have hD := hD0.self (sz := s.heap.size)
  generalize hAe : va_A [(av0, .inr (12, [.ref av1, .int 0, .int 0, .ref av2, .ref av3, .ref av4, .ref av5, .int 0, .int 0, .int 0, .int 0, .ref av6, .ref av7, .ref av8, .int 0, .int 0, .int 0, .int 6, .int 0, .int 0, .int 0, .ref av9, .int 0, .ref av10, .int 0, .ref av11, .ref av12, .int 1, .ref av13, .ref av14, .int 0, .int 0, .ref av15, .ref av16, .ref av17, .ref av18, .ref av19, .int 0, .ref av20, .long 0, .ref av21, .ref av22]))] s.heap.size = A at hD ⊢
  have hA : ∀ q : Nat, s.heap.size ≤ q → A q := fun q h => by rw [← hAe]; exact Or.inr h
  have hw : Wd dC dI A s.heap s.heap [] [(av0, .inr (12, [.ref av1, .int 0, .int 0, .ref av2, .ref av3, .ref av4, .ref av5, .int 0, .int 0, .int 0, .int 0, .ref av6, .ref av7, .ref av8, .int 0, .int 0, .int 0, .int 6, .int 0, .int 0, .int 0, .ref av9, .int 0, .ref av10, .int 0, .ref av11, .ref av12, .int 1, .ref av13, .ref av14, .int 0, .int 0, .ref av15, .ref av16, .ref av17, .ref av18, .ref av19, .int 0, .ref av20, .long 0, .ref av21, .ref av22]))] := ⟨hP, hD, va_S.rf⟩
  have hl := lv_entry ([.ref av0, .int 0]) (n := 2) (Nat.le_of_ble_eq_true rfl)
  rw [lg_entry_eq]
  generalize (lg_sl ([.ref av0, .int 0]) ++ List.replicate (2 - (lg_sl ([.ref av0, .int 0])).length) Slot.unset).toArray = ls at hl ⊢
  have hl : lv_has ls 2 [(0, .ref av0), (1, .int 0)] := hl
  have hinX12 : ∀ w ∈ u_ws RX12 TX12 42, w ∈ wsX12_isLetter := fun _ h => List.mem_cons_of_mem _ (List.mem_append_right _ (h))
  refine lv_iload_n hx hb dX12_isLetter_0 rfl (lv_at hl 1 rfl) ?_
  refine lv_aload_n hx hb dX12_isLetter_1 rfl (lv_at hl 0 rfl) ?_
  refine wk_get hC hK hw hinX12 0 rfl rfl 1 (by decide) (List.mem_of_getElem? (i := 1) rfl) rfl rfl dX12_isLetter_2 ?_
  refine lv_icmp_ge (tgt := 34) hx hb dX12_isLetter_5 (by decide) (fun _ => ?_) (fun c => absurd (by decide) c)
  refine lv_iconst (v := 0) hx hb dX12_isLetter_34 (by decide) ?_
  exact wk_zret (v := 0) hC hr rfl hlocks hK ((fun _ => 0), (fun _ _ => 0)) rfl [0] rfl rfl hw dX12_isLetter_35

set_option maxHeartbeats 4000000 in
set_option maxRecDepth 100000 in
theorem c_X12_isWord_1 (l : Launch) (dC : Nat → ClassId) (dI : Nat → Nat → Nat) (cy : Nat → ClassId) (av0 : Nat) (av1 : Nat) (av2 : Nat) (av3 : Nat) (av4 : Nat) (av5 : Nat) (av6 : Nat) (av7 : Nat) (av8 : Nat) (av9 : Nat) (av10 : Nat) (av11 : Nat) (av12 : Nat) (av13 : Nat) (av14 : Nat) (av15 : Nat) (av16 : Nat) (av17 : Nat) (av18 : Nat) (av19 : Nat) (av20 : Nat) (av21 : Nat) (av22 : Nat) (sz : Nat)  : Met l yX12_isWord wsX12_isWord ({ frames := 1, cells := 0, slots := 0, locals := 21 }) (va_Pc [.ref av0, .long 27988559963452019] (wpre dC dI cy sz [(av0, .inr (12, [.ref av1, .int 0, .int 0, .ref av2, .ref av3, .ref av4, .ref av5, .int 0, .int 0, .int 0, .int 0, .ref av6, .ref av7, .ref av8, .int 0, .int 0, .int 0, .int 6, .int 0, .int 0, .int 0, .ref av9, .int 0, .ref av10, .int 0, .ref av11, .ref av12, .int 1, .ref av13, .ref av14, .int 0, .int 0, .ref av15, .ref av16, .ref av17, .ref av18, .ref av19, .int 0, .ref av20, .long 0, .ref av21, .ref av22]))])) (va_Qi (fun (r : Int32) (_ : ((Nat → Nat) × (Nat → Nat → Int32))) => r = 0) (fun u => wpost dC dI cy (va_A [(av0, .inr (12, [.ref av1, .int 0, .int 0, .ref av2, .ref av3, .ref av4, .ref av5, .int 0, .int 0, .int 0, .int 0, .ref av6, .ref av7, .ref av8, .int 0, .int 0, .int 0, .int 6, .int 0, .int 0, .int 0, .ref av9, .int 0, .ref av10, .int 0, .ref av11, .ref av12, .int 1, .ref av13, .ref av14, .int 0, .int 0, .ref av15, .ref av16, .ref av17, .ref av18, .ref av19, .int 0, .ref av20, .long 0, .ref av21, .ref av22]))] sz) [(av0, .inr (12, [.ref av1, .int 0, .int 0, .ref av2, .ref av3, .ref av4, .ref av5, .int 0, .int 0, .int 0, .int 0, .ref av6, .ref av7, .ref av8, .int 0, .int 0, .int 0, .int 6, .int 0, .int 0, .int 0, .ref av9, .int 0, .ref av10, .int 0, .ref av11, .ref av12, .int 1, .ref av13, .ref av14, .int 0, .int 0, .ref av15, .ref av16, .ref av17, .ref av18, .ref av19, .int 0, .ref av20, .long 0, .ref av21, .ref av22]))]) (va_A [(av0, .inr (12, [.ref av1, .int 0, .int 0, .ref av2, .ref av3, .ref av4, .ref av5, .int 0, .int 0, .int 0, .int 0, .ref av6, .ref av7, .ref av8, .int 0, .int 0, .int 0, .int 6, .int 0, .int 0, .int 0, .ref av9, .int 0, .ref av10, .int 0, .ref av11, .ref av12, .int 1, .ref av13, .ref av14, .int 0, .int 0, .ref av15, .ref av16, .ref av17, .ref av18, .ref av19, .int 0, .ref av20, .long 0, .ref av21, .ref av22]))] sz)) 0 0 (va_A [(av0, .inr (12, [.ref av1, .int 0, .int 0, .ref av2, .ref av3, .ref av4, .ref av5, .int 0, .int 0, .int 0, .int 0, .ref av6, .ref av7, .ref av8, .int 0, .int 0, .int 0, .int 6, .int 0, .int 0, .int 0, .ref av9, .int 0, .ref av10, .int 0, .ref av11, .ref av12, .int 1, .ref av13, .ref av14, .int 0, .int 0, .ref av15, .ref av16, .ref av17, .ref av18, .ref av19, .int 0, .ref av20, .long 0, .ref av21, .ref av22]))] sz) := by
  refine Met.ofW (cc := cX12_isWord) (maxL := 6) (ret := (some .boolean)) (by decide) rfl ?_
  intro p e s m args below meth c s₁ B hml hv
  obtain ⟨rfl, hsz, hP, hK, hD0⟩ := hv
  have hx := B.exec
  have hb := B.bytes
  have hr := B.returns
  have hlocks := B.notSynchronized
  have hC : CallFix p m c cX12_isWord 6 s _ wsX12_isWord RX12 := ⟨hx, hb, hml, findClass_of_methodNamed B.named, atoms_spec (ws := wsX12_isWord) B.pre⟩
  subst hsz
  have hD := hD0.self (sz := s.heap.size)
  generalize hAe : va_A [(av0, .inr (12, [.ref av1, .int 0, .int 0, .ref av2, .ref av3, .ref av4, .ref av5, .int 0, .int 0, .int 0, .int 0, .ref av6, .ref av7, .ref av8, .int 0, .int 0, .int 0, .int 6, .int 0, .int 0, .int 0, .ref av9, .int 0, .ref av10, .int 0, .ref av11, .ref av12, .int 1, .ref av13, .ref av14, .int 0, .int 0, .ref av15, .ref av16, .ref av17, .ref av18, .ref av19, .int 0, .ref av20, .long 0, .ref av21, .ref av22]))] s.heap.size = A at hD ⊢
  have hA : ∀ q : Nat, s.heap.size ≤ q → A q := fun q h => by rw [← hAe]; exact Or.inr h
  have hw : Wd dC dI A s.heap s.heap [] [(av0, .inr (12, [.ref av1, .int 0, .int 0, .ref av2, .ref av3, .ref av4, .ref av5, .int 0, .int 0, .int 0, .int 0, .ref av6, .ref av7, .ref av8, .int 0, .int 0, .int 0, .int 6, .int 0, .int 0, .int 0, .ref av9, .int 0, .ref av10, .int 0, .ref av11, .ref av12, .int 1, .ref av13, .ref av14, .int 0, .int 0, .ref av15, .ref av16, .ref av17, .ref av18, .ref av19, .int 0, .ref av20, .long 0, .ref av21, .ref av22]))] := ⟨hP, hD, va_S.rf⟩
  have hl := lv_entry ([.ref av0, .long 27988559963452019]) (n := 6) (Nat.le_of_ble_eq_true rfl)
  rw [lg_entry_eq]
  generalize (lg_sl ([.ref av0, .long 27988559963452019]) ++ List.replicate (6 - (lg_sl ([.ref av0, .long 27988559963452019])).length) Slot.unset).toArray = ls at hl ⊢
  have hl : lv_has ls 6 [(0, .ref av0), (1, .long 27988559963452019)] := hl
  have hinX12 : ∀ w ∈ u_ws RX12 TX12 42, w ∈ wsX12_isWord := fun _ h => List.mem_cons_of_mem _ (List.mem_append_right _ (h))
  refine lv_aload_n hx hb dX12_isWord_0 rfl (lv_at hl 0 rfl) ?_
  refine wk_Vi hC hK hw hA [0] [] rfl rfl rfl rfl (by decide) (c_X12_see_1 l dC dI cy av0 av1 av2 av3 av4 av5 av6 av7 av8 av9 av10 av11 av12 av13 av14 av15 av16 av17 av18 av19 av20 av21 av22 s.heap.size ) (cwV 0 hC.2.2.2.2 gX12_isWord_X12_see rfl rfl rfl (by decide +kernel) ⟨Nat.le_of_ble_eq_true rfl, Nat.le_of_ble_eq_true rfl⟩) rfl 0 rfl rfl hl.1 rfl (Nat.le_of_ble_eq_true rfl) dX12_isWord_1 0 0 ⟨rfl, rfl⟩ ⟨Nat.le_of_ble_eq_true rfl, Nat.le_of_ble_eq_true rfl⟩ (fun r2 u1 H locs p3 hw => ?_)
  have hw : Wd dC dI A s.heap H locs [(av0, .inr (12, [.ref av1, .int 0, .int 0, .ref av2, .ref av3, .ref av4, .ref av5, .int 0, .int 0, .int 0, .int 0, .ref av6, .ref av7, .ref av8, .int 0, .int 0, .int 0, .int 6, .int 0, .int 0, .int 0, .ref av9, .int 0, .ref av10, .int 0, .ref av11, .ref av12, .int 1, .ref av13, .ref av14, .int 0, .int 0, .ref av15, .ref av16, .ref av17, .ref av18, .ref av19, .int 0, .ref av20, .long 0, .ref av21, .ref av22]))] := hw
  obtain rfl : r2 = (-1) := p3
  refine lv_pop hx hb dX12_isWord_4 rfl ?_
  refine lv_lconst (v := 0) hx hb dX12_isWord_5 (by decide) ?_
  refine lv_lstore_n (lv' := [(3, .long 0), (0, .ref av0), (1, .long 27988559963452019)]) hx hb dX12_isWord_6 rfl hl (by decide) rfl (fun ls hl => ?_)
  refine lv_iconst (v := 0) hx hb dX12_isWord_7 (by decide) ?_
  refine lv_istore (lv' := [(5, .int 0), (3, .long 0), (0, .ref av0), (1, .long 27988559963452019)]) hx hb dX12_isWord_8 hl (by decide) rfl (fun ls hl => ?_)
  refine lv_aload_n hx hb dX12_isWord_10 rfl (lv_at hl 2 rfl) ?_
  refine lv_aload_n hx hb dX12_isWord_11 rfl (lv_at hl 2 rfl) ?_
  refine wk_get hC hK hw hinX12 0 rfl rfl 14 (by decide) (List.mem_of_getElem? (i := 1) rfl) rfl rfl dX12_isWord_12 ?_
  refine lv_iload hx hb dX12_isWord_15 (lv_at hl 0 rfl) ?_
  refine lv_iadd hx hb dX12_isWord_17 ?_
  refine wk_top 0 (by decide) ?_
  refine wk_Vi hC hK hw hA [0] [] rfl rfl rfl rfl (by decide) (c_X12_isLetter_1 l dC dI cy av0 av1 av2 av3 av4 av5 av6 av7 av8 av9 av10 av11 av12 av13 av14 av15 av16 av17 av18 av19 av20 av21 av22 H.size ) (cwV 1 hC.2.2.2.2 gX12_isWord_X12_isLetter rfl rfl rfl (by decide +kernel) ⟨Nat.le_of_ble_eq_true rfl, Nat.le_of_ble_eq_true rfl⟩) rfl 0 rfl rfl hl.1 rfl (Nat.le_of_ble_eq_true rfl) dX12_isWord_18 0 0 ⟨rfl, rfl⟩ ⟨Nat.le_of_ble_eq_true rfl, Nat.le_of_ble_eq_true rfl⟩ (fun r5 u4 H locs p6 hw => ?_)
  have hw : Wd dC dI A s.heap H locs [(av0, .inr (12, [.ref av1, .int 0, .int 0, .ref av2, .ref av3, .ref av4, .ref av5, .int 0, .int 0, .int 0, .int 0, .ref av6, .ref av7, .ref av8, .int 0, .int 0, .int 0, .int 6, .int 0, .int 0, .int 0, .ref av9, .int 0, .ref av10, .int 0, .ref av11, .ref av12, .int 1, .ref av13, .ref av14, .int 0, .int 0, .ref av15, .ref av16, .ref av17, .ref av18, .ref av19, .int 0, .ref av20, .long 0, .ref av21, .ref av22]))] := hw
  obtain rfl : r5 = 0 := p6
  refine lv_if_eq (tgt := 56) hx hb dX12_isWord_21 (by decide) (fun _ => ?_) (fun c => absurd (by decide) c)
  refine lv_iload hx hb dX12_isWord_56 (lv_at hl 0 rfl) ?_
  refine lv_if_le (tgt := 78) hx hb dX12_isWord_58 (by decide) (fun _ => ?_) (fun c => absurd (by decide) c)
  refine lv_iconst (v := 0) hx hb dX12_isWord_78 (by decide) ?_
  exact wk_zret (v := 0) hC hr rfl hlocks hK ((fun _ => 0), (fun _ _ => 0)) rfl [0] rfl rfl hw dX12_isWord_79

set_option maxHeartbeats 4000000 in
set_option maxRecDepth 100000 in
theorem c_X12_isWord_2 (l : Launch) (dC : Nat → ClassId) (dI : Nat → Nat → Nat) (cy : Nat → ClassId) (av0 : Nat) (av1 : Nat) (av2 : Nat) (av3 : Nat) (av4 : Nat) (av5 : Nat) (av6 : Nat) (av7 : Nat) (av8 : Nat) (av9 : Nat) (av10 : Nat) (av11 : Nat) (av12 : Nat) (av13 : Nat) (av14 : Nat) (av15 : Nat) (av16 : Nat) (av17 : Nat) (av18 : Nat) (av19 : Nat) (av20 : Nat) (av21 : Nat) (av22 : Nat) (sz : Nat)  : Met l yX12_isWord wsX12_isWord ({ frames := 1, cells := 0, slots := 0, locals := 21 }) (va_Pc [.ref av0, .long 126943972648308] (wpre dC dI cy sz [(av0, .inr (12, [.ref av1, .int 0, .int 0, .ref av2, .ref av3, .ref av4, .ref av5, .int 0, .int 0, .int 0, .int 0, .ref av6, .ref av7, .ref av8, .int 0, .int 0, .int 0, .int 6, .int 0, .int 0, .int 0, .ref av9, .int 0, .ref av10, .int 0, .ref av11, .ref av12, .int 1, .ref av13, .ref av14, .int 0, .int 0, .ref av15, .ref av16, .ref av17, .ref av18, .ref av19, .int 0, .ref av20, .long 0, .ref av21, .ref av22]))])) (va_Qi (fun (r : Int32) (_ : ((Nat → Nat) × (Nat → Nat → Int32))) => r = 0) (fun u => wpost dC dI cy (va_A [(av0, .inr (12, [.ref av1, .int 0, .int 0, .ref av2, .ref av3, .ref av4, .ref av5, .int 0, .int 0, .int 0, .int 0, .ref av6, .ref av7, .ref av8, .int 0, .int 0, .int 0, .int 6, .int 0, .int 0, .int 0, .ref av9, .int 0, .ref av10, .int 0, .ref av11, .ref av12, .int 1, .ref av13, .ref av14, .int 0, .int 0, .ref av15, .ref av16, .ref av17, .ref av18, .ref av19, .int 0, .ref av20, .long 0, .ref av21, .ref av22]))] sz) [(av0, .inr (12, [.ref av1, .int 0, .int 0, .ref av2, .ref av3, .ref av4, .ref av5, .int 0, .int 0, .int 0, .int 0, .ref av6, .ref av7, .ref av8, .int 0, .int 0, .int 0, .int 6, .int 0, .int 0, .int 0, .ref av9, .int 0, .ref av10, .int 0, .ref av11, .ref av12, .int 1, .ref av13, .ref av14, .int 0, .int 0, .ref av15, .ref av16, .ref av17, .ref av18, .ref av19, .int 0, .ref av20, .long 0, .ref av21, .ref av22]))]) (va_A [(av0, .inr (12, [.ref av1, .int 0, .int 0, .ref av2, .ref av3, .ref av4, .ref av5, .int 0, .int 0, .int 0, .int 0, .ref av6, .ref av7, .ref av8, .int 0, .int 0, .int 0, .int 6, .int 0, .int 0, .int 0, .ref av9, .int 0, .ref av10, .int 0, .ref av11, .ref av12, .int 1, .ref av13, .ref av14, .int 0, .int 0, .ref av15, .ref av16, .ref av17, .ref av18, .ref av19, .int 0, .ref av20, .long 0, .ref av21, .ref av22]))] sz)) 0 0 (va_A [(av0, .inr (12, [.ref av1, .int 0, .int 0, .ref av2, .ref av3, .ref av4, .ref av5, .int 0, .int 0, .int 0, .int 0, .ref av6, .ref av7, .ref av8, .int 0, .int 0, .int 0, .int 6, .int 0, .int 0, .int 0, .ref av9, .int 0, .ref av10, .int 0, .ref av11, .ref av12, .int 1, .ref av13, .ref av14, .int 0, .int 0, .ref av15, .ref av16, .ref av17, .ref av18, .ref av19, .int 0, .ref av20, .long 0, .ref av21, .ref av22]))] sz) := by
  refine Met.ofW (cc := cX12_isWord) (maxL := 6) (ret := (some .boolean)) (by decide) rfl ?_
  intro p e s m args below meth c s₁ B hml hv
  obtain ⟨rfl, hsz, hP, hK, hD0⟩ := hv
  have hx := B.exec
  have hb := B.bytes
  have hr := B.returns
  have hlocks := B.notSynchronized
  have hC : CallFix p m c cX12_isWord 6 s _ wsX12_isWord RX12 := ⟨hx, hb, hml, findClass_of_methodNamed B.named, atoms_spec (ws := wsX12_isWord) B.pre⟩
  subst hsz
  have hD := hD0.self (sz := s.heap.size)
  generalize hAe : va_A [(av0, .inr (12, [.ref av1, .int 0, .int 0, .ref av2, .ref av3, .ref av4, .ref av5, .int 0, .int 0, .int 0, .int 0, .ref av6, .ref av7, .ref av8, .int 0, .int 0, .int 0, .int 6, .int 0, .int 0, .int 0, .ref av9, .int 0, .ref av10, .int 0, .ref av11, .ref av12, .int 1, .ref av13, .ref av14, .int 0, .int 0, .ref av15, .ref av16, .ref av17, .ref av18, .ref av19, .int 0, .ref av20, .long 0, .ref av21, .ref av22]))] s.heap.size = A at hD ⊢
  have hA : ∀ q : Nat, s.heap.size ≤ q → A q := fun q h => by rw [← hAe]; exact Or.inr h
  have hw : Wd dC dI A s.heap s.heap [] [(av0, .inr (12, [.ref av1, .int 0, .int 0, .ref av2, .ref av3, .ref av4, .ref av5, .int 0, .int 0, .int 0, .int 0, .ref av6, .ref av7, .ref av8, .int 0, .int 0, .int 0, .int 6, .int 0, .int 0, .int 0, .ref av9, .int 0, .ref av10, .int 0, .ref av11, .ref av12, .int 1, .ref av13, .ref av14, .int 0, .int 0, .ref av15, .ref av16, .ref av17, .ref av18, .ref av19, .int 0, .ref av20, .long 0, .ref av21, .ref av22]))] := ⟨hP, hD, va_S.rf⟩
  have hl := lv_entry ([.ref av0, .long 126943972648308]) (n := 6) (Nat.le_of_ble_eq_true rfl)
  rw [lg_entry_eq]
  generalize (lg_sl ([.ref av0, .long 126943972648308]) ++ List.replicate (6 - (lg_sl ([.ref av0, .long 126943972648308])).length) Slot.unset).toArray = ls at hl ⊢
  have hl : lv_has ls 6 [(0, .ref av0), (1, .long 126943972648308)] := hl
  have hinX12 : ∀ w ∈ u_ws RX12 TX12 42, w ∈ wsX12_isWord := fun _ h => List.mem_cons_of_mem _ (List.mem_append_right _ (h))
  refine lv_aload_n hx hb dX12_isWord_0 rfl (lv_at hl 0 rfl) ?_
  refine wk_Vi hC hK hw hA [0] [] rfl rfl rfl rfl (by decide) (c_X12_see_1 l dC dI cy av0 av1 av2 av3 av4 av5 av6 av7 av8 av9 av10 av11 av12 av13 av14 av15 av16 av17 av18 av19 av20 av21 av22 s.heap.size ) (cwV 0 hC.2.2.2.2 gX12_isWord_X12_see rfl rfl rfl (by decide +kernel) ⟨Nat.le_of_ble_eq_true rfl, Nat.le_of_ble_eq_true rfl⟩) rfl 0 rfl rfl hl.1 rfl (Nat.le_of_ble_eq_true rfl) dX12_isWord_1 0 0 ⟨rfl, rfl⟩ ⟨Nat.le_of_ble_eq_true rfl, Nat.le_of_ble_eq_true rfl⟩ (fun r2 u1 H locs p3 hw => ?_)
  have hw : Wd dC dI A s.heap H locs [(av0, .inr (12, [.ref av1, .int 0, .int 0, .ref av2, .ref av3, .ref av4, .ref av5, .int 0, .int 0, .int 0, .int 0, .ref av6, .ref av7, .ref av8, .int 0, .int 0, .int 0, .int 6, .int 0, .int 0, .int 0, .ref av9, .int 0, .ref av10, .int 0, .ref av11, .ref av12, .int 1, .ref av13, .ref av14, .int 0, .int 0, .ref av15, .ref av16, .ref av17, .ref av18, .ref av19, .int 0, .ref av20, .long 0, .ref av21, .ref av22]))] := hw
  obtain rfl : r2 = (-1) := p3
  refine lv_pop hx hb dX12_isWord_4 rfl ?_
  refine lv_lconst (v := 0) hx hb dX12_isWord_5 (by decide) ?_
  refine lv_lstore_n (lv' := [(3, .long 0), (0, .ref av0), (1, .long 126943972648308)]) hx hb dX12_isWord_6 rfl hl (by decide) rfl (fun ls hl => ?_)
  refine lv_iconst (v := 0) hx hb dX12_isWord_7 (by decide) ?_
  refine lv_istore (lv' := [(5, .int 0), (3, .long 0), (0, .ref av0), (1, .long 126943972648308)]) hx hb dX12_isWord_8 hl (by decide) rfl (fun ls hl => ?_)
  refine lv_aload_n hx hb dX12_isWord_10 rfl (lv_at hl 2 rfl) ?_
  refine lv_aload_n hx hb dX12_isWord_11 rfl (lv_at hl 2 rfl) ?_
  refine wk_get hC hK hw hinX12 0 rfl rfl 14 (by decide) (List.mem_of_getElem? (i := 1) rfl) rfl rfl dX12_isWord_12 ?_
  refine lv_iload hx hb dX12_isWord_15 (lv_at hl 0 rfl) ?_
  refine lv_iadd hx hb dX12_isWord_17 ?_
  refine wk_top 0 (by decide) ?_
  refine wk_Vi hC hK hw hA [0] [] rfl rfl rfl rfl (by decide) (c_X12_isLetter_1 l dC dI cy av0 av1 av2 av3 av4 av5 av6 av7 av8 av9 av10 av11 av12 av13 av14 av15 av16 av17 av18 av19 av20 av21 av22 H.size ) (cwV 1 hC.2.2.2.2 gX12_isWord_X12_isLetter rfl rfl rfl (by decide +kernel) ⟨Nat.le_of_ble_eq_true rfl, Nat.le_of_ble_eq_true rfl⟩) rfl 0 rfl rfl hl.1 rfl (Nat.le_of_ble_eq_true rfl) dX12_isWord_18 0 0 ⟨rfl, rfl⟩ ⟨Nat.le_of_ble_eq_true rfl, Nat.le_of_ble_eq_true rfl⟩ (fun r5 u4 H locs p6 hw => ?_)
  have hw : Wd dC dI A s.heap H locs [(av0, .inr (12, [.ref av1, .int 0, .int 0, .ref av2, .ref av3, .ref av4, .ref av5, .int 0, .int 0, .int 0, .int 0, .ref av6, .ref av7, .ref av8, .int 0, .int 0, .int 0, .int 6, .int 0, .int 0, .int 0, .ref av9, .int 0, .ref av10, .int 0, .ref av11, .ref av12, .int 1, .ref av13, .ref av14, .int 0, .int 0, .ref av15, .ref av16, .ref av17, .ref av18, .ref av19, .int 0, .ref av20, .long 0, .ref av21, .ref av22]))] := hw
  obtain rfl : r5 = 0 := p6
  refine lv_if_eq (tgt := 56) hx hb dX12_isWord_21 (by decide) (fun _ => ?_) (fun c => absurd (by decide) c)
  refine lv_iload hx hb dX12_isWord_56 (lv_at hl 0 rfl) ?_
  refine lv_if_le (tgt := 78) hx hb dX12_isWord_58 (by decide) (fun _ => ?_) (fun c => absurd (by decide) c)
  refine lv_iconst (v := 0) hx hb dX12_isWord_78 (by decide) ?_
  exact wk_zret (v := 0) hC hr rfl hlocks hK ((fun _ => 0), (fun _ _ => 0)) rfl [0] rfl rfl hw dX12_isWord_79

set_option maxHeartbeats 4000000 in
set_option maxRecDepth 100000 in
theorem c_X12_isWord_3 (l : Launch) (dC : Nat → ClassId) (dI : Nat → Nat → Nat) (cy : Nat → ClassId) (av0 : Nat) (av1 : Nat) (av2 : Nat) (av3 : Nat) (av4 : Nat) (av5 : Nat) (av6 : Nat) (av7 : Nat) (av8 : Nat) (av9 : Nat) (av10 : Nat) (av11 : Nat) (av12 : Nat) (av13 : Nat) (av14 : Nat) (av15 : Nat) (av16 : Nat) (av17 : Nat) (av18 : Nat) (av19 : Nat) (av20 : Nat) (av21 : Nat) (av22 : Nat) (sz : Nat)  : Met l yX12_isWord wsX12_isWord ({ frames := 1, cells := 0, slots := 0, locals := 21 }) (va_Pc [.ref av0, .long 495555538548] (wpre dC dI cy sz [(av0, .inr (12, [.ref av1, .int 0, .int 0, .ref av2, .ref av3, .ref av4, .ref av5, .int 0, .int 0, .int 0, .int 0, .ref av6, .ref av7, .ref av8, .int 0, .int 0, .int 0, .int 6, .int 0, .int 0, .int 0, .ref av9, .int 0, .ref av10, .int 0, .ref av11, .ref av12, .int 1, .ref av13, .ref av14, .int 0, .int 0, .ref av15, .ref av16, .ref av17, .ref av18, .ref av19, .int 0, .ref av20, .long 0, .ref av21, .ref av22]))])) (va_Qi (fun (r : Int32) (_ : ((Nat → Nat) × (Nat → Nat → Int32))) => r = 0) (fun u => wpost dC dI cy (va_A [(av0, .inr (12, [.ref av1, .int 0, .int 0, .ref av2, .ref av3, .ref av4, .ref av5, .int 0, .int 0, .int 0, .int 0, .ref av6, .ref av7, .ref av8, .int 0, .int 0, .int 0, .int 6, .int 0, .int 0, .int 0, .ref av9, .int 0, .ref av10, .int 0, .ref av11, .ref av12, .int 1, .ref av13, .ref av14, .int 0, .int 0, .ref av15, .ref av16, .ref av17, .ref av18, .ref av19, .int 0, .ref av20, .long 0, .ref av21, .ref av22]))] sz) [(av0, .inr (12, [.ref av1, .int 0, .int 0, .ref av2, .ref av3, .ref av4, .ref av5, .int 0, .int 0, .int 0, .int 0, .ref av6, .ref av7, .ref av8, .int 0, .int 0, .int 0, .int 6, .int 0, .int 0, .int 0, .ref av9, .int 0, .ref av10, .int 0, .ref av11, .ref av12, .int 1, .ref av13, .ref av14, .int 0, .int 0, .ref av15, .ref av16, .ref av17, .ref av18, .ref av19, .int 0, .ref av20, .long 0, .ref av21, .ref av22]))]) (va_A [(av0, .inr (12, [.ref av1, .int 0, .int 0, .ref av2, .ref av3, .ref av4, .ref av5, .int 0, .int 0, .int 0, .int 0, .ref av6, .ref av7, .ref av8, .int 0, .int 0, .int 0, .int 6, .int 0, .int 0, .int 0, .ref av9, .int 0, .ref av10, .int 0, .ref av11, .ref av12, .int 1, .ref av13, .ref av14, .int 0, .int 0, .ref av15, .ref av16, .ref av17, .ref av18, .ref av19, .int 0, .ref av20, .long 0, .ref av21, .ref av22]))] sz)) 0 0 (va_A [(av0, .inr (12, [.ref av1, .int 0, .int 0, .ref av2, .ref av3, .ref av4, .ref av5, .int 0, .int 0, .int 0, .int 0, .ref av6, .ref av7, .ref av8, .int 0, .int 0, .int 0, .int 6, .int 0, .int 0, .int 0, .ref av9, .int 0, .ref av10, .int 0, .ref av11, .ref av12, .int 1, .ref av13, .ref av14, .int 0, .int 0, .ref av15, .ref av16, .ref av17, .ref av18, .ref av19, .int 0, .ref av20, .long 0, .ref av21, .ref av22]))] sz) := by
  refine Met.ofW (cc := cX12_isWord) (maxL := 6) (ret := (some .boolean)) (by decide) rfl ?_
  intro p e s m args below meth c s₁ B hml hv
  obtain ⟨rfl, hsz, hP, hK, hD0⟩ := hv
  have hx := B.exec
  have hb := B.bytes
  have hr := B.returns
  have hlocks := B.notSynchronized
  have hC : CallFix p m c cX12_isWord 6 s _ wsX12_isWord RX12 := ⟨hx, hb, hml, findClass_of_methodNamed B.named, atoms_spec (ws := wsX12_isWord) B.pre⟩
  subst hsz
  have hD := hD0.self (sz := s.heap.size)
  generalize hAe : va_A [(av0, .inr (12, [.ref av1, .int 0, .int 0, .ref av2, .ref av3, .ref av4, .ref av5, .int 0, .int 0, .int 0, .int 0, .ref av6, .ref av7, .ref av8, .int 0, .int 0, .int 0, .int 6, .int 0, .int 0, .int 0, .ref av9, .int 0, .ref av10, .int 0, .ref av11, .ref av12, .int 1, .ref av13, .ref av14, .int 0, .int 0, .ref av15, .ref av16, .ref av17, .ref av18, .ref av19, .int 0, .ref av20, .long 0, .ref av21, .ref av22]))] s.heap.size = A at hD ⊢
  have hA : ∀ q : Nat, s.heap.size ≤ q → A q := fun q h => by rw [← hAe]; exact Or.inr h
  have hw : Wd dC dI A s.heap s.heap [] [(av0, .inr (12, [.ref av1, .int 0, .int 0, .ref av2, .ref av3, .ref av4, .ref av5, .int 0, .int 0, .int 0, .int 0, .ref av6, .ref av7, .ref av8, .int 0, .int 0, .int 0, .int 6, .int 0, .int 0, .int 0, .ref av9, .int 0, .ref av10, .int 0, .ref av11, .ref av12, .int 1, .ref av13, .ref av14, .int 0, .int 0, .ref av15, .ref av16, .ref av17, .ref av18, .ref av19, .int 0, .ref av20, .long 0, .ref av21, .ref av22]))] := ⟨hP, hD, va_S.rf⟩
  have hl := lv_entry ([.ref av0, .long 495555538548]) (n := 6) (Nat.le_of_ble_eq_true rfl)
  rw [lg_entry_eq]
  generalize (lg_sl ([.ref av0, .long 495555538548]) ++ List.replicate (6 - (lg_sl ([.ref av0, .long 495555538548])).length) Slot.unset).toArray = ls at hl ⊢
  have hl : lv_has ls 6 [(0, .ref av0), (1, .long 495555538548)] := hl
  have hinX12 : ∀ w ∈ u_ws RX12 TX12 42, w ∈ wsX12_isWord := fun _ h => List.mem_cons_of_mem _ (List.mem_append_right _ (h))
  refine lv_aload_n hx hb dX12_isWord_0 rfl (lv_at hl 0 rfl) ?_
  refine wk_Vi hC hK hw hA [0] [] rfl rfl rfl rfl (by decide) (c_X12_see_1 l dC dI cy av0 av1 av2 av3 av4 av5 av6 av7 av8 av9 av10 av11 av12 av13 av14 av15 av16 av17 av18 av19 av20 av21 av22 s.heap.size ) (cwV 0 hC.2.2.2.2 gX12_isWord_X12_see rfl rfl rfl (by decide +kernel) ⟨Nat.le_of_ble_eq_true rfl, Nat.le_of_ble_eq_true rfl⟩) rfl 0 rfl rfl hl.1 rfl (Nat.le_of_ble_eq_true rfl) dX12_isWord_1 0 0 ⟨rfl, rfl⟩ ⟨Nat.le_of_ble_eq_true rfl, Nat.le_of_ble_eq_true rfl⟩ (fun r2 u1 H locs p3 hw => ?_)
  have hw : Wd dC dI A s.heap H locs [(av0, .inr (12, [.ref av1, .int 0, .int 0, .ref av2, .ref av3, .ref av4, .ref av5, .int 0, .int 0, .int 0, .int 0, .ref av6, .ref av7, .ref av8, .int 0, .int 0, .int 0, .int 6, .int 0, .int 0, .int 0, .ref av9, .int 0, .ref av10, .int 0, .ref av11, .ref av12, .int 1, .ref av13, .ref av14, .int 0, .int 0, .ref av15, .ref av16, .ref av17, .ref av18, .ref av19, .int 0, .ref av20, .long 0, .ref av21, .ref av22]))] := hw
  obtain rfl : r2 = (-1) := p3
  refine lv_pop hx hb dX12_isWord_4 rfl ?_
  refine lv_lconst (v := 0) hx hb dX12_isWord_5 (by decide) ?_
  refine lv_lstore_n (lv' := [(3, .long 0), (0, .ref av0), (1, .long 495555538548)]) hx hb dX12_isWord_6 rfl hl (by decide) rfl (fun ls hl => ?_)
  refine lv_iconst (v := 0) hx hb dX12_isWord_7 (by decide) ?_
  refine lv_istore (lv' := [(5, .int 0), (3, .long 0), (0, .ref av0), (1, .long 495555538548)]) hx hb dX12_isWord_8 hl (by decide) rfl (fun ls hl => ?_)
  refine lv_aload_n hx hb dX12_isWord_10 rfl (lv_at hl 2 rfl) ?_
  refine lv_aload_n hx hb dX12_isWord_11 rfl (lv_at hl 2 rfl) ?_
  refine wk_get hC hK hw hinX12 0 rfl rfl 14 (by decide) (List.mem_of_getElem? (i := 1) rfl) rfl rfl dX12_isWord_12 ?_
  refine lv_iload hx hb dX12_isWord_15 (lv_at hl 0 rfl) ?_
  refine lv_iadd hx hb dX12_isWord_17 ?_
  refine wk_top 0 (by decide) ?_
  refine wk_Vi hC hK hw hA [0] [] rfl rfl rfl rfl (by decide) (c_X12_isLetter_1 l dC dI cy av0 av1 av2 av3 av4 av5 av6 av7 av8 av9 av10 av11 av12 av13 av14 av15 av16 av17 av18 av19 av20 av21 av22 H.size ) (cwV 1 hC.2.2.2.2 gX12_isWord_X12_isLetter rfl rfl rfl (by decide +kernel) ⟨Nat.le_of_ble_eq_true rfl, Nat.le_of_ble_eq_true rfl⟩) rfl 0 rfl rfl hl.1 rfl (Nat.le_of_ble_eq_true rfl) dX12_isWord_18 0 0 ⟨rfl, rfl⟩ ⟨Nat.le_of_ble_eq_true rfl, Nat.le_of_ble_eq_true rfl⟩ (fun r5 u4 H locs p6 hw => ?_)
  have hw : Wd dC dI A s.heap H locs [(av0, .inr (12, [.ref av1, .int 0, .int 0, .ref av2, .ref av3, .ref av4, .ref av5, .int 0, .int 0, .int 0, .int 0, .ref av6, .ref av7, .ref av8, .int 0, .int 0, .int 0, .int 6, .int 0, .int 0, .int 0, .ref av9, .int 0, .ref av10, .int 0, .ref av11, .ref av12, .int 1, .ref av13, .ref av14, .int 0, .int 0, .ref av15, .ref av16, .ref av17, .ref av18, .ref av19, .int 0, .ref av20, .long 0, .ref av21, .ref av22]))] := hw
  obtain rfl : r5 = 0 := p6
  refine lv_if_eq (tgt := 56) hx hb dX12_isWord_21 (by decide) (fun _ => ?_) (fun c => absurd (by decide) c)
  refine lv_iload hx hb dX12_isWord_56 (lv_at hl 0 rfl) ?_
  refine lv_if_le (tgt := 78) hx hb dX12_isWord_58 (by decide) (fun _ => ?_) (fun c => absurd (by decide) c)
  refine lv_iconst (v := 0) hx hb dX12_isWord_78 (by decide) ?_
  exact wk_zret (v := 0) hC hr rfl hlocks hK ((fun _ => 0), (fun _ _ => 0)) rfl [0] rfl rfl hw dX12_isWord_79

set_option maxHeartbeats 4000000 in
set_option maxRecDepth 100000 in
theorem c_X12_isWord_4 (l : Launch) (dC : Nat → ClassId) (dI : Nat → Nat → Nat) (cy : Nat → ClassId) (av0 : Nat) (av1 : Nat) (av2 : Nat) (av3 : Nat) (av4 : Nat) (av5 : Nat) (av6 : Nat) (av7 : Nat) (av8 : Nat) (av9 : Nat) (av10 : Nat) (av11 : Nat) (av12 : Nat) (av13 : Nat) (av14 : Nat) (av15 : Nat) (av16 : Nat) (av17 : Nat) (av18 : Nat) (av19 : Nat) (av20 : Nat) (av21 : Nat) (av22 : Nat) (sz : Nat)  : Met l yX12_isWord wsX12_isWord ({ frames := 1, cells := 0, slots := 0, locals := 21 }) (va_Pc [.ref av0, .long 1818846836] (wpre dC dI cy sz [(av0, .inr (12, [.ref av1, .int 0, .int 0, .ref av2, .ref av3, .ref av4, .ref av5, .int 0, .int 0, .int 0, .int 0, .ref av6, .ref av7, .ref av8, .int 0, .int 0, .int 0, .int 6, .int 0, .int 0, .int 0, .ref av9, .int 0, .ref av10, .int 0, .ref av11, .ref av12, .int 1, .ref av13, .ref av14, .int 0, .int 0, .ref av15, .ref av16, .ref av17, .ref av18, .ref av19, .int 0, .ref av20, .long 0, .ref av21, .ref av22]))])) (va_Qi (fun (r : Int32) (_ : ((Nat → Nat) × (Nat → Nat → Int32))) => r = 0) (fun u => wpost dC dI cy (va_A [(av0, .inr (12, [.ref av1, .int 0, .int 0, .ref av2, .ref av3, .ref av4, .ref av5, .int 0, .int 0, .int 0, .int 0, .ref av6, .ref av7, .ref av8, .int 0, .int 0, .int 0, .int 6, .int 0, .int 0, .int 0, .ref av9, .int 0, .ref av10, .int 0, .ref av11, .ref av12, .int 1, .ref av13, .ref av14, .int 0, .int 0, .ref av15, .ref av16, .ref av17, .ref av18, .ref av19, .int 0, .ref av20, .long 0, .ref av21, .ref av22]))] sz) [(av0, .inr (12, [.ref av1, .int 0, .int 0, .ref av2, .ref av3, .ref av4, .ref av5, .int 0, .int 0, .int 0, .int 0, .ref av6, .ref av7, .ref av8, .int 0, .int 0, .int 0, .int 6, .int 0, .int 0, .int 0, .ref av9, .int 0, .ref av10, .int 0, .ref av11, .ref av12, .int 1, .ref av13, .ref av14, .int 0, .int 0, .ref av15, .ref av16, .ref av17, .ref av18, .ref av19, .int 0, .ref av20, .long 0, .ref av21, .ref av22]))]) (va_A [(av0, .inr (12, [.ref av1, .int 0, .int 0, .ref av2, .ref av3, .ref av4, .ref av5, .int 0, .int 0, .int 0, .int 0, .ref av6, .ref av7, .ref av8, .int 0, .int 0, .int 0, .int 6, .int 0, .int 0, .int 0, .ref av9, .int 0, .ref av10, .int 0, .ref av11, .ref av12, .int 1, .ref av13, .ref av14, .int 0, .int 0, .ref av15, .ref av16, .ref av17, .ref av18, .ref av19, .int 0, .ref av20, .long 0, .ref av21, .ref av22]))] sz)) 0 0 (va_A [(av0, .inr (12, [.ref av1, .int 0, .int 0, .ref av2, .ref av3, .ref av4, .ref av5, .int 0, .int 0, .int 0, .int 0, .ref av6, .ref av7, .ref av8, .int 0, .int 0, .int 0, .int 6, .int 0, .int 0, .int 0, .ref av9, .int 0, .ref av10, .int 0, .ref av11, .ref av12, .int 1, .ref av13, .ref av14, .int 0, .int 0, .ref av15, .ref av16, .ref av17, .ref av18, .ref av19, .int 0, .ref av20, .long 0, .ref av21, .ref av22]))] sz) := by
  refine Met.ofW (cc := cX12_isWord) (maxL := 6) (ret := (some .boolean)) (by decide) rfl ?_
  intro p e s m args below meth c s₁ B hml hv
  obtain ⟨rfl, hsz, hP, hK, hD0⟩ := hv
  have hx := B.exec
  have hb := B.bytes
  have hr := B.returns
  have hlocks := B.notSynchronized
  have hC : CallFix p m c cX12_isWord 6 s _ wsX12_isWord RX12 := ⟨hx, hb, hml, findClass_of_methodNamed B.named, atoms_spec (ws := wsX12_isWord) B.pre⟩
  subst hsz
  have hD := hD0.self (sz := s.heap.size)
  generalize hAe : va_A [(av0, .inr (12, [.ref av1, .int 0, .int 0, .ref av2, .ref av3, .ref av4, .ref av5, .int 0, .int 0, .int 0, .int 0, .ref av6, .ref av7, .ref av8, .int 0, .int 0, .int 0, .int 6, .int 0, .int 0, .int 0, .ref av9, .int 0, .ref av10, .int 0, .ref av11, .ref av12, .int 1, .ref av13, .ref av14, .int 0, .int 0, .ref av15, .ref av16, .ref av17, .ref av18, .ref av19, .int 0, .ref av20, .long 0, .ref av21, .ref av22]))] s.heap.size = A at hD ⊢
  have hA : ∀ q : Nat, s.heap.size ≤ q → A q := fun q h => by rw [← hAe]; exact Or.inr h
  have hw : Wd dC dI A s.heap s.heap [] [(av0, .inr (12, [.ref av1, .int 0, .int 0, .ref av2, .ref av3, .ref av4, .ref av5, .int 0, .int 0, .int 0, .int 0, .ref av6, .ref av7, .ref av8, .int 0, .int 0, .int 0, .int 6, .int 0, .int 0, .int 0, .ref av9, .int 0, .ref av10, .int 0, .ref av11, .ref av12, .int 1, .ref av13, .ref av14, .int 0, .int 0, .ref av15, .ref av16, .ref av17, .ref av18, .ref av19, .int 0, .ref av20, .long 0, .ref av21, .ref av22]))] := ⟨hP, hD, va_S.rf⟩
  have hl := lv_entry ([.ref av0, .long 1818846836]) (n := 6) (Nat.le_of_ble_eq_true rfl)
  rw [lg_entry_eq]
  generalize (lg_sl ([.ref av0, .long 1818846836]) ++ List.replicate (6 - (lg_sl ([.ref av0, .long 1818846836])).length) Slot.unset).toArray = ls at hl ⊢
  have hl : lv_has ls 6 [(0, .ref av0), (1, .long 1818846836)] := hl
  have hinX12 : ∀ w ∈ u_ws RX12 TX12 42, w ∈ wsX12_isWord := fun _ h => List.mem_cons_of_mem _ (List.mem_append_right _ (h))
  refine lv_aload_n hx hb dX12_isWord_0 rfl (lv_at hl 0 rfl) ?_
  refine wk_Vi hC hK hw hA [0] [] rfl rfl rfl rfl (by decide) (c_X12_see_1 l dC dI cy av0 av1 av2 av3 av4 av5 av6 av7 av8 av9 av10 av11 av12 av13 av14 av15 av16 av17 av18 av19 av20 av21 av22 s.heap.size ) (cwV 0 hC.2.2.2.2 gX12_isWord_X12_see rfl rfl rfl (by decide +kernel) ⟨Nat.le_of_ble_eq_true rfl, Nat.le_of_ble_eq_true rfl⟩) rfl 0 rfl rfl hl.1 rfl (Nat.le_of_ble_eq_true rfl) dX12_isWord_1 0 0 ⟨rfl, rfl⟩ ⟨Nat.le_of_ble_eq_true rfl, Nat.le_of_ble_eq_true rfl⟩ (fun r2 u1 H locs p3 hw => ?_)
  have hw : Wd dC dI A s.heap H locs [(av0, .inr (12, [.ref av1, .int 0, .int 0, .ref av2, .ref av3, .ref av4, .ref av5, .int 0, .int 0, .int 0, .int 0, .ref av6, .ref av7, .ref av8, .int 0, .int 0, .int 0, .int 6, .int 0, .int 0, .int 0, .ref av9, .int 0, .ref av10, .int 0, .ref av11, .ref av12, .int 1, .ref av13, .ref av14, .int 0, .int 0, .ref av15, .ref av16, .ref av17, .ref av18, .ref av19, .int 0, .ref av20, .long 0, .ref av21, .ref av22]))] := hw
  obtain rfl : r2 = (-1) := p3
  refine lv_pop hx hb dX12_isWord_4 rfl ?_
  refine lv_lconst (v := 0) hx hb dX12_isWord_5 (by decide) ?_
  refine lv_lstore_n (lv' := [(3, .long 0), (0, .ref av0), (1, .long 1818846836)]) hx hb dX12_isWord_6 rfl hl (by decide) rfl (fun ls hl => ?_)
  refine lv_iconst (v := 0) hx hb dX12_isWord_7 (by decide) ?_
  refine lv_istore (lv' := [(5, .int 0), (3, .long 0), (0, .ref av0), (1, .long 1818846836)]) hx hb dX12_isWord_8 hl (by decide) rfl (fun ls hl => ?_)
  refine lv_aload_n hx hb dX12_isWord_10 rfl (lv_at hl 2 rfl) ?_
  refine lv_aload_n hx hb dX12_isWord_11 rfl (lv_at hl 2 rfl) ?_
  refine wk_get hC hK hw hinX12 0 rfl rfl 14 (by decide) (List.mem_of_getElem? (i := 1) rfl) rfl rfl dX12_isWord_12 ?_
  refine lv_iload hx hb dX12_isWord_15 (lv_at hl 0 rfl) ?_
  refine lv_iadd hx hb dX12_isWord_17 ?_
  refine wk_top 0 (by decide) ?_
  refine wk_Vi hC hK hw hA [0] [] rfl rfl rfl rfl (by decide) (c_X12_isLetter_1 l dC dI cy av0 av1 av2 av3 av4 av5 av6 av7 av8 av9 av10 av11 av12 av13 av14 av15 av16 av17 av18 av19 av20 av21 av22 H.size ) (cwV 1 hC.2.2.2.2 gX12_isWord_X12_isLetter rfl rfl rfl (by decide +kernel) ⟨Nat.le_of_ble_eq_true rfl, Nat.le_of_ble_eq_true rfl⟩) rfl 0 rfl rfl hl.1 rfl (Nat.le_of_ble_eq_true rfl) dX12_isWord_18 0 0 ⟨rfl, rfl⟩ ⟨Nat.le_of_ble_eq_true rfl, Nat.le_of_ble_eq_true rfl⟩ (fun r5 u4 H locs p6 hw => ?_)
  have hw : Wd dC dI A s.heap H locs [(av0, .inr (12, [.ref av1, .int 0, .int 0, .ref av2, .ref av3, .ref av4, .ref av5, .int 0, .int 0, .int 0, .int 0, .ref av6, .ref av7, .ref av8, .int 0, .int 0, .int 0, .int 6, .int 0, .int 0, .int 0, .ref av9, .int 0, .ref av10, .int 0, .ref av11, .ref av12, .int 1, .ref av13, .ref av14, .int 0, .int 0, .ref av15, .ref av16, .ref av17, .ref av18, .ref av19, .int 0, .ref av20, .long 0, .ref av21, .ref av22]))] := hw
  obtain rfl : r5 = 0 := p6
  refine lv_if_eq (tgt := 56) hx hb dX12_isWord_21 (by decide) (fun _ => ?_) (fun c => absurd (by decide) c)
  refine lv_iload hx hb dX12_isWord_56 (lv_at hl 0 rfl) ?_
  refine lv_if_le (tgt := 78) hx hb dX12_isWord_58 (by decide) (fun _ => ?_) (fun c => absurd (by decide) c)
  refine lv_iconst (v := 0) hx hb dX12_isWord_78 (by decide) ?_
  exact wk_zret (v := 0) hC hr rfl hlocks hK ((fun _ => 0), (fun _ _ => 0)) rfl [0] rfl rfl hw dX12_isWord_79

set_option maxHeartbeats 4000000 in
set_option maxRecDepth 100000 in
theorem c_X12_fails_1 (l : Launch) (dC : Nat → ClassId) (dI : Nat → Nat → Nat) (cy : Nat → ClassId) (av0 : Nat) (av1 : Nat) (av2 : Nat) (av3 : Nat) (av4 : Nat) (av5 : Nat) (av6 : Nat) (av7 : Nat) (av8 : Nat) (av9 : Nat) (av10 : Nat) (av11 : Nat) (av12 : Nat) (av13 : Nat) (av14 : Nat) (av15 : Nat) (av16 : Nat) (av17 : Nat) (av18 : Nat) (av19 : Nat) (av20 : Nat) (av21 : Nat) (av22 : Nat) (sz : Nat)  : Met l yX12_fails wsX12_fails ({ frames := 0, cells := 0, slots := 0, locals := 0 }) (va_Pc [.ref av0, .int 0, .int 0] (wpre dC dI cy sz [(av0, .inr (12, [.ref av1, .int 0, .int 0, .ref av2, .ref av3, .ref av4, .ref av5, .int 0, .int 0, .int 0, .int 0, .ref av6, .ref av7, .ref av8, .int 0, .int 0, .int 0, .int 6, .int 0, .int 0, .int 0, .ref av9, .int 0, .ref av10, .int 0, .ref av11, .ref av12, .int 1, .ref av13, .ref av14, .int 0, .int 0, .ref av15, .ref av16, .ref av17, .ref av18, .ref av19, .int 0, .ref av20, .long 0, .ref av21, .ref av22]))])) (va_Qi (fun (r : Int32) (_ : ((Nat → Nat) × (Nat → Nat → Int32))) => r = 0) (fun u => wpost dC dI cy (va_A [(av0, .inr (12, [.ref av1, .int 0, .int 0, .ref av2, .ref av3, .ref av4, .ref av5, .int 0, .int 0, .int 0, .int 0, .ref av6, .ref av7, .ref av8, .int 0, .int 0, .int 0, .int 6, .int 0, .int 0, .int 0, .ref av9, .int 0, .ref av10, .int 0, .ref av11, .ref av12, .int 1, .ref av13, .ref av14, .int 0, .int 0, .ref av15, .ref av16, .ref av17, .ref av18, .ref av19, .int 0, .ref av20, .long 0, .ref av21, .ref av22]))] sz) [(av0, .inr (12, [.ref av1, .int 0, .int 0, .ref av2, .ref av3, .ref av4, .ref av5, .int 0, .int 0, .int 0, .int 0, .ref av6, .ref av7, .ref av8, .int 0, .int 1, .int 0, .int 6, .int 0, .int 0, .int 0, .ref av9, .int 0, .ref av10, .int 0, .ref av11, .ref av12, .int 1, .ref av13, .ref av14, .int 0, .int 0, .ref av15, .ref av16, .ref av17, .ref av18, .ref av19, .int 0, .ref av20, .long 0, .ref av21, .ref av22]))]) (va_A [(av0, .inr (12, [.ref av1, .int 0, .int 0, .ref av2, .ref av3, .ref av4, .ref av5, .int 0, .int 0, .int 0, .int 0, .ref av6, .ref av7, .ref av8, .int 0, .int 0, .int 0, .int 6, .int 0, .int 0, .int 0, .ref av9, .int 0, .ref av10, .int 0, .ref av11, .ref av12, .int 1, .ref av13, .ref av14, .int 0, .int 0, .ref av15, .ref av16, .ref av17, .ref av18, .ref av19, .int 0, .ref av20, .long 0, .ref av21, .ref av22]))] sz)) 0 0 (va_A [(av0, .inr (12, [.ref av1, .int 0, .int 0, .ref av2, .ref av3, .ref av4, .ref av5, .int 0, .int 0, .int 0, .int 0, .ref av6, .ref av7, .ref av8, .int 0, .int 0, .int 0, .int 6, .int 0, .int 0, .int 0, .ref av9, .int 0, .ref av10, .int 0, .ref av11, .ref av12, .int 1, .ref av13, .ref av14, .int 0, .int 0, .ref av15, .ref av16, .ref av17, .ref av18, .ref av19, .int 0, .ref av20, .long 0, .ref av21, .ref av22]))] sz) := by
  refine Met.ofW (cc := cX12_fails) (maxL := 3) (ret := (some .boolean)) (by decide) rfl ?_
  intro p e s m args below meth c s₁ B hml hv
  obtain ⟨rfl, hsz, hP, hK, hD0⟩ := hv
  have hx := B.exec
  have hb := B.bytes
  have hr := B.returns
  have hlocks := B.notSynchronized
  have hC : CallFix p m c cX12_fails 3 s _ wsX12_fails RX12 := ⟨hx, hb, hml, findClass_of_methodNamed B.named, atoms_spec (ws := wsX12_fails) B.pre⟩
  subst hsz
  have hD := hD0.self (sz := s.heap.size)
  generalize hAe : va_A [(av0, .inr (12, [.ref av1, .int 0, .int 0, .ref av2, .ref av3, .ref av4, .ref av5, .int 0, .int 0, .int 0, .int 0, .ref av6, .ref av7, .ref av8, .int 0, .int 0, .int 0, .int 6, .int 0, .int 0, .int 0, .ref av9, .int 0, .ref av10, .int 0, .ref av11, .ref av12, .int 1, .ref av13, .ref av14, .int 0, .int 0, .ref av15, .ref av16, .ref av17, .ref av18, .ref av19, .int 0, .ref av20, .long 0, .ref av21, .ref av22]))] s.heap.size = A at hD ⊢
  have hA : ∀ q : Nat, s.heap.size ≤ q → A q := fun q h => by rw [← hAe]; exact Or.inr h
  have hw : Wd dC dI A s.heap s.heap [] [(av0, .inr (12, [.ref av1, .int 0, .int 0, .ref av2, .ref av3, .ref av4, .ref av5, .int 0, .int 0, .int 0, .int 0, .ref av6, .ref av7, .ref av8, .int 0, .int 0, .int 0, .int 6, .int 0, .int 0, .int 0, .ref av9, .int 0, .ref av10, .int 0, .ref av11, .ref av12, .int 1, .ref av13, .ref av14, .int 0, .int 0, .ref av15, .ref av16, .ref av17, .ref av18, .ref av19, .int 0, .ref av20, .long 0, .ref av21, .ref av22]))] := ⟨hP, hD, va_S.rf⟩
  have hl := lv_entry ([.ref av0, .int 0, .int 0]) (n := 3) (Nat.le_of_ble_eq_true rfl)
  rw [lg_entry_eq]
  generalize (lg_sl ([.ref av0, .int 0, .int 0]) ++ List.replicate (3 - (lg_sl ([.ref av0, .int 0, .int 0])).length) Slot.unset).toArray = ls at hl ⊢
  have hl : lv_has ls 3 [(0, .ref av0), (1, .int 0), (2, .int 0)] := hl
  have hinX12 : ∀ w ∈ u_ws RX12 TX12 42, w ∈ wsX12_fails := fun _ h => List.mem_cons_of_mem _ (List.mem_append_right _ (h))
  refine lv_aload_n hx hb dX12_fails_0 rfl (lv_at hl 0 rfl) ?_
  refine wk_get hC hK hw hinX12 0 rfl rfl 15 (by decide) (List.mem_of_getElem? (i := 1) rfl) rfl rfl dX12_fails_1 ?_
  refine lv_if_ne (tgt := 19) hx hb dX12_fails_4 (by decide) (fun c => absurd c (by decide)) (fun _ => ?_)
  refine lv_aload_n hx hb dX12_fails_7 rfl (lv_at hl 0 rfl) ?_
  refine lv_iconst (v := 1) hx hb dX12_fails_8 (by decide) ?_
  refine lv_bipush (v := 8) hx hb dX12_fails_9 (by decide) ?_
  refine lv_iload_n hx hb dX12_fails_11 rfl (lv_at hl 2 rfl) ?_
  refine lv_imul hx hb dX12_fails_12 ?_
  refine wk_top 0 (by decide) ?_
  refine lv_iadd hx hb dX12_fails_13 ?_
  refine wk_top 1 (by decide) ?_
  refine lv_iload_n hx hb dX12_fails_14 rfl (lv_at hl 1 rfl) ?_
  refine lv_iadd hx hb dX12_fails_15 ?_
  refine wk_top 1 (by decide) ?_
  refine wk_put hC hK hw hinX12 tyX12_ok nmX12 0 rfl rfl 15 (by decide) (List.mem_of_getElem? (i := 1) rfl) rfl rfl rfl rfl rfl (Nat.le_of_ble_eq_true rfl) dX12_fails_16 (fun H locs hw => ?_)
  have hw : Wd dC dI A s.heap H locs [(av0, .inr (12, [.ref av1, .int 0, .int 0, .ref av2, .ref av3, .ref av4, .ref av5, .int 0, .int 0, .int 0, .int 0, .ref av6, .ref av7, .ref av8, .int 0, .int 1, .int 0, .int 6, .int 0, .int 0, .int 0, .ref av9, .int 0, .ref av10, .int 0, .ref av11, .ref av12, .int 1, .ref av13, .ref av14, .int 0, .int 0, .ref av15, .ref av16, .ref av17, .ref av18, .ref av19, .int 0, .ref av20, .long 0, .ref av21, .ref av22]))] := hw
  refine lv_iconst (v := 0) hx hb dX12_fails_19 (by decide) ?_
  exact wk_zret (v := 0) hC hr rfl hlocks hK ((fun _ => 0), (fun _ _ => 0)) rfl [0] rfl rfl hw dX12_fails_20

set_option maxHeartbeats 4000000 in
set_option maxRecDepth 100000 in
theorem c_X12_clauseHere_1 (l : Launch) (dC : Nat → ClassId) (dI : Nat → Nat → Nat) (cy : Nat → ClassId) (av0 : Nat) (av1 : Nat) (av2 : Nat) (av3 : Nat) (av4 : Nat) (av5 : Nat) (av6 : Nat) (av7 : Nat) (av8 : Nat) (av9 : Nat) (av10 : Nat) (av11 : Nat) (av12 : Nat) (av13 : Nat) (av14 : Nat) (av15 : Nat) (av16 : Nat) (av17 : Nat) (av18 : Nat) (av19 : Nat) (av20 : Nat) (av21 : Nat) (av22 : Nat) (sz : Nat)  : Met l yX12_clauseHere wsX12_clauseHere ({ frames := 2, cells := 0, slots := 0, locals := 46 }) (va_Pc [.ref av0] (wpre dC dI cy sz [(av0, .inr (12, [.ref av1, .int 0, .int 0, .ref av2, .ref av3, .ref av4, .ref av5, .int 0, .int 0, .int 0, .int 0, .ref av6, .ref av7, .ref av8, .int 0, .int 0, .int 0, .int 6, .int 0, .int 0, .int 0, .ref av9, .int 0, .ref av10, .int 0, .ref av11, .ref av12, .int 1, .ref av13, .ref av14, .int 0, .int 0, .ref av15, .ref av16, .ref av17, .ref av18, .ref av19, .int 0, .ref av20, .long 0, .ref av21, .ref av22]))])) (va_Qi (fun (r : Int32) (_ : ((Nat → Nat) × (Nat → Nat → Int32))) => r = 0) (fun u => wpost dC dI cy (va_A [(av0, .inr (12, [.ref av1, .int 0, .int 0, .ref av2, .ref av3, .ref av4, .ref av5, .int 0, .int 0, .int 0, .int 0, .ref av6, .ref av7, .ref av8, .int 0, .int 0, .int 0, .int 6, .int 0, .int 0, .int 0, .ref av9, .int 0, .ref av10, .int 0, .ref av11, .ref av12, .int 1, .ref av13, .ref av14, .int 0, .int 0, .ref av15, .ref av16, .ref av17, .ref av18, .ref av19, .int 0, .ref av20, .long 0, .ref av21, .ref av22]))] sz) [(av0, .inr (12, [.ref av1, .int 0, .int 0, .ref av2, .ref av3, .ref av4, .ref av5, .int 0, .int 0, .int 0, .int 0, .ref av6, .ref av7, .ref av8, .int 0, .int 1, .int 0, .int 6, .int 0, .int 0, .int 0, .ref av9, .int 0, .ref av10, .int 0, .ref av11, .ref av12, .int 1, .ref av13, .ref av14, .int 0, .int 0, .ref av15, .ref av16, .ref av17, .ref av18, .ref av19, .int 0, .ref av20, .long 0, .ref av21, .ref av22]))]) (va_A [(av0, .inr (12, [.ref av1, .int 0, .int 0, .ref av2, .ref av3, .ref av4, .ref av5, .int 0, .int 0, .int 0, .int 0, .ref av6, .ref av7, .ref av8, .int 0, .int 0, .int 0, .int 6, .int 0, .int 0, .int 0, .ref av9, .int 0, .ref av10, .int 0, .ref av11, .ref av12, .int 1, .ref av13, .ref av14, .int 0, .int 0, .ref av15, .ref av16, .ref av17, .ref av18, .ref av19, .int 0, .ref av20, .long 0, .ref av21, .ref av22]))] sz)) 0 0 (va_A [(av0, .inr (12, [.ref av1, .int 0, .int 0, .ref av2, .ref av3, .ref av4, .ref av5, .int 0, .int 0, .int 0, .int 0, .ref av6, .ref av7, .ref av8, .int 0, .int 0, .int 0, .int 6, .int 0, .int 0, .int 0, .ref av9, .int 0, .ref av10, .int 0, .ref av11, .ref av12, .int 1, .ref av13, .ref av14, .int 0, .int 0, .ref av15, .ref av16, .ref av17, .ref av18, .ref av19, .int 0, .ref av20, .long 0, .ref av21, .ref av22]))] sz) := by
  refine Met.ofW (cc := cX12_clauseHere) (maxL := 4) (ret := (some .boolean)) (by decide) rfl ?_
  intro p e s m args below meth c s₁ B hml hv
  obtain ⟨rfl, hsz, hP, hK, hD0⟩ := hv
  have hx := B.exec
  have hb := B.bytes
  have hr := B.returns
  have hlocks := B.notSynchronized
  have hC : CallFix p m c cX12_clauseHere 4 s _ wsX12_clauseHere RX12 := ⟨hx, hb, hml, findClass_of_methodNamed B.named, atoms_spec (ws := wsX12_clauseHere) B.pre⟩
  subst hsz
  have hD := hD0.self (sz := s.heap.size)
  generalize hAe : va_A [(av0, .inr (12, [.ref av1, .int 0, .int 0, .ref av2, .ref av3, .ref av4, .ref av5, .int 0, .int 0, .int 0, .int 0, .ref av6, .ref av7, .ref av8, .int 0, .int 0, .int 0, .int 6, .int 0, .int 0, .int 0, .ref av9, .int 0, .ref av10, .int 0, .ref av11, .ref av12, .int 1, .ref av13, .ref av14, .int 0, .int 0, .ref av15, .ref av16, .ref av17, .ref av18, .ref av19, .int 0, .ref av20, .long 0, .ref av21, .ref av22]))] s.heap.size = A at hD ⊢
  have hA : ∀ q : Nat, s.heap.size ≤ q → A q := fun q h => by rw [← hAe]; exact Or.inr h
  have hw : Wd dC dI A s.heap s.heap [] [(av0, .inr (12, [.ref av1, .int 0, .int 0, .ref av2, .ref av3, .ref av4, .ref av5, .int 0, .int 0, .int 0, .int 0, .ref av6, .ref av7, .ref av8, .int 0, .int 0, .int 0, .int 6, .int 0, .int 0, .int 0, .ref av9, .int 0, .ref av10, .int 0, .ref av11, .ref av12, .int 1, .ref av13, .ref av14, .int 0, .int 0, .ref av15, .ref av16, .ref av17, .ref av18, .ref av19, .int 0, .ref av20, .long 0, .ref av21, .ref av22]))] := ⟨hP, hD, va_S.rf⟩
  have hl := lv_entry ([.ref av0]) (n := 4) (Nat.le_of_ble_eq_true rfl)
  rw [lg_entry_eq]
  generalize (lg_sl ([.ref av0]) ++ List.replicate (4 - (lg_sl ([.ref av0])).length) Slot.unset).toArray = ls at hl ⊢
  have hl : lv_has ls 4 [(0, .ref av0)] := hl
  have hinX12 : ∀ w ∈ u_ws RX12 TX12 42, w ∈ wsX12_clauseHere := fun _ h => List.mem_cons_of_mem _ (List.mem_append_right _ (h))
  refine lv_aload_n hx hb dX12_clauseHere_0 rfl (lv_at hl 0 rfl) ?_
  refine wk_Vi hC hK hw hA [0] [] rfl rfl rfl rfl (by decide) (c_X12_see_1 l dC dI cy av0 av1 av2 av3 av4 av5 av6 av7 av8 av9 av10 av11 av12 av13 av14 av15 av16 av17 av18 av19 av20 av21 av22 s.heap.size ) (cwV 0 hC.2.2.2.2 gX12_clauseHere_X12_see rfl rfl rfl (by decide +kernel) ⟨Nat.le_of_ble_eq_true rfl, Nat.le_of_ble_eq_true rfl⟩) rfl 0 rfl rfl hl.1 rfl (Nat.le_of_ble_eq_true rfl) dX12_clauseHere_1 0 0 ⟨rfl, rfl⟩ ⟨Nat.le_of_ble_eq_true rfl, Nat.le_of_ble_eq_true rfl⟩ (fun r2 u1 H locs p3 hw => ?_)
  have hw : Wd dC dI A s.heap H locs [(av0, .inr (12, [.ref av1, .int 0, .int 0, .ref av2, .ref av3, .ref av4, .ref av5, .int 0, .int 0, .int 0, .int 0, .ref av6, .ref av7, .ref av8, .int 0, .int 0, .int 0, .int 6, .int 0, .int 0, .int 0, .ref av9, .int 0, .ref av10, .int 0, .ref av11, .ref av12, .int 1, .ref av13, .ref av14, .int 0, .int 0, .ref av15, .ref av16, .ref av17, .ref av18, .ref av19, .int 0, .ref av20, .long 0, .ref av21, .ref av22]))] := hw
  obtain rfl : r2 = (-1) := p3
  refine lv_pop hx hb dX12_clauseHere_4 rfl ?_
  refine lv_aload_n hx hb dX12_clauseHere_5 rfl (lv_at hl 0 rfl) ?_
  refine wk_get hC hK hw hinX12 0 rfl rfl 14 (by decide) (List.mem_of_getElem? (i := 1) rfl) rfl rfl dX12_clauseHere_6 ?_
  refine lv_istore_n (lv' := [(1, .int 0), (0, .ref av0)]) hx hb dX12_clauseHere_9 rfl hl (by decide) rfl (fun ls hl => ?_)
  refine lv_aload_n hx hb dX12_clauseHere_10 rfl (lv_at hl 1 rfl) ?_
  refine wk_get hC hK hw hinX12 0 rfl rfl 17 (by decide) (List.mem_of_getElem? (i := 2) rfl) rfl rfl dX12_clauseHere_11 ?_
  refine lv_bipush (v := 6) hx hb dX12_clauseHere_14 (by decide) ?_
  refine lv_icmp_ne (tgt := 23) hx hb dX12_clauseHere_16 (by decide) (fun c => absurd c (by decide)) (fun _ => ?_)
  refine lv_iconst (v := 1) hx hb dX12_clauseHere_19 (by decide) ?_
  refine lv_goto (tgt := 24) hx hb dX12_clauseHere_20 (by decide) ?_
  refine lv_istore_n (lv' := [(2, .int 1), (1, .int 0), (0, .ref av0)]) hx hb dX12_clauseHere_24 rfl hl (by decide) rfl (fun ls hl => ?_)
  refine lv_iload_n hx hb dX12_clauseHere_25 rfl (lv_at hl 0 rfl) ?_
  refine lv_if_eq (tgt := 77) hx hb dX12_clauseHere_26 (by decide) (fun c => absurd c (by decide)) (fun _ => ?_)
  refine lv_aload_n hx hb dX12_clauseHere_29 rfl (lv_at hl 2 rfl) ?_
  refine lv_ldc2 (v := 27988559963452019) hx hb hC.2.2.2.1 (hC.2.2.2.2 _ (List.mem_of_getElem? (i := 3) rfl)) dX12_clauseHere_30 ?_
  refine wk_Vi hC hK hw hA [0] [] rfl rfl rfl rfl (by decide) (c_X12_isWord_1 l dC dI cy av0 av1 av2 av3 av4 av5 av6 av7 av8 av9 av10 av11 av12 av13 av14 av15 av16 av17 av18 av19 av20 av21 av22 H.size ) (cwV 1 hC.2.2.2.2 gX12_clauseHere_X12_isWord rfl rfl rfl (by decide +kernel) ⟨Nat.le_of_ble_eq_true rfl, Nat.le_of_ble_eq_true rfl⟩) rfl 0 rfl rfl hl.1 rfl (Nat.le_of_ble_eq_true rfl) dX12_clauseHere_33 0 0 ⟨rfl, rfl⟩ ⟨Nat.le_of_ble_eq_true rfl, Nat.le_of_ble_eq_true rfl⟩ (fun r5 u4 H locs p6 hw => ?_)
  have hw : Wd dC dI A s.heap H locs [(av0, .inr (12, [.ref av1, .int 0, .int 0, .ref av2, .ref av3, .ref av4, .ref av5, .int 0, .int 0, .int 0, .int 0, .ref av6, .ref av7, .ref av8, .int 0, .int 0, .int 0, .int 6, .int 0, .int 0, .int 0, .ref av9, .int 0, .ref av10, .int 0, .ref av11, .ref av12, .int 1, .ref av13, .ref av14, .int 0, .int 0, .ref av15, .ref av16, .ref av17, .ref av18, .ref av19, .int 0, .ref av20, .long 0, .ref av21, .ref av22]))] := hw
  obtain rfl : r5 = 0 := p6
  refine lv_if_ne (tgt := 69) hx hb dX12_clauseHere_36 (by decide) (fun c => absurd c (by decide)) (fun _ => ?_)
  refine lv_aload_n hx hb dX12_clauseHere_39 rfl (lv_at hl 2 rfl) ?_
  refine lv_ldc2 (v := 126943972648308) hx hb hC.2.2.2.1 (hC.2.2.2.2 _ (List.mem_of_getElem? (i := 4) rfl)) dX12_clauseHere_40 ?_
  refine wk_Vi hC hK hw hA [0] [] rfl rfl rfl rfl (by decide) (c_X12_isWord_2 l dC dI cy av0 av1 av2 av3 av4 av5 av6 av7 av8 av9 av10 av11 av12 av13 av14 av15 av16 av17 av18 av19 av20 av21 av22 H.size ) (cwV 1 hC.2.2.2.2 gX12_clauseHere_X12_isWord rfl rfl rfl (by decide +kernel) ⟨Nat.le_of_ble_eq_true rfl, Nat.le_of_ble_eq_true rfl⟩) rfl 0 rfl rfl hl.1 rfl (Nat.le_of_ble_eq_true rfl) dX12_clauseHere_43 0 0 ⟨rfl, rfl⟩ ⟨Nat.le_of_ble_eq_true rfl, Nat.le_of_ble_eq_true rfl⟩ (fun r8 u7 H locs p9 hw => ?_)
  have hw : Wd dC dI A s.heap H locs [(av0, .inr (12, [.ref av1, .int 0, .int 0, .ref av2, .ref av3, .ref av4, .ref av5, .int 0, .int 0, .int 0, .int 0, .ref av6, .ref av7, .ref av8, .int 0, .int 0, .int 0, .int 6, .int 0, .int 0, .int 0, .ref av9, .int 0, .ref av10, .int 0, .ref av11, .ref av12, .int 1, .ref av13, .ref av14, .int 0, .int 0, .ref av15, .ref av16, .ref av17, .ref av18, .ref av19, .int 0, .ref av20, .long 0, .ref av21, .ref av22]))] := hw
  obtain rfl : r8 = 0 := p9
  refine lv_if_ne (tgt := 69) hx hb dX12_clauseHere_46 (by decide) (fun c => absurd c (by decide)) (fun _ => ?_)
  refine lv_aload_n hx hb dX12_clauseHere_49 rfl (lv_at hl 2 rfl) ?_
  refine lv_ldc2 (v := 495555538548) hx hb hC.2.2.2.1 (hC.2.2.2.2 _ (List.mem_of_getElem? (i := 5) rfl)) dX12_clauseHere_50 ?_
  refine wk_Vi hC hK hw hA [0] [] rfl rfl rfl rfl (by decide) (c_X12_isWord_3 l dC dI cy av0 av1 av2 av3 av4 av5 av6 av7 av8 av9 av10 av11 av12 av13 av14 av15 av16 av17 av18 av19 av20 av21 av22 H.size ) (cwV 1 hC.2.2.2.2 gX12_clauseHere_X12_isWord rfl rfl rfl (by decide +kernel) ⟨Nat.le_of_ble_eq_true rfl, Nat.le_of_ble_eq_true rfl⟩) rfl 0 rfl rfl hl.1 rfl (Nat.le_of_ble_eq_true rfl) dX12_clauseHere_53 0 0 ⟨rfl, rfl⟩ ⟨Nat.le_of_ble_eq_true rfl, Nat.le_of_ble_eq_true rfl⟩ (fun r11 u10 H locs p12 hw => ?_)
  have hw : Wd dC dI A s.heap H locs [(av0, .inr (12, [.ref av1, .int 0, .int 0, .ref av2, .ref av3, .ref av4, .ref av5, .int 0, .int 0, .int 0, .int 0, .ref av6, .ref av7, .ref av8, .int 0, .int 0, .int 0, .int 6, .int 0, .int 0, .int 0, .ref av9, .int 0, .ref av10, .int 0, .ref av11, .ref av12, .int 1, .ref av13, .ref av14, .int 0, .int 0, .ref av15, .ref av16, .ref av17, .ref av18, .ref av19, .int 0, .ref av20, .long 0, .ref av21, .ref av22]))] := hw
  obtain rfl : r11 = 0 := p12
  refine lv_if_ne (tgt := 69) hx hb dX12_clauseHere_56 (by decide) (fun c => absurd c (by decide)) (fun _ => ?_)
  refine lv_aload_n hx hb dX12_clauseHere_59 rfl (lv_at hl 2 rfl) ?_
  refine lv_ldc2 (v := 1818846836) hx hb hC.2.2.2.1 (hC.2.2.2.2 _ (List.mem_of_getElem? (i := 6) rfl)) dX12_clauseHere_60 ?_
  refine wk_Vi hC hK hw hA [0] [] rfl rfl rfl rfl (by decide) (c_X12_isWord_4 l dC dI cy av0 av1 av2 av3 av4 av5 av6 av7 av8 av9 av10 av11 av12 av13 av14 av15 av16 av17 av18 av19 av20 av21 av22 H.size ) (cwV 1 hC.2.2.2.2 gX12_clauseHere_X12_isWord rfl rfl rfl (by decide +kernel) ⟨Nat.le_of_ble_eq_true rfl, Nat.le_of_ble_eq_true rfl⟩) rfl 0 rfl rfl hl.1 rfl (Nat.le_of_ble_eq_true rfl) dX12_clauseHere_63 0 0 ⟨rfl, rfl⟩ ⟨Nat.le_of_ble_eq_true rfl, Nat.le_of_ble_eq_true rfl⟩ (fun r14 u13 H locs p15 hw => ?_)
  have hw : Wd dC dI A s.heap H locs [(av0, .inr (12, [.ref av1, .int 0, .int 0, .ref av2, .ref av3, .ref av4, .ref av5, .int 0, .int 0, .int 0, .int 0, .ref av6, .ref av7, .ref av8, .int 0, .int 0, .int 0, .int 6, .int 0, .int 0, .int 0, .ref av9, .int 0, .ref av10, .int 0, .ref av11, .ref av12, .int 1, .ref av13, .ref av14, .int 0, .int 0, .ref av15, .ref av16, .ref av17, .ref av18, .ref av19, .int 0, .ref av20, .long 0, .ref av21, .ref av22]))] := hw
  obtain rfl : r14 = 0 := p15
  refine lv_if_eq (tgt := 73) hx hb dX12_clauseHere_66 (by decide) (fun _ => ?_) (fun c => absurd (by decide) c)
  refine lv_iconst (v := 0) hx hb dX12_clauseHere_73 (by decide) ?_
  refine lv_goto (tgt := 89) hx hb dX12_clauseHere_74 (by decide) ?_
  refine lv_istore_n (lv' := [(3, .int 0), (2, .int 1), (1, .int 0), (0, .ref av0)]) hx hb dX12_clauseHere_89 rfl hl (by decide) rfl (fun ls hl => ?_)
  refine lv_iload_n hx hb dX12_clauseHere_90 rfl (lv_at hl 0 rfl) ?_
  refine lv_if_ne (tgt := 101) hx hb dX12_clauseHere_91 (by decide) (fun c => absurd c (by decide)) (fun _ => ?_)
  refine lv_aload_n hx hb dX12_clauseHere_94 rfl (lv_at hl 3 rfl) ?_
  refine lv_iconst (v := 0) hx hb dX12_clauseHere_95 (by decide) ?_
  refine lv_iload_n hx hb dX12_clauseHere_96 rfl (lv_at hl 2 rfl) ?_
  refine wk_Vi hC hK hw hA [0] [] rfl rfl rfl rfl (by decide) (c_X12_fails_1 l dC dI cy av0 av1 av2 av3 av4 av5 av6 av7 av8 av9 av10 av11 av12 av13 av14 av15 av16 av17 av18 av19 av20 av21 av22 H.size ) (cwV 2 hC.2.2.2.2 gX12_clauseHere_X12_fails rfl rfl rfl (by decide +kernel) ⟨Nat.le_of_ble_eq_true rfl, Nat.le_of_ble_eq_true rfl⟩) rfl 0 rfl rfl hl.1 rfl (Nat.le_of_ble_eq_true rfl) dX12_clauseHere_97 0 0 ⟨rfl, rfl⟩ ⟨Nat.le_of_ble_eq_true rfl, Nat.le_of_ble_eq_true rfl⟩ (fun r17 u16 H locs p18 hw => ?_)
  have hw : Wd dC dI A s.heap H locs [(av0, .inr (12, [.ref av1, .int 0, .int 0, .ref av2, .ref av3, .ref av4, .ref av5, .int 0, .int 0, .int 0, .int 0, .ref av6, .ref av7, .ref av8, .int 0, .int 1, .int 0, .int 6, .int 0, .int 0, .int 0, .ref av9, .int 0, .ref av10, .int 0, .ref av11, .ref av12, .int 1, .ref av13, .ref av14, .int 0, .int 0, .ref av15, .ref av16, .ref av17, .ref av18, .ref av19, .int 0, .ref av20, .long 0, .ref av21, .ref av22]))] := hw
  obtain rfl : r17 = 0 := p18
  exact wk_zret (v := 0) hC hr rfl hlocks hK ((fun _ => 0), (fun _ _ => 0)) rfl [0] rfl rfl hw dX12_clauseHere_100

set_option maxHeartbeats 4000000 in
set_option maxRecDepth 100000 in
theorem c_X12_readsAll_1 (l : Launch) (dC : Nat → ClassId) (dI : Nat → Nat → Nat) (cy : Nat → ClassId) (av0 : Nat) (av1 : Nat) (av2 : Nat) (av3 : Nat) (av4 : Nat) (av5 : Nat) (av6 : Nat) (av7 : Nat) (av8 : Nat) (av9 : Nat) (av10 : Nat) (av11 : Nat) (av12 : Nat) (av13 : Nat) (av14 : Nat) (av15 : Nat) (av16 : Nat) (av17 : Nat) (av18 : Nat) (av19 : Nat) (av20 : Nat) (av21 : Nat) (av22 : Nat) (sz : Nat)  : Met l yX12_readsAll wsX12_readsAll ({ frames := 3, cells := 0, slots := 0, locals := 69 }) (va_Pc [.ref av0] (wpre dC dI cy sz [(av0, .inr (12, [.ref av1, .int 0, .int 0, .ref av2, .ref av3, .ref av4, .ref av5, .int 0, .int 0, .int 0, .int 0, .ref av6, .ref av7, .ref av8, .int 0, .int 0, .int 0, .int 6, .int 0, .int 0, .int 0, .ref av9, .int 0, .ref av10, .int 0, .ref av11, .ref av12, .int 1, .ref av13, .ref av14, .int 0, .int 0, .ref av15, .ref av16, .ref av17, .ref av18, .ref av19, .int 0, .ref av20, .long 0, .ref av21, .ref av22])), (av3, .inl (cy 0, 7, .inl (fun _ => 0)))])) (va_Qi (fun (r : Int32) (_ : ((Nat → Nat) × (Nat → Nat → Int32))) => r = 0) (fun u => wpost dC dI cy (va_A [(av0, .inr (12, [.ref av1, .int 0, .int 0, .ref av2, .ref av3, .ref av4, .ref av5, .int 0, .int 0, .int 0, .int 0, .ref av6, .ref av7, .ref av8, .int 0, .int 0, .int 0, .int 6, .int 0, .int 0, .int 0, .ref av9, .int 0, .ref av10, .int 0, .ref av11, .ref av12, .int 1, .ref av13, .ref av14, .int 0, .int 0, .ref av15, .ref av16, .ref av17, .ref av18, .ref av19, .int 0, .ref av20, .long 0, .ref av21, .ref av22])), (av3, .inl (cy 0, 7, .inl (fun _ => 0)))] sz) [(av0, .inr (12, [.ref av1, .int 0, .int 0, .ref av2, .ref av3, .ref av4, .ref av5, .int 0, .int 0, .int 0, .int 0, .ref av6, .ref av7, .ref av8, .int 0, .int 1, .int 0, .int 6, .int 0, .int 0, .int 0, .ref av9, .int 0, .ref av10, .int 0, .ref av11, .ref av12, .int 1, .ref av13, .ref av14, .int 0, .int 0, .ref av15, .ref av16, .ref av17, .ref av18, .ref av19, .int 0, .ref av20, .long 0, .ref av21, .ref av22])), (av3, .inl (cy 0, 7, .inl (u.2 0)))]) (va_A [(av0, .inr (12, [.ref av1, .int 0, .int 0, .ref av2, .ref av3, .ref av4, .ref av5, .int 0, .int 0, .int 0, .int 0, .ref av6, .ref av7, .ref av8, .int 0, .int 0, .int 0, .int 6, .int 0, .int 0, .int 0, .ref av9, .int 0, .ref av10, .int 0, .ref av11, .ref av12, .int 1, .ref av13, .ref av14, .int 0, .int 0, .ref av15, .ref av16, .ref av17, .ref av18, .ref av19, .int 0, .ref av20, .long 0, .ref av21, .ref av22])), (av3, .inl (cy 0, 7, .inl (fun _ => 0)))] sz)) 0 0 (va_A [(av0, .inr (12, [.ref av1, .int 0, .int 0, .ref av2, .ref av3, .ref av4, .ref av5, .int 0, .int 0, .int 0, .int 0, .ref av6, .ref av7, .ref av8, .int 0, .int 0, .int 0, .int 6, .int 0, .int 0, .int 0, .ref av9, .int 0, .ref av10, .int 0, .ref av11, .ref av12, .int 1, .ref av13, .ref av14, .int 0, .int 0, .ref av15, .ref av16, .ref av17, .ref av18, .ref av19, .int 0, .ref av20, .long 0, .ref av21, .ref av22])), (av3, .inl (cy 0, 7, .inl (fun _ => 0)))] sz) := by
  refine Met.ofW (cc := cX12_readsAll) (maxL := 2) (ret := (some .boolean)) (by decide) rfl ?_
  intro p e s m args below meth c s₁ B hml hv
  obtain ⟨rfl, hsz, hP, hK, hD0⟩ := hv
  have hx := B.exec
  have hb := B.bytes
  have hr := B.returns
  have hlocks := B.notSynchronized
  have hC : CallFix p m c cX12_readsAll 2 s _ wsX12_readsAll RX12 := ⟨hx, hb, hml, findClass_of_methodNamed B.named, atoms_spec (ws := wsX12_readsAll) B.pre⟩
  subst hsz
  have hD := hD0.self (sz := s.heap.size)
  generalize hAe : va_A [(av0, .inr (12, [.ref av1, .int 0, .int 0, .ref av2, .ref av3, .ref av4, .ref av5, .int 0, .int 0, .int 0, .int 0, .ref av6, .ref av7, .ref av8, .int 0, .int 0, .int 0, .int 6, .int 0, .int 0, .int 0, .ref av9, .int 0, .ref av10, .int 0, .ref av11, .ref av12, .int 1, .ref av13, .ref av14, .int 0, .int 0, .ref av15, .ref av16, .ref av17, .ref av18, .ref av19, .int 0, .ref av20, .long 0, .ref av21, .ref av22])), (av3, .inl (cy 0, 7, .inl (fun _ => 0)))] s.heap.size = A at hD ⊢
  have hA : ∀ q : Nat, s.heap.size ≤ q → A q := fun q h => by rw [← hAe]; exact Or.inr h
  have hw : Wd dC dI A s.heap s.heap [] [(av0, .inr (12, [.ref av1, .int 0, .int 0, .ref av2, .ref av3, .ref av4, .ref av5, .int 0, .int 0, .int 0, .int 0, .ref av6, .ref av7, .ref av8, .int 0, .int 0, .int 0, .int 6, .int 0, .int 0, .int 0, .ref av9, .int 0, .ref av10, .int 0, .ref av11, .ref av12, .int 1, .ref av13, .ref av14, .int 0, .int 0, .ref av15, .ref av16, .ref av17, .ref av18, .ref av19, .int 0, .ref av20, .long 0, .ref av21, .ref av22])), (av3, .inl (cy 0, 7, .inl (fun _ => 0)))] := ⟨hP, hD, va_S.rf⟩
  have hl := lv_entry ([.ref av0]) (n := 2) (Nat.le_of_ble_eq_true rfl)
  rw [lg_entry_eq]
  generalize (lg_sl ([.ref av0]) ++ List.replicate (2 - (lg_sl ([.ref av0])).length) Slot.unset).toArray = ls at hl ⊢
  have hl : lv_has ls 2 [(0, .ref av0)] := hl
  have hinX12 : ∀ w ∈ u_ws RX12 TX12 42, w ∈ wsX12_readsAll := fun _ h => List.mem_cons_of_mem _ (List.mem_append_right _ (h))
  refine lv_aload_n hx hb dX12_readsAll_0 rfl (lv_at hl 0 rfl) ?_
  refine wk_get hC hK hw hinX12 0 rfl rfl 4 (by decide) (List.mem_of_getElem? (i := 1) rfl) rfl rfl dX12_readsAll_1 ?_
  refine lv_aload_n hx hb dX12_readsAll_4 rfl (lv_at hl 0 rfl) ?_
  refine wk_get hC hK hw hinX12 0 rfl rfl 17 (by decide) (List.mem_of_getElem? (i := 2) rfl) rfl rfl dX12_readsAll_5 ?_
  refine lv_iconst (v := 0) hx hb dX12_readsAll_8 (by decide) ?_
  refine wk_iast hC hK hw 1 rfl (show ¬ ((6 : Int32) < 0 ∨ 7 ≤ (6 : Int32).toNatClampNeg) by decide) dX12_readsAll_9 (fun H locs hw => ?_)
  obtain ⟨f1, hw⟩ : ∃ f1 : Nat → Int32, Wd dC dI A s.heap H locs [(av0, .inr (12, [.ref av1, .int 0, .int 0, .ref av2, .ref av3, .ref av4, .ref av5, .int 0, .int 0, .int 0, .int 0, .ref av6, .ref av7, .ref av8, .int 0, .int 0, .int 0, .int 6, .int 0, .int 0, .int 0, .ref av9, .int 0, .ref av10, .int 0, .ref av11, .ref av12, .int 1, .ref av13, .ref av14, .int 0, .int 0, .ref av15, .ref av16, .ref av17, .ref av18, .ref av19, .int 0, .ref av20, .long 0, .ref av21, .ref av22])), (av3, .inl (cy 0, 7, .inl f1))] := ⟨_, hw⟩
  refine lv_aload_n hx hb dX12_readsAll_10 rfl (lv_at hl 0 rfl) ?_
  refine lv_iconst (v := 0) hx hb dX12_readsAll_11 (by decide) ?_
  refine wk_put hC hK hw hinX12 tyX12_ok nmX12 0 rfl rfl 20 (by decide) (List.mem_of_getElem? (i := 3) rfl) rfl rfl rfl rfl rfl (Nat.le_of_ble_eq_true rfl) dX12_readsAll_12 (fun H locs hw => ?_)
  have hw : Wd dC dI A s.heap H locs [(av0, .inr (12, [.ref av1, .int 0, .int 0, .ref av2, .ref av3, .ref av4, .ref av5, .int 0, .int 0, .int 0, .int 0, .ref av6, .ref av7, .ref av8, .int 0, .int 0, .int 0, .int 6, .int 0, .int 0, .int 0, .ref av9, .int 0, .ref av10, .int 0, .ref av11, .ref av12, .int 1, .ref av13, .ref av14, .int 0, .int 0, .ref av15, .ref av16, .ref av17, .ref av18, .ref av19, .int 0, .ref av20, .long 0, .ref av21, .ref av22])), (av3, .inl (cy 0, 7, .inl f1))] := hw
  refine lv_aload_n hx hb dX12_readsAll_15 rfl (lv_at hl 0 rfl) ?_
  refine lv_iconst (v := 0) hx hb dX12_readsAll_16 (by decide) ?_
  refine wk_put hC hK hw hinX12 tyX12_ok nmX12 0 rfl rfl 14 (by decide) (List.mem_of_getElem? (i := 4) rfl) rfl rfl rfl rfl rfl (Nat.le_of_ble_eq_true rfl) dX12_readsAll_17 (fun H locs hw => ?_)
  have hw : Wd dC dI A s.heap H locs [(av0, .inr (12, [.ref av1, .int 0, .int 0, .ref av2, .ref av3, .ref av4, .ref av5, .int 0, .int 0, .int 0, .int 0, .ref av6, .ref av7, .ref av8, .int 0, .int 0, .int 0, .int 6, .int 0, .int 0, .int 0, .ref av9, .int 0, .ref av10, .int 0, .ref av11, .ref av12, .int 1, .ref av13, .ref av14, .int 0, .int 0, .ref av15, .ref av16, .ref av17, .ref av18, .ref av19, .int 0, .ref av20, .long 0, .ref av21, .ref av22])), (av3, .inl (cy 0, 7, .inl f1))] := hw
  refine lv_aload_n hx hb dX12_readsAll_20 rfl (lv_at hl 0 rfl) ?_
  refine lv_iconst (v := 0) hx hb dX12_readsAll_21 (by decide) ?_
  refine wk_put hC hK hw hinX12 tyX12_ok nmX12 0 rfl rfl 15 (by decide) (List.mem_of_getElem? (i := 5) rfl) rfl rfl rfl rfl rfl (Nat.le_of_ble_eq_true rfl) dX12_readsAll_22 (fun H locs hw => ?_)
  have hw : Wd dC dI A s.heap H locs [(av0, .inr (12, [.ref av1, .int 0, .int 0, .ref av2, .ref av3, .ref av4, .ref av5, .int 0, .int 0, .int 0, .int 0, .ref av6, .ref av7, .ref av8, .int 0, .int 0, .int 0, .int 6, .int 0, .int 0, .int 0, .ref av9, .int 0, .ref av10, .int 0, .ref av11, .ref av12, .int 1, .ref av13, .ref av14, .int 0, .int 0, .ref av15, .ref av16, .ref av17, .ref av18, .ref av19, .int 0, .ref av20, .long 0, .ref av21, .ref av22])), (av3, .inl (cy 0, 7, .inl f1))] := hw
  refine lv_aload_n hx hb dX12_readsAll_25 rfl (lv_at hl 0 rfl) ?_
  refine lv_iconst (v := 0) hx hb dX12_readsAll_26 (by decide) ?_
  refine wk_put hC hK hw hinX12 tyX12_ok nmX12 0 rfl rfl 18 (by decide) (List.mem_of_getElem? (i := 6) rfl) rfl rfl rfl rfl rfl (Nat.le_of_ble_eq_true rfl) dX12_readsAll_27 (fun H locs hw => ?_)
  have hw : Wd dC dI A s.heap H locs [(av0, .inr (12, [.ref av1, .int 0, .int 0, .ref av2, .ref av3, .ref av4, .ref av5, .int 0, .int 0, .int 0, .int 0, .ref av6, .ref av7, .ref av8, .int 0, .int 0, .int 0, .int 6, .int 0, .int 0, .int 0, .ref av9, .int 0, .ref av10, .int 0, .ref av11, .ref av12, .int 1, .ref av13, .ref av14, .int 0, .int 0, .ref av15, .ref av16, .ref av17, .ref av18, .ref av19, .int 0, .ref av20, .long 0, .ref av21, .ref av22])), (av3, .inl (cy 0, 7, .inl f1))] := hw
  refine lv_aload_n hx hb dX12_readsAll_30 rfl (lv_at hl 0 rfl) ?_
  refine wk_Vi hC hK hw hA [0] [1] rfl rfl rfl rfl (by decide) (c_X12_clauseHere_1 l dC dI cy av0 av1 av2 av3 av4 av5 av6 av7 av8 av9 av10 av11 av12 av13 av14 av15 av16 av17 av18 av19 av20 av21 av22 H.size ) (cwV 0 hC.2.2.2.2 gX12_readsAll_X12_clauseHere rfl rfl rfl (by decide +kernel) ⟨Nat.le_of_ble_eq_true rfl, Nat.le_of_ble_eq_true rfl⟩) rfl 0 rfl rfl hl.1 rfl (Nat.le_of_ble_eq_true rfl) dX12_readsAll_31 0 0 ⟨rfl, rfl⟩ ⟨Nat.le_of_ble_eq_true rfl, Nat.le_of_ble_eq_true rfl⟩ (fun r3 u2 H locs p4 hw => ?_)
  have hw : Wd dC dI A s.heap H locs [(av3, .inl (cy 0, 7, .inl f1)), (av0, .inr (12, [.ref av1, .int 0, .int 0, .ref av2, .ref av3, .ref av4, .ref av5, .int 0, .int 0, .int 0, .int 0, .ref av6, .ref av7, .ref av8, .int 0, .int 1, .int 0, .int 6, .int 0, .int 0, .int 0, .ref av9, .int 0, .ref av10, .int 0, .ref av11, .ref av12, .int 1, .ref av13, .ref av14, .int 0, .int 0, .ref av15, .ref av16, .ref av17, .ref av18, .ref av19, .int 0, .ref av20, .long 0, .ref av21, .ref av22]))] := hw
  obtain rfl : r3 = 0 := p4
  refine lv_istore_n (lv' := [(1, .int 0), (0, .ref av0)]) hx hb dX12_readsAll_34 rfl hl (by decide) rfl (fun ls hl => ?_)
  refine lv_iload_n hx hb dX12_readsAll_35 rfl (lv_at hl 0 rfl) ?_
  refine lv_if_eq (tgt := 66) hx hb dX12_readsAll_36 (by decide) (fun _ => ?_) (fun c => absurd (by decide) c)
  refine lv_iload_n hx hb dX12_readsAll_66 rfl (lv_at hl 0 rfl) ?_
  refine lv_if_eq (tgt := 88) hx hb dX12_readsAll_67 (by decide) (fun _ => ?_) (fun c => absurd (by decide) c)
  refine lv_aload_n hx hb dX12_readsAll_88 rfl (lv_at hl 1 rfl) ?_
  refine lv_iconst (v := 0) hx hb dX12_readsAll_89 (by decide) ?_
  refine wk_put hC hK hw hinX12 tyX12_ok nmX12 1 rfl rfl 1 (by decide) (List.mem_of_getElem? (i := 7) rfl) rfl rfl rfl rfl rfl (Nat.le_of_ble_eq_true rfl) dX12_readsAll_90 (fun H locs hw => ?_)
  have hw : Wd dC dI A s.heap H locs [(av3, .inl (cy 0, 7, .inl f1)), (av0, .inr (12, [.ref av1, .int 0, .int 0, .ref av2, .ref av3, .ref av4, .ref av5, .int 0, .int 0, .int 0, .int 0, .ref av6, .ref av7, .ref av8, .int 0, .int 1, .int 0, .int 6, .int 0, .int 0, .int 0, .ref av9, .int 0, .ref av10, .int 0, .ref av11, .ref av12, .int 1, .ref av13, .ref av14, .int 0, .int 0, .ref av15, .ref av16, .ref av17, .ref av18, .ref av19, .int 0, .ref av20, .long 0, .ref av21, .ref av22]))] := hw
  refine lv_aload_n hx hb dX12_readsAll_93 rfl (lv_at hl 1 rfl) ?_
  refine wk_get hC hK hw hinX12 1 rfl rfl 15 (by decide) (List.mem_of_getElem? (i := 5) rfl) rfl rfl dX12_readsAll_94 ?_
  refine lv_if_ne (tgt := 104) hx hb dX12_readsAll_97 (by decide) (fun _ => ?_) (fun c => absurd (by decide) c)
  refine lv_iconst (v := 0) hx hb dX12_readsAll_104 (by decide) ?_
  exact wk_zret (v := 0) hC hr rfl hlocks hK ((fun _ => 0), (fun k => ([f1] : List (Nat → Int32)).getD k (fun _ => 0))) rfl [1, 0] rfl rfl hw dX12_readsAll_105

set_option maxHeartbeats 4000000 in
set_option maxRecDepth 100000 in
theorem t_X12_town (l : Launch) (dC : Nat → ClassId) (dI : Nat → Nat → Nat) (cy : Nat → ClassId) (av0 : Nat) (ad : Nat → Nat) (sz : Nat)  : Met l yX12_town wsX12_town ({ frames := 4, cells := 0, slots := 0, locals := 90 }) (va_Pc [.ref av0] (wpre dC dI cy sz [(av0, .inr (12, [.ref (ad 0), .int 0, .int 0, .ref (ad 1), .ref (ad 2), .ref (ad 3), .ref (ad 4), .int 0, .int 0, .int 0, .int 0, .ref (ad 5), .ref (ad 6), .ref (ad 7), .int 0, .int 0, .int 0, .int 0, .int 0, .int 0, .int 0, .ref (ad 8), .int 0, .ref (ad 9), .int 0, .ref (ad 10), .ref (ad 11), .int 1, .ref (ad 12), .ref (ad 13), .int 0, .int 0, .ref (ad 14), .ref (ad 15), .ref (ad 16), .ref (ad 17), .ref (ad 18), .int 0, .ref (ad 19), .long 0, .ref (ad 20), .ref (ad 21)])), ((ad 2), .inl (cy 0, 7, .inl (fun _ => 0)))])) (va_Qi (fun (r : Int32) (_ : ((Nat → Nat) × (Nat → Nat → Int32))) => r = (-3)) (fun u => wpost dC dI cy (va_A [(av0, .inr (12, [.ref (ad 0), .int 0, .int 0, .ref (ad 1), .ref (ad 2), .ref (ad 3), .ref (ad 4), .int 0, .int 0, .int 0, .int 0, .ref (ad 5), .ref (ad 6), .ref (ad 7), .int 0, .int 0, .int 0, .int 0, .int 0, .int 0, .int 0, .ref (ad 8), .int 0, .ref (ad 9), .int 0, .ref (ad 10), .ref (ad 11), .int 1, .ref (ad 12), .ref (ad 13), .int 0, .int 0, .ref (ad 14), .ref (ad 15), .ref (ad 16), .ref (ad 17), .ref (ad 18), .int 0, .ref (ad 19), .long 0, .ref (ad 20), .ref (ad 21)])), ((ad 2), .inl (cy 0, 7, .inl (fun _ => 0)))] sz) [(av0, .inr (12, [.ref (ad 0), .int 0, .int 0, .ref (ad 1), .ref (ad 2), .ref (ad 3), .ref (ad 4), .int 0, .int 0, .int 0, .int 0, .ref (ad 5), .ref (ad 6), .ref (ad 7), .int 0, .int 1, .int 0, .int 6, .int 0, .int 0, .int 0, .ref (ad 8), .int 0, .ref (ad 9), .int 0, .ref (ad 10), .ref (ad 11), .int 1, .ref (ad 12), .ref (ad 13), .int 0, .int 0, .ref (ad 14), .ref (ad 15), .ref (ad 16), .ref (ad 17), .ref (ad 18), .int 0, .ref (ad 19), .long 0, .ref (ad 20), .ref (ad 21)])), ((ad 2), .inl (cy 0, 7, .inl (u.2 0)))]) (va_A [(av0, .inr (12, [.ref (ad 0), .int 0, .int 0, .ref (ad 1), .ref (ad 2), .ref (ad 3), .ref (ad 4), .int 0, .int 0, .int 0, .int 0, .ref (ad 5), .ref (ad 6), .ref (ad 7), .int 0, .int 0, .int 0, .int 0, .int 0, .int 0, .int 0, .ref (ad 8), .int 0, .ref (ad 9), .int 0, .ref (ad 10), .ref (ad 11), .int 1, .ref (ad 12), .ref (ad 13), .int 0, .int 0, .ref (ad 14), .ref (ad 15), .ref (ad 16), .ref (ad 17), .ref (ad 18), .int 0, .ref (ad 19), .long 0, .ref (ad 20), .ref (ad 21)])), ((ad 2), .inl (cy 0, 7, .inl (fun _ => 0)))] sz)) 0 0 (va_A [(av0, .inr (12, [.ref (ad 0), .int 0, .int 0, .ref (ad 1), .ref (ad 2), .ref (ad 3), .ref (ad 4), .int 0, .int 0, .int 0, .int 0, .ref (ad 5), .ref (ad 6), .ref (ad 7), .int 0, .int 0, .int 0, .int 0, .int 0, .int 0, .int 0, .ref (ad 8), .int 0, .ref (ad 9), .int 0, .ref (ad 10), .ref (ad 11), .int 1, .ref (ad 12), .ref (ad 13), .int 0, .int 0, .ref (ad 14), .ref (ad 15), .ref (ad 16), .ref (ad 17), .ref (ad 18), .int 0, .ref (ad 19), .long 0, .ref (ad 20), .ref (ad 21)])), ((ad 2), .inl (cy 0, 7, .inl (fun _ => 0)))] sz) := by
  refine Met.ofW (cc := cX12_town) (maxL := 3) (ret := (some .int)) (by decide) rfl ?_
  intro p e s m args below meth c s₁ B hml hv
  obtain ⟨rfl, hsz, hP, hK, hD0⟩ := hv
  have hx := B.exec
  have hb := B.bytes
  have hr := B.returns
  have hlocks := B.notSynchronized
  have hC : CallFix p m c cX12_town 3 s _ wsX12_town RX12 := ⟨hx, hb, hml, findClass_of_methodNamed B.named, atoms_spec (ws := wsX12_town) B.pre⟩
  subst hsz
  have hD := hD0.self (sz := s.heap.size)
  generalize hAe : va_A [(av0, .inr (12, [.ref (ad 0), .int 0, .int 0, .ref (ad 1), .ref (ad 2), .ref (ad 3), .ref (ad 4), .int 0, .int 0, .int 0, .int 0, .ref (ad 5), .ref (ad 6), .ref (ad 7), .int 0, .int 0, .int 0, .int 0, .int 0, .int 0, .int 0, .ref (ad 8), .int 0, .ref (ad 9), .int 0, .ref (ad 10), .ref (ad 11), .int 1, .ref (ad 12), .ref (ad 13), .int 0, .int 0, .ref (ad 14), .ref (ad 15), .ref (ad 16), .ref (ad 17), .ref (ad 18), .int 0, .ref (ad 19), .long 0, .ref (ad 20), .ref (ad 21)])), ((ad 2), .inl (cy 0, 7, .inl (fun _ => 0)))] s.heap.size = A at hD ⊢
  have hA : ∀ q : Nat, s.heap.size ≤ q → A q := fun q h => by rw [← hAe]; exact Or.inr h
  have hw : Wd dC dI A s.heap s.heap [] [(av0, .inr (12, [.ref (ad 0), .int 0, .int 0, .ref (ad 1), .ref (ad 2), .ref (ad 3), .ref (ad 4), .int 0, .int 0, .int 0, .int 0, .ref (ad 5), .ref (ad 6), .ref (ad 7), .int 0, .int 0, .int 0, .int 0, .int 0, .int 0, .int 0, .ref (ad 8), .int 0, .ref (ad 9), .int 0, .ref (ad 10), .ref (ad 11), .int 1, .ref (ad 12), .ref (ad 13), .int 0, .int 0, .ref (ad 14), .ref (ad 15), .ref (ad 16), .ref (ad 17), .ref (ad 18), .int 0, .ref (ad 19), .long 0, .ref (ad 20), .ref (ad 21)])), ((ad 2), .inl (cy 0, 7, .inl (fun _ => 0)))] := ⟨hP, hD, va_S.rf⟩
  have hl := lv_entry ([.ref av0]) (n := 3) (Nat.le_of_ble_eq_true rfl)
  rw [lg_entry_eq]
  generalize (lg_sl ([.ref av0]) ++ List.replicate (3 - (lg_sl ([.ref av0])).length) Slot.unset).toArray = ls at hl ⊢
  have hl : lv_has ls 3 [(0, .ref av0)] := hl
  have hinX12 : ∀ w ∈ u_ws RX12 TX12 42, w ∈ wsX12_town := fun _ h => List.mem_cons_of_mem _ (List.mem_append_right _ (h))
  refine lv_aload_n hx hb dX12_town_0 rfl (lv_at hl 0 rfl) ?_
  refine lv_bipush (v := 6) hx hb dX12_town_1 (by decide) ?_
  refine wk_put hC hK hw hinX12 tyX12_ok nmX12 0 rfl rfl 17 (by decide) (List.mem_of_getElem? (i := 1) rfl) rfl rfl rfl rfl rfl (Nat.le_of_ble_eq_true rfl) dX12_town_3 (fun H locs hw => ?_)
  have hw : Wd dC dI A s.heap H locs [(av0, .inr (12, [.ref (ad 0), .int 0, .int 0, .ref (ad 1), .ref (ad 2), .ref (ad 3), .ref (ad 4), .int 0, .int 0, .int 0, .int 0, .ref (ad 5), .ref (ad 6), .ref (ad 7), .int 0, .int 0, .int 0, .int 6, .int 0, .int 0, .int 0, .ref (ad 8), .int 0, .ref (ad 9), .int 0, .ref (ad 10), .ref (ad 11), .int 1, .ref (ad 12), .ref (ad 13), .int 0, .int 0, .ref (ad 14), .ref (ad 15), .ref (ad 16), .ref (ad 17), .ref (ad 18), .int 0, .ref (ad 19), .long 0, .ref (ad 20), .ref (ad 21)])), ((ad 2), .inl (cy 0, 7, .inl (fun _ => 0)))] := hw
  refine lv_aload_n hx hb dX12_town_6 rfl (lv_at hl 0 rfl) ?_
  refine lv_iconst (v := 0) hx hb dX12_town_7 (by decide) ?_
  refine wk_put hC hK hw hinX12 tyX12_ok nmX12 0 rfl rfl 7 (by decide) (List.mem_of_getElem? (i := 2) rfl) rfl rfl rfl rfl rfl (Nat.le_of_ble_eq_true rfl) dX12_town_8 (fun H locs hw => ?_)
  have hw : Wd dC dI A s.heap H locs [(av0, .inr (12, [.ref (ad 0), .int 0, .int 0, .ref (ad 1), .ref (ad 2), .ref (ad 3), .ref (ad 4), .int 0, .int 0, .int 0, .int 0, .ref (ad 5), .ref (ad 6), .ref (ad 7), .int 0, .int 0, .int 0, .int 6, .int 0, .int 0, .int 0, .ref (ad 8), .int 0, .ref (ad 9), .int 0, .ref (ad 10), .ref (ad 11), .int 1, .ref (ad 12), .ref (ad 13), .int 0, .int 0, .ref (ad 14), .ref (ad 15), .ref (ad 16), .ref (ad 17), .ref (ad 18), .int 0, .ref (ad 19), .long 0, .ref (ad 20), .ref (ad 21)])), ((ad 2), .inl (cy 0, 7, .inl (fun _ => 0)))] := hw
  refine lv_aload_n hx hb dX12_town_11 rfl (lv_at hl 0 rfl) ?_
  refine lv_iconst (v := 0) hx hb dX12_town_12 (by decide) ?_
  refine wk_put hC hK hw hinX12 tyX12_ok nmX12 0 rfl rfl 8 (by decide) (List.mem_of_getElem? (i := 3) rfl) rfl rfl rfl rfl rfl (Nat.le_of_ble_eq_true rfl) dX12_town_13 (fun H locs hw => ?_)
  have hw : Wd dC dI A s.heap H locs [(av0, .inr (12, [.ref (ad 0), .int 0, .int 0, .ref (ad 1), .ref (ad 2), .ref (ad 3), .ref (ad 4), .int 0, .int 0, .int 0, .int 0, .ref (ad 5), .ref (ad 6), .ref (ad 7), .int 0, .int 0, .int 0, .int 6, .int 0, .int 0, .int 0, .ref (ad 8), .int 0, .ref (ad 9), .int 0, .ref (ad 10), .ref (ad 11), .int 1, .ref (ad 12), .ref (ad 13), .int 0, .int 0, .ref (ad 14), .ref (ad 15), .ref (ad 16), .ref (ad 17), .ref (ad 18), .int 0, .ref (ad 19), .long 0, .ref (ad 20), .ref (ad 21)])), ((ad 2), .inl (cy 0, 7, .inl (fun _ => 0)))] := hw
  refine lv_aload_n hx hb dX12_town_16 rfl (lv_at hl 0 rfl) ?_
  refine lv_iconst (v := 0) hx hb dX12_town_17 (by decide) ?_
  refine wk_put hC hK hw hinX12 tyX12_ok nmX12 0 rfl rfl 9 (by decide) (List.mem_of_getElem? (i := 4) rfl) rfl rfl rfl rfl rfl (Nat.le_of_ble_eq_true rfl) dX12_town_18 (fun H locs hw => ?_)
  have hw : Wd dC dI A s.heap H locs [(av0, .inr (12, [.ref (ad 0), .int 0, .int 0, .ref (ad 1), .ref (ad 2), .ref (ad 3), .ref (ad 4), .int 0, .int 0, .int 0, .int 0, .ref (ad 5), .ref (ad 6), .ref (ad 7), .int 0, .int 0, .int 0, .int 6, .int 0, .int 0, .int 0, .ref (ad 8), .int 0, .ref (ad 9), .int 0, .ref (ad 10), .ref (ad 11), .int 1, .ref (ad 12), .ref (ad 13), .int 0, .int 0, .ref (ad 14), .ref (ad 15), .ref (ad 16), .ref (ad 17), .ref (ad 18), .int 0, .ref (ad 19), .long 0, .ref (ad 20), .ref (ad 21)])), ((ad 2), .inl (cy 0, 7, .inl (fun _ => 0)))] := hw
  refine lv_aload_n hx hb dX12_town_21 rfl (lv_at hl 0 rfl) ?_
  refine lv_iconst (v := 0) hx hb dX12_town_22 (by decide) ?_
  refine wk_put hC hK hw hinX12 tyX12_ok nmX12 0 rfl rfl 10 (by decide) (List.mem_of_getElem? (i := 5) rfl) rfl rfl rfl rfl rfl (Nat.le_of_ble_eq_true rfl) dX12_town_23 (fun H locs hw => ?_)
  have hw : Wd dC dI A s.heap H locs [(av0, .inr (12, [.ref (ad 0), .int 0, .int 0, .ref (ad 1), .ref (ad 2), .ref (ad 3), .ref (ad 4), .int 0, .int 0, .int 0, .int 0, .ref (ad 5), .ref (ad 6), .ref (ad 7), .int 0, .int 0, .int 0, .int 6, .int 0, .int 0, .int 0, .ref (ad 8), .int 0, .ref (ad 9), .int 0, .ref (ad 10), .ref (ad 11), .int 1, .ref (ad 12), .ref (ad 13), .int 0, .int 0, .ref (ad 14), .ref (ad 15), .ref (ad 16), .ref (ad 17), .ref (ad 18), .int 0, .ref (ad 19), .long 0, .ref (ad 20), .ref (ad 21)])), ((ad 2), .inl (cy 0, 7, .inl (fun _ => 0)))] := hw
  refine lv_aload_n hx hb dX12_town_26 rfl (lv_at hl 0 rfl) ?_
  refine wk_Vi hC hK hw hA [0, 1] [] rfl rfl rfl rfl (by decide) (c_X12_readsAll_1 l dC dI cy av0 (ad 0) (ad 1) (ad 2) (ad 3) (ad 4) (ad 5) (ad 6) (ad 7) (ad 8) (ad 9) (ad 10) (ad 11) (ad 12) (ad 13) (ad 14) (ad 15) (ad 16) (ad 17) (ad 18) (ad 19) (ad 20) (ad 21) H.size ) (cwV 0 hC.2.2.2.2 gX12_town_X12_readsAll rfl rfl rfl (by decide +kernel) ⟨Nat.le_of_ble_eq_true rfl, Nat.le_of_ble_eq_true rfl⟩) rfl 0 rfl rfl hl.1 rfl (Nat.le_of_ble_eq_true rfl) dX12_town_27 0 0 ⟨rfl, rfl⟩ ⟨Nat.le_of_ble_eq_true rfl, Nat.le_of_ble_eq_true rfl⟩ (fun r2 u1 H locs p3 hw => ?_)
  have hw : Wd dC dI A s.heap H locs [(av0, .inr (12, [.ref (ad 0), .int 0, .int 0, .ref (ad 1), .ref (ad 2), .ref (ad 3), .ref (ad 4), .int 0, .int 0, .int 0, .int 0, .ref (ad 5), .ref (ad 6), .ref (ad 7), .int 0, .int 1, .int 0, .int 6, .int 0, .int 0, .int 0, .ref (ad 8), .int 0, .ref (ad 9), .int 0, .ref (ad 10), .ref (ad 11), .int 1, .ref (ad 12), .ref (ad 13), .int 0, .int 0, .ref (ad 14), .ref (ad 15), .ref (ad 16), .ref (ad 17), .ref (ad 18), .int 0, .ref (ad 19), .long 0, .ref (ad 20), .ref (ad 21)])), ((ad 2), .inl (cy 0, 7, .inl (u1.2 0)))] := hw
  obtain rfl : r2 = 0 := p3
  refine lv_if_ne (tgt := 41) hx hb dX12_town_30 (by decide) (fun c => absurd c (by decide)) (fun _ => ?_)
  refine lv_bipush (v := (-2)) hx hb dX12_town_33 (by decide) ?_
  refine lv_aload_n hx hb dX12_town_35 rfl (lv_at hl 0 rfl) ?_
  refine wk_get hC hK hw hinX12 0 rfl rfl 15 (by decide) (List.mem_of_getElem? (i := 6) rfl) rfl rfl dX12_town_36 ?_
  refine lv_isub hx hb dX12_town_39 ?_
  refine wk_top (-3) (by decide) ?_
  exact wk_iret (v := (-3)) hC hr hlocks hK ((fun _ => 0), (fun k => ([(u1.2 0)] : List (Nat → Int32)).getD k (fun _ => 0))) rfl [0, 1] rfl rfl hw dX12_town_40

set_option maxHeartbeats 4000000 in
set_option maxRecDepth 100000 in
theorem c_X12_see_2 (l : Launch) (dC : Nat → ClassId) (dI : Nat → Nat → Nat) (cy : Nat → ClassId) (av0 : Nat) (av1 : Nat) (av2 : Nat) (av3 : Nat) (av4 : Nat) (av5 : Nat) (av6 : Nat) (av7 : Nat) (av8 : Nat) (av9 : Nat) (av10 : Nat) (av11 : Nat) (av12 : Nat) (av13 : Nat) (av14 : Nat) (av15 : Nat) (av16 : Nat) (av17 : Nat) (av18 : Nat) (av19 : Nat) (av20 : Nat) (av21 : Nat) (av22 : Nat) (sz : Nat)  : Met l yX12_see wsX12_see ({ frames := 0, cells := 0, slots := 0, locals := 0 }) (va_Pc [.ref av0] (wpre dC dI cy sz [(av0, .inr (12, [.ref av1, .int 0, .int 0, .ref av2, .ref av3, .ref av4, .ref av5, .int 0, .int 0, .int 0, .int 0, .ref av6, .ref av7, .ref av8, .int 0, .int 0, .int 0, .int 0, .int 0, .int 0, .int 0, .ref av9, .int 0, .ref av10, .int 0, .ref av11, .ref av12, .int 1, .ref av13, .ref av14, .int 0, .int 0, .ref av15, .ref av16, .ref av17, .ref av18, .ref av19, .int 0, .ref av20, .long 0, .ref av21, .ref av22]))])) (va_Qi (fun (r : Int32) (_ : ((Nat → Nat) × (Nat → Nat → Int32))) => r = (-1)) (fun u => wpost dC dI cy (va_A [(av0, .inr (12, [.ref av1, .int 0, .int 0, .ref av2, .ref av3, .ref av4, .ref av5, .int 0, .int 0, .int 0, .int 0, .ref av6, .ref av7, .ref av8, .int 0, .int 0, .int 0, .int 0, .int 0, .int 0, .int 0, .ref av9, .int 0, .ref av10, .int 0, .ref av11, .ref av12, .int 1, .ref av13, .ref av14, .int 0, .int 0, .ref av15, .ref av16, .ref av17, .ref av18, .ref av19, .int 0, .ref av20, .long 0, .ref av21, .ref av22]))] sz) [(av0, .inr (12, [.ref av1, .int 0, .int 0, .ref av2, .ref av3, .ref av4, .ref av5, .int 0, .int 0, .int 0, .int 0, .ref av6, .ref av7, .ref av8, .int 0, .int 0, .int 0, .int 0, .int 0, .int 0, .int 0, .ref av9, .int 0, .ref av10, .int 0, .ref av11, .ref av12, .int 1, .ref av13, .ref av14, .int 0, .int 0, .ref av15, .ref av16, .ref av17, .ref av18, .ref av19, .int 0, .ref av20, .long 0, .ref av21, .ref av22]))]) (va_A [(av0, .inr (12, [.ref av1, .int 0, .int 0, .ref av2, .ref av3, .ref av4, .ref av5, .int 0, .int 0, .int 0, .int 0, .ref av6, .ref av7, .ref av8, .int 0, .int 0, .int 0, .int 0, .int 0, .int 0, .int 0, .ref av9, .int 0, .ref av10, .int 0, .ref av11, .ref av12, .int 1, .ref av13, .ref av14, .int 0, .int 0, .ref av15, .ref av16, .ref av17, .ref av18, .ref av19, .int 0, .ref av20, .long 0, .ref av21, .ref av22]))] sz)) 0 0 (va_A [(av0, .inr (12, [.ref av1, .int 0, .int 0, .ref av2, .ref av3, .ref av4, .ref av5, .int 0, .int 0, .int 0, .int 0, .ref av6, .ref av7, .ref av8, .int 0, .int 0, .int 0, .int 0, .int 0, .int 0, .int 0, .ref av9, .int 0, .ref av10, .int 0, .ref av11, .ref av12, .int 1, .ref av13, .ref av14, .int 0, .int 0, .ref av15, .ref av16, .ref av17, .ref av18, .ref av19, .int 0, .ref av20, .long 0, .ref av21, .ref av22]))] sz) := by
  refine Met.ofW (cc := cX12_see) (maxL := 1) (ret := (some .int)) (by decide) rfl ?_
  intro p e s m args below meth c s₁ B hml hv
  obtain ⟨rfl, hsz, hP, hK, hD0⟩ := hv
  have hx := B.exec
  have hb := B.bytes
  have hr := B.returns
  have hlocks := B.notSynchronized
  have hC : CallFix p m c cX12_see 1 s _ wsX12_see RX12 := ⟨hx, hb, hml, findClass_of_methodNamed B.named, atoms_spec (ws := wsX12_see) B.pre⟩
  subst hsz
  have hD := hD0.self (sz := s.heap.size)
  generalize hAe : va_A [(av0, .inr (12, [.ref av1, .int 0, .int 0, .ref av2, .ref av3, .ref av4, .ref av5, .int 0, .int 0, .int 0, .int 0, .ref av6, .ref av7, .ref av8, .int 0, .int 0, .int 0, .int 0, .int 0, .int 0, .int 0, .ref av9, .int 0, .ref av10, .int 0, .ref av11, .ref av12, .int 1, .ref av13, .ref av14, .int 0, .int 0, .ref av15, .ref av16, .ref av17, .ref av18, .ref av19, .int 0, .ref av20, .long 0, .ref av21, .ref av22]))] s.heap.size = A at hD ⊢
  have hA : ∀ q : Nat, s.heap.size ≤ q → A q := fun q h => by rw [← hAe]; exact Or.inr h
  have hw : Wd dC dI A s.heap s.heap [] [(av0, .inr (12, [.ref av1, .int 0, .int 0, .ref av2, .ref av3, .ref av4, .ref av5, .int 0, .int 0, .int 0, .int 0, .ref av6, .ref av7, .ref av8, .int 0, .int 0, .int 0, .int 0, .int 0, .int 0, .int 0, .ref av9, .int 0, .ref av10, .int 0, .ref av11, .ref av12, .int 1, .ref av13, .ref av14, .int 0, .int 0, .ref av15, .ref av16, .ref av17, .ref av18, .ref av19, .int 0, .ref av20, .long 0, .ref av21, .ref av22]))] := ⟨hP, hD, va_S.rf⟩
  have hl := lv_entry ([.ref av0]) (n := 1) (Nat.le_of_ble_eq_true rfl)
  rw [lg_entry_eq]
  generalize (lg_sl ([.ref av0]) ++ List.replicate (1 - (lg_sl ([.ref av0])).length) Slot.unset).toArray = ls at hl ⊢
  have hl : lv_has ls 1 [(0, .ref av0)] := hl
  have hinX12 : ∀ w ∈ u_ws RX12 TX12 42, w ∈ wsX12_see := fun _ h => List.mem_cons_of_mem _ (List.mem_append_right _ (h))
  refine lv_aload_n hx hb dX12_see_0 rfl (lv_at hl 0 rfl) ?_
  refine wk_get hC hK hw hinX12 0 rfl rfl 14 (by decide) (List.mem_of_getElem? (i := 1) rfl) rfl rfl dX12_see_1 ?_
  refine lv_aload_n hx hb dX12_see_4 rfl (lv_at hl 0 rfl) ?_
  refine wk_get hC hK hw hinX12 0 rfl rfl 1 (by decide) (List.mem_of_getElem? (i := 2) rfl) rfl rfl dX12_see_5 ?_
  refine lv_icmp_ge (tgt := 38) hx hb dX12_see_8 (by decide) (fun _ => ?_) (fun c => absurd (by decide) c)
  refine lv_aload_n hx hb dX12_see_38 rfl (lv_at hl 0 rfl) ?_
  refine wk_get hC hK hw hinX12 0 rfl rfl 14 (by decide) (List.mem_of_getElem? (i := 1) rfl) rfl rfl dX12_see_39 ?_
  refine lv_aload_n hx hb dX12_see_42 rfl (lv_at hl 0 rfl) ?_
  refine wk_get hC hK hw hinX12 0 rfl rfl 1 (by decide) (List.mem_of_getElem? (i := 2) rfl) rfl rfl dX12_see_43 ?_
  refine lv_icmp_ge (tgt := 65) hx hb dX12_see_46 (by decide) (fun _ => ?_) (fun c => absurd (by decide) c)
  refine lv_iconst (v := (-1)) hx hb dX12_see_65 (by decide) ?_
  exact wk_iret (v := (-1)) hC hr hlocks hK ((fun _ => 0), (fun _ _ => 0)) rfl [0] rfl rfl hw dX12_see_66

set_option maxHeartbeats 4000000 in
set_option maxRecDepth 100000 in
theorem c_X12_isLetter_2 (l : Launch) (dC : Nat → ClassId) (dI : Nat → Nat → Nat) (cy : Nat → ClassId) (av0 : Nat) (av1 : Nat) (av2 : Nat) (av3 : Nat) (av4 : Nat) (av5 : Nat) (av6 : Nat) (av7 : Nat) (av8 : Nat) (av9 : Nat) (av10 : Nat) (av11 : Nat) (av12 : Nat) (av13 : Nat) (av14 : Nat) (av15 : Nat) (av16 : Nat) (av17 : Nat) (av18 : Nat) (av19 : Nat) (av20 : Nat) (av21 : Nat) (av22 : Nat) (sz : Nat)  : Met l yX12_isLetter wsX12_isLetter ({ frames := 0, cells := 0, slots := 0, locals := 0 }) (va_Pc [.ref av0, .int 0] (wpre dC dI cy sz [(av0, .inr (12, [.ref av1, .int 0, .int 0, .ref av2, .ref av3, .ref av4, .ref av5, .int 0, .int 0, .int 0, .int 0, .ref av6, .ref av7, .ref av8, .int 0, .int 0, .int 0, .int 0, .int 0, .int 0, .int 0, .ref av9, .int 0, .ref av10, .int 0, .ref av11, .ref av12, .int 1, .ref av13, .ref av14, .int 0, .int 0, .ref av15, .ref av16, .ref av17, .ref av18, .ref av19, .int 0, .ref av20, .long 0, .ref av21, .ref av22]))])) (va_Qi (fun (r : Int32) (_ : ((Nat → Nat) × (Nat → Nat → Int32))) => r = 0) (fun u => wpost dC dI cy (va_A [(av0, .inr (12, [.ref av1, .int 0, .int 0, .ref av2, .ref av3, .ref av4, .ref av5, .int 0, .int 0, .int 0, .int 0, .ref av6, .ref av7, .ref av8, .int 0, .int 0, .int 0, .int 0, .int 0, .int 0, .int 0, .ref av9, .int 0, .ref av10, .int 0, .ref av11, .ref av12, .int 1, .ref av13, .ref av14, .int 0, .int 0, .ref av15, .ref av16, .ref av17, .ref av18, .ref av19, .int 0, .ref av20, .long 0, .ref av21, .ref av22]))] sz) [(av0, .inr (12, [.ref av1, .int 0, .int 0, .ref av2, .ref av3, .ref av4, .ref av5, .int 0, .int 0, .int 0, .int 0, .ref av6, .ref av7, .ref av8, .int 0, .int 0, .int 0, .int 0, .int 0, .int 0, .int 0, .ref av9, .int 0, .ref av10, .int 0, .ref av11, .ref av12, .int 1, .ref av13, .ref av14, .int 0, .int 0, .ref av15, .ref av16, .ref av17, .ref av18, .ref av19, .int 0, .ref av20, .long 0, .ref av21, .ref av22]))]) (va_A [(av0, .inr (12, [.ref av1, .int 0, .int 0, .ref av2, .ref av3, .ref av4, .ref av5, .int 0, .int 0, .int 0, .int 0, .ref av6, .ref av7, .ref av8, .int 0, .int 0, .int 0, .int 0, .int 0, .int 0, .int 0, .ref av9, .int 0, .ref av10, .int 0, .ref av11, .ref av12, .int 1, .ref av13, .ref av14, .int 0, .int 0, .ref av15, .ref av16, .ref av17, .ref av18, .ref av19, .int 0, .ref av20, .long 0, .ref av21, .ref av22]))] sz)) 0 0 (va_A [(av0, .inr (12, [.ref av1, .int 0, .int 0, .ref av2, .ref av3, .ref av4, .ref av5, .int 0, .int 0, .int 0, .int 0, .ref av6, .ref av7, .ref av8, .int 0, .int 0, .int 0, .int 0, .int 0, .int 0, .int 0, .ref av9, .int 0, .ref av10, .int 0, .ref av11, .ref av12, .int 1, .ref av13, .ref av14, .int 0, .int 0, .ref av15, .ref av16, .ref av17, .ref av18, .ref av19, .int 0, .ref av20, .long 0, .ref av21, .ref av22]))] sz) := by
  refine Met.ofW (cc := cX12_isLetter) (maxL := 2) (ret := (some .boolean)) (by decide) rfl ?_
  intro p e s m args below meth c s₁ B hml hv
  obtain ⟨rfl, hsz, hP, hK, hD0⟩ := hv
  have hx := B.exec
  have hb := B.bytes
  have hr := B.returns
  have hlocks := B.notSynchronized
  have hC : CallFix p m c cX12_isLetter 2 s _ wsX12_isLetter RX12 := ⟨hx, hb, hml, findClass_of_methodNamed B.named, atoms_spec (ws := wsX12_isLetter) B.pre⟩
  subst hsz
  have hD := hD0.self (sz := s.heap.size)
  generalize hAe : va_A [(av0, .inr (12, [.ref av1, .int 0, .int 0, .ref av2, .ref av3, .ref av4, .ref av5, .int 0, .int 0, .int 0, .int 0, .ref av6, .ref av7, .ref av8, .int 0, .int 0, .int 0, .int 0, .int 0, .int 0, .int 0, .ref av9, .int 0, .ref av10, .int 0, .ref av11, .ref av12, .int 1, .ref av13, .ref av14, .int 0, .int 0, .ref av15, .ref av16, .ref av17, .ref av18, .ref av19, .int 0, .ref av20, .long 0, .ref av21, .ref av22]))] s.heap.size = A at hD ⊢
  have hA : ∀ q : Nat, s.heap.size ≤ q → A q := fun q h => by rw [← hAe]; exact Or.inr h
  have hw : Wd dC dI A s.heap s.heap [] [(av0, .inr (12, [.ref av1, .int 0, .int 0, .ref av2, .ref av3, .ref av4, .ref av5, .int 0, .int 0, .int 0, .int 0, .ref av6, .ref av7, .ref av8, .int 0, .int 0, .int 0, .int 0, .int 0, .int 0, .int 0, .ref av9, .int 0, .ref av10, .int 0, .ref av11, .ref av12, .int 1, .ref av13, .ref av14, .int 0, .int 0, .ref av15, .ref av16, .ref av17, .ref av18, .ref av19, .int 0, .ref av20, .long 0, .ref av21, .ref av22]))] := ⟨hP, hD, va_S.rf⟩
  have hl := lv_entry ([.ref av0, .int 0]) (n := 2) (Nat.le_of_ble_eq_true rfl)
  rw [lg_entry_eq]
  generalize (lg_sl ([.ref av0, .int 0]) ++ List.replicate (2 - (lg_sl ([.ref av0, .int 0])).length) Slot.unset).toArray = ls at hl ⊢
  have hl : lv_has ls 2 [(0, .ref av0), (1, .int 0)] := hl
  have hinX12 : ∀ w ∈ u_ws RX12 TX12 42, w ∈ wsX12_isLetter := fun _ h => List.mem_cons_of_mem _ (List.mem_append_right _ (h))
  refine lv_iload_n hx hb dX12_isLetter_0 rfl (lv_at hl 1 rfl) ?_
  refine lv_aload_n hx hb dX12_isLetter_1 rfl (lv_at hl 0 rfl) ?_
  refine wk_get hC hK hw hinX12 0 rfl rfl 1 (by decide) (List.mem_of_getElem? (i := 1) rfl) rfl rfl dX12_isLetter_2 ?_
  refine lv_icmp_ge (tgt := 34) hx hb dX12_isLetter_5 (by decide) (fun _ => ?_) (fun c => absurd (by decide) c)
  refine lv_iconst (v := 0) hx hb dX12_isLetter_34 (by decide) ?_
  exact wk_zret (v := 0) hC hr rfl hlocks hK ((fun _ => 0), (fun _ _ => 0)) rfl [0] rfl rfl hw dX12_isLetter_35

set_option maxHeartbeats 4000000 in
set_option maxRecDepth 100000 in
theorem c_X12_isWord_5 (l : Launch) (dC : Nat → ClassId) (dI : Nat → Nat → Nat) (cy : Nat → ClassId) (av0 : Nat) (av1 : Nat) (av2 : Nat) (av3 : Nat) (av4 : Nat) (av5 : Nat) (av6 : Nat) (av7 : Nat) (av8 : Nat) (av9 : Nat) (av10 : Nat) (av11 : Nat) (av12 : Nat) (av13 : Nat) (av14 : Nat) (av15 : Nat) (av16 : Nat) (av17 : Nat) (av18 : Nat) (av19 : Nat) (av20 : Nat) (av21 : Nat) (av22 : Nat) (sz : Nat)  : Met l yX12_isWord wsX12_isWord ({ frames := 1, cells := 0, slots := 0, locals := 21 }) (va_Pc [.ref av0, .long 26479] (wpre dC dI cy sz [(av0, .inr (12, [.ref av1, .int 0, .int 0, .ref av2, .ref av3, .ref av4, .ref av5, .int 0, .int 0, .int 0, .int 0, .ref av6, .ref av7, .ref av8, .int 0, .int 0, .int 0, .int 0, .int 0, .int 0, .int 0, .ref av9, .int 0, .ref av10, .int 0, .ref av11, .ref av12, .int 1, .ref av13, .ref av14, .int 0, .int 0, .ref av15, .ref av16, .ref av17, .ref av18, .ref av19, .int 0, .ref av20, .long 0, .ref av21, .ref av22]))])) (va_Qi (fun (r : Int32) (_ : ((Nat → Nat) × (Nat → Nat → Int32))) => r = 0) (fun u => wpost dC dI cy (va_A [(av0, .inr (12, [.ref av1, .int 0, .int 0, .ref av2, .ref av3, .ref av4, .ref av5, .int 0, .int 0, .int 0, .int 0, .ref av6, .ref av7, .ref av8, .int 0, .int 0, .int 0, .int 0, .int 0, .int 0, .int 0, .ref av9, .int 0, .ref av10, .int 0, .ref av11, .ref av12, .int 1, .ref av13, .ref av14, .int 0, .int 0, .ref av15, .ref av16, .ref av17, .ref av18, .ref av19, .int 0, .ref av20, .long 0, .ref av21, .ref av22]))] sz) [(av0, .inr (12, [.ref av1, .int 0, .int 0, .ref av2, .ref av3, .ref av4, .ref av5, .int 0, .int 0, .int 0, .int 0, .ref av6, .ref av7, .ref av8, .int 0, .int 0, .int 0, .int 0, .int 0, .int 0, .int 0, .ref av9, .int 0, .ref av10, .int 0, .ref av11, .ref av12, .int 1, .ref av13, .ref av14, .int 0, .int 0, .ref av15, .ref av16, .ref av17, .ref av18, .ref av19, .int 0, .ref av20, .long 0, .ref av21, .ref av22]))]) (va_A [(av0, .inr (12, [.ref av1, .int 0, .int 0, .ref av2, .ref av3, .ref av4, .ref av5, .int 0, .int 0, .int 0, .int 0, .ref av6, .ref av7, .ref av8, .int 0, .int 0, .int 0, .int 0, .int 0, .int 0, .int 0, .ref av9, .int 0, .ref av10, .int 0, .ref av11, .ref av12, .int 1, .ref av13, .ref av14, .int 0, .int 0, .ref av15, .ref av16, .ref av17, .ref av18, .ref av19, .int 0, .ref av20, .long 0, .ref av21, .ref av22]))] sz)) 0 0 (va_A [(av0, .inr (12, [.ref av1, .int 0, .int 0, .ref av2, .ref av3, .ref av4, .ref av5, .int 0, .int 0, .int 0, .int 0, .ref av6, .ref av7, .ref av8, .int 0, .int 0, .int 0, .int 0, .int 0, .int 0, .int 0, .ref av9, .int 0, .ref av10, .int 0, .ref av11, .ref av12, .int 1, .ref av13, .ref av14, .int 0, .int 0, .ref av15, .ref av16, .ref av17, .ref av18, .ref av19, .int 0, .ref av20, .long 0, .ref av21, .ref av22]))] sz) := by
  refine Met.ofW (cc := cX12_isWord) (maxL := 6) (ret := (some .boolean)) (by decide) rfl ?_
  intro p e s m args below meth c s₁ B hml hv
  obtain ⟨rfl, hsz, hP, hK, hD0⟩ := hv
  have hx := B.exec
  have hb := B.bytes
  have hr := B.returns
  have hlocks := B.notSynchronized
  have hC : CallFix p m c cX12_isWord 6 s _ wsX12_isWord RX12 := ⟨hx, hb, hml, findClass_of_methodNamed B.named, atoms_spec (ws := wsX12_isWord) B.pre⟩
  subst hsz
  have hD := hD0.self (sz := s.heap.size)
  generalize hAe : va_A [(av0, .inr (12, [.ref av1, .int 0, .int 0, .ref av2, .ref av3, .ref av4, .ref av5, .int 0, .int 0, .int 0, .int 0, .ref av6, .ref av7, .ref av8, .int 0, .int 0, .int 0, .int 0, .int 0, .int 0, .int 0, .ref av9, .int 0, .ref av10, .int 0, .ref av11, .ref av12, .int 1, .ref av13, .ref av14, .int 0, .int 0, .ref av15, .ref av16, .ref av17, .ref av18, .ref av19, .int 0, .ref av20, .long 0, .ref av21, .ref av22]))] s.heap.size = A at hD ⊢
  have hA : ∀ q : Nat, s.heap.size ≤ q → A q := fun q h => by rw [← hAe]; exact Or.inr h
  have hw : Wd dC dI A s.heap s.heap [] [(av0, .inr (12, [.ref av1, .int 0, .int 0, .ref av2, .ref av3, .ref av4, .ref av5, .int 0, .int 0, .int 0, .int 0, .ref av6, .ref av7, .ref av8, .int 0, .int 0, .int 0, .int 0, .int 0, .int 0, .int 0, .ref av9, .int 0, .ref av10, .int 0, .ref av11, .ref av12, .int 1, .ref av13, .ref av14, .int 0, .int 0, .ref av15, .ref av16, .ref av17, .ref av18, .ref av19, .int 0, .ref av20, .long 0, .ref av21, .ref av22]))] := ⟨hP, hD, va_S.rf⟩
  have hl := lv_entry ([.ref av0, .long 26479]) (n := 6) (Nat.le_of_ble_eq_true rfl)
  rw [lg_entry_eq]
  generalize (lg_sl ([.ref av0, .long 26479]) ++ List.replicate (6 - (lg_sl ([.ref av0, .long 26479])).length) Slot.unset).toArray = ls at hl ⊢
  have hl : lv_has ls 6 [(0, .ref av0), (1, .long 26479)] := hl
  have hinX12 : ∀ w ∈ u_ws RX12 TX12 42, w ∈ wsX12_isWord := fun _ h => List.mem_cons_of_mem _ (List.mem_append_right _ (h))
  refine lv_aload_n hx hb dX12_isWord_0 rfl (lv_at hl 0 rfl) ?_
  refine wk_Vi hC hK hw hA [0] [] rfl rfl rfl rfl (by decide) (c_X12_see_2 l dC dI cy av0 av1 av2 av3 av4 av5 av6 av7 av8 av9 av10 av11 av12 av13 av14 av15 av16 av17 av18 av19 av20 av21 av22 s.heap.size ) (cwV 0 hC.2.2.2.2 gX12_isWord_X12_see rfl rfl rfl (by decide +kernel) ⟨Nat.le_of_ble_eq_true rfl, Nat.le_of_ble_eq_true rfl⟩) rfl 0 rfl rfl hl.1 rfl (Nat.le_of_ble_eq_true rfl) dX12_isWord_1 0 0 ⟨rfl, rfl⟩ ⟨Nat.le_of_ble_eq_true rfl, Nat.le_of_ble_eq_true rfl⟩ (fun r2 u1 H locs p3 hw => ?_)
  have hw : Wd dC dI A s.heap H locs [(av0, .inr (12, [.ref av1, .int 0, .int 0, .ref av2, .ref av3, .ref av4, .ref av5, .int 0, .int 0, .int 0, .int 0, .ref av6, .ref av7, .ref av8, .int 0, .int 0, .int 0, .int 0, .int 0, .int 0, .int 0, .ref av9, .int 0, .ref av10, .int 0, .ref av11, .ref av12, .int 1, .ref av13, .ref av14, .int 0, .int 0, .ref av15, .ref av16, .ref av17, .ref av18, .ref av19, .int 0, .ref av20, .long 0, .ref av21, .ref av22]))] := hw
  obtain rfl : r2 = (-1) := p3
  refine lv_pop hx hb dX12_isWord_4 rfl ?_
  refine lv_lconst (v := 0) hx hb dX12_isWord_5 (by decide) ?_
  refine lv_lstore_n (lv' := [(3, .long 0), (0, .ref av0), (1, .long 26479)]) hx hb dX12_isWord_6 rfl hl (by decide) rfl (fun ls hl => ?_)
  refine lv_iconst (v := 0) hx hb dX12_isWord_7 (by decide) ?_
  refine lv_istore (lv' := [(5, .int 0), (3, .long 0), (0, .ref av0), (1, .long 26479)]) hx hb dX12_isWord_8 hl (by decide) rfl (fun ls hl => ?_)
  refine lv_aload_n hx hb dX12_isWord_10 rfl (lv_at hl 2 rfl) ?_
  refine lv_aload_n hx hb dX12_isWord_11 rfl (lv_at hl 2 rfl) ?_
  refine wk_get hC hK hw hinX12 0 rfl rfl 14 (by decide) (List.mem_of_getElem? (i := 1) rfl) rfl rfl dX12_isWord_12 ?_
  refine lv_iload hx hb dX12_isWord_15 (lv_at hl 0 rfl) ?_
  refine lv_iadd hx hb dX12_isWord_17 ?_
  refine wk_top 0 (by decide) ?_
  refine wk_Vi hC hK hw hA [0] [] rfl rfl rfl rfl (by decide) (c_X12_isLetter_2 l dC dI cy av0 av1 av2 av3 av4 av5 av6 av7 av8 av9 av10 av11 av12 av13 av14 av15 av16 av17 av18 av19 av20 av21 av22 H.size ) (cwV 1 hC.2.2.2.2 gX12_isWord_X12_isLetter rfl rfl rfl (by decide +kernel) ⟨Nat.le_of_ble_eq_true rfl, Nat.le_of_ble_eq_true rfl⟩) rfl 0 rfl rfl hl.1 rfl (Nat.le_of_ble_eq_true rfl) dX12_isWord_18 0 0 ⟨rfl, rfl⟩ ⟨Nat.le_of_ble_eq_true rfl, Nat.le_of_ble_eq_true rfl⟩ (fun r5 u4 H locs p6 hw => ?_)
  have hw : Wd dC dI A s.heap H locs [(av0, .inr (12, [.ref av1, .int 0, .int 0, .ref av2, .ref av3, .ref av4, .ref av5, .int 0, .int 0, .int 0, .int 0, .ref av6, .ref av7, .ref av8, .int 0, .int 0, .int 0, .int 0, .int 0, .int 0, .int 0, .ref av9, .int 0, .ref av10, .int 0, .ref av11, .ref av12, .int 1, .ref av13, .ref av14, .int 0, .int 0, .ref av15, .ref av16, .ref av17, .ref av18, .ref av19, .int 0, .ref av20, .long 0, .ref av21, .ref av22]))] := hw
  obtain rfl : r5 = 0 := p6
  refine lv_if_eq (tgt := 56) hx hb dX12_isWord_21 (by decide) (fun _ => ?_) (fun c => absurd (by decide) c)
  refine lv_iload hx hb dX12_isWord_56 (lv_at hl 0 rfl) ?_
  refine lv_if_le (tgt := 78) hx hb dX12_isWord_58 (by decide) (fun _ => ?_) (fun c => absurd (by decide) c)
  refine lv_iconst (v := 0) hx hb dX12_isWord_78 (by decide) ?_
  exact wk_zret (v := 0) hC hr rfl hlocks hK ((fun _ => 0), (fun _ _ => 0)) rfl [0] rfl rfl hw dX12_isWord_79

set_option maxHeartbeats 4000000 in
set_option maxRecDepth 100000 in
theorem c_X12_isWord_6 (l : Launch) (dC : Nat → ClassId) (dI : Nat → Nat → Nat) (cy : Nat → ClassId) (av0 : Nat) (av1 : Nat) (av2 : Nat) (av3 : Nat) (av4 : Nat) (av5 : Nat) (av6 : Nat) (av7 : Nat) (av8 : Nat) (av9 : Nat) (av10 : Nat) (av11 : Nat) (av12 : Nat) (av13 : Nat) (av14 : Nat) (av15 : Nat) (av16 : Nat) (av17 : Nat) (av18 : Nat) (av19 : Nat) (av20 : Nat) (av21 : Nat) (av22 : Nat) (sz : Nat)  : Met l yX12_isWord wsX12_isWord ({ frames := 1, cells := 0, slots := 0, locals := 21 }) (va_Pc [.ref av0, .long 418548114533] (wpre dC dI cy sz [(av0, .inr (12, [.ref av1, .int 0, .int 0, .ref av2, .ref av3, .ref av4, .ref av5, .int 0, .int 0, .int 0, .int 0, .ref av6, .ref av7, .ref av8, .int 0, .int 0, .int 0, .int 0, .int 0, .int 0, .int 0, .ref av9, .int 0, .ref av10, .int 0, .ref av11, .ref av12, .int 1, .ref av13, .ref av14, .int 0, .int 0, .ref av15, .ref av16, .ref av17, .ref av18, .ref av19, .int 0, .ref av20, .long 0, .ref av21, .ref av22]))])) (va_Qi (fun (r : Int32) (_ : ((Nat → Nat) × (Nat → Nat → Int32))) => r = 0) (fun u => wpost dC dI cy (va_A [(av0, .inr (12, [.ref av1, .int 0, .int 0, .ref av2, .ref av3, .ref av4, .ref av5, .int 0, .int 0, .int 0, .int 0, .ref av6, .ref av7, .ref av8, .int 0, .int 0, .int 0, .int 0, .int 0, .int 0, .int 0, .ref av9, .int 0, .ref av10, .int 0, .ref av11, .ref av12, .int 1, .ref av13, .ref av14, .int 0, .int 0, .ref av15, .ref av16, .ref av17, .ref av18, .ref av19, .int 0, .ref av20, .long 0, .ref av21, .ref av22]))] sz) [(av0, .inr (12, [.ref av1, .int 0, .int 0, .ref av2, .ref av3, .ref av4, .ref av5, .int 0, .int 0, .int 0, .int 0, .ref av6, .ref av7, .ref av8, .int 0, .int 0, .int 0, .int 0, .int 0, .int 0, .int 0, .ref av9, .int 0, .ref av10, .int 0, .ref av11, .ref av12, .int 1, .ref av13, .ref av14, .int 0, .int 0, .ref av15, .ref av16, .ref av17, .ref av18, .ref av19, .int 0, .ref av20, .long 0, .ref av21, .ref av22]))]) (va_A [(av0, .inr (12, [.ref av1, .int 0, .int 0, .ref av2, .ref av3, .ref av4, .ref av5, .int 0, .int 0, .int 0, .int 0, .ref av6, .ref av7, .ref av8, .int 0, .int 0, .int 0, .int 0, .int 0, .int 0, .int 0, .ref av9, .int 0, .ref av10, .int 0, .ref av11, .ref av12, .int 1, .ref av13, .ref av14, .int 0, .int 0, .ref av15, .ref av16, .ref av17, .ref av18, .ref av19, .int 0, .ref av20, .long 0, .ref av21, .ref av22]))] sz)) 0 0 (va_A [(av0, .inr (12, [.ref av1, .int 0, .int 0, .ref av2, .ref av3, .ref av4, .ref av5, .int 0, .int 0, .int 0, .int 0, .ref av6, .ref av7, .ref av8, .int 0, .int 0, .int 0, .int 0, .int 0, .int 0, .int 0, .ref av9, .int 0, .ref av10, .int 0, .ref av11, .ref av12, .int 1, .ref av13, .ref av14, .int 0, .int 0, .ref av15, .ref av16, .ref av17, .ref av18, .ref av19, .int 0, .ref av20, .long 0, .ref av21, .ref av22]))] sz) := by
  refine Met.ofW (cc := cX12_isWord) (maxL := 6) (ret := (some .boolean)) (by decide) rfl ?_
  intro p e s m args below meth c s₁ B hml hv
  obtain ⟨rfl, hsz, hP, hK, hD0⟩ := hv
  have hx := B.exec
  have hb := B.bytes
  have hr := B.returns
  have hlocks := B.notSynchronized
  have hC : CallFix p m c cX12_isWord 6 s _ wsX12_isWord RX12 := ⟨hx, hb, hml, findClass_of_methodNamed B.named, atoms_spec (ws := wsX12_isWord) B.pre⟩
  subst hsz
  have hD := hD0.self (sz := s.heap.size)
  generalize hAe : va_A [(av0, .inr (12, [.ref av1, .int 0, .int 0, .ref av2, .ref av3, .ref av4, .ref av5, .int 0, .int 0, .int 0, .int 0, .ref av6, .ref av7, .ref av8, .int 0, .int 0, .int 0, .int 0, .int 0, .int 0, .int 0, .ref av9, .int 0, .ref av10, .int 0, .ref av11, .ref av12, .int 1, .ref av13, .ref av14, .int 0, .int 0, .ref av15, .ref av16, .ref av17, .ref av18, .ref av19, .int 0, .ref av20, .long 0, .ref av21, .ref av22]))] s.heap.size = A at hD ⊢
  have hA : ∀ q : Nat, s.heap.size ≤ q → A q := fun q h => by rw [← hAe]; exact Or.inr h
  have hw : Wd dC dI A s.heap s.heap [] [(av0, .inr (12, [.ref av1, .int 0, .int 0, .ref av2, .ref av3, .ref av4, .ref av5, .int 0, .int 0, .int 0, .int 0, .ref av6, .ref av7, .ref av8, .int 0, .int 0, .int 0, .int 0, .int 0, .int 0, .int 0, .ref av9, .int 0, .ref av10, .int 0, .ref av11, .ref av12, .int 1, .ref av13, .ref av14, .int 0, .int 0, .ref av15, .ref av16, .ref av17, .ref av18, .ref av19, .int 0, .ref av20, .long 0, .ref av21, .ref av22]))] := ⟨hP, hD, va_S.rf⟩
  have hl := lv_entry ([.ref av0, .long 418548114533]) (n := 6) (Nat.le_of_ble_eq_true rfl)
  rw [lg_entry_eq]
  generalize (lg_sl ([.ref av0, .long 418548114533]) ++ List.replicate (6 - (lg_sl ([.ref av0, .long 418548114533])).length) Slot.unset).toArray = ls at hl ⊢
  have hl : lv_has ls 6 [(0, .ref av0), (1, .long 418548114533)] := hl
  have hinX12 : ∀ w ∈ u_ws RX12 TX12 42, w ∈ wsX12_isWord := fun _ h => List.mem_cons_of_mem _ (List.mem_append_right _ (h))
  refine lv_aload_n hx hb dX12_isWord_0 rfl (lv_at hl 0 rfl) ?_
  refine wk_Vi hC hK hw hA [0] [] rfl rfl rfl rfl (by decide) (c_X12_see_2 l dC dI cy av0 av1 av2 av3 av4 av5 av6 av7 av8 av9 av10 av11 av12 av13 av14 av15 av16 av17 av18 av19 av20 av21 av22 s.heap.size ) (cwV 0 hC.2.2.2.2 gX12_isWord_X12_see rfl rfl rfl (by decide +kernel) ⟨Nat.le_of_ble_eq_true rfl, Nat.le_of_ble_eq_true rfl⟩) rfl 0 rfl rfl hl.1 rfl (Nat.le_of_ble_eq_true rfl) dX12_isWord_1 0 0 ⟨rfl, rfl⟩ ⟨Nat.le_of_ble_eq_true rfl, Nat.le_of_ble_eq_true rfl⟩ (fun r2 u1 H locs p3 hw => ?_)
  have hw : Wd dC dI A s.heap H locs [(av0, .inr (12, [.ref av1, .int 0, .int 0, .ref av2, .ref av3, .ref av4, .ref av5, .int 0, .int 0, .int 0, .int 0, .ref av6, .ref av7, .ref av8, .int 0, .int 0, .int 0, .int 0, .int 0, .int 0, .int 0, .ref av9, .int 0, .ref av10, .int 0, .ref av11, .ref av12, .int 1, .ref av13, .ref av14, .int 0, .int 0, .ref av15, .ref av16, .ref av17, .ref av18, .ref av19, .int 0, .ref av20, .long 0, .ref av21, .ref av22]))] := hw
  obtain rfl : r2 = (-1) := p3
  refine lv_pop hx hb dX12_isWord_4 rfl ?_
  refine lv_lconst (v := 0) hx hb dX12_isWord_5 (by decide) ?_
  refine lv_lstore_n (lv' := [(3, .long 0), (0, .ref av0), (1, .long 418548114533)]) hx hb dX12_isWord_6 rfl hl (by decide) rfl (fun ls hl => ?_)
  refine lv_iconst (v := 0) hx hb dX12_isWord_7 (by decide) ?_
  refine lv_istore (lv' := [(5, .int 0), (3, .long 0), (0, .ref av0), (1, .long 418548114533)]) hx hb dX12_isWord_8 hl (by decide) rfl (fun ls hl => ?_)
  refine lv_aload_n hx hb dX12_isWord_10 rfl (lv_at hl 2 rfl) ?_
  refine lv_aload_n hx hb dX12_isWord_11 rfl (lv_at hl 2 rfl) ?_
  refine wk_get hC hK hw hinX12 0 rfl rfl 14 (by decide) (List.mem_of_getElem? (i := 1) rfl) rfl rfl dX12_isWord_12 ?_
  refine lv_iload hx hb dX12_isWord_15 (lv_at hl 0 rfl) ?_
  refine lv_iadd hx hb dX12_isWord_17 ?_
  refine wk_top 0 (by decide) ?_
  refine wk_Vi hC hK hw hA [0] [] rfl rfl rfl rfl (by decide) (c_X12_isLetter_2 l dC dI cy av0 av1 av2 av3 av4 av5 av6 av7 av8 av9 av10 av11 av12 av13 av14 av15 av16 av17 av18 av19 av20 av21 av22 H.size ) (cwV 1 hC.2.2.2.2 gX12_isWord_X12_isLetter rfl rfl rfl (by decide +kernel) ⟨Nat.le_of_ble_eq_true rfl, Nat.le_of_ble_eq_true rfl⟩) rfl 0 rfl rfl hl.1 rfl (Nat.le_of_ble_eq_true rfl) dX12_isWord_18 0 0 ⟨rfl, rfl⟩ ⟨Nat.le_of_ble_eq_true rfl, Nat.le_of_ble_eq_true rfl⟩ (fun r5 u4 H locs p6 hw => ?_)
  have hw : Wd dC dI A s.heap H locs [(av0, .inr (12, [.ref av1, .int 0, .int 0, .ref av2, .ref av3, .ref av4, .ref av5, .int 0, .int 0, .int 0, .int 0, .ref av6, .ref av7, .ref av8, .int 0, .int 0, .int 0, .int 0, .int 0, .int 0, .int 0, .ref av9, .int 0, .ref av10, .int 0, .ref av11, .ref av12, .int 1, .ref av13, .ref av14, .int 0, .int 0, .ref av15, .ref av16, .ref av17, .ref av18, .ref av19, .int 0, .ref av20, .long 0, .ref av21, .ref av22]))] := hw
  obtain rfl : r5 = 0 := p6
  refine lv_if_eq (tgt := 56) hx hb dX12_isWord_21 (by decide) (fun _ => ?_) (fun c => absurd (by decide) c)
  refine lv_iload hx hb dX12_isWord_56 (lv_at hl 0 rfl) ?_
  refine lv_if_le (tgt := 78) hx hb dX12_isWord_58 (by decide) (fun _ => ?_) (fun c => absurd (by decide) c)
  refine lv_iconst (v := 0) hx hb dX12_isWord_78 (by decide) ?_
  exact wk_zret (v := 0) hC hr rfl hlocks hK ((fun _ => 0), (fun _ _ => 0)) rfl [0] rfl rfl hw dX12_isWord_79

set_option maxHeartbeats 4000000 in
set_option maxRecDepth 100000 in
theorem c_X12_isWord_7 (l : Launch) (dC : Nat → ClassId) (dI : Nat → Nat → Nat) (cy : Nat → ClassId) (av0 : Nat) (av1 : Nat) (av2 : Nat) (av3 : Nat) (av4 : Nat) (av5 : Nat) (av6 : Nat) (av7 : Nat) (av8 : Nat) (av9 : Nat) (av10 : Nat) (av11 : Nat) (av12 : Nat) (av13 : Nat) (av14 : Nat) (av15 : Nat) (av16 : Nat) (av17 : Nat) (av18 : Nat) (av19 : Nat) (av20 : Nat) (av21 : Nat) (av22 : Nat) (sz : Nat)  : Met l yX12_isWord wsX12_isWord ({ frames := 1, cells := 0, slots := 0, locals := 21 }) (va_Pc [.ref av0, .long 6386539] (wpre dC dI cy sz [(av0, .inr (12, [.ref av1, .int 0, .int 0, .ref av2, .ref av3, .ref av4, .ref av5, .int 0, .int 0, .int 0, .int 0, .ref av6, .ref av7, .ref av8, .int 0, .int 0, .int 0, .int 0, .int 0, .int 0, .int 0, .ref av9, .int 0, .ref av10, .int 0, .ref av11, .ref av12, .int 1, .ref av13, .ref av14, .int 0, .int 0, .ref av15, .ref av16, .ref av17, .ref av18, .ref av19, .int 0, .ref av20, .long 0, .ref av21, .ref av22]))])) (va_Qi (fun (r : Int32) (_ : ((Nat → Nat) × (Nat → Nat → Int32))) => r = 0) (fun u => wpost dC dI cy (va_A [(av0, .inr (12, [.ref av1, .int 0, .int 0, .ref av2, .ref av3, .ref av4, .ref av5, .int 0, .int 0, .int 0, .int 0, .ref av6, .ref av7, .ref av8, .int 0, .int 0, .int 0, .int 0, .int 0, .int 0, .int 0, .ref av9, .int 0, .ref av10, .int 0, .ref av11, .ref av12, .int 1, .ref av13, .ref av14, .int 0, .int 0, .ref av15, .ref av16, .ref av17, .ref av18, .ref av19, .int 0, .ref av20, .long 0, .ref av21, .ref av22]))] sz) [(av0, .inr (12, [.ref av1, .int 0, .int 0, .ref av2, .ref av3, .ref av4, .ref av5, .int 0, .int 0, .int 0, .int 0, .ref av6, .ref av7, .ref av8, .int 0, .int 0, .int 0, .int 0, .int 0, .int 0, .int 0, .ref av9, .int 0, .ref av10, .int 0, .ref av11, .ref av12, .int 1, .ref av13, .ref av14, .int 0, .int 0, .ref av15, .ref av16, .ref av17, .ref av18, .ref av19, .int 0, .ref av20, .long 0, .ref av21, .ref av22]))]) (va_A [(av0, .inr (12, [.ref av1, .int 0, .int 0, .ref av2, .ref av3, .ref av4, .ref av5, .int 0, .int 0, .int 0, .int 0, .ref av6, .ref av7, .ref av8, .int 0, .int 0, .int 0, .int 0, .int 0, .int 0, .int 0, .ref av9, .int 0, .ref av10, .int 0, .ref av11, .ref av12, .int 1, .ref av13, .ref av14, .int 0, .int 0, .ref av15, .ref av16, .ref av17, .ref av18, .ref av19, .int 0, .ref av20, .long 0, .ref av21, .ref av22]))] sz)) 0 0 (va_A [(av0, .inr (12, [.ref av1, .int 0, .int 0, .ref av2, .ref av3, .ref av4, .ref av5, .int 0, .int 0, .int 0, .int 0, .ref av6, .ref av7, .ref av8, .int 0, .int 0, .int 0, .int 0, .int 0, .int 0, .int 0, .ref av9, .int 0, .ref av10, .int 0, .ref av11, .ref av12, .int 1, .ref av13, .ref av14, .int 0, .int 0, .ref av15, .ref av16, .ref av17, .ref av18, .ref av19, .int 0, .ref av20, .long 0, .ref av21, .ref av22]))] sz) := by
  refine Met.ofW (cc := cX12_isWord) (maxL := 6) (ret := (some .boolean)) (by decide) rfl ?_
  intro p e s m args below meth c s₁ B hml hv
  obtain ⟨rfl, hsz, hP, hK, hD0⟩ := hv
  have hx := B.exec
  have hb := B.bytes
  have hr := B.returns
  have hlocks := B.notSynchronized
  have hC : CallFix p m c cX12_isWord 6 s _ wsX12_isWord RX12 := ⟨hx, hb, hml, findClass_of_methodNamed B.named, atoms_spec (ws := wsX12_isWord) B.pre⟩
  subst hsz
  have hD := hD0.self (sz := s.heap.size)
  generalize hAe : va_A [(av0, .inr (12, [.ref av1, .int 0, .int 0, .ref av2, .ref av3, .ref av4, .ref av5, .int 0, .int 0, .int 0, .int 0, .ref av6, .ref av7, .ref av8, .int 0, .int 0, .int 0, .int 0, .int 0, .int 0, .int 0, .ref av9, .int 0, .ref av10, .int 0, .ref av11, .ref av12, .int 1, .ref av13, .ref av14, .int 0, .int 0, .ref av15, .ref av16, .ref av17, .ref av18, .ref av19, .int 0, .ref av20, .long 0, .ref av21, .ref av22]))] s.heap.size = A at hD ⊢
  have hA : ∀ q : Nat, s.heap.size ≤ q → A q := fun q h => by rw [← hAe]; exact Or.inr h
  have hw : Wd dC dI A s.heap s.heap [] [(av0, .inr (12, [.ref av1, .int 0, .int 0, .ref av2, .ref av3, .ref av4, .ref av5, .int 0, .int 0, .int 0, .int 0, .ref av6, .ref av7, .ref av8, .int 0, .int 0, .int 0, .int 0, .int 0, .int 0, .int 0, .ref av9, .int 0, .ref av10, .int 0, .ref av11, .ref av12, .int 1, .ref av13, .ref av14, .int 0, .int 0, .ref av15, .ref av16, .ref av17, .ref av18, .ref av19, .int 0, .ref av20, .long 0, .ref av21, .ref av22]))] := ⟨hP, hD, va_S.rf⟩
  have hl := lv_entry ([.ref av0, .long 6386539]) (n := 6) (Nat.le_of_ble_eq_true rfl)
  rw [lg_entry_eq]
  generalize (lg_sl ([.ref av0, .long 6386539]) ++ List.replicate (6 - (lg_sl ([.ref av0, .long 6386539])).length) Slot.unset).toArray = ls at hl ⊢
  have hl : lv_has ls 6 [(0, .ref av0), (1, .long 6386539)] := hl
  have hinX12 : ∀ w ∈ u_ws RX12 TX12 42, w ∈ wsX12_isWord := fun _ h => List.mem_cons_of_mem _ (List.mem_append_right _ (h))
  refine lv_aload_n hx hb dX12_isWord_0 rfl (lv_at hl 0 rfl) ?_
  refine wk_Vi hC hK hw hA [0] [] rfl rfl rfl rfl (by decide) (c_X12_see_2 l dC dI cy av0 av1 av2 av3 av4 av5 av6 av7 av8 av9 av10 av11 av12 av13 av14 av15 av16 av17 av18 av19 av20 av21 av22 s.heap.size ) (cwV 0 hC.2.2.2.2 gX12_isWord_X12_see rfl rfl rfl (by decide +kernel) ⟨Nat.le_of_ble_eq_true rfl, Nat.le_of_ble_eq_true rfl⟩) rfl 0 rfl rfl hl.1 rfl (Nat.le_of_ble_eq_true rfl) dX12_isWord_1 0 0 ⟨rfl, rfl⟩ ⟨Nat.le_of_ble_eq_true rfl, Nat.le_of_ble_eq_true rfl⟩ (fun r2 u1 H locs p3 hw => ?_)
  have hw : Wd dC dI A s.heap H locs [(av0, .inr (12, [.ref av1, .int 0, .int 0, .ref av2, .ref av3, .ref av4, .ref av5, .int 0, .int 0, .int 0, .int 0, .ref av6, .ref av7, .ref av8, .int 0, .int 0, .int 0, .int 0, .int 0, .int 0, .int 0, .ref av9, .int 0, .ref av10, .int 0, .ref av11, .ref av12, .int 1, .ref av13, .ref av14, .int 0, .int 0, .ref av15, .ref av16, .ref av17, .ref av18, .ref av19, .int 0, .ref av20, .long 0, .ref av21, .ref av22]))] := hw
  obtain rfl : r2 = (-1) := p3
  refine lv_pop hx hb dX12_isWord_4 rfl ?_
  refine lv_lconst (v := 0) hx hb dX12_isWord_5 (by decide) ?_
  refine lv_lstore_n (lv' := [(3, .long 0), (0, .ref av0), (1, .long 6386539)]) hx hb dX12_isWord_6 rfl hl (by decide) rfl (fun ls hl => ?_)
  refine lv_iconst (v := 0) hx hb dX12_isWord_7 (by decide) ?_
  refine lv_istore (lv' := [(5, .int 0), (3, .long 0), (0, .ref av0), (1, .long 6386539)]) hx hb dX12_isWord_8 hl (by decide) rfl (fun ls hl => ?_)
  refine lv_aload_n hx hb dX12_isWord_10 rfl (lv_at hl 2 rfl) ?_
  refine lv_aload_n hx hb dX12_isWord_11 rfl (lv_at hl 2 rfl) ?_
  refine wk_get hC hK hw hinX12 0 rfl rfl 14 (by decide) (List.mem_of_getElem? (i := 1) rfl) rfl rfl dX12_isWord_12 ?_
  refine lv_iload hx hb dX12_isWord_15 (lv_at hl 0 rfl) ?_
  refine lv_iadd hx hb dX12_isWord_17 ?_
  refine wk_top 0 (by decide) ?_
  refine wk_Vi hC hK hw hA [0] [] rfl rfl rfl rfl (by decide) (c_X12_isLetter_2 l dC dI cy av0 av1 av2 av3 av4 av5 av6 av7 av8 av9 av10 av11 av12 av13 av14 av15 av16 av17 av18 av19 av20 av21 av22 H.size ) (cwV 1 hC.2.2.2.2 gX12_isWord_X12_isLetter rfl rfl rfl (by decide +kernel) ⟨Nat.le_of_ble_eq_true rfl, Nat.le_of_ble_eq_true rfl⟩) rfl 0 rfl rfl hl.1 rfl (Nat.le_of_ble_eq_true rfl) dX12_isWord_18 0 0 ⟨rfl, rfl⟩ ⟨Nat.le_of_ble_eq_true rfl, Nat.le_of_ble_eq_true rfl⟩ (fun r5 u4 H locs p6 hw => ?_)
  have hw : Wd dC dI A s.heap H locs [(av0, .inr (12, [.ref av1, .int 0, .int 0, .ref av2, .ref av3, .ref av4, .ref av5, .int 0, .int 0, .int 0, .int 0, .ref av6, .ref av7, .ref av8, .int 0, .int 0, .int 0, .int 0, .int 0, .int 0, .int 0, .ref av9, .int 0, .ref av10, .int 0, .ref av11, .ref av12, .int 1, .ref av13, .ref av14, .int 0, .int 0, .ref av15, .ref av16, .ref av17, .ref av18, .ref av19, .int 0, .ref av20, .long 0, .ref av21, .ref av22]))] := hw
  obtain rfl : r5 = 0 := p6
  refine lv_if_eq (tgt := 56) hx hb dX12_isWord_21 (by decide) (fun _ => ?_) (fun c => absurd (by decide) c)
  refine lv_iload hx hb dX12_isWord_56 (lv_at hl 0 rfl) ?_
  refine lv_if_le (tgt := 78) hx hb dX12_isWord_58 (by decide) (fun _ => ?_) (fun c => absurd (by decide) c)
  refine lv_iconst (v := 0) hx hb dX12_isWord_78 (by decide) ?_
  exact wk_zret (v := 0) hC hr rfl hlocks hK ((fun _ => 0), (fun _ _ => 0)) rfl [0] rfl rfl hw dX12_isWord_79

set_option maxHeartbeats 4000000 in
set_option maxRecDepth 100000 in
theorem c_X12_isWord_8 (l : Launch) (dC : Nat → ClassId) (dI : Nat → Nat → Nat) (cy : Nat → ClassId) (av0 : Nat) (av1 : Nat) (av2 : Nat) (av3 : Nat) (av4 : Nat) (av5 : Nat) (av6 : Nat) (av7 : Nat) (av8 : Nat) (av9 : Nat) (av10 : Nat) (av11 : Nat) (av12 : Nat) (av13 : Nat) (av14 : Nat) (av15 : Nat) (av16 : Nat) (av17 : Nat) (av18 : Nat) (av19 : Nat) (av20 : Nat) (av21 : Nat) (av22 : Nat) (sz : Nat)  : Met l yX12_isWord wsX12_isWord ({ frames := 1, cells := 0, slots := 0, locals := 21 }) (va_Pc [.ref av0, .long 2002872692] (wpre dC dI cy sz [(av0, .inr (12, [.ref av1, .int 0, .int 0, .ref av2, .ref av3, .ref av4, .ref av5, .int 0, .int 0, .int 0, .int 0, .ref av6, .ref av7, .ref av8, .int 0, .int 0, .int 0, .int 0, .int 0, .int 0, .int 0, .ref av9, .int 0, .ref av10, .int 0, .ref av11, .ref av12, .int 1, .ref av13, .ref av14, .int 0, .int 0, .ref av15, .ref av16, .ref av17, .ref av18, .ref av19, .int 0, .ref av20, .long 0, .ref av21, .ref av22]))])) (va_Qi (fun (r : Int32) (_ : ((Nat → Nat) × (Nat → Nat → Int32))) => r = 0) (fun u => wpost dC dI cy (va_A [(av0, .inr (12, [.ref av1, .int 0, .int 0, .ref av2, .ref av3, .ref av4, .ref av5, .int 0, .int 0, .int 0, .int 0, .ref av6, .ref av7, .ref av8, .int 0, .int 0, .int 0, .int 0, .int 0, .int 0, .int 0, .ref av9, .int 0, .ref av10, .int 0, .ref av11, .ref av12, .int 1, .ref av13, .ref av14, .int 0, .int 0, .ref av15, .ref av16, .ref av17, .ref av18, .ref av19, .int 0, .ref av20, .long 0, .ref av21, .ref av22]))] sz) [(av0, .inr (12, [.ref av1, .int 0, .int 0, .ref av2, .ref av3, .ref av4, .ref av5, .int 0, .int 0, .int 0, .int 0, .ref av6, .ref av7, .ref av8, .int 0, .int 0, .int 0, .int 0, .int 0, .int 0, .int 0, .ref av9, .int 0, .ref av10, .int 0, .ref av11, .ref av12, .int 1, .ref av13, .ref av14, .int 0, .int 0, .ref av15, .ref av16, .ref av17, .ref av18, .ref av19, .int 0, .ref av20, .long 0, .ref av21, .ref av22]))]) (va_A [(av0, .inr (12, [.ref av1, .int 0, .int 0, .ref av2, .ref av3, .ref av4, .ref av5, .int 0, .int 0, .int 0, .int 0, .ref av6, .ref av7, .ref av8, .int 0, .int 0, .int 0, .int 0, .int 0, .int 0, .int 0, .ref av9, .int 0, .ref av10, .int 0, .ref av11, .ref av12, .int 1, .ref av13, .ref av14, .int 0, .int 0, .ref av15, .ref av16, .ref av17, .ref av18, .ref av19, .int 0, .ref av20, .long 0, .ref av21, .ref av22]))] sz)) 0 0 (va_A [(av0, .inr (12, [.ref av1, .int 0, .int 0, .ref av2, .ref av3, .ref av4, .ref av5, .int 0, .int 0, .int 0, .int 0, .ref av6, .ref av7, .ref av8, .int 0, .int 0, .int 0, .int 0, .int 0, .int 0, .int 0, .ref av9, .int 0, .ref av10, .int 0, .ref av11, .ref av12, .int 1, .ref av13, .ref av14, .int 0, .int 0, .ref av15, .ref av16, .ref av17, .ref av18, .ref av19, .int 0, .ref av20, .long 0, .ref av21, .ref av22]))] sz) := by
  refine Met.ofW (cc := cX12_isWord) (maxL := 6) (ret := (some .boolean)) (by decide) rfl ?_
  intro p e s m args below meth c s₁ B hml hv
  obtain ⟨rfl, hsz, hP, hK, hD0⟩ := hv
  have hx := B.exec
  have hb := B.bytes
  have hr := B.returns
  have hlocks := B.notSynchronized
  have hC : CallFix p m c cX12_isWord 6 s _ wsX12_isWord RX12 := ⟨hx, hb, hml, findClass_of_methodNamed B.named, atoms_spec (ws := wsX12_isWord) B.pre⟩
  subst hsz
  have hD := hD0.self (sz := s.heap.size)
  generalize hAe : va_A [(av0, .inr (12, [.ref av1, .int 0, .int 0, .ref av2, .ref av3, .ref av4, .ref av5, .int 0, .int 0, .int 0, .int 0, .ref av6, .ref av7, .ref av8, .int 0, .int 0, .int 0, .int 0, .int 0, .int 0, .int 0, .ref av9, .int 0, .ref av10, .int 0, .ref av11, .ref av12, .int 1, .ref av13, .ref av14, .int 0, .int 0, .ref av15, .ref av16, .ref av17, .ref av18, .ref av19, .int 0, .ref av20, .long 0, .ref av21, .ref av22]))] s.heap.size = A at hD ⊢
  have hA : ∀ q : Nat, s.heap.size ≤ q → A q := fun q h => by rw [← hAe]; exact Or.inr h
  have hw : Wd dC dI A s.heap s.heap [] [(av0, .inr (12, [.ref av1, .int 0, .int 0, .ref av2, .ref av3, .ref av4, .ref av5, .int 0, .int 0, .int 0, .int 0, .ref av6, .ref av7, .ref av8, .int 0, .int 0, .int 0, .int 0, .int 0, .int 0, .int 0, .ref av9, .int 0, .ref av10, .int 0, .ref av11, .ref av12, .int 1, .ref av13, .ref av14, .int 0, .int 0, .ref av15, .ref av16, .ref av17, .ref av18, .ref av19, .int 0, .ref av20, .long 0, .ref av21, .ref av22]))] := ⟨hP, hD, va_S.rf⟩
  have hl := lv_entry ([.ref av0, .long 2002872692]) (n := 6) (Nat.le_of_ble_eq_true rfl)
  rw [lg_entry_eq]
  generalize (lg_sl ([.ref av0, .long 2002872692]) ++ List.replicate (6 - (lg_sl ([.ref av0, .long 2002872692])).length) Slot.unset).toArray = ls at hl ⊢
  have hl : lv_has ls 6 [(0, .ref av0), (1, .long 2002872692)] := hl
  have hinX12 : ∀ w ∈ u_ws RX12 TX12 42, w ∈ wsX12_isWord := fun _ h => List.mem_cons_of_mem _ (List.mem_append_right _ (h))
  refine lv_aload_n hx hb dX12_isWord_0 rfl (lv_at hl 0 rfl) ?_
  refine wk_Vi hC hK hw hA [0] [] rfl rfl rfl rfl (by decide) (c_X12_see_2 l dC dI cy av0 av1 av2 av3 av4 av5 av6 av7 av8 av9 av10 av11 av12 av13 av14 av15 av16 av17 av18 av19 av20 av21 av22 s.heap.size ) (cwV 0 hC.2.2.2.2 gX12_isWord_X12_see rfl rfl rfl (by decide +kernel) ⟨Nat.le_of_ble_eq_true rfl, Nat.le_of_ble_eq_true rfl⟩) rfl 0 rfl rfl hl.1 rfl (Nat.le_of_ble_eq_true rfl) dX12_isWord_1 0 0 ⟨rfl, rfl⟩ ⟨Nat.le_of_ble_eq_true rfl, Nat.le_of_ble_eq_true rfl⟩ (fun r2 u1 H locs p3 hw => ?_)
  have hw : Wd dC dI A s.heap H locs [(av0, .inr (12, [.ref av1, .int 0, .int 0, .ref av2, .ref av3, .ref av4, .ref av5, .int 0, .int 0, .int 0, .int 0, .ref av6, .ref av7, .ref av8, .int 0, .int 0, .int 0, .int 0, .int 0, .int 0, .int 0, .ref av9, .int 0, .ref av10, .int 0, .ref av11, .ref av12, .int 1, .ref av13, .ref av14, .int 0, .int 0, .ref av15, .ref av16, .ref av17, .ref av18, .ref av19, .int 0, .ref av20, .long 0, .ref av21, .ref av22]))] := hw
  obtain rfl : r2 = (-1) := p3
  refine lv_pop hx hb dX12_isWord_4 rfl ?_
  refine lv_lconst (v := 0) hx hb dX12_isWord_5 (by decide) ?_
  refine lv_lstore_n (lv' := [(3, .long 0), (0, .ref av0), (1, .long 2002872692)]) hx hb dX12_isWord_6 rfl hl (by decide) rfl (fun ls hl => ?_)
  refine lv_iconst (v := 0) hx hb dX12_isWord_7 (by decide) ?_
  refine lv_istore (lv' := [(5, .int 0), (3, .long 0), (0, .ref av0), (1, .long 2002872692)]) hx hb dX12_isWord_8 hl (by decide) rfl (fun ls hl => ?_)
  refine lv_aload_n hx hb dX12_isWord_10 rfl (lv_at hl 2 rfl) ?_
  refine lv_aload_n hx hb dX12_isWord_11 rfl (lv_at hl 2 rfl) ?_
  refine wk_get hC hK hw hinX12 0 rfl rfl 14 (by decide) (List.mem_of_getElem? (i := 1) rfl) rfl rfl dX12_isWord_12 ?_
  refine lv_iload hx hb dX12_isWord_15 (lv_at hl 0 rfl) ?_
  refine lv_iadd hx hb dX12_isWord_17 ?_
  refine wk_top 0 (by decide) ?_
  refine wk_Vi hC hK hw hA [0] [] rfl rfl rfl rfl (by decide) (c_X12_isLetter_2 l dC dI cy av0 av1 av2 av3 av4 av5 av6 av7 av8 av9 av10 av11 av12 av13 av14 av15 av16 av17 av18 av19 av20 av21 av22 H.size ) (cwV 1 hC.2.2.2.2 gX12_isWord_X12_isLetter rfl rfl rfl (by decide +kernel) ⟨Nat.le_of_ble_eq_true rfl, Nat.le_of_ble_eq_true rfl⟩) rfl 0 rfl rfl hl.1 rfl (Nat.le_of_ble_eq_true rfl) dX12_isWord_18 0 0 ⟨rfl, rfl⟩ ⟨Nat.le_of_ble_eq_true rfl, Nat.le_of_ble_eq_true rfl⟩ (fun r5 u4 H locs p6 hw => ?_)
  have hw : Wd dC dI A s.heap H locs [(av0, .inr (12, [.ref av1, .int 0, .int 0, .ref av2, .ref av3, .ref av4, .ref av5, .int 0, .int 0, .int 0, .int 0, .ref av6, .ref av7, .ref av8, .int 0, .int 0, .int 0, .int 0, .int 0, .int 0, .int 0, .ref av9, .int 0, .ref av10, .int 0, .ref av11, .ref av12, .int 1, .ref av13, .ref av14, .int 0, .int 0, .ref av15, .ref av16, .ref av17, .ref av18, .ref av19, .int 0, .ref av20, .long 0, .ref av21, .ref av22]))] := hw
  obtain rfl : r5 = 0 := p6
  refine lv_if_eq (tgt := 56) hx hb dX12_isWord_21 (by decide) (fun _ => ?_) (fun c => absurd (by decide) c)
  refine lv_iload hx hb dX12_isWord_56 (lv_at hl 0 rfl) ?_
  refine lv_if_le (tgt := 78) hx hb dX12_isWord_58 (by decide) (fun _ => ?_) (fun c => absurd (by decide) c)
  refine lv_iconst (v := 0) hx hb dX12_isWord_78 (by decide) ?_
  exact wk_zret (v := 0) hC hr rfl hlocks hK ((fun _ => 0), (fun _ _ => 0)) rfl [0] rfl rfl hw dX12_isWord_79

set_option maxHeartbeats 4000000 in
set_option maxRecDepth 100000 in
theorem c_X12_doingSort_1 (l : Launch) (dC : Nat → ClassId) (dI : Nat → Nat → Nat) (cy : Nat → ClassId) (av0 : Nat) (av1 : Nat) (av2 : Nat) (av3 : Nat) (av4 : Nat) (av5 : Nat) (av6 : Nat) (av7 : Nat) (av8 : Nat) (av9 : Nat) (av10 : Nat) (av11 : Nat) (av12 : Nat) (av13 : Nat) (av14 : Nat) (av15 : Nat) (av16 : Nat) (av17 : Nat) (av18 : Nat) (av19 : Nat) (av20 : Nat) (av21 : Nat) (av22 : Nat) (sz : Nat)  : Met l yX12_doingSort wsX12_doingSort ({ frames := 2, cells := 0, slots := 0, locals := 46 }) (va_Pc [.ref av0] (wpre dC dI cy sz [(av0, .inr (12, [.ref av1, .int 0, .int 0, .ref av2, .ref av3, .ref av4, .ref av5, .int 0, .int 0, .int 0, .int 0, .ref av6, .ref av7, .ref av8, .int 0, .int 0, .int 0, .int 0, .int 0, .int 0, .int 0, .ref av9, .int 0, .ref av10, .int 0, .ref av11, .ref av12, .int 1, .ref av13, .ref av14, .int 0, .int 0, .ref av15, .ref av16, .ref av17, .ref av18, .ref av19, .int 0, .ref av20, .long 0, .ref av21, .ref av22]))])) (va_Qi (fun (r : Int32) (_ : ((Nat → Nat) × (Nat → Nat → Int32))) => r = (-1)) (fun u => wpost dC dI cy (va_A [(av0, .inr (12, [.ref av1, .int 0, .int 0, .ref av2, .ref av3, .ref av4, .ref av5, .int 0, .int 0, .int 0, .int 0, .ref av6, .ref av7, .ref av8, .int 0, .int 0, .int 0, .int 0, .int 0, .int 0, .int 0, .ref av9, .int 0, .ref av10, .int 0, .ref av11, .ref av12, .int 1, .ref av13, .ref av14, .int 0, .int 0, .ref av15, .ref av16, .ref av17, .ref av18, .ref av19, .int 0, .ref av20, .long 0, .ref av21, .ref av22]))] sz) [(av0, .inr (12, [.ref av1, .int 0, .int 0, .ref av2, .ref av3, .ref av4, .ref av5, .int 0, .int 0, .int 0, .int 0, .ref av6, .ref av7, .ref av8, .int 0, .int 0, .int 0, .int 0, .int 0, .int 0, .int 0, .ref av9, .int 0, .ref av10, .int 0, .ref av11, .ref av12, .int 1, .ref av13, .ref av14, .int 0, .int 0, .ref av15, .ref av16, .ref av17, .ref av18, .ref av19, .int 0, .ref av20, .long 0, .ref av21, .ref av22]))]) (va_A [(av0, .inr (12, [.ref av1, .int 0, .int 0, .ref av2, .ref av3, .ref av4, .ref av5, .int 0, .int 0, .int 0, .int 0, .ref av6, .ref av7, .ref av8, .int 0, .int 0, .int 0, .int 0, .int 0, .int 0, .int 0, .ref av9, .int 0, .ref av10, .int 0, .ref av11, .ref av12, .int 1, .ref av13, .ref av14, .int 0, .int 0, .ref av15, .ref av16, .ref av17, .ref av18, .ref av19, .int 0, .ref av20, .long 0, .ref av21, .ref av22]))] sz)) 0 0 (va_A [(av0, .inr (12, [.ref av1, .int 0, .int 0, .ref av2, .ref av3, .ref av4, .ref av5, .int 0, .int 0, .int 0, .int 0, .ref av6, .ref av7, .ref av8, .int 0, .int 0, .int 0, .int 0, .int 0, .int 0, .int 0, .ref av9, .int 0, .ref av10, .int 0, .ref av11, .ref av12, .int 1, .ref av13, .ref av14, .int 0, .int 0, .ref av15, .ref av16, .ref av17, .ref av18, .ref av19, .int 0, .ref av20, .long 0, .ref av21, .ref av22]))] sz) := by
  refine Met.ofW (cc := cX12_doingSort) (maxL := 1) (ret := (some .int)) (by decide) rfl ?_
  intro p e s m args below meth c s₁ B hml hv
  obtain ⟨rfl, hsz, hP, hK, hD0⟩ := hv
  have hx := B.exec
  have hb := B.bytes
  have hr := B.returns
  have hlocks := B.notSynchronized
  have hC : CallFix p m c cX12_doingSort 1 s _ wsX12_doingSort RX12 := ⟨hx, hb, hml, findClass_of_methodNamed B.named, atoms_spec (ws := wsX12_doingSort) B.pre⟩
  subst hsz
  have hD := hD0.self (sz := s.heap.size)
  generalize hAe : va_A [(av0, .inr (12, [.ref av1, .int 0, .int 0, .ref av2, .ref av3, .ref av4, .ref av5, .int 0, .int 0, .int 0, .int 0, .ref av6, .ref av7, .ref av8, .int 0, .int 0, .int 0, .int 0, .int 0, .int 0, .int 0, .ref av9, .int 0, .ref av10, .int 0, .ref av11, .ref av12, .int 1, .ref av13, .ref av14, .int 0, .int 0, .ref av15, .ref av16, .ref av17, .ref av18, .ref av19, .int 0, .ref av20, .long 0, .ref av21, .ref av22]))] s.heap.size = A at hD ⊢
  have hA : ∀ q : Nat, s.heap.size ≤ q → A q := fun q h => by rw [← hAe]; exact Or.inr h
  have hw : Wd dC dI A s.heap s.heap [] [(av0, .inr (12, [.ref av1, .int 0, .int 0, .ref av2, .ref av3, .ref av4, .ref av5, .int 0, .int 0, .int 0, .int 0, .ref av6, .ref av7, .ref av8, .int 0, .int 0, .int 0, .int 0, .int 0, .int 0, .int 0, .ref av9, .int 0, .ref av10, .int 0, .ref av11, .ref av12, .int 1, .ref av13, .ref av14, .int 0, .int 0, .ref av15, .ref av16, .ref av17, .ref av18, .ref av19, .int 0, .ref av20, .long 0, .ref av21, .ref av22]))] := ⟨hP, hD, va_S.rf⟩
  have hl := lv_entry ([.ref av0]) (n := 1) (Nat.le_of_ble_eq_true rfl)
  rw [lg_entry_eq]
  generalize (lg_sl ([.ref av0]) ++ List.replicate (1 - (lg_sl ([.ref av0])).length) Slot.unset).toArray = ls at hl ⊢
  have hl : lv_has ls 1 [(0, .ref av0)] := hl
  refine lv_aload_n hx hb dX12_doingSort_0 rfl (lv_at hl 0 rfl) ?_
  refine lv_ldc2 (v := 26479) hx hb hC.2.2.2.1 (hC.2.2.2.2 _ (List.mem_of_getElem? (i := 1) rfl)) dX12_doingSort_1 ?_
  refine wk_Vi hC hK hw hA [0] [] rfl rfl rfl rfl (by decide) (c_X12_isWord_5 l dC dI cy av0 av1 av2 av3 av4 av5 av6 av7 av8 av9 av10 av11 av12 av13 av14 av15 av16 av17 av18 av19 av20 av21 av22 s.heap.size ) (cwV 1 hC.2.2.2.2 gX12_doingSort_X12_isWord rfl rfl rfl (by decide +kernel) ⟨Nat.le_of_ble_eq_true rfl, Nat.le_of_ble_eq_true rfl⟩) rfl 0 rfl rfl hl.1 rfl (Nat.le_of_ble_eq_true rfl) dX12_doingSort_4 0 0 ⟨rfl, rfl⟩ ⟨Nat.le_of_ble_eq_true rfl, Nat.le_of_ble_eq_true rfl⟩ (fun r2 u1 H locs p3 hw => ?_)
  have hw : Wd dC dI A s.heap H locs [(av0, .inr (12, [.ref av1, .int 0, .int 0, .ref av2, .ref av3, .ref av4, .ref av5, .int 0, .int 0, .int 0, .int 0, .ref av6, .ref av7, .ref av8, .int 0, .int 0, .int 0, .int 0, .int 0, .int 0, .int 0, .ref av9, .int 0, .ref av10, .int 0, .ref av11, .ref av12, .int 1, .ref av13, .ref av14, .int 0, .int 0, .ref av15, .ref av16, .ref av17, .ref av18, .ref av19, .int 0, .ref av20, .long 0, .ref av21, .ref av22]))] := hw
  obtain rfl : r2 = 0 := p3
  refine lv_if_eq (tgt := 14) hx hb dX12_doingSort_7 (by decide) (fun _ => ?_) (fun c => absurd (by decide) c)
  refine lv_aload_n hx hb dX12_doingSort_14 rfl (lv_at hl 0 rfl) ?_
  refine lv_ldc2 (v := 418548114533) hx hb hC.2.2.2.1 (hC.2.2.2.2 _ (List.mem_of_getElem? (i := 2) rfl)) dX12_doingSort_15 ?_
  refine wk_Vi hC hK hw hA [0] [] rfl rfl rfl rfl (by decide) (c_X12_isWord_6 l dC dI cy av0 av1 av2 av3 av4 av5 av6 av7 av8 av9 av10 av11 av12 av13 av14 av15 av16 av17 av18 av19 av20 av21 av22 H.size ) (cwV 1 hC.2.2.2.2 gX12_doingSort_X12_isWord rfl rfl rfl (by decide +kernel) ⟨Nat.le_of_ble_eq_true rfl, Nat.le_of_ble_eq_true rfl⟩) rfl 0 rfl rfl hl.1 rfl (Nat.le_of_ble_eq_true rfl) dX12_doingSort_18 0 0 ⟨rfl, rfl⟩ ⟨Nat.le_of_ble_eq_true rfl, Nat.le_of_ble_eq_true rfl⟩ (fun r5 u4 H locs p6 hw => ?_)
  have hw : Wd dC dI A s.heap H locs [(av0, .inr (12, [.ref av1, .int 0, .int 0, .ref av2, .ref av3, .ref av4, .ref av5, .int 0, .int 0, .int 0, .int 0, .ref av6, .ref av7, .ref av8, .int 0, .int 0, .int 0, .int 0, .int 0, .int 0, .int 0, .ref av9, .int 0, .ref av10, .int 0, .ref av11, .ref av12, .int 1, .ref av13, .ref av14, .int 0, .int 0, .ref av15, .ref av16, .ref av17, .ref av18, .ref av19, .int 0, .ref av20, .long 0, .ref av21, .ref av22]))] := hw
  obtain rfl : r5 = 0 := p6
  refine lv_if_eq (tgt := 28) hx hb dX12_doingSort_21 (by decide) (fun _ => ?_) (fun c => absurd (by decide) c)
  refine lv_aload_n hx hb dX12_doingSort_28 rfl (lv_at hl 0 rfl) ?_
  refine lv_ldc2 (v := 6386539) hx hb hC.2.2.2.1 (hC.2.2.2.2 _ (List.mem_of_getElem? (i := 3) rfl)) dX12_doingSort_29 ?_
  refine wk_Vi hC hK hw hA [0] [] rfl rfl rfl rfl (by decide) (c_X12_isWord_7 l dC dI cy av0 av1 av2 av3 av4 av5 av6 av7 av8 av9 av10 av11 av12 av13 av14 av15 av16 av17 av18 av19 av20 av21 av22 H.size ) (cwV 1 hC.2.2.2.2 gX12_doingSort_X12_isWord rfl rfl rfl (by decide +kernel) ⟨Nat.le_of_ble_eq_true rfl, Nat.le_of_ble_eq_true rfl⟩) rfl 0 rfl rfl hl.1 rfl (Nat.le_of_ble_eq_true rfl) dX12_doingSort_32 0 0 ⟨rfl, rfl⟩ ⟨Nat.le_of_ble_eq_true rfl, Nat.le_of_ble_eq_true rfl⟩ (fun r8 u7 H locs p9 hw => ?_)
  have hw : Wd dC dI A s.heap H locs [(av0, .inr (12, [.ref av1, .int 0, .int 0, .ref av2, .ref av3, .ref av4, .ref av5, .int 0, .int 0, .int 0, .int 0, .ref av6, .ref av7, .ref av8, .int 0, .int 0, .int 0, .int 0, .int 0, .int 0, .int 0, .ref av9, .int 0, .ref av10, .int 0, .ref av11, .ref av12, .int 1, .ref av13, .ref av14, .int 0, .int 0, .ref av15, .ref av16, .ref av17, .ref av18, .ref av19, .int 0, .ref av20, .long 0, .ref av21, .ref av22]))] := hw
  obtain rfl : r8 = 0 := p9
  refine lv_if_eq (tgt := 42) hx hb dX12_doingSort_35 (by decide) (fun _ => ?_) (fun c => absurd (by decide) c)
  refine lv_aload_n hx hb dX12_doingSort_42 rfl (lv_at hl 0 rfl) ?_
  refine lv_ldc2 (v := 2002872692) hx hb hC.2.2.2.1 (hC.2.2.2.2 _ (List.mem_of_getElem? (i := 4) rfl)) dX12_doingSort_43 ?_
  refine wk_Vi hC hK hw hA [0] [] rfl rfl rfl rfl (by decide) (c_X12_isWord_8 l dC dI cy av0 av1 av2 av3 av4 av5 av6 av7 av8 av9 av10 av11 av12 av13 av14 av15 av16 av17 av18 av19 av20 av21 av22 H.size ) (cwV 1 hC.2.2.2.2 gX12_doingSort_X12_isWord rfl rfl rfl (by decide +kernel) ⟨Nat.le_of_ble_eq_true rfl, Nat.le_of_ble_eq_true rfl⟩) rfl 0 rfl rfl hl.1 rfl (Nat.le_of_ble_eq_true rfl) dX12_doingSort_46 0 0 ⟨rfl, rfl⟩ ⟨Nat.le_of_ble_eq_true rfl, Nat.le_of_ble_eq_true rfl⟩ (fun r11 u10 H locs p12 hw => ?_)
  have hw : Wd dC dI A s.heap H locs [(av0, .inr (12, [.ref av1, .int 0, .int 0, .ref av2, .ref av3, .ref av4, .ref av5, .int 0, .int 0, .int 0, .int 0, .ref av6, .ref av7, .ref av8, .int 0, .int 0, .int 0, .int 0, .int 0, .int 0, .int 0, .ref av9, .int 0, .ref av10, .int 0, .ref av11, .ref av12, .int 1, .ref av13, .ref av14, .int 0, .int 0, .ref av15, .ref av16, .ref av17, .ref av18, .ref av19, .int 0, .ref av20, .long 0, .ref av21, .ref av22]))] := hw
  obtain rfl : r11 = 0 := p12
  refine lv_if_eq (tgt := 56) hx hb dX12_doingSort_49 (by decide) (fun _ => ?_) (fun c => absurd (by decide) c)
  refine lv_iconst (v := (-1)) hx hb dX12_doingSort_56 (by decide) ?_
  exact wk_iret (v := (-1)) hC hr hlocks hK ((fun _ => 0), (fun _ _ => 0)) rfl [0] rfl rfl hw dX12_doingSort_57

set_option maxHeartbeats 4000000 in
set_option maxRecDepth 100000 in
theorem c_X12_fails_2 (l : Launch) (dC : Nat → ClassId) (dI : Nat → Nat → Nat) (cy : Nat → ClassId) (av0 : Nat) (av1 : Nat) (av2 : Nat) (av3 : Nat) (av4 : Nat) (av5 : Nat) (av6 : Nat) (av7 : Nat) (av8 : Nat) (av9 : Nat) (av10 : Nat) (av11 : Nat) (av12 : Nat) (av13 : Nat) (av14 : Nat) (av15 : Nat) (av16 : Nat) (av17 : Nat) (av18 : Nat) (av19 : Nat) (av20 : Nat) (av21 : Nat) (av22 : Nat) (sz : Nat)  : Met l yX12_fails wsX12_fails ({ frames := 0, cells := 0, slots := 0, locals := 0 }) (va_Pc [.ref av0, .int 0, .int 0] (wpre dC dI cy sz [(av0, .inr (12, [.ref av1, .int 0, .int 0, .ref av2, .ref av3, .ref av4, .ref av5, .int 0, .int 0, .int 0, .int 0, .ref av6, .ref av7, .ref av8, .int 0, .int 0, .int 0, .int 0, .int 0, .int 0, .int 0, .ref av9, .int 0, .ref av10, .int 0, .ref av11, .ref av12, .int 1, .ref av13, .ref av14, .int 0, .int 0, .ref av15, .ref av16, .ref av17, .ref av18, .ref av19, .int 0, .ref av20, .long 0, .ref av21, .ref av22]))])) (va_Qi (fun (r : Int32) (_ : ((Nat → Nat) × (Nat → Nat → Int32))) => r = 0) (fun u => wpost dC dI cy (va_A [(av0, .inr (12, [.ref av1, .int 0, .int 0, .ref av2, .ref av3, .ref av4, .ref av5, .int 0, .int 0, .int 0, .int 0, .ref av6, .ref av7, .ref av8, .int 0, .int 0, .int 0, .int 0, .int 0, .int 0, .int 0, .ref av9, .int 0, .ref av10, .int 0, .ref av11, .ref av12, .int 1, .ref av13, .ref av14, .int 0, .int 0, .ref av15, .ref av16, .ref av17, .ref av18, .ref av19, .int 0, .ref av20, .long 0, .ref av21, .ref av22]))] sz) [(av0, .inr (12, [.ref av1, .int 0, .int 0, .ref av2, .ref av3, .ref av4, .ref av5, .int 0, .int 0, .int 0, .int 0, .ref av6, .ref av7, .ref av8, .int 0, .int 1, .int 0, .int 0, .int 0, .int 0, .int 0, .ref av9, .int 0, .ref av10, .int 0, .ref av11, .ref av12, .int 1, .ref av13, .ref av14, .int 0, .int 0, .ref av15, .ref av16, .ref av17, .ref av18, .ref av19, .int 0, .ref av20, .long 0, .ref av21, .ref av22]))]) (va_A [(av0, .inr (12, [.ref av1, .int 0, .int 0, .ref av2, .ref av3, .ref av4, .ref av5, .int 0, .int 0, .int 0, .int 0, .ref av6, .ref av7, .ref av8, .int 0, .int 0, .int 0, .int 0, .int 0, .int 0, .int 0, .ref av9, .int 0, .ref av10, .int 0, .ref av11, .ref av12, .int 1, .ref av13, .ref av14, .int 0, .int 0, .ref av15, .ref av16, .ref av17, .ref av18, .ref av19, .int 0, .ref av20, .long 0, .ref av21, .ref av22]))] sz)) 0 0 (va_A [(av0, .inr (12, [.ref av1, .int 0, .int 0, .ref av2, .ref av3, .ref av4, .ref av5, .int 0, .int 0, .int 0, .int 0, .ref av6, .ref av7, .ref av8, .int 0, .int 0, .int 0, .int 0, .int 0, .int 0, .int 0, .ref av9, .int 0, .ref av10, .int 0, .ref av11, .ref av12, .int 1, .ref av13, .ref av14, .int 0, .int 0, .ref av15, .ref av16, .ref av17, .ref av18, .ref av19, .int 0, .ref av20, .long 0, .ref av21, .ref av22]))] sz) := by
  refine Met.ofW (cc := cX12_fails) (maxL := 3) (ret := (some .boolean)) (by decide) rfl ?_
  intro p e s m args below meth c s₁ B hml hv
  obtain ⟨rfl, hsz, hP, hK, hD0⟩ := hv
  have hx := B.exec
  have hb := B.bytes
  have hr := B.returns
  have hlocks := B.notSynchronized
  have hC : CallFix p m c cX12_fails 3 s _ wsX12_fails RX12 := ⟨hx, hb, hml, findClass_of_methodNamed B.named, atoms_spec (ws := wsX12_fails) B.pre⟩
  subst hsz
  have hD := hD0.self (sz := s.heap.size)
  generalize hAe : va_A [(av0, .inr (12, [.ref av1, .int 0, .int 0, .ref av2, .ref av3, .ref av4, .ref av5, .int 0, .int 0, .int 0, .int 0, .ref av6, .ref av7, .ref av8, .int 0, .int 0, .int 0, .int 0, .int 0, .int 0, .int 0, .ref av9, .int 0, .ref av10, .int 0, .ref av11, .ref av12, .int 1, .ref av13, .ref av14, .int 0, .int 0, .ref av15, .ref av16, .ref av17, .ref av18, .ref av19, .int 0, .ref av20, .long 0, .ref av21, .ref av22]))] s.heap.size = A at hD ⊢
  have hA : ∀ q : Nat, s.heap.size ≤ q → A q := fun q h => by rw [← hAe]; exact Or.inr h
  have hw : Wd dC dI A s.heap s.heap [] [(av0, .inr (12, [.ref av1, .int 0, .int 0, .ref av2, .ref av3, .ref av4, .ref av5, .int 0, .int 0, .int 0, .int 0, .ref av6, .ref av7, .ref av8, .int 0, .int 0, .int 0, .int 0, .int 0, .int 0, .int 0, .ref av9, .int 0, .ref av10, .int 0, .ref av11, .ref av12, .int 1, .ref av13, .ref av14, .int 0, .int 0, .ref av15, .ref av16, .ref av17, .ref av18, .ref av19, .int 0, .ref av20, .long 0, .ref av21, .ref av22]))] := ⟨hP, hD, va_S.rf⟩
  have hl := lv_entry ([.ref av0, .int 0, .int 0]) (n := 3) (Nat.le_of_ble_eq_true rfl)
  rw [lg_entry_eq]
  generalize (lg_sl ([.ref av0, .int 0, .int 0]) ++ List.replicate (3 - (lg_sl ([.ref av0, .int 0, .int 0])).length) Slot.unset).toArray = ls at hl ⊢
  have hl : lv_has ls 3 [(0, .ref av0), (1, .int 0), (2, .int 0)] := hl
  have hinX12 : ∀ w ∈ u_ws RX12 TX12 42, w ∈ wsX12_fails := fun _ h => List.mem_cons_of_mem _ (List.mem_append_right _ (h))
  refine lv_aload_n hx hb dX12_fails_0 rfl (lv_at hl 0 rfl) ?_
  refine wk_get hC hK hw hinX12 0 rfl rfl 15 (by decide) (List.mem_of_getElem? (i := 1) rfl) rfl rfl dX12_fails_1 ?_
  refine lv_if_ne (tgt := 19) hx hb dX12_fails_4 (by decide) (fun c => absurd c (by decide)) (fun _ => ?_)
  refine lv_aload_n hx hb dX12_fails_7 rfl (lv_at hl 0 rfl) ?_
  refine lv_iconst (v := 1) hx hb dX12_fails_8 (by decide) ?_
  refine lv_bipush (v := 8) hx hb dX12_fails_9 (by decide) ?_
  refine lv_iload_n hx hb dX12_fails_11 rfl (lv_at hl 2 rfl) ?_
  refine lv_imul hx hb dX12_fails_12 ?_
  refine wk_top 0 (by decide) ?_
  refine lv_iadd hx hb dX12_fails_13 ?_
  refine wk_top 1 (by decide) ?_
  refine lv_iload_n hx hb dX12_fails_14 rfl (lv_at hl 1 rfl) ?_
  refine lv_iadd hx hb dX12_fails_15 ?_
  refine wk_top 1 (by decide) ?_
  refine wk_put hC hK hw hinX12 tyX12_ok nmX12 0 rfl rfl 15 (by decide) (List.mem_of_getElem? (i := 1) rfl) rfl rfl rfl rfl rfl (Nat.le_of_ble_eq_true rfl) dX12_fails_16 (fun H locs hw => ?_)
  have hw : Wd dC dI A s.heap H locs [(av0, .inr (12, [.ref av1, .int 0, .int 0, .ref av2, .ref av3, .ref av4, .ref av5, .int 0, .int 0, .int 0, .int 0, .ref av6, .ref av7, .ref av8, .int 0, .int 1, .int 0, .int 0, .int 0, .int 0, .int 0, .ref av9, .int 0, .ref av10, .int 0, .ref av11, .ref av12, .int 1, .ref av13, .ref av14, .int 0, .int 0, .ref av15, .ref av16, .ref av17, .ref av18, .ref av19, .int 0, .ref av20, .long 0, .ref av21, .ref av22]))] := hw
  refine lv_iconst (v := 0) hx hb dX12_fails_19 (by decide) ?_
  exact wk_zret (v := 0) hC hr rfl hlocks hK ((fun _ => 0), (fun _ _ => 0)) rfl [0] rfl rfl hw dX12_fails_20

set_option maxHeartbeats 4000000 in
set_option maxRecDepth 100000 in
theorem c_X12_clauseHere_2 (l : Launch) (dC : Nat → ClassId) (dI : Nat → Nat → Nat) (cy : Nat → ClassId) (av0 : Nat) (av1 : Nat) (av2 : Nat) (av3 : Nat) (av4 : Nat) (av5 : Nat) (av6 : Nat) (av7 : Nat) (av8 : Nat) (av9 : Nat) (av10 : Nat) (av11 : Nat) (av12 : Nat) (av13 : Nat) (av14 : Nat) (av15 : Nat) (av16 : Nat) (av17 : Nat) (av18 : Nat) (av19 : Nat) (av20 : Nat) (av21 : Nat) (av22 : Nat) (sz : Nat)  : Met l yX12_clauseHere wsX12_clauseHere ({ frames := 3, cells := 0, slots := 0, locals := 66 }) (va_Pc [.ref av0] (wpre dC dI cy sz [(av0, .inr (12, [.ref av1, .int 0, .int 0, .ref av2, .ref av3, .ref av4, .ref av5, .int 0, .int 0, .int 0, .int 0, .ref av6, .ref av7, .ref av8, .int 0, .int 0, .int 0, .int 0, .int 0, .int 0, .int 0, .ref av9, .int 0, .ref av10, .int 0, .ref av11, .ref av12, .int 1, .ref av13, .ref av14, .int 0, .int 0, .ref av15, .ref av16, .ref av17, .ref av18, .ref av19, .int 0, .ref av20, .long 0, .ref av21, .ref av22]))])) (va_Qi (fun (r : Int32) (_ : ((Nat → Nat) × (Nat → Nat → Int32))) => r = 0) (fun u => wpost dC dI cy (va_A [(av0, .inr (12, [.ref av1, .int 0, .int 0, .ref av2, .ref av3, .ref av4, .ref av5, .int 0, .int 0, .int 0, .int 0, .ref av6, .ref av7, .ref av8, .int 0, .int 0, .int 0, .int 0, .int 0, .int 0, .int 0, .ref av9, .int 0, .ref av10, .int 0, .ref av11, .ref av12, .int 1, .ref av13, .ref av14, .int 0, .int 0, .ref av15, .ref av16, .ref av17, .ref av18, .ref av19, .int 0, .ref av20, .long 0, .ref av21, .ref av22]))] sz) [(av0, .inr (12, [.ref av1, .int 0, .int 0, .ref av2, .ref av3, .ref av4, .ref av5, .int 0, .int 0, .int 0, .int 0, .ref av6, .ref av7, .ref av8, .int 0, .int 1, .int 0, .int 0, .int 0, .int 0, .int 0, .ref av9, .int 0, .ref av10, .int 0, .ref av11, .ref av12, .int 1, .ref av13, .ref av14, .int 0, .int 0, .ref av15, .ref av16, .ref av17, .ref av18, .ref av19, .int 0, .ref av20, .long 0, .ref av21, .ref av22]))]) (va_A [(av0, .inr (12, [.ref av1, .int 0, .int 0, .ref av2, .ref av3, .ref av4, .ref av5, .int 0, .int 0, .int 0, .int 0, .ref av6, .ref av7, .ref av8, .int 0, .int 0, .int 0, .int 0, .int 0, .int 0, .int 0, .ref av9, .int 0, .ref av10, .int 0, .ref av11, .ref av12, .int 1, .ref av13, .ref av14, .int 0, .int 0, .ref av15, .ref av16, .ref av17, .ref av18, .ref av19, .int 0, .ref av20, .long 0, .ref av21, .ref av22]))] sz)) 0 0 (va_A [(av0, .inr (12, [.ref av1, .int 0, .int 0, .ref av2, .ref av3, .ref av4, .ref av5, .int 0, .int 0, .int 0, .int 0, .ref av6, .ref av7, .ref av8, .int 0, .int 0, .int 0, .int 0, .int 0, .int 0, .int 0, .ref av9, .int 0, .ref av10, .int 0, .ref av11, .ref av12, .int 1, .ref av13, .ref av14, .int 0, .int 0, .ref av15, .ref av16, .ref av17, .ref av18, .ref av19, .int 0, .ref av20, .long 0, .ref av21, .ref av22]))] sz) := by
  refine Met.ofW (cc := cX12_clauseHere) (maxL := 4) (ret := (some .boolean)) (by decide) rfl ?_
  intro p e s m args below meth c s₁ B hml hv
  obtain ⟨rfl, hsz, hP, hK, hD0⟩ := hv
  have hx := B.exec
  have hb := B.bytes
  have hr := B.returns
  have hlocks := B.notSynchronized
  have hC : CallFix p m c cX12_clauseHere 4 s _ wsX12_clauseHere RX12 := ⟨hx, hb, hml, findClass_of_methodNamed B.named, atoms_spec (ws := wsX12_clauseHere) B.pre⟩
  subst hsz
  have hD := hD0.self (sz := s.heap.size)
  generalize hAe : va_A [(av0, .inr (12, [.ref av1, .int 0, .int 0, .ref av2, .ref av3, .ref av4, .ref av5, .int 0, .int 0, .int 0, .int 0, .ref av6, .ref av7, .ref av8, .int 0, .int 0, .int 0, .int 0, .int 0, .int 0, .int 0, .ref av9, .int 0, .ref av10, .int 0, .ref av11, .ref av12, .int 1, .ref av13, .ref av14, .int 0, .int 0, .ref av15, .ref av16, .ref av17, .ref av18, .ref av19, .int 0, .ref av20, .long 0, .ref av21, .ref av22]))] s.heap.size = A at hD ⊢
  have hA : ∀ q : Nat, s.heap.size ≤ q → A q := fun q h => by rw [← hAe]; exact Or.inr h
  have hw : Wd dC dI A s.heap s.heap [] [(av0, .inr (12, [.ref av1, .int 0, .int 0, .ref av2, .ref av3, .ref av4, .ref av5, .int 0, .int 0, .int 0, .int 0, .ref av6, .ref av7, .ref av8, .int 0, .int 0, .int 0, .int 0, .int 0, .int 0, .int 0, .ref av9, .int 0, .ref av10, .int 0, .ref av11, .ref av12, .int 1, .ref av13, .ref av14, .int 0, .int 0, .ref av15, .ref av16, .ref av17, .ref av18, .ref av19, .int 0, .ref av20, .long 0, .ref av21, .ref av22]))] := ⟨hP, hD, va_S.rf⟩
  have hl := lv_entry ([.ref av0]) (n := 4) (Nat.le_of_ble_eq_true rfl)
  rw [lg_entry_eq]
  generalize (lg_sl ([.ref av0]) ++ List.replicate (4 - (lg_sl ([.ref av0])).length) Slot.unset).toArray = ls at hl ⊢
  have hl : lv_has ls 4 [(0, .ref av0)] := hl
  have hinX12 : ∀ w ∈ u_ws RX12 TX12 42, w ∈ wsX12_clauseHere := fun _ h => List.mem_cons_of_mem _ (List.mem_append_right _ (h))
  refine lv_aload_n hx hb dX12_clauseHere_0 rfl (lv_at hl 0 rfl) ?_
  refine wk_Vi hC hK hw hA [0] [] rfl rfl rfl rfl (by decide) (c_X12_see_2 l dC dI cy av0 av1 av2 av3 av4 av5 av6 av7 av8 av9 av10 av11 av12 av13 av14 av15 av16 av17 av18 av19 av20 av21 av22 s.heap.size ) (cwV 0 hC.2.2.2.2 gX12_clauseHere_X12_see rfl rfl rfl (by decide +kernel) ⟨Nat.le_of_ble_eq_true rfl, Nat.le_of_ble_eq_true rfl⟩) rfl 0 rfl rfl hl.1 rfl (Nat.le_of_ble_eq_true rfl) dX12_clauseHere_1 0 0 ⟨rfl, rfl⟩ ⟨Nat.le_of_ble_eq_true rfl, Nat.le_of_ble_eq_true rfl⟩ (fun r2 u1 H locs p3 hw => ?_)
  have hw : Wd dC dI A s.heap H locs [(av0, .inr (12, [.ref av1, .int 0, .int 0, .ref av2, .ref av3, .ref av4, .ref av5, .int 0, .int 0, .int 0, .int 0, .ref av6, .ref av7, .ref av8, .int 0, .int 0, .int 0, .int 0, .int 0, .int 0, .int 0, .ref av9, .int 0, .ref av10, .int 0, .ref av11, .ref av12, .int 1, .ref av13, .ref av14, .int 0, .int 0, .ref av15, .ref av16, .ref av17, .ref av18, .ref av19, .int 0, .ref av20, .long 0, .ref av21, .ref av22]))] := hw
  obtain rfl : r2 = (-1) := p3
  refine lv_pop hx hb dX12_clauseHere_4 rfl ?_
  refine lv_aload_n hx hb dX12_clauseHere_5 rfl (lv_at hl 0 rfl) ?_
  refine wk_get hC hK hw hinX12 0 rfl rfl 14 (by decide) (List.mem_of_getElem? (i := 1) rfl) rfl rfl dX12_clauseHere_6 ?_
  refine lv_istore_n (lv' := [(1, .int 0), (0, .ref av0)]) hx hb dX12_clauseHere_9 rfl hl (by decide) rfl (fun ls hl => ?_)
  refine lv_aload_n hx hb dX12_clauseHere_10 rfl (lv_at hl 1 rfl) ?_
  refine wk_get hC hK hw hinX12 0 rfl rfl 17 (by decide) (List.mem_of_getElem? (i := 2) rfl) rfl rfl dX12_clauseHere_11 ?_
  refine lv_bipush (v := 6) hx hb dX12_clauseHere_14 (by decide) ?_
  refine lv_icmp_ne (tgt := 23) hx hb dX12_clauseHere_16 (by decide) (fun _ => ?_) (fun c => absurd (by decide) c)
  refine lv_iconst (v := 0) hx hb dX12_clauseHere_23 (by decide) ?_
  refine lv_istore_n (lv' := [(2, .int 0), (1, .int 0), (0, .ref av0)]) hx hb dX12_clauseHere_24 rfl hl (by decide) rfl (fun ls hl => ?_)
  refine lv_iload_n hx hb dX12_clauseHere_25 rfl (lv_at hl 0 rfl) ?_
  refine lv_if_eq (tgt := 77) hx hb dX12_clauseHere_26 (by decide) (fun _ => ?_) (fun c => absurd (by decide) c)
  refine lv_aload_n hx hb dX12_clauseHere_77 rfl (lv_at hl 2 rfl) ?_
  refine wk_Vi hC hK hw hA [0] [] rfl rfl rfl rfl (by decide) (c_X12_doingSort_1 l dC dI cy av0 av1 av2 av3 av4 av5 av6 av7 av8 av9 av10 av11 av12 av13 av14 av15 av16 av17 av18 av19 av20 av21 av22 H.size ) (cwV 0 hC.2.2.2.2 gX12_clauseHere_X12_doingSort rfl rfl rfl (by decide +kernel) ⟨Nat.le_of_ble_eq_true rfl, Nat.le_of_ble_eq_true rfl⟩) rfl 0 rfl rfl hl.1 rfl (Nat.le_of_ble_eq_true rfl) dX12_clauseHere_78 0 0 ⟨rfl, rfl⟩ ⟨Nat.le_of_ble_eq_true rfl, Nat.le_of_ble_eq_true rfl⟩ (fun r5 u4 H locs p6 hw => ?_)
  have hw : Wd dC dI A s.heap H locs [(av0, .inr (12, [.ref av1, .int 0, .int 0, .ref av2, .ref av3, .ref av4, .ref av5, .int 0, .int 0, .int 0, .int 0, .ref av6, .ref av7, .ref av8, .int 0, .int 0, .int 0, .int 0, .int 0, .int 0, .int 0, .ref av9, .int 0, .ref av10, .int 0, .ref av11, .ref av12, .int 1, .ref av13, .ref av14, .int 0, .int 0, .ref av15, .ref av16, .ref av17, .ref av18, .ref av19, .int 0, .ref av20, .long 0, .ref av21, .ref av22]))] := hw
  obtain rfl : r5 = (-1) := p6
  refine lv_if_lt (tgt := 88) hx hb dX12_clauseHere_81 (by decide) (fun _ => ?_) (fun c => absurd (by decide) c)
  refine lv_iconst (v := 0) hx hb dX12_clauseHere_88 (by decide) ?_
  refine lv_istore_n (lv' := [(3, .int 0), (2, .int 0), (1, .int 0), (0, .ref av0)]) hx hb dX12_clauseHere_89 rfl hl (by decide) rfl (fun ls hl => ?_)
  refine lv_iload_n hx hb dX12_clauseHere_90 rfl (lv_at hl 0 rfl) ?_
  refine lv_if_ne (tgt := 101) hx hb dX12_clauseHere_91 (by decide) (fun c => absurd c (by decide)) (fun _ => ?_)
  refine lv_aload_n hx hb dX12_clauseHere_94 rfl (lv_at hl 3 rfl) ?_
  refine lv_iconst (v := 0) hx hb dX12_clauseHere_95 (by decide) ?_
  refine lv_iload_n hx hb dX12_clauseHere_96 rfl (lv_at hl 2 rfl) ?_
  refine wk_Vi hC hK hw hA [0] [] rfl rfl rfl rfl (by decide) (c_X12_fails_2 l dC dI cy av0 av1 av2 av3 av4 av5 av6 av7 av8 av9 av10 av11 av12 av13 av14 av15 av16 av17 av18 av19 av20 av21 av22 H.size ) (cwV 2 hC.2.2.2.2 gX12_clauseHere_X12_fails rfl rfl rfl (by decide +kernel) ⟨Nat.le_of_ble_eq_true rfl, Nat.le_of_ble_eq_true rfl⟩) rfl 0 rfl rfl hl.1 rfl (Nat.le_of_ble_eq_true rfl) dX12_clauseHere_97 0 0 ⟨rfl, rfl⟩ ⟨Nat.le_of_ble_eq_true rfl, Nat.le_of_ble_eq_true rfl⟩ (fun r8 u7 H locs p9 hw => ?_)
  have hw : Wd dC dI A s.heap H locs [(av0, .inr (12, [.ref av1, .int 0, .int 0, .ref av2, .ref av3, .ref av4, .ref av5, .int 0, .int 0, .int 0, .int 0, .ref av6, .ref av7, .ref av8, .int 0, .int 1, .int 0, .int 0, .int 0, .int 0, .int 0, .ref av9, .int 0, .ref av10, .int 0, .ref av11, .ref av12, .int 1, .ref av13, .ref av14, .int 0, .int 0, .ref av15, .ref av16, .ref av17, .ref av18, .ref av19, .int 0, .ref av20, .long 0, .ref av21, .ref av22]))] := hw
  obtain rfl : r8 = 0 := p9
  exact wk_zret (v := 0) hC hr rfl hlocks hK ((fun _ => 0), (fun _ _ => 0)) rfl [0] rfl rfl hw dX12_clauseHere_100

set_option maxHeartbeats 4000000 in
set_option maxRecDepth 100000 in
theorem c_X12_readsAll_2 (l : Launch) (dC : Nat → ClassId) (dI : Nat → Nat → Nat) (cy : Nat → ClassId) (av0 : Nat) (av1 : Nat) (av2 : Nat) (av3 : Nat) (av4 : Nat) (av5 : Nat) (av6 : Nat) (av7 : Nat) (av8 : Nat) (av9 : Nat) (av10 : Nat) (av11 : Nat) (av12 : Nat) (av13 : Nat) (av14 : Nat) (av15 : Nat) (av16 : Nat) (av17 : Nat) (av18 : Nat) (av19 : Nat) (av20 : Nat) (av21 : Nat) (av22 : Nat) (sz : Nat)  : Met l yX12_readsAll wsX12_readsAll ({ frames := 4, cells := 0, slots := 0, locals := 89 }) (va_Pc [.ref av0] (wpre dC dI cy sz [(av0, .inr (12, [.ref av1, .int 0, .int 0, .ref av2, .ref av3, .ref av4, .ref av5, .int 0, .int 0, .int 0, .int 0, .ref av6, .ref av7, .ref av8, .int 0, .int 0, .int 0, .int 0, .int 0, .int 0, .int 0, .ref av9, .int 0, .ref av10, .int 0, .ref av11, .ref av12, .int 1, .ref av13, .ref av14, .int 0, .int 0, .ref av15, .ref av16, .ref av17, .ref av18, .ref av19, .int 0, .ref av20, .long 0, .ref av21, .ref av22])), (av3, .inl (cy 0, 7, .inl (fun _ => 0)))])) (va_Qi (fun (r : Int32) (_ : ((Nat → Nat) × (Nat → Nat → Int32))) => r = 0) (fun u => wpost dC dI cy (va_A [(av0, .inr (12, [.ref av1, .int 0, .int 0, .ref av2, .ref av3, .ref av4, .ref av5, .int 0, .int 0, .int 0, .int 0, .ref av6, .ref av7, .ref av8, .int 0, .int 0, .int 0, .int 0, .int 0, .int 0, .int 0, .ref av9, .int 0, .ref av10, .int 0, .ref av11, .ref av12, .int 1, .ref av13, .ref av14, .int 0, .int 0, .ref av15, .ref av16, .ref av17, .ref av18, .ref av19, .int 0, .ref av20, .long 0, .ref av21, .ref av22])), (av3, .inl (cy 0, 7, .inl (fun _ => 0)))] sz) [(av0, .inr (12, [.ref av1, .int 0, .int 0, .ref av2, .ref av3, .ref av4, .ref av5, .int 0, .int 0, .int 0, .int 0, .ref av6, .ref av7, .ref av8, .int 0, .int 1, .int 0, .int 0, .int 0, .int 0, .int 0, .ref av9, .int 0, .ref av10, .int 0, .ref av11, .ref av12, .int 1, .ref av13, .ref av14, .int 0, .int 0, .ref av15, .ref av16, .ref av17, .ref av18, .ref av19, .int 0, .ref av20, .long 0, .ref av21, .ref av22])), (av3, .inl (cy 0, 7, .inl (u.2 0)))]) (va_A [(av0, .inr (12, [.ref av1, .int 0, .int 0, .ref av2, .ref av3, .ref av4, .ref av5, .int 0, .int 0, .int 0, .int 0, .ref av6, .ref av7, .ref av8, .int 0, .int 0, .int 0, .int 0, .int 0, .int 0, .int 0, .ref av9, .int 0, .ref av10, .int 0, .ref av11, .ref av12, .int 1, .ref av13, .ref av14, .int 0, .int 0, .ref av15, .ref av16, .ref av17, .ref av18, .ref av19, .int 0, .ref av20, .long 0, .ref av21, .ref av22])), (av3, .inl (cy 0, 7, .inl (fun _ => 0)))] sz)) 0 0 (va_A [(av0, .inr (12, [.ref av1, .int 0, .int 0, .ref av2, .ref av3, .ref av4, .ref av5, .int 0, .int 0, .int 0, .int 0, .ref av6, .ref av7, .ref av8, .int 0, .int 0, .int 0, .int 0, .int 0, .int 0, .int 0, .ref av9, .int 0, .ref av10, .int 0, .ref av11, .ref av12, .int 1, .ref av13, .ref av14, .int 0, .int 0, .ref av15, .ref av16, .ref av17, .ref av18, .ref av19, .int 0, .ref av20, .long 0, .ref av21, .ref av22])), (av3, .inl (cy 0, 7, .inl (fun _ => 0)))] sz) := by
  refine Met.ofW (cc := cX12_readsAll) (maxL := 2) (ret := (some .boolean)) (by decide) rfl ?_
  intro p e s m args below meth c s₁ B hml hv
  obtain ⟨rfl, hsz, hP, hK, hD0⟩ := hv
  have hx := B.exec
  have hb := B.bytes
  have hr := B.returns
  have hlocks := B.notSynchronized
  have hC : CallFix p m c cX12_readsAll 2 s _ wsX12_readsAll RX12 := ⟨hx, hb, hml, findClass_of_methodNamed B.named, atoms_spec (ws := wsX12_readsAll) B.pre⟩
  subst hsz
  have hD := hD0.self (sz := s.heap.size)
  generalize hAe : va_A [(av0, .inr (12, [.ref av1, .int 0, .int 0, .ref av2, .ref av3, .ref av4, .ref av5, .int 0, .int 0, .int 0, .int 0, .ref av6, .ref av7, .ref av8, .int 0, .int 0, .int 0, .int 0, .int 0, .int 0, .int 0, .ref av9, .int 0, .ref av10, .int 0, .ref av11, .ref av12, .int 1, .ref av13, .ref av14, .int 0, .int 0, .ref av15, .ref av16, .ref av17, .ref av18, .ref av19, .int 0, .ref av20, .long 0, .ref av21, .ref av22])), (av3, .inl (cy 0, 7, .inl (fun _ => 0)))] s.heap.size = A at hD ⊢
  have hA : ∀ q : Nat, s.heap.size ≤ q → A q := fun q h => by rw [← hAe]; exact Or.inr h
  have hw : Wd dC dI A s.heap s.heap [] [(av0, .inr (12, [.ref av1, .int 0, .int 0, .ref av2, .ref av3, .ref av4, .ref av5, .int 0, .int 0, .int 0, .int 0, .ref av6, .ref av7, .ref av8, .int 0, .int 0, .int 0, .int 0, .int 0, .int 0, .int 0, .ref av9, .int 0, .ref av10, .int 0, .ref av11, .ref av12, .int 1, .ref av13, .ref av14, .int 0, .int 0, .ref av15, .ref av16, .ref av17, .ref av18, .ref av19, .int 0, .ref av20, .long 0, .ref av21, .ref av22])), (av3, .inl (cy 0, 7, .inl (fun _ => 0)))] := ⟨hP, hD, va_S.rf⟩
  have hl := lv_entry ([.ref av0]) (n := 2) (Nat.le_of_ble_eq_true rfl)
  rw [lg_entry_eq]
  generalize (lg_sl ([.ref av0]) ++ List.replicate (2 - (lg_sl ([.ref av0])).length) Slot.unset).toArray = ls at hl ⊢
  have hl : lv_has ls 2 [(0, .ref av0)] := hl
  have hinX12 : ∀ w ∈ u_ws RX12 TX12 42, w ∈ wsX12_readsAll := fun _ h => List.mem_cons_of_mem _ (List.mem_append_right _ (h))
  refine lv_aload_n hx hb dX12_readsAll_0 rfl (lv_at hl 0 rfl) ?_
  refine wk_get hC hK hw hinX12 0 rfl rfl 4 (by decide) (List.mem_of_getElem? (i := 1) rfl) rfl rfl dX12_readsAll_1 ?_
  refine lv_aload_n hx hb dX12_readsAll_4 rfl (lv_at hl 0 rfl) ?_
  refine wk_get hC hK hw hinX12 0 rfl rfl 17 (by decide) (List.mem_of_getElem? (i := 2) rfl) rfl rfl dX12_readsAll_5 ?_
  refine lv_iconst (v := 0) hx hb dX12_readsAll_8 (by decide) ?_
  refine wk_iast hC hK hw 1 rfl (show ¬ ((0 : Int32) < 0 ∨ 7 ≤ (0 : Int32).toNatClampNeg) by decide) dX12_readsAll_9 (fun H locs hw => ?_)
  obtain ⟨f1, hw⟩ : ∃ f1 : Nat → Int32, Wd dC dI A s.heap H locs [(av0, .inr (12, [.ref av1, .int 0, .int 0, .ref av2, .ref av3, .ref av4, .ref av5, .int 0, .int 0, .int 0, .int 0, .ref av6, .ref av7, .ref av8, .int 0, .int 0, .int 0, .int 0, .int 0, .int 0, .int 0, .ref av9, .int 0, .ref av10, .int 0, .ref av11, .ref av12, .int 1, .ref av13, .ref av14, .int 0, .int 0, .ref av15, .ref av16, .ref av17, .ref av18, .ref av19, .int 0, .ref av20, .long 0, .ref av21, .ref av22])), (av3, .inl (cy 0, 7, .inl f1))] := ⟨_, hw⟩
  refine lv_aload_n hx hb dX12_readsAll_10 rfl (lv_at hl 0 rfl) ?_
  refine lv_iconst (v := 0) hx hb dX12_readsAll_11 (by decide) ?_
  refine wk_put hC hK hw hinX12 tyX12_ok nmX12 0 rfl rfl 20 (by decide) (List.mem_of_getElem? (i := 3) rfl) rfl rfl rfl rfl rfl (Nat.le_of_ble_eq_true rfl) dX12_readsAll_12 (fun H locs hw => ?_)
  have hw : Wd dC dI A s.heap H locs [(av0, .inr (12, [.ref av1, .int 0, .int 0, .ref av2, .ref av3, .ref av4, .ref av5, .int 0, .int 0, .int 0, .int 0, .ref av6, .ref av7, .ref av8, .int 0, .int 0, .int 0, .int 0, .int 0, .int 0, .int 0, .ref av9, .int 0, .ref av10, .int 0, .ref av11, .ref av12, .int 1, .ref av13, .ref av14, .int 0, .int 0, .ref av15, .ref av16, .ref av17, .ref av18, .ref av19, .int 0, .ref av20, .long 0, .ref av21, .ref av22])), (av3, .inl (cy 0, 7, .inl f1))] := hw
  refine lv_aload_n hx hb dX12_readsAll_15 rfl (lv_at hl 0 rfl) ?_
  refine lv_iconst (v := 0) hx hb dX12_readsAll_16 (by decide) ?_
  refine wk_put hC hK hw hinX12 tyX12_ok nmX12 0 rfl rfl 14 (by decide) (List.mem_of_getElem? (i := 4) rfl) rfl rfl rfl rfl rfl (Nat.le_of_ble_eq_true rfl) dX12_readsAll_17 (fun H locs hw => ?_)
  have hw : Wd dC dI A s.heap H locs [(av0, .inr (12, [.ref av1, .int 0, .int 0, .ref av2, .ref av3, .ref av4, .ref av5, .int 0, .int 0, .int 0, .int 0, .ref av6, .ref av7, .ref av8, .int 0, .int 0, .int 0, .int 0, .int 0, .int 0, .int 0, .ref av9, .int 0, .ref av10, .int 0, .ref av11, .ref av12, .int 1, .ref av13, .ref av14, .int 0, .int 0, .ref av15, .ref av16, .ref av17, .ref av18, .ref av19, .int 0, .ref av20, .long 0, .ref av21, .ref av22])), (av3, .inl (cy 0, 7, .inl f1))] := hw
  refine lv_aload_n hx hb dX12_readsAll_20 rfl (lv_at hl 0 rfl) ?_
  refine lv_iconst (v := 0) hx hb dX12_readsAll_21 (by decide) ?_
  refine wk_put hC hK hw hinX12 tyX12_ok nmX12 0 rfl rfl 15 (by decide) (List.mem_of_getElem? (i := 5) rfl) rfl rfl rfl rfl rfl (Nat.le_of_ble_eq_true rfl) dX12_readsAll_22 (fun H locs hw => ?_)
  have hw : Wd dC dI A s.heap H locs [(av0, .inr (12, [.ref av1, .int 0, .int 0, .ref av2, .ref av3, .ref av4, .ref av5, .int 0, .int 0, .int 0, .int 0, .ref av6, .ref av7, .ref av8, .int 0, .int 0, .int 0, .int 0, .int 0, .int 0, .int 0, .ref av9, .int 0, .ref av10, .int 0, .ref av11, .ref av12, .int 1, .ref av13, .ref av14, .int 0, .int 0, .ref av15, .ref av16, .ref av17, .ref av18, .ref av19, .int 0, .ref av20, .long 0, .ref av21, .ref av22])), (av3, .inl (cy 0, 7, .inl f1))] := hw
  refine lv_aload_n hx hb dX12_readsAll_25 rfl (lv_at hl 0 rfl) ?_
  refine lv_iconst (v := 0) hx hb dX12_readsAll_26 (by decide) ?_
  refine wk_put hC hK hw hinX12 tyX12_ok nmX12 0 rfl rfl 18 (by decide) (List.mem_of_getElem? (i := 6) rfl) rfl rfl rfl rfl rfl (Nat.le_of_ble_eq_true rfl) dX12_readsAll_27 (fun H locs hw => ?_)
  have hw : Wd dC dI A s.heap H locs [(av0, .inr (12, [.ref av1, .int 0, .int 0, .ref av2, .ref av3, .ref av4, .ref av5, .int 0, .int 0, .int 0, .int 0, .ref av6, .ref av7, .ref av8, .int 0, .int 0, .int 0, .int 0, .int 0, .int 0, .int 0, .ref av9, .int 0, .ref av10, .int 0, .ref av11, .ref av12, .int 1, .ref av13, .ref av14, .int 0, .int 0, .ref av15, .ref av16, .ref av17, .ref av18, .ref av19, .int 0, .ref av20, .long 0, .ref av21, .ref av22])), (av3, .inl (cy 0, 7, .inl f1))] := hw
  refine lv_aload_n hx hb dX12_readsAll_30 rfl (lv_at hl 0 rfl) ?_
  refine wk_Vi hC hK hw hA [0] [1] rfl rfl rfl rfl (by decide) (c_X12_clauseHere_2 l dC dI cy av0 av1 av2 av3 av4 av5 av6 av7 av8 av9 av10 av11 av12 av13 av14 av15 av16 av17 av18 av19 av20 av21 av22 H.size ) (cwV 0 hC.2.2.2.2 gX12_readsAll_X12_clauseHere rfl rfl rfl (by decide +kernel) ⟨Nat.le_of_ble_eq_true rfl, Nat.le_of_ble_eq_true rfl⟩) rfl 0 rfl rfl hl.1 rfl (Nat.le_of_ble_eq_true rfl) dX12_readsAll_31 0 0 ⟨rfl, rfl⟩ ⟨Nat.le_of_ble_eq_true rfl, Nat.le_of_ble_eq_true rfl⟩ (fun r3 u2 H locs p4 hw => ?_)
  have hw : Wd dC dI A s.heap H locs [(av3, .inl (cy 0, 7, .inl f1)), (av0, .inr (12, [.ref av1, .int 0, .int 0, .ref av2, .ref av3, .ref av4, .ref av5, .int 0, .int 0, .int 0, .int 0, .ref av6, .ref av7, .ref av8, .int 0, .int 1, .int 0, .int 0, .int 0, .int 0, .int 0, .ref av9, .int 0, .ref av10, .int 0, .ref av11, .ref av12, .int 1, .ref av13, .ref av14, .int 0, .int 0, .ref av15, .ref av16, .ref av17, .ref av18, .ref av19, .int 0, .ref av20, .long 0, .ref av21, .ref av22]))] := hw
  obtain rfl : r3 = 0 := p4
  refine lv_istore_n (lv' := [(1, .int 0), (0, .ref av0)]) hx hb dX12_readsAll_34 rfl hl (by decide) rfl (fun ls hl => ?_)
  refine lv_iload_n hx hb dX12_readsAll_35 rfl (lv_at hl 0 rfl) ?_
  refine lv_if_eq (tgt := 66) hx hb dX12_readsAll_36 (by decide) (fun _ => ?_) (fun c => absurd (by decide) c)
  refine lv_iload_n hx hb dX12_readsAll_66 rfl (lv_at hl 0 rfl) ?_
  refine lv_if_eq (tgt := 88) hx hb dX12_readsAll_67 (by decide) (fun _ => ?_) (fun c => absurd (by decide) c)
  refine lv_aload_n hx hb dX12_readsAll_88 rfl (lv_at hl 1 rfl) ?_
  refine lv_iconst (v := 0) hx hb dX12_readsAll_89 (by decide) ?_
  refine wk_put hC hK hw hinX12 tyX12_ok nmX12 1 rfl rfl 1 (by decide) (List.mem_of_getElem? (i := 7) rfl) rfl rfl rfl rfl rfl (Nat.le_of_ble_eq_true rfl) dX12_readsAll_90 (fun H locs hw => ?_)
  have hw : Wd dC dI A s.heap H locs [(av3, .inl (cy 0, 7, .inl f1)), (av0, .inr (12, [.ref av1, .int 0, .int 0, .ref av2, .ref av3, .ref av4, .ref av5, .int 0, .int 0, .int 0, .int 0, .ref av6, .ref av7, .ref av8, .int 0, .int 1, .int 0, .int 0, .int 0, .int 0, .int 0, .ref av9, .int 0, .ref av10, .int 0, .ref av11, .ref av12, .int 1, .ref av13, .ref av14, .int 0, .int 0, .ref av15, .ref av16, .ref av17, .ref av18, .ref av19, .int 0, .ref av20, .long 0, .ref av21, .ref av22]))] := hw
  refine lv_aload_n hx hb dX12_readsAll_93 rfl (lv_at hl 1 rfl) ?_
  refine wk_get hC hK hw hinX12 1 rfl rfl 15 (by decide) (List.mem_of_getElem? (i := 5) rfl) rfl rfl dX12_readsAll_94 ?_
  refine lv_if_ne (tgt := 104) hx hb dX12_readsAll_97 (by decide) (fun _ => ?_) (fun c => absurd (by decide) c)
  refine lv_iconst (v := 0) hx hb dX12_readsAll_104 (by decide) ?_
  exact wk_zret (v := 0) hC hr rfl hlocks hK ((fun _ => 0), (fun k => ([f1] : List (Nat → Int32)).getD k (fun _ => 0))) rfl [1, 0] rfl rfl hw dX12_readsAll_105

set_option maxHeartbeats 4000000 in
set_option maxRecDepth 100000 in
theorem t_X12_rule (l : Launch) (dC : Nat → ClassId) (dI : Nat → Nat → Nat) (cy : Nat → ClassId) (av0 : Nat) (ad : Nat → Nat) (sz : Nat)  : Met l yX12_rule wsX12_rule ({ frames := 5, cells := 0, slots := 0, locals := 110 }) (va_Pc [.ref av0] (wpre dC dI cy sz [(av0, .inr (12, [.ref (ad 0), .int 0, .int 0, .ref (ad 1), .ref (ad 2), .ref (ad 3), .ref (ad 4), .int 0, .int 0, .int 0, .int 0, .ref (ad 5), .ref (ad 6), .ref (ad 7), .int 0, .int 0, .int 0, .int 0, .int 0, .int 0, .int 0, .ref (ad 8), .int 0, .ref (ad 9), .int 0, .ref (ad 10), .ref (ad 11), .int 1, .ref (ad 12), .ref (ad 13), .int 0, .int 0, .ref (ad 14), .ref (ad 15), .ref (ad 16), .ref (ad 17), .ref (ad 18), .int 0, .ref (ad 19), .long 0, .ref (ad 20), .ref (ad 21)])), ((ad 2), .inl (cy 0, 7, .inl (fun _ => 0))), ((ad 4), .inl (cy 0, 6, .inl (fun _ => 0)))])) (va_Qi (fun (r : Int32) (_ : ((Nat → Nat) × (Nat → Nat → Int32))) => r = (-3)) (fun u => wpost dC dI cy (va_A [(av0, .inr (12, [.ref (ad 0), .int 0, .int 0, .ref (ad 1), .ref (ad 2), .ref (ad 3), .ref (ad 4), .int 0, .int 0, .int 0, .int 0, .ref (ad 5), .ref (ad 6), .ref (ad 7), .int 0, .int 0, .int 0, .int 0, .int 0, .int 0, .int 0, .ref (ad 8), .int 0, .ref (ad 9), .int 0, .ref (ad 10), .ref (ad 11), .int 1, .ref (ad 12), .ref (ad 13), .int 0, .int 0, .ref (ad 14), .ref (ad 15), .ref (ad 16), .ref (ad 17), .ref (ad 18), .int 0, .ref (ad 19), .long 0, .ref (ad 20), .ref (ad 21)])), ((ad 2), .inl (cy 0, 7, .inl (fun _ => 0))), ((ad 4), .inl (cy 0, 6, .inl (fun _ => 0)))] sz) [(av0, .inr (12, [.ref (ad 0), .int 0, .int 0, .ref (ad 1), .ref (ad 2), .ref (ad 3), .ref (ad 4), .int 0, .int 0, .int 0, .int 0, .ref (ad 5), .ref (ad 6), .ref (ad 7), .int 0, .int 1, .int 0, .int 0, .int 0, .int 0, .int 0, .ref (ad 8), .int 0, .ref (ad 9), .int 0, .ref (ad 10), .ref (ad 11), .int 1, .ref (ad 12), .ref (ad 13), .int 0, .int 0, .ref (ad 14), .ref (ad 15), .ref (ad 16), .ref (ad 17), .ref (ad 18), .int 0, .ref (ad 19), .long 0, .ref (ad 20), .ref (ad 21)])), ((ad 2), .inl (cy 0, 7, .inl (u.2 0))), ((ad 4), .inl (cy 0, 6, .inl (u.2 1)))]) (va_A [(av0, .inr (12, [.ref (ad 0), .int 0, .int 0, .ref (ad 1), .ref (ad 2), .ref (ad 3), .ref (ad 4), .int 0, .int 0, .int 0, .int 0, .ref (ad 5), .ref (ad 6), .ref (ad 7), .int 0, .int 0, .int 0, .int 0, .int 0, .int 0, .int 0, .ref (ad 8), .int 0, .ref (ad 9), .int 0, .ref (ad 10), .ref (ad 11), .int 1, .ref (ad 12), .ref (ad 13), .int 0, .int 0, .ref (ad 14), .ref (ad 15), .ref (ad 16), .ref (ad 17), .ref (ad 18), .int 0, .ref (ad 19), .long 0, .ref (ad 20), .ref (ad 21)])), ((ad 2), .inl (cy 0, 7, .inl (fun _ => 0))), ((ad 4), .inl (cy 0, 6, .inl (fun _ => 0)))] sz)) 0 0 (va_A [(av0, .inr (12, [.ref (ad 0), .int 0, .int 0, .ref (ad 1), .ref (ad 2), .ref (ad 3), .ref (ad 4), .int 0, .int 0, .int 0, .int 0, .ref (ad 5), .ref (ad 6), .ref (ad 7), .int 0, .int 0, .int 0, .int 0, .int 0, .int 0, .int 0, .ref (ad 8), .int 0, .ref (ad 9), .int 0, .ref (ad 10), .ref (ad 11), .int 1, .ref (ad 12), .ref (ad 13), .int 0, .int 0, .ref (ad 14), .ref (ad 15), .ref (ad 16), .ref (ad 17), .ref (ad 18), .int 0, .ref (ad 19), .long 0, .ref (ad 20), .ref (ad 21)])), ((ad 2), .inl (cy 0, 7, .inl (fun _ => 0))), ((ad 4), .inl (cy 0, 6, .inl (fun _ => 0)))] sz) := by
  refine Met.ofW (cc := cX12_rule) (maxL := 1) (ret := (some .int)) (by decide) rfl ?_
  intro p e s m args below meth c s₁ B hml hv
  obtain ⟨rfl, hsz, hP, hK, hD0⟩ := hv
  have hx := B.exec
  have hb := B.bytes
  have hr := B.returns
  have hlocks := B.notSynchronized
  have hC : CallFix p m c cX12_rule 1 s _ wsX12_rule RX12 := ⟨hx, hb, hml, findClass_of_methodNamed B.named, atoms_spec (ws := wsX12_rule) B.pre⟩
  subst hsz
  have hD := hD0.self (sz := s.heap.size)
  generalize hAe : va_A [(av0, .inr (12, [.ref (ad 0), .int 0, .int 0, .ref (ad 1), .ref (ad 2), .ref (ad 3), .ref (ad 4), .int 0, .int 0, .int 0, .int 0, .ref (ad 5), .ref (ad 6), .ref (ad 7), .int 0, .int 0, .int 0, .int 0, .int 0, .int 0, .int 0, .ref (ad 8), .int 0, .ref (ad 9), .int 0, .ref (ad 10), .ref (ad 11), .int 1, .ref (ad 12), .ref (ad 13), .int 0, .int 0, .ref (ad 14), .ref (ad 15), .ref (ad 16), .ref (ad 17), .ref (ad 18), .int 0, .ref (ad 19), .long 0, .ref (ad 20), .ref (ad 21)])), ((ad 2), .inl (cy 0, 7, .inl (fun _ => 0))), ((ad 4), .inl (cy 0, 6, .inl (fun _ => 0)))] s.heap.size = A at hD ⊢
  have hA : ∀ q : Nat, s.heap.size ≤ q → A q := fun q h => by rw [← hAe]; exact Or.inr h
  have hw : Wd dC dI A s.heap s.heap [] [(av0, .inr (12, [.ref (ad 0), .int 0, .int 0, .ref (ad 1), .ref (ad 2), .ref (ad 3), .ref (ad 4), .int 0, .int 0, .int 0, .int 0, .ref (ad 5), .ref (ad 6), .ref (ad 7), .int 0, .int 0, .int 0, .int 0, .int 0, .int 0, .int 0, .ref (ad 8), .int 0, .ref (ad 9), .int 0, .ref (ad 10), .ref (ad 11), .int 1, .ref (ad 12), .ref (ad 13), .int 0, .int 0, .ref (ad 14), .ref (ad 15), .ref (ad 16), .ref (ad 17), .ref (ad 18), .int 0, .ref (ad 19), .long 0, .ref (ad 20), .ref (ad 21)])), ((ad 2), .inl (cy 0, 7, .inl (fun _ => 0))), ((ad 4), .inl (cy 0, 6, .inl (fun _ => 0)))] := ⟨hP, hD, va_S.rf⟩
  have hl := lv_entry ([.ref av0]) (n := 1) (Nat.le_of_ble_eq_true rfl)
  rw [lg_entry_eq]
  generalize (lg_sl ([.ref av0]) ++ List.replicate (1 - (lg_sl ([.ref av0])).length) Slot.unset).toArray = ls at hl ⊢
  have hl : lv_has ls 1 [(0, .ref av0)] := hl
  have hinX12 : ∀ w ∈ u_ws RX12 TX12 42, w ∈ wsX12_rule := fun _ h => List.mem_cons_of_mem _ (List.mem_append_right _ (h))
  refine lv_aload_n hx hb dX12_rule_0 rfl (lv_at hl 0 rfl) ?_
  refine wk_get hC hK hw hinX12 0 rfl rfl 2 (by decide) (List.mem_of_getElem? (i := 1) rfl) rfl rfl dX12_rule_1 ?_
  refine lv_bipush (v := 6) hx hb dX12_rule_4 (by decide) ?_
  refine lv_icmp_ne (tgt := 11) hx hb dX12_rule_6 (by decide) (fun _ => ?_) (fun c => absurd (by decide) c)
  refine lv_aload_n hx hb dX12_rule_11 rfl (lv_at hl 0 rfl) ?_
  refine lv_aload_n hx hb dX12_rule_12 rfl (lv_at hl 0 rfl) ?_
  refine wk_get hC hK hw hinX12 0 rfl rfl 2 (by decide) (List.mem_of_getElem? (i := 1) rfl) rfl rfl dX12_rule_13 ?_
  refine wk_put hC hK hw hinX12 tyX12_ok nmX12 0 rfl rfl 17 (by decide) (List.mem_of_getElem? (i := 2) rfl) rfl rfl rfl rfl rfl (Nat.le_of_ble_eq_true rfl) dX12_rule_16 (fun H locs hw => ?_)
  have hw : Wd dC dI A s.heap H locs [(av0, .inr (12, [.ref (ad 0), .int 0, .int 0, .ref (ad 1), .ref (ad 2), .ref (ad 3), .ref (ad 4), .int 0, .int 0, .int 0, .int 0, .ref (ad 5), .ref (ad 6), .ref (ad 7), .int 0, .int 0, .int 0, .int 0, .int 0, .int 0, .int 0, .ref (ad 8), .int 0, .ref (ad 9), .int 0, .ref (ad 10), .ref (ad 11), .int 1, .ref (ad 12), .ref (ad 13), .int 0, .int 0, .ref (ad 14), .ref (ad 15), .ref (ad 16), .ref (ad 17), .ref (ad 18), .int 0, .ref (ad 19), .long 0, .ref (ad 20), .ref (ad 21)])), ((ad 2), .inl (cy 0, 7, .inl (fun _ => 0))), ((ad 4), .inl (cy 0, 6, .inl (fun _ => 0)))] := hw
  refine lv_aload_n hx hb dX12_rule_19 rfl (lv_at hl 0 rfl) ?_
  refine wk_get hC hK hw hinX12 0 rfl rfl 6 (by decide) (List.mem_of_getElem? (i := 3) rfl) rfl rfl dX12_rule_20 ?_
  refine lv_aload_n hx hb dX12_rule_23 rfl (lv_at hl 0 rfl) ?_
  refine wk_get hC hK hw hinX12 0 rfl rfl 17 (by decide) (List.mem_of_getElem? (i := 2) rfl) rfl rfl dX12_rule_24 ?_
  refine lv_iconst (v := 0) hx hb dX12_rule_27 (by decide) ?_
  refine wk_iast hC hK hw 2 rfl (show ¬ ((0 : Int32) < 0 ∨ 6 ≤ (0 : Int32).toNatClampNeg) by decide) dX12_rule_28 (fun H locs hw => ?_)
  obtain ⟨f1, hw⟩ : ∃ f1 : Nat → Int32, Wd dC dI A s.heap H locs [(av0, .inr (12, [.ref (ad 0), .int 0, .int 0, .ref (ad 1), .ref (ad 2), .ref (ad 3), .ref (ad 4), .int 0, .int 0, .int 0, .int 0, .ref (ad 5), .ref (ad 6), .ref (ad 7), .int 0, .int 0, .int 0, .int 0, .int 0, .int 0, .int 0, .ref (ad 8), .int 0, .ref (ad 9), .int 0, .ref (ad 10), .ref (ad 11), .int 1, .ref (ad 12), .ref (ad 13), .int 0, .int 0, .ref (ad 14), .ref (ad 15), .ref (ad 16), .ref (ad 17), .ref (ad 18), .int 0, .ref (ad 19), .long 0, .ref (ad 20), .ref (ad 21)])), ((ad 2), .inl (cy 0, 7, .inl (fun _ => 0))), ((ad 4), .inl (cy 0, 6, .inl f1))] := ⟨_, hw⟩
  refine lv_aload_n hx hb dX12_rule_29 rfl (lv_at hl 0 rfl) ?_
  refine wk_Vi hC hK hw hA [0, 1] [2] rfl rfl rfl rfl (by decide) (c_X12_readsAll_2 l dC dI cy av0 (ad 0) (ad 1) (ad 2) (ad 3) (ad 4) (ad 5) (ad 6) (ad 7) (ad 8) (ad 9) (ad 10) (ad 11) (ad 12) (ad 13) (ad 14) (ad 15) (ad 16) (ad 17) (ad 18) (ad 19) (ad 20) (ad 21) H.size ) (cwV 0 hC.2.2.2.2 gX12_rule_X12_readsAll rfl rfl rfl (by decide +kernel) ⟨Nat.le_of_ble_eq_true rfl, Nat.le_of_ble_eq_true rfl⟩) rfl 0 rfl rfl hl.1 rfl (Nat.le_of_ble_eq_true rfl) dX12_rule_30 0 0 ⟨rfl, rfl⟩ ⟨Nat.le_of_ble_eq_true rfl, Nat.le_of_ble_eq_true rfl⟩ (fun r3 u2 H locs p4 hw => ?_)
  have hw : Wd dC dI A s.heap H locs [((ad 4), .inl (cy 0, 6, .inl f1)), (av0, .inr (12, [.ref (ad 0), .int 0, .int 0, .ref (ad 1), .ref (ad 2), .ref (ad 3), .ref (ad 4), .int 0, .int 0, .int 0, .int 0, .ref (ad 5), .ref (ad 6), .ref (ad 7), .int 0, .int 1, .int 0, .int 0, .int 0, .int 0, .int 0, .ref (ad 8), .int 0, .ref (ad 9), .int 0, .ref (ad 10), .ref (ad 11), .int 1, .ref (ad 12), .ref (ad 13), .int 0, .int 0, .ref (ad 14), .ref (ad 15), .ref (ad 16), .ref (ad 17), .ref (ad 18), .int 0, .ref (ad 19), .long 0, .ref (ad 20), .ref (ad 21)])), ((ad 2), .inl (cy 0, 7, .inl (u2.2 0)))] := hw
  obtain rfl : r3 = 0 := p4
  refine lv_if_ne (tgt := 44) hx hb dX12_rule_33 (by decide) (fun c => absurd c (by decide)) (fun _ => ?_)
  refine lv_bipush (v := (-2)) hx hb dX12_rule_36 (by decide) ?_
  refine lv_aload_n hx hb dX12_rule_38 rfl (lv_at hl 0 rfl) ?_
  refine wk_get hC hK hw hinX12 1 rfl rfl 15 (by decide) (List.mem_of_getElem? (i := 4) rfl) rfl rfl dX12_rule_39 ?_
  refine lv_isub hx hb dX12_rule_42 ?_
  refine wk_top (-3) (by decide) ?_
  exact wk_iret (v := (-3)) hC hr hlocks hK ((fun _ => 0), (fun k => ([(u2.2 0), f1] : List (Nat → Int32)).getD k (fun _ => 0))) rfl [1, 2, 0] rfl rfl hw dX12_rule_43

set_option maxHeartbeats 4000000 in
set_option maxRecDepth 100000 in
theorem c_X12_isStreet_1 (l : Launch) (dC : Nat → ClassId) (dI : Nat → Nat → Nat) (cy : Nat → ClassId) (av0 : Nat) (iv0 : Int32) (av1 : Nat) (av2 : Nat) (av3 : Nat) (av4 : Nat) (av5 : Nat) (av6 : Nat) (av7 : Nat) (av8 : Nat) (av9 : Nat) (av10 : Nat) (av11 : Nat) (av12 : Nat) (av13 : Nat) (av14 : Nat) (av15 : Nat) (av16 : Nat) (av17 : Nat) (av18 : Nat) (av19 : Nat) (av20 : Nat) (av21 : Nat) (av22 : Nat) (sz : Nat)  : Met l yX12_isStreet wsX12_isStreet ({ frames := 0, cells := 0, slots := 0, locals := 0 }) (va_Pc [.ref av0, .int iv0] (wpre dC dI cy sz [(av0, .inr (12, [.ref av1, .int 0, .int 0, .ref av2, .ref av3, .ref av4, .ref av5, .int 0, .int 0, .int 0, .int 0, .ref av6, .ref av7, .ref av8, .int 0, .int 0, .int 0, .int 0, .int 0, .int 0, .int 0, .ref av9, .int 0, .ref av10, .int 0, .ref av11, .ref av12, .int 1, .ref av13, .ref av14, .int 0, .int 0, .ref av15, .ref av16, .ref av17, .ref av18, .ref av19, .int 0, .ref av20, .long 0, .ref av21, .ref av22])), (av12, .inl (cy 0, 296, .inl (fun _ => 0)))])) (va_Qi (fun (r : Int32) (_ : ((Nat → Nat) × (Nat → Nat → Int32))) => r = 0) (fun u => wpost dC dI cy (va_A [(av0, .inr (12, [.ref av1, .int 0, .int 0, .ref av2, .ref av3, .ref av4, .ref av5, .int 0, .int 0, .int 0, .int 0, .ref av6, .ref av7, .ref av8, .int 0, .int 0, .int 0, .int 0, .int 0, .int 0, .int 0, .ref av9, .int 0, .ref av10, .int 0, .ref av11, .ref av12, .int 1, .ref av13, .ref av14, .int 0, .int 0, .ref av15, .ref av16, .ref av17, .ref av18, .ref av19, .int 0, .ref av20, .long 0, .ref av21, .ref av22])), (av12, .inl (cy 0, 296, .inl (fun _ => 0)))] sz) [(av0, .inr (12, [.ref av1, .int 0, .int 0, .ref av2, .ref av3, .ref av4, .ref av5, .int 0, .int 0, .int 0, .int 0, .ref av6, .ref av7, .ref av8, .int 0, .int 0, .int 0, .int 0, .int 0, .int 0, .int 0, .ref av9, .int 0, .ref av10, .int 0, .ref av11, .ref av12, .int 1, .ref av13, .ref av14, .int 0, .int 0, .ref av15, .ref av16, .ref av17, .ref av18, .ref av19, .int 0, .ref av20, .long 0, .ref av21, .ref av22])), (av12, .inl (cy 0, 296, .inl (fun _ => 0)))]) (va_A [(av0, .inr (12, [.ref av1, .int 0, .int 0, .ref av2, .ref av3, .ref av4, .ref av5, .int 0, .int 0, .int 0, .int 0, .ref av6, .ref av7, .ref av8, .int 0, .int 0, .int 0, .int 0, .int 0, .int 0, .int 0, .ref av9, .int 0, .ref av10, .int 0, .ref av11, .ref av12, .int 1, .ref av13, .ref av14, .int 0, .int 0, .ref av15, .ref av16, .ref av17, .ref av18, .ref av19, .int 0, .ref av20, .long 0, .ref av21, .ref av22])), (av12, .inl (cy 0, 296, .inl (fun _ => 0)))] sz)) 0 0 (va_A [(av0, .inr (12, [.ref av1, .int 0, .int 0, .ref av2, .ref av3, .ref av4, .ref av5, .int 0, .int 0, .int 0, .int 0, .ref av6, .ref av7, .ref av8, .int 0, .int 0, .int 0, .int 0, .int 0, .int 0, .int 0, .ref av9, .int 0, .ref av10, .int 0, .ref av11, .ref av12, .int 1, .ref av13, .ref av14, .int 0, .int 0, .ref av15, .ref av16, .ref av17, .ref av18, .ref av19, .int 0, .ref av20, .long 0, .ref av21, .ref av22])), (av12, .inl (cy 0, 296, .inl (fun _ => 0)))] sz) := by
  refine Met.ofW (cc := cX12_isStreet) (maxL := 2) (ret := (some .boolean)) (by decide) rfl ?_
  intro p e s m args below meth c s₁ B hml hv
  obtain ⟨rfl, hsz, hP, hK, hD0⟩ := hv
  have hx := B.exec
  have hb := B.bytes
  have hr := B.returns
  have hlocks := B.notSynchronized
  have hC : CallFix p m c cX12_isStreet 2 s _ wsX12_isStreet RX12 := ⟨hx, hb, hml, findClass_of_methodNamed B.named, atoms_spec (ws := wsX12_isStreet) B.pre⟩
  subst hsz
  have hD := hD0.self (sz := s.heap.size)
  generalize hAe : va_A [(av0, .inr (12, [.ref av1, .int 0, .int 0, .ref av2, .ref av3, .ref av4, .ref av5, .int 0, .int 0, .int 0, .int 0, .ref av6, .ref av7, .ref av8, .int 0, .int 0, .int 0, .int 0, .int 0, .int 0, .int 0, .ref av9, .int 0, .ref av10, .int 0, .ref av11, .ref av12, .int 1, .ref av13, .ref av14, .int 0, .int 0, .ref av15, .ref av16, .ref av17, .ref av18, .ref av19, .int 0, .ref av20, .long 0, .ref av21, .ref av22])), (av12, .inl (cy 0, 296, .inl (fun _ => 0)))] s.heap.size = A at hD ⊢
  have hA : ∀ q : Nat, s.heap.size ≤ q → A q := fun q h => by rw [← hAe]; exact Or.inr h
  have hw : Wd dC dI A s.heap s.heap [] [(av0, .inr (12, [.ref av1, .int 0, .int 0, .ref av2, .ref av3, .ref av4, .ref av5, .int 0, .int 0, .int 0, .int 0, .ref av6, .ref av7, .ref av8, .int 0, .int 0, .int 0, .int 0, .int 0, .int 0, .int 0, .ref av9, .int 0, .ref av10, .int 0, .ref av11, .ref av12, .int 1, .ref av13, .ref av14, .int 0, .int 0, .ref av15, .ref av16, .ref av17, .ref av18, .ref av19, .int 0, .ref av20, .long 0, .ref av21, .ref av22])), (av12, .inl (cy 0, 296, .inl (fun _ => 0)))] := ⟨hP, hD, va_S.rf⟩
  have hl := lv_entry ([.ref av0, .int iv0]) (n := 2) (Nat.le_of_ble_eq_true rfl)
  rw [lg_entry_eq]
  generalize (lg_sl ([.ref av0, .int iv0]) ++ List.replicate (2 - (lg_sl ([.ref av0, .int iv0])).length) Slot.unset).toArray = ls at hl ⊢
  have hl : lv_has ls 2 [(0, .ref av0), (1, .int iv0)] := hl
  have hinX12 : ∀ w ∈ u_ws RX12 TX12 42, w ∈ wsX12_isStreet := fun _ h => List.mem_cons_of_mem _ (List.mem_append_right _ (h))
  refine lv_iload_n hx hb dX12_isStreet_0 rfl (lv_at hl 1 rfl) ?_
  refine lv_if_lt (tgt := 18) hx hb dX12_isStreet_1 (by decide) (fun c1 => ?_) (fun c1 => ?_)
  · have c1 : iv0.toInt < 0 := wk_lt.mp c1
    refine lv_iconst (v := 0) hx hb dX12_isStreet_18 (by decide) ?_
    exact wk_zret (v := 0) hC hr rfl hlocks hK ((fun _ => 0), (fun _ _ => 0)) rfl [0, 1] rfl rfl hw dX12_isStreet_19
  · have c1 : 0 ≤ iv0.toInt := wk_ltF c1
    refine lv_iload_n hx hb dX12_isStreet_4 rfl (lv_at hl 1 rfl) ?_
    refine lv_aload_n hx hb dX12_isStreet_5 rfl (lv_at hl 0 rfl) ?_
    refine wk_get hC hK hw hinX12 0 rfl rfl 26 (by decide) (List.mem_of_getElem? (i := 1) rfl) rfl rfl dX12_isStreet_6 ?_
    refine lv_iconst (v := 1) hx hb dX12_isStreet_9 (by decide) ?_
    refine wk_iald hC hK hw 1 rfl (show ¬ ((1 : Int32) < 0 ∨ 296 ≤ (1 : Int32).toNatClampNeg) by decide) dX12_isStreet_10 ?_
    refine wk_top 0 rfl ?_
    refine lv_icmp_ge (tgt := 18) hx hb dX12_isStreet_11 (by decide) (fun _ => ?_) (fun c => absurd (wk_le.mpr (show 0 ≤ iv0.toInt by omega)) c)
    refine lv_iconst (v := 0) hx hb dX12_isStreet_18 (by decide) ?_
    exact wk_zret (v := 0) hC hr rfl hlocks hK ((fun _ => 0), (fun _ _ => 0)) rfl [0, 1] rfl rfl hw dX12_isStreet_19

set_option maxHeartbeats 4000000 in
set_option maxRecDepth 100000 in
theorem t_X12_street (l : Launch) (dC : Nat → ClassId) (dI : Nat → Nat → Nat) (cy : Nat → ClassId) (av0 : Nat) (ad : Nat → Nat) (p0 : Int32) (p1 : Int32) (sz : Nat)  : Met l yX12_street wsX12_street ({ frames := 1, cells := 0, slots := 0, locals := 21 }) (va_Pc [.ref av0, .int p0, .int p1] (wpre dC dI cy sz [(av0, .inr (12, [.ref (ad 0), .int 0, .int 0, .ref (ad 1), .ref (ad 2), .ref (ad 3), .ref (ad 4), .int 0, .int 0, .int 0, .int 0, .ref (ad 5), .ref (ad 6), .ref (ad 7), .int 0, .int 0, .int 0, .int 0, .int 0, .int 0, .int 0, .ref (ad 8), .int 0, .ref (ad 9), .int 0, .ref (ad 10), .ref (ad 11), .int 1, .ref (ad 12), .ref (ad 13), .int 0, .int 0, .ref (ad 14), .ref (ad 15), .ref (ad 16), .ref (ad 17), .ref (ad 18), .int 0, .ref (ad 19), .long 0, .ref (ad 20), .ref (ad 21)])), ((ad 11), .inl (cy 0, 296, .inl (fun _ => 0)))])) (va_Qi (fun (r : Int32) (_ : ((Nat → Nat) × (Nat → Nat → Int32))) => r = (-1)) (fun u => wpost dC dI cy (va_A [(av0, .inr (12, [.ref (ad 0), .int 0, .int 0, .ref (ad 1), .ref (ad 2), .ref (ad 3), .ref (ad 4), .int 0, .int 0, .int 0, .int 0, .ref (ad 5), .ref (ad 6), .ref (ad 7), .int 0, .int 0, .int 0, .int 0, .int 0, .int 0, .int 0, .ref (ad 8), .int 0, .ref (ad 9), .int 0, .ref (ad 10), .ref (ad 11), .int 1, .ref (ad 12), .ref (ad 13), .int 0, .int 0, .ref (ad 14), .ref (ad 15), .ref (ad 16), .ref (ad 17), .ref (ad 18), .int 0, .ref (ad 19), .long 0, .ref (ad 20), .ref (ad 21)])), ((ad 11), .inl (cy 0, 296, .inl (fun _ => 0)))] sz) [(av0, .inr (12, [.ref (ad 0), .int 0, .int 0, .ref (ad 1), .ref (ad 2), .ref (ad 3), .ref (ad 4), .int 0, .int 0, .int 0, .int 0, .ref (ad 5), .ref (ad 6), .ref (ad 7), .int 0, .int 0, .int 0, .int 0, .int 0, .int 0, .int 0, .ref (ad 8), .int 0, .ref (ad 9), .int 0, .ref (ad 10), .ref (ad 11), .int 1, .ref (ad 12), .ref (ad 13), .int 0, .int 0, .ref (ad 14), .ref (ad 15), .ref (ad 16), .ref (ad 17), .ref (ad 18), .int 0, .ref (ad 19), .long 0, .ref (ad 20), .ref (ad 21)])), ((ad 11), .inl (cy 0, 296, .inl (fun _ => 0)))]) (va_A [(av0, .inr (12, [.ref (ad 0), .int 0, .int 0, .ref (ad 1), .ref (ad 2), .ref (ad 3), .ref (ad 4), .int 0, .int 0, .int 0, .int 0, .ref (ad 5), .ref (ad 6), .ref (ad 7), .int 0, .int 0, .int 0, .int 0, .int 0, .int 0, .int 0, .ref (ad 8), .int 0, .ref (ad 9), .int 0, .ref (ad 10), .ref (ad 11), .int 1, .ref (ad 12), .ref (ad 13), .int 0, .int 0, .ref (ad 14), .ref (ad 15), .ref (ad 16), .ref (ad 17), .ref (ad 18), .int 0, .ref (ad 19), .long 0, .ref (ad 20), .ref (ad 21)])), ((ad 11), .inl (cy 0, 296, .inl (fun _ => 0)))] sz)) 0 0 (va_A [(av0, .inr (12, [.ref (ad 0), .int 0, .int 0, .ref (ad 1), .ref (ad 2), .ref (ad 3), .ref (ad 4), .int 0, .int 0, .int 0, .int 0, .ref (ad 5), .ref (ad 6), .ref (ad 7), .int 0, .int 0, .int 0, .int 0, .int 0, .int 0, .int 0, .ref (ad 8), .int 0, .ref (ad 9), .int 0, .ref (ad 10), .ref (ad 11), .int 1, .ref (ad 12), .ref (ad 13), .int 0, .int 0, .ref (ad 14), .ref (ad 15), .ref (ad 16), .ref (ad 17), .ref (ad 18), .int 0, .ref (ad 19), .long 0, .ref (ad 20), .ref (ad 21)])), ((ad 11), .inl (cy 0, 296, .inl (fun _ => 0)))] sz) := by
  refine Met.ofW (cc := cX12_street) (maxL := 3) (ret := (some .int)) (by decide) rfl ?_
  intro p e s m args below meth c s₁ B hml hv
  obtain ⟨rfl, hsz, hP, hK, hD0⟩ := hv
  have hx := B.exec
  have hb := B.bytes
  have hr := B.returns
  have hlocks := B.notSynchronized
  have hC : CallFix p m c cX12_street 3 s _ wsX12_street RX12 := ⟨hx, hb, hml, findClass_of_methodNamed B.named, atoms_spec (ws := wsX12_street) B.pre⟩
  subst hsz
  have hD := hD0.self (sz := s.heap.size)
  generalize hAe : va_A [(av0, .inr (12, [.ref (ad 0), .int 0, .int 0, .ref (ad 1), .ref (ad 2), .ref (ad 3), .ref (ad 4), .int 0, .int 0, .int 0, .int 0, .ref (ad 5), .ref (ad 6), .ref (ad 7), .int 0, .int 0, .int 0, .int 0, .int 0, .int 0, .int 0, .ref (ad 8), .int 0, .ref (ad 9), .int 0, .ref (ad 10), .ref (ad 11), .int 1, .ref (ad 12), .ref (ad 13), .int 0, .int 0, .ref (ad 14), .ref (ad 15), .ref (ad 16), .ref (ad 17), .ref (ad 18), .int 0, .ref (ad 19), .long 0, .ref (ad 20), .ref (ad 21)])), ((ad 11), .inl (cy 0, 296, .inl (fun _ => 0)))] s.heap.size = A at hD ⊢
  have hA : ∀ q : Nat, s.heap.size ≤ q → A q := fun q h => by rw [← hAe]; exact Or.inr h
  have hw : Wd dC dI A s.heap s.heap [] [(av0, .inr (12, [.ref (ad 0), .int 0, .int 0, .ref (ad 1), .ref (ad 2), .ref (ad 3), .ref (ad 4), .int 0, .int 0, .int 0, .int 0, .ref (ad 5), .ref (ad 6), .ref (ad 7), .int 0, .int 0, .int 0, .int 0, .int 0, .int 0, .int 0, .ref (ad 8), .int 0, .ref (ad 9), .int 0, .ref (ad 10), .ref (ad 11), .int 1, .ref (ad 12), .ref (ad 13), .int 0, .int 0, .ref (ad 14), .ref (ad 15), .ref (ad 16), .ref (ad 17), .ref (ad 18), .int 0, .ref (ad 19), .long 0, .ref (ad 20), .ref (ad 21)])), ((ad 11), .inl (cy 0, 296, .inl (fun _ => 0)))] := ⟨hP, hD, va_S.rf⟩
  have hl := lv_entry ([.ref av0, .int p0, .int p1]) (n := 3) (Nat.le_of_ble_eq_true rfl)
  rw [lg_entry_eq]
  generalize (lg_sl ([.ref av0, .int p0, .int p1]) ++ List.replicate (3 - (lg_sl ([.ref av0, .int p0, .int p1])).length) Slot.unset).toArray = ls at hl ⊢
  have hl : lv_has ls 3 [(0, .ref av0), (1, .int p0), (2, .int p1)] := hl
  refine lv_aload_n hx hb dX12_street_0 rfl (lv_at hl 0 rfl) ?_
  refine lv_iload_n hx hb dX12_street_1 rfl (lv_at hl 1 rfl) ?_
  refine wk_Vi hC hK hw hA [0, 1] [] rfl rfl rfl rfl (by decide) (c_X12_isStreet_1 l dC dI cy av0 p0 (ad 0) (ad 1) (ad 2) (ad 3) (ad 4) (ad 5) (ad 6) (ad 7) (ad 8) (ad 9) (ad 10) (ad 11) (ad 12) (ad 13) (ad 14) (ad 15) (ad 16) (ad 17) (ad 18) (ad 19) (ad 20) (ad 21) s.heap.size ) (cwV 1 hC.2.2.2.2 gX12_street_X12_isStreet rfl rfl rfl (by decide +kernel) ⟨Nat.le_of_ble_eq_true rfl, Nat.le_of_ble_eq_true rfl⟩) rfl 0 rfl rfl hl.1 rfl (Nat.le_of_ble_eq_true rfl) dX12_street_2 0 0 ⟨rfl, rfl⟩ ⟨Nat.le_of_ble_eq_true rfl, Nat.le_of_ble_eq_true rfl⟩ (fun r2 u1 H locs p3 hw => ?_)
  have hw : Wd dC dI A s.heap H locs [(av0, .inr (12, [.ref (ad 0), .int 0, .int 0, .ref (ad 1), .ref (ad 2), .ref (ad 3), .ref (ad 4), .int 0, .int 0, .int 0, .int 0, .ref (ad 5), .ref (ad 6), .ref (ad 7), .int 0, .int 0, .int 0, .int 0, .int 0, .int 0, .int 0, .ref (ad 8), .int 0, .ref (ad 9), .int 0, .ref (ad 10), .ref (ad 11), .int 1, .ref (ad 12), .ref (ad 13), .int 0, .int 0, .ref (ad 14), .ref (ad 15), .ref (ad 16), .ref (ad 17), .ref (ad 18), .int 0, .ref (ad 19), .long 0, .ref (ad 20), .ref (ad 21)])), ((ad 11), .inl (cy 0, 296, .inl (fun _ => 0)))] := hw
  obtain rfl : r2 = 0 := p3
  refine lv_if_eq (tgt := 29) hx hb dX12_street_5 (by decide) (fun _ => ?_) (fun c => absurd (by decide) c)
  refine lv_iconst (v := (-1)) hx hb dX12_street_29 (by decide) ?_
  exact wk_iret (v := (-1)) hC hr hlocks hK ((fun _ => 0), (fun _ _ => 0)) rfl [0, 1] rfl rfl hw dX12_street_30

set_option maxHeartbeats 4000000 in
set_option maxRecDepth 100000 in
theorem t_X12_open (l : Launch) (dC : Nat → ClassId) (dI : Nat → Nat → Nat) (cy : Nat → ClassId) (av0 : Nat) (ad : Nat → Nat) (p0 : Int32) (p1 : Int32) (p2 : Int32) (sz : Nat)  : Met l yX12_open wsX12_open ({ frames := 1, cells := 0, slots := 0, locals := 21 }) (va_Pc [.ref av0, .int p0, .int p1, .int p2] (wpre dC dI cy sz [(av0, .inr (12, [.ref (ad 0), .int 0, .int 0, .ref (ad 1), .ref (ad 2), .ref (ad 3), .ref (ad 4), .int 0, .int 0, .int 0, .int 0, .ref (ad 5), .ref (ad 6), .ref (ad 7), .int 0, .int 0, .int 0, .int 0, .int 0, .int 0, .int 0, .ref (ad 8), .int 0, .ref (ad 9), .int 0, .ref (ad 10), .ref (ad 11), .int 1, .ref (ad 12), .ref (ad 13), .int 0, .int 0, .ref (ad 14), .ref (ad 15), .ref (ad 16), .ref (ad 17), .ref (ad 18), .int 0, .ref (ad 19), .long 0, .ref (ad 20), .ref (ad 21)])), ((ad 11), .inl (cy 0, 296, .inl (fun _ => 0)))])) (va_Qi (fun (r : Int32) (_ : ((Nat → Nat) × (Nat → Nat → Int32))) => r = (-1)) (fun u => wpost dC dI cy (va_A [(av0, .inr (12, [.ref (ad 0), .int 0, .int 0, .ref (ad 1), .ref (ad 2), .ref (ad 3), .ref (ad 4), .int 0, .int 0, .int 0, .int 0, .ref (ad 5), .ref (ad 6), .ref (ad 7), .int 0, .int 0, .int 0, .int 0, .int 0, .int 0, .int 0, .ref (ad 8), .int 0, .ref (ad 9), .int 0, .ref (ad 10), .ref (ad 11), .int 1, .ref (ad 12), .ref (ad 13), .int 0, .int 0, .ref (ad 14), .ref (ad 15), .ref (ad 16), .ref (ad 17), .ref (ad 18), .int 0, .ref (ad 19), .long 0, .ref (ad 20), .ref (ad 21)])), ((ad 11), .inl (cy 0, 296, .inl (fun _ => 0)))] sz) [(av0, .inr (12, [.ref (ad 0), .int 0, .int 0, .ref (ad 1), .ref (ad 2), .ref (ad 3), .ref (ad 4), .int 0, .int 0, .int 0, .int 0, .ref (ad 5), .ref (ad 6), .ref (ad 7), .int 0, .int 0, .int 0, .int 0, .int 0, .int 0, .int 0, .ref (ad 8), .int 0, .ref (ad 9), .int 0, .ref (ad 10), .ref (ad 11), .int 1, .ref (ad 12), .ref (ad 13), .int 0, .int 0, .ref (ad 14), .ref (ad 15), .ref (ad 16), .ref (ad 17), .ref (ad 18), .int 0, .ref (ad 19), .long 0, .ref (ad 20), .ref (ad 21)])), ((ad 11), .inl (cy 0, 296, .inl (fun _ => 0)))]) (va_A [(av0, .inr (12, [.ref (ad 0), .int 0, .int 0, .ref (ad 1), .ref (ad 2), .ref (ad 3), .ref (ad 4), .int 0, .int 0, .int 0, .int 0, .ref (ad 5), .ref (ad 6), .ref (ad 7), .int 0, .int 0, .int 0, .int 0, .int 0, .int 0, .int 0, .ref (ad 8), .int 0, .ref (ad 9), .int 0, .ref (ad 10), .ref (ad 11), .int 1, .ref (ad 12), .ref (ad 13), .int 0, .int 0, .ref (ad 14), .ref (ad 15), .ref (ad 16), .ref (ad 17), .ref (ad 18), .int 0, .ref (ad 19), .long 0, .ref (ad 20), .ref (ad 21)])), ((ad 11), .inl (cy 0, 296, .inl (fun _ => 0)))] sz)) 0 0 (va_A [(av0, .inr (12, [.ref (ad 0), .int 0, .int 0, .ref (ad 1), .ref (ad 2), .ref (ad 3), .ref (ad 4), .int 0, .int 0, .int 0, .int 0, .ref (ad 5), .ref (ad 6), .ref (ad 7), .int 0, .int 0, .int 0, .int 0, .int 0, .int 0, .int 0, .ref (ad 8), .int 0, .ref (ad 9), .int 0, .ref (ad 10), .ref (ad 11), .int 1, .ref (ad 12), .ref (ad 13), .int 0, .int 0, .ref (ad 14), .ref (ad 15), .ref (ad 16), .ref (ad 17), .ref (ad 18), .int 0, .ref (ad 19), .long 0, .ref (ad 20), .ref (ad 21)])), ((ad 11), .inl (cy 0, 296, .inl (fun _ => 0)))] sz) := by
  refine Met.ofW (cc := cX12_open) (maxL := 4) (ret := (some .int)) (by decide) rfl ?_
  intro p e s m args below meth c s₁ B hml hv
  obtain ⟨rfl, hsz, hP, hK, hD0⟩ := hv
  have hx := B.exec
  have hb := B.bytes
  have hr := B.returns
  have hlocks := B.notSynchronized
  have hC : CallFix p m c cX12_open 4 s _ wsX12_open RX12 := ⟨hx, hb, hml, findClass_of_methodNamed B.named, atoms_spec (ws := wsX12_open) B.pre⟩
  subst hsz
  have hD := hD0.self (sz := s.heap.size)
  generalize hAe : va_A [(av0, .inr (12, [.ref (ad 0), .int 0, .int 0, .ref (ad 1), .ref (ad 2), .ref (ad 3), .ref (ad 4), .int 0, .int 0, .int 0, .int 0, .ref (ad 5), .ref (ad 6), .ref (ad 7), .int 0, .int 0, .int 0, .int 0, .int 0, .int 0, .int 0, .ref (ad 8), .int 0, .ref (ad 9), .int 0, .ref (ad 10), .ref (ad 11), .int 1, .ref (ad 12), .ref (ad 13), .int 0, .int 0, .ref (ad 14), .ref (ad 15), .ref (ad 16), .ref (ad 17), .ref (ad 18), .int 0, .ref (ad 19), .long 0, .ref (ad 20), .ref (ad 21)])), ((ad 11), .inl (cy 0, 296, .inl (fun _ => 0)))] s.heap.size = A at hD ⊢
  have hA : ∀ q : Nat, s.heap.size ≤ q → A q := fun q h => by rw [← hAe]; exact Or.inr h
  have hw : Wd dC dI A s.heap s.heap [] [(av0, .inr (12, [.ref (ad 0), .int 0, .int 0, .ref (ad 1), .ref (ad 2), .ref (ad 3), .ref (ad 4), .int 0, .int 0, .int 0, .int 0, .ref (ad 5), .ref (ad 6), .ref (ad 7), .int 0, .int 0, .int 0, .int 0, .int 0, .int 0, .int 0, .ref (ad 8), .int 0, .ref (ad 9), .int 0, .ref (ad 10), .ref (ad 11), .int 1, .ref (ad 12), .ref (ad 13), .int 0, .int 0, .ref (ad 14), .ref (ad 15), .ref (ad 16), .ref (ad 17), .ref (ad 18), .int 0, .ref (ad 19), .long 0, .ref (ad 20), .ref (ad 21)])), ((ad 11), .inl (cy 0, 296, .inl (fun _ => 0)))] := ⟨hP, hD, va_S.rf⟩
  have hl := lv_entry ([.ref av0, .int p0, .int p1, .int p2]) (n := 4) (Nat.le_of_ble_eq_true rfl)
  rw [lg_entry_eq]
  generalize (lg_sl ([.ref av0, .int p0, .int p1, .int p2]) ++ List.replicate (4 - (lg_sl ([.ref av0, .int p0, .int p1, .int p2])).length) Slot.unset).toArray = ls at hl ⊢
  have hl : lv_has ls 4 [(0, .ref av0), (1, .int p0), (2, .int p1), (3, .int p2)] := hl
  refine lv_aload_n hx hb dX12_open_0 rfl (lv_at hl 0 rfl) ?_
  refine lv_iload_n hx hb dX12_open_1 rfl (lv_at hl 1 rfl) ?_
  refine wk_Vi hC hK hw hA [0, 1] [] rfl rfl rfl rfl (by decide) (c_X12_isStreet_1 l dC dI cy av0 p0 (ad 0) (ad 1) (ad 2) (ad 3) (ad 4) (ad 5) (ad 6) (ad 7) (ad 8) (ad 9) (ad 10) (ad 11) (ad 12) (ad 13) (ad 14) (ad 15) (ad 16) (ad 17) (ad 18) (ad 19) (ad 20) (ad 21) s.heap.size ) (cwV 1 hC.2.2.2.2 gX12_open_X12_isStreet rfl rfl rfl (by decide +kernel) ⟨Nat.le_of_ble_eq_true rfl, Nat.le_of_ble_eq_true rfl⟩) rfl 0 rfl rfl hl.1 rfl (Nat.le_of_ble_eq_true rfl) dX12_open_2 0 0 ⟨rfl, rfl⟩ ⟨Nat.le_of_ble_eq_true rfl, Nat.le_of_ble_eq_true rfl⟩ (fun r2 u1 H locs p3 hw => ?_)
  have hw : Wd dC dI A s.heap H locs [(av0, .inr (12, [.ref (ad 0), .int 0, .int 0, .ref (ad 1), .ref (ad 2), .ref (ad 3), .ref (ad 4), .int 0, .int 0, .int 0, .int 0, .ref (ad 5), .ref (ad 6), .ref (ad 7), .int 0, .int 0, .int 0, .int 0, .int 0, .int 0, .int 0, .ref (ad 8), .int 0, .ref (ad 9), .int 0, .ref (ad 10), .ref (ad 11), .int 1, .ref (ad 12), .ref (ad 13), .int 0, .int 0, .ref (ad 14), .ref (ad 15), .ref (ad 16), .ref (ad 17), .ref (ad 18), .int 0, .ref (ad 19), .long 0, .ref (ad 20), .ref (ad 21)])), ((ad 11), .inl (cy 0, 296, .inl (fun _ => 0)))] := hw
  obtain rfl : r2 = 0 := p3
  refine lv_if_eq (tgt := 32) hx hb dX12_open_5 (by decide) (fun _ => ?_) (fun c => absurd (by decide) c)
  refine lv_iconst (v := (-1)) hx hb dX12_open_32 (by decide) ?_
  exact wk_iret (v := (-1)) hC hr hlocks hK ((fun _ => 0), (fun _ _ => 0)) rfl [0, 1] rfl rfl hw dX12_open_33

set_option maxHeartbeats 4000000 in
set_option maxRecDepth 100000 in
theorem c_X12_isTown_1 (l : Launch) (dC : Nat → ClassId) (dI : Nat → Nat → Nat) (cy : Nat → ClassId) (av0 : Nat) (av1 : Nat) (av2 : Nat) (av3 : Nat) (av4 : Nat) (av5 : Nat) (av6 : Nat) (av7 : Nat) (av8 : Nat) (av9 : Nat) (av10 : Nat) (av11 : Nat) (av12 : Nat) (av13 : Nat) (av14 : Nat) (av15 : Nat) (av16 : Nat) (av17 : Nat) (av18 : Nat) (av19 : Nat) (av20 : Nat) (av21 : Nat) (av22 : Nat) (sz : Nat)  : Met l yX12_isTown wsX12_isTown ({ frames := 0, cells := 0, slots := 0, locals := 0 }) (va_Pc [.ref av0] (wpre dC dI cy sz [(av0, .inr (12, [.ref av1, .int 0, .int 0, .ref av2, .ref av3, .ref av4, .ref av5, .int 0, .int 0, .int 0, .int 0, .ref av6, .ref av7, .ref av8, .int 0, .int 0, .int 0, .int 0, .int 0, .int 0, .int 0, .ref av9, .int 0, .ref av10, .int 0, .ref av11, .ref av12, .int 1, .ref av13, .ref av14, .int 0, .int 0, .ref av15, .ref av16, .ref av17, .ref av18, .ref av19, .int 0, .ref av20, .long 0, .ref av21, .ref av22])), (av12, .inl (cy 0, 296, .inl (fun _ => 0)))])) (va_Qi (fun (r : Int32) (_ : ((Nat → Nat) × (Nat → Nat → Int32))) => r = 0) (fun u => wpost dC dI cy (va_A [(av0, .inr (12, [.ref av1, .int 0, .int 0, .ref av2, .ref av3, .ref av4, .ref av5, .int 0, .int 0, .int 0, .int 0, .ref av6, .ref av7, .ref av8, .int 0, .int 0, .int 0, .int 0, .int 0, .int 0, .int 0, .ref av9, .int 0, .ref av10, .int 0, .ref av11, .ref av12, .int 1, .ref av13, .ref av14, .int 0, .int 0, .ref av15, .ref av16, .ref av17, .ref av18, .ref av19, .int 0, .ref av20, .long 0, .ref av21, .ref av22])), (av12, .inl (cy 0, 296, .inl (fun _ => 0)))] sz) [(av0, .inr (12, [.ref av1, .int 0, .int 0, .ref av2, .ref av3, .ref av4, .ref av5, .int 0, .int 0, .int 0, .int 0, .ref av6, .ref av7, .ref av8, .int 0, .int 0, .int 0, .int 0, .int 0, .int 0, .int 0, .ref av9, .int 0, .ref av10, .int 0, .ref av11, .ref av12, .int 1, .ref av13, .ref av14, .int 0, .int 0, .ref av15, .ref av16, .ref av17, .ref av18, .ref av19, .int 0, .ref av20, .long 0, .ref av21, .ref av22])), (av12, .inl (cy 0, 296, .inl (fun _ => 0)))]) (va_A [(av0, .inr (12, [.ref av1, .int 0, .int 0, .ref av2, .ref av3, .ref av4, .ref av5, .int 0, .int 0, .int 0, .int 0, .ref av6, .ref av7, .ref av8, .int 0, .int 0, .int 0, .int 0, .int 0, .int 0, .int 0, .ref av9, .int 0, .ref av10, .int 0, .ref av11, .ref av12, .int 1, .ref av13, .ref av14, .int 0, .int 0, .ref av15, .ref av16, .ref av17, .ref av18, .ref av19, .int 0, .ref av20, .long 0, .ref av21, .ref av22])), (av12, .inl (cy 0, 296, .inl (fun _ => 0)))] sz)) 0 0 (va_A [(av0, .inr (12, [.ref av1, .int 0, .int 0, .ref av2, .ref av3, .ref av4, .ref av5, .int 0, .int 0, .int 0, .int 0, .ref av6, .ref av7, .ref av8, .int 0, .int 0, .int 0, .int 0, .int 0, .int 0, .int 0, .ref av9, .int 0, .ref av10, .int 0, .ref av11, .ref av12, .int 1, .ref av13, .ref av14, .int 0, .int 0, .ref av15, .ref av16, .ref av17, .ref av18, .ref av19, .int 0, .ref av20, .long 0, .ref av21, .ref av22])), (av12, .inl (cy 0, 296, .inl (fun _ => 0)))] sz) := by
  refine Met.ofW (cc := cX12_isTown) (maxL := 1) (ret := (some .boolean)) (by decide) rfl ?_
  intro p e s m args below meth c s₁ B hml hv
  obtain ⟨rfl, hsz, hP, hK, hD0⟩ := hv
  have hx := B.exec
  have hb := B.bytes
  have hr := B.returns
  have hlocks := B.notSynchronized
  have hC : CallFix p m c cX12_isTown 1 s _ wsX12_isTown RX12 := ⟨hx, hb, hml, findClass_of_methodNamed B.named, atoms_spec (ws := wsX12_isTown) B.pre⟩
  subst hsz
  have hD := hD0.self (sz := s.heap.size)
  generalize hAe : va_A [(av0, .inr (12, [.ref av1, .int 0, .int 0, .ref av2, .ref av3, .ref av4, .ref av5, .int 0, .int 0, .int 0, .int 0, .ref av6, .ref av7, .ref av8, .int 0, .int 0, .int 0, .int 0, .int 0, .int 0, .int 0, .ref av9, .int 0, .ref av10, .int 0, .ref av11, .ref av12, .int 1, .ref av13, .ref av14, .int 0, .int 0, .ref av15, .ref av16, .ref av17, .ref av18, .ref av19, .int 0, .ref av20, .long 0, .ref av21, .ref av22])), (av12, .inl (cy 0, 296, .inl (fun _ => 0)))] s.heap.size = A at hD ⊢
  have hA : ∀ q : Nat, s.heap.size ≤ q → A q := fun q h => by rw [← hAe]; exact Or.inr h
  have hw : Wd dC dI A s.heap s.heap [] [(av0, .inr (12, [.ref av1, .int 0, .int 0, .ref av2, .ref av3, .ref av4, .ref av5, .int 0, .int 0, .int 0, .int 0, .ref av6, .ref av7, .ref av8, .int 0, .int 0, .int 0, .int 0, .int 0, .int 0, .int 0, .ref av9, .int 0, .ref av10, .int 0, .ref av11, .ref av12, .int 1, .ref av13, .ref av14, .int 0, .int 0, .ref av15, .ref av16, .ref av17, .ref av18, .ref av19, .int 0, .ref av20, .long 0, .ref av21, .ref av22])), (av12, .inl (cy 0, 296, .inl (fun _ => 0)))] := ⟨hP, hD, va_S.rf⟩
  have hl := lv_entry ([.ref av0]) (n := 1) (Nat.le_of_ble_eq_true rfl)
  rw [lg_entry_eq]
  generalize (lg_sl ([.ref av0]) ++ List.replicate (1 - (lg_sl ([.ref av0])).length) Slot.unset).toArray = ls at hl ⊢
  have hl : lv_has ls 1 [(0, .ref av0)] := hl
  have hinX12 : ∀ w ∈ u_ws RX12 TX12 42, w ∈ wsX12_isTown := fun _ h => List.mem_cons_of_mem _ (List.mem_append_right _ (h))
  refine lv_aload_n hx hb dX12_isTown_0 rfl (lv_at hl 0 rfl) ?_
  refine wk_get hC hK hw hinX12 0 rfl rfl 26 (by decide) (List.mem_of_getElem? (i := 1) rfl) rfl rfl dX12_isTown_1 ?_
  refine lv_iconst (v := 0) hx hb dX12_isTown_4 (by decide) ?_
  refine wk_iald hC hK hw 1 rfl (show ¬ ((0 : Int32) < 0 ∨ 296 ≤ (0 : Int32).toNatClampNeg) by decide) dX12_isTown_5 ?_
  refine wk_top 0 rfl ?_
  refine lv_if_le (tgt := 13) hx hb dX12_isTown_6 (by decide) (fun _ => ?_) (fun c => absurd (by decide) c)
  refine lv_iconst (v := 0) hx hb dX12_isTown_13 (by decide) ?_
  exact wk_zret (v := 0) hC hr rfl hlocks hK ((fun _ => 0), (fun _ _ => 0)) rfl [0, 1] rfl rfl hw dX12_isTown_14

set_option maxHeartbeats 4000000 in
set_option maxRecDepth 100000 in
theorem t_X12_print (l : Launch) (dC : Nat → ClassId) (dI : Nat → Nat → Nat) (cy : Nat → ClassId) (av0 : Nat) (ad : Nat → Nat) (p0 : Int32) (sz : Nat)  : Met l yX12_print wsX12_print ({ frames := 1, cells := 0, slots := 0, locals := 20 }) (va_Pc [.ref av0, .int p0] (wpre dC dI cy sz [(av0, .inr (12, [.ref (ad 0), .int 0, .int 0, .ref (ad 1), .ref (ad 2), .ref (ad 3), .ref (ad 4), .int 0, .int 0, .int 0, .int 0, .ref (ad 5), .ref (ad 6), .ref (ad 7), .int 0, .int 0, .int 0, .int 0, .int 0, .int 0, .int 0, .ref (ad 8), .int 0, .ref (ad 9), .int 0, .ref (ad 10), .ref (ad 11), .int 1, .ref (ad 12), .ref (ad 13), .int 0, .int 0, .ref (ad 14), .ref (ad 15), .ref (ad 16), .ref (ad 17), .ref (ad 18), .int 0, .ref (ad 19), .long 0, .ref (ad 20), .ref (ad 21)])), ((ad 11), .inl (cy 0, 296, .inl (fun _ => 0)))])) (va_Qi (fun (r : Int32) (_ : ((Nat → Nat) × (Nat → Nat → Int32))) => r = (-2)) (fun u => wpost dC dI cy (va_A [(av0, .inr (12, [.ref (ad 0), .int 0, .int 0, .ref (ad 1), .ref (ad 2), .ref (ad 3), .ref (ad 4), .int 0, .int 0, .int 0, .int 0, .ref (ad 5), .ref (ad 6), .ref (ad 7), .int 0, .int 0, .int 0, .int 0, .int 0, .int 0, .int 0, .ref (ad 8), .int 0, .ref (ad 9), .int 0, .ref (ad 10), .ref (ad 11), .int 1, .ref (ad 12), .ref (ad 13), .int 0, .int 0, .ref (ad 14), .ref (ad 15), .ref (ad 16), .ref (ad 17), .ref (ad 18), .int 0, .ref (ad 19), .long 0, .ref (ad 20), .ref (ad 21)])), ((ad 11), .inl (cy 0, 296, .inl (fun _ => 0)))] sz) [(av0, .inr (12, [.ref (ad 0), .int 0, .int 0, .ref (ad 1), .ref (ad 2), .ref (ad 3), .ref (ad 4), .int 0, .int 0, .int 0, .int 0, .ref (ad 5), .ref (ad 6), .ref (ad 7), .int 0, .int 0, .int 0, .int 0, .int 0, .int 0, .int 0, .ref (ad 8), .int 0, .ref (ad 9), .int 0, .ref (ad 10), .ref (ad 11), .int 1, .ref (ad 12), .ref (ad 13), .int 0, .int 0, .ref (ad 14), .ref (ad 15), .ref (ad 16), .ref (ad 17), .ref (ad 18), .int 0, .ref (ad 19), .long 0, .ref (ad 20), .ref (ad 21)])), ((ad 11), .inl (cy 0, 296, .inl (fun _ => 0)))]) (va_A [(av0, .inr (12, [.ref (ad 0), .int 0, .int 0, .ref (ad 1), .ref (ad 2), .ref (ad 3), .ref (ad 4), .int 0, .int 0, .int 0, .int 0, .ref (ad 5), .ref (ad 6), .ref (ad 7), .int 0, .int 0, .int 0, .int 0, .int 0, .int 0, .int 0, .ref (ad 8), .int 0, .ref (ad 9), .int 0, .ref (ad 10), .ref (ad 11), .int 1, .ref (ad 12), .ref (ad 13), .int 0, .int 0, .ref (ad 14), .ref (ad 15), .ref (ad 16), .ref (ad 17), .ref (ad 18), .int 0, .ref (ad 19), .long 0, .ref (ad 20), .ref (ad 21)])), ((ad 11), .inl (cy 0, 296, .inl (fun _ => 0)))] sz)) 0 0 (va_A [(av0, .inr (12, [.ref (ad 0), .int 0, .int 0, .ref (ad 1), .ref (ad 2), .ref (ad 3), .ref (ad 4), .int 0, .int 0, .int 0, .int 0, .ref (ad 5), .ref (ad 6), .ref (ad 7), .int 0, .int 0, .int 0, .int 0, .int 0, .int 0, .int 0, .ref (ad 8), .int 0, .ref (ad 9), .int 0, .ref (ad 10), .ref (ad 11), .int 1, .ref (ad 12), .ref (ad 13), .int 0, .int 0, .ref (ad 14), .ref (ad 15), .ref (ad 16), .ref (ad 17), .ref (ad 18), .int 0, .ref (ad 19), .long 0, .ref (ad 20), .ref (ad 21)])), ((ad 11), .inl (cy 0, 296, .inl (fun _ => 0)))] sz) := by
  refine Met.ofW (cc := cX12_print) (maxL := 3) (ret := (some .int)) (by decide) rfl ?_
  intro p e s m args below meth c s₁ B hml hv
  obtain ⟨rfl, hsz, hP, hK, hD0⟩ := hv
  have hx := B.exec
  have hb := B.bytes
  have hr := B.returns
  have hlocks := B.notSynchronized
  have hC : CallFix p m c cX12_print 3 s _ wsX12_print RX12 := ⟨hx, hb, hml, findClass_of_methodNamed B.named, atoms_spec (ws := wsX12_print) B.pre⟩
  subst hsz
  have hD := hD0.self (sz := s.heap.size)
  generalize hAe : va_A [(av0, .inr (12, [.ref (ad 0), .int 0, .int 0, .ref (ad 1), .ref (ad 2), .ref (ad 3), .ref (ad 4), .int 0, .int 0, .int 0, .int 0, .ref (ad 5), .ref (ad 6), .ref (ad 7), .int 0, .int 0, .int 0, .int 0, .int 0, .int 0, .int 0, .ref (ad 8), .int 0, .ref (ad 9), .int 0, .ref (ad 10), .ref (ad 11), .int 1, .ref (ad 12), .ref (ad 13), .int 0, .int 0, .ref (ad 14), .ref (ad 15), .ref (ad 16), .ref (ad 17), .ref (ad 18), .int 0, .ref (ad 19), .long 0, .ref (ad 20), .ref (ad 21)])), ((ad 11), .inl (cy 0, 296, .inl (fun _ => 0)))] s.heap.size = A at hD ⊢
  have hA : ∀ q : Nat, s.heap.size ≤ q → A q := fun q h => by rw [← hAe]; exact Or.inr h
  have hw : Wd dC dI A s.heap s.heap [] [(av0, .inr (12, [.ref (ad 0), .int 0, .int 0, .ref (ad 1), .ref (ad 2), .ref (ad 3), .ref (ad 4), .int 0, .int 0, .int 0, .int 0, .ref (ad 5), .ref (ad 6), .ref (ad 7), .int 0, .int 0, .int 0, .int 0, .int 0, .int 0, .int 0, .ref (ad 8), .int 0, .ref (ad 9), .int 0, .ref (ad 10), .ref (ad 11), .int 1, .ref (ad 12), .ref (ad 13), .int 0, .int 0, .ref (ad 14), .ref (ad 15), .ref (ad 16), .ref (ad 17), .ref (ad 18), .int 0, .ref (ad 19), .long 0, .ref (ad 20), .ref (ad 21)])), ((ad 11), .inl (cy 0, 296, .inl (fun _ => 0)))] := ⟨hP, hD, va_S.rf⟩
  have hl := lv_entry ([.ref av0, .int p0]) (n := 3) (Nat.le_of_ble_eq_true rfl)
  rw [lg_entry_eq]
  generalize (lg_sl ([.ref av0, .int p0]) ++ List.replicate (3 - (lg_sl ([.ref av0, .int p0])).length) Slot.unset).toArray = ls at hl ⊢
  have hl : lv_has ls 3 [(0, .ref av0), (1, .int p0)] := hl
  refine lv_aload_n hx hb dX12_print_0 rfl (lv_at hl 0 rfl) ?_
  refine wk_Vi hC hK hw hA [0, 1] [] rfl rfl rfl rfl (by decide) (c_X12_isTown_1 l dC dI cy av0 (ad 0) (ad 1) (ad 2) (ad 3) (ad 4) (ad 5) (ad 6) (ad 7) (ad 8) (ad 9) (ad 10) (ad 11) (ad 12) (ad 13) (ad 14) (ad 15) (ad 16) (ad 17) (ad 18) (ad 19) (ad 20) (ad 21) s.heap.size ) (cwV 0 hC.2.2.2.2 gX12_print_X12_isTown rfl rfl rfl (by decide +kernel) ⟨Nat.le_of_ble_eq_true rfl, Nat.le_of_ble_eq_true rfl⟩) rfl 0 rfl rfl hl.1 rfl (Nat.le_of_ble_eq_true rfl) dX12_print_1 0 0 ⟨rfl, rfl⟩ ⟨Nat.le_of_ble_eq_true rfl, Nat.le_of_ble_eq_true rfl⟩ (fun r2 u1 H locs p3 hw => ?_)
  have hw : Wd dC dI A s.heap H locs [(av0, .inr (12, [.ref (ad 0), .int 0, .int 0, .ref (ad 1), .ref (ad 2), .ref (ad 3), .ref (ad 4), .int 0, .int 0, .int 0, .int 0, .ref (ad 5), .ref (ad 6), .ref (ad 7), .int 0, .int 0, .int 0, .int 0, .int 0, .int 0, .int 0, .ref (ad 8), .int 0, .ref (ad 9), .int 0, .ref (ad 10), .ref (ad 11), .int 1, .ref (ad 12), .ref (ad 13), .int 0, .int 0, .ref (ad 14), .ref (ad 15), .ref (ad 16), .ref (ad 17), .ref (ad 18), .int 0, .ref (ad 19), .long 0, .ref (ad 20), .ref (ad 21)])), ((ad 11), .inl (cy 0, 296, .inl (fun _ => 0)))] := hw
  obtain rfl : r2 = 0 := p3
  refine lv_if_eq (tgt := 29) hx hb dX12_print_4 (by decide) (fun _ => ?_) (fun c => absurd (by decide) c)
  refine lv_bipush (v := (-2)) hx hb dX12_print_29 (by decide) ?_
  exact wk_iret (v := (-2)) hC hr hlocks hK ((fun _ => 0), (fun _ _ => 0)) rfl [0, 1] rfl rfl hw dX12_print_31

set_option maxHeartbeats 4000000 in
set_option maxRecDepth 100000 in
theorem c_X12_isMap_1 (l : Launch) (dC : Nat → ClassId) (dI : Nat → Nat → Nat) (cy : Nat → ClassId) (av0 : Nat) (iv0 : Int32) (av1 : Nat) (av2 : Nat) (av3 : Nat) (av4 : Nat) (av5 : Nat) (av6 : Nat) (av7 : Nat) (av8 : Nat) (av9 : Nat) (av10 : Nat) (av11 : Nat) (av12 : Nat) (av13 : Nat) (av14 : Nat) (av15 : Nat) (av16 : Nat) (av17 : Nat) (av18 : Nat) (av19 : Nat) (av20 : Nat) (av21 : Nat) (av22 : Nat) (sz : Nat)  : Met l yX12_isMap wsX12_isMap ({ frames := 0, cells := 0, slots := 0, locals := 0 }) (va_Pc [.ref av0, .int iv0] (wpre dC dI cy sz [(av0, .inr (12, [.ref av1, .int 0, .int 0, .ref av2, .ref av3, .ref av4, .ref av5, .int 0, .int 0, .int 0, .int 0, .ref av6, .ref av7, .ref av8, .int 0, .int 0, .int 0, .int 0, .int 0, .int 0, .int 0, .ref av9, .int 0, .ref av10, .int 0, .ref av11, .ref av12, .int 1, .ref av13, .ref av14, .int 0, .int 0, .ref av15, .ref av16, .ref av17, .ref av18, .ref av19, .int 0, .ref av20, .long 0, .ref av21, .ref av22])), (av12, .inl (cy 0, 296, .inl (fun _ => 0)))])) (va_Qi (fun (r : Int32) (_ : ((Nat → Nat) × (Nat → Nat → Int32))) => r = 0) (fun u => wpost dC dI cy (va_A [(av0, .inr (12, [.ref av1, .int 0, .int 0, .ref av2, .ref av3, .ref av4, .ref av5, .int 0, .int 0, .int 0, .int 0, .ref av6, .ref av7, .ref av8, .int 0, .int 0, .int 0, .int 0, .int 0, .int 0, .int 0, .ref av9, .int 0, .ref av10, .int 0, .ref av11, .ref av12, .int 1, .ref av13, .ref av14, .int 0, .int 0, .ref av15, .ref av16, .ref av17, .ref av18, .ref av19, .int 0, .ref av20, .long 0, .ref av21, .ref av22])), (av12, .inl (cy 0, 296, .inl (fun _ => 0)))] sz) [(av0, .inr (12, [.ref av1, .int 0, .int 0, .ref av2, .ref av3, .ref av4, .ref av5, .int 0, .int 0, .int 0, .int 0, .ref av6, .ref av7, .ref av8, .int 0, .int 0, .int 0, .int 0, .int 0, .int 0, .int 0, .ref av9, .int 0, .ref av10, .int 0, .ref av11, .ref av12, .int 1, .ref av13, .ref av14, .int 0, .int 0, .ref av15, .ref av16, .ref av17, .ref av18, .ref av19, .int 0, .ref av20, .long 0, .ref av21, .ref av22])), (av12, .inl (cy 0, 296, .inl (fun _ => 0)))]) (va_A [(av0, .inr (12, [.ref av1, .int 0, .int 0, .ref av2, .ref av3, .ref av4, .ref av5, .int 0, .int 0, .int 0, .int 0, .ref av6, .ref av7, .ref av8, .int 0, .int 0, .int 0, .int 0, .int 0, .int 0, .int 0, .ref av9, .int 0, .ref av10, .int 0, .ref av11, .ref av12, .int 1, .ref av13, .ref av14, .int 0, .int 0, .ref av15, .ref av16, .ref av17, .ref av18, .ref av19, .int 0, .ref av20, .long 0, .ref av21, .ref av22])), (av12, .inl (cy 0, 296, .inl (fun _ => 0)))] sz)) 0 0 (va_A [(av0, .inr (12, [.ref av1, .int 0, .int 0, .ref av2, .ref av3, .ref av4, .ref av5, .int 0, .int 0, .int 0, .int 0, .ref av6, .ref av7, .ref av8, .int 0, .int 0, .int 0, .int 0, .int 0, .int 0, .int 0, .ref av9, .int 0, .ref av10, .int 0, .ref av11, .ref av12, .int 1, .ref av13, .ref av14, .int 0, .int 0, .ref av15, .ref av16, .ref av17, .ref av18, .ref av19, .int 0, .ref av20, .long 0, .ref av21, .ref av22])), (av12, .inl (cy 0, 296, .inl (fun _ => 0)))] sz) := by
  refine Met.ofW (cc := cX12_isMap) (maxL := 2) (ret := (some .boolean)) (by decide) rfl ?_
  intro p e s m args below meth c s₁ B hml hv
  obtain ⟨rfl, hsz, hP, hK, hD0⟩ := hv
  have hx := B.exec
  have hb := B.bytes
  have hr := B.returns
  have hlocks := B.notSynchronized
  have hC : CallFix p m c cX12_isMap 2 s _ wsX12_isMap RX12 := ⟨hx, hb, hml, findClass_of_methodNamed B.named, atoms_spec (ws := wsX12_isMap) B.pre⟩
  subst hsz
  have hD := hD0.self (sz := s.heap.size)
  generalize hAe : va_A [(av0, .inr (12, [.ref av1, .int 0, .int 0, .ref av2, .ref av3, .ref av4, .ref av5, .int 0, .int 0, .int 0, .int 0, .ref av6, .ref av7, .ref av8, .int 0, .int 0, .int 0, .int 0, .int 0, .int 0, .int 0, .ref av9, .int 0, .ref av10, .int 0, .ref av11, .ref av12, .int 1, .ref av13, .ref av14, .int 0, .int 0, .ref av15, .ref av16, .ref av17, .ref av18, .ref av19, .int 0, .ref av20, .long 0, .ref av21, .ref av22])), (av12, .inl (cy 0, 296, .inl (fun _ => 0)))] s.heap.size = A at hD ⊢
  have hA : ∀ q : Nat, s.heap.size ≤ q → A q := fun q h => by rw [← hAe]; exact Or.inr h
  have hw : Wd dC dI A s.heap s.heap [] [(av0, .inr (12, [.ref av1, .int 0, .int 0, .ref av2, .ref av3, .ref av4, .ref av5, .int 0, .int 0, .int 0, .int 0, .ref av6, .ref av7, .ref av8, .int 0, .int 0, .int 0, .int 0, .int 0, .int 0, .int 0, .ref av9, .int 0, .ref av10, .int 0, .ref av11, .ref av12, .int 1, .ref av13, .ref av14, .int 0, .int 0, .ref av15, .ref av16, .ref av17, .ref av18, .ref av19, .int 0, .ref av20, .long 0, .ref av21, .ref av22])), (av12, .inl (cy 0, 296, .inl (fun _ => 0)))] := ⟨hP, hD, va_S.rf⟩
  have hl := lv_entry ([.ref av0, .int iv0]) (n := 2) (Nat.le_of_ble_eq_true rfl)
  rw [lg_entry_eq]
  generalize (lg_sl ([.ref av0, .int iv0]) ++ List.replicate (2 - (lg_sl ([.ref av0, .int iv0])).length) Slot.unset).toArray = ls at hl ⊢
  have hl : lv_has ls 2 [(0, .ref av0), (1, .int iv0)] := hl
  have hinX12 : ∀ w ∈ u_ws RX12 TX12 42, w ∈ wsX12_isMap := fun _ h => List.mem_cons_of_mem _ (List.mem_append_right _ (h))
  refine lv_iload_n hx hb dX12_isMap_0 rfl (lv_at hl 1 rfl) ?_
  refine lv_if_lt (tgt := 18) hx hb dX12_isMap_1 (by decide) (fun c1 => ?_) (fun c1 => ?_)
  · have c1 : iv0.toInt < 0 := wk_lt.mp c1
    refine lv_iconst (v := 0) hx hb dX12_isMap_18 (by decide) ?_
    exact wk_zret (v := 0) hC hr rfl hlocks hK ((fun _ => 0), (fun _ _ => 0)) rfl [0, 1] rfl rfl hw dX12_isMap_19
  · have c1 : 0 ≤ iv0.toInt := wk_ltF c1
    refine lv_iload_n hx hb dX12_isMap_4 rfl (lv_at hl 1 rfl) ?_
    refine lv_aload_n hx hb dX12_isMap_5 rfl (lv_at hl 0 rfl) ?_
    refine wk_get hC hK hw hinX12 0 rfl rfl 26 (by decide) (List.mem_of_getElem? (i := 1) rfl) rfl rfl dX12_isMap_6 ?_
    refine lv_iconst (v := 4) hx hb dX12_isMap_9 (by decide) ?_
    refine wk_iald hC hK hw 1 rfl (show ¬ ((4 : Int32) < 0 ∨ 296 ≤ (4 : Int32).toNatClampNeg) by decide) dX12_isMap_10 ?_
    refine wk_top 0 rfl ?_
    refine lv_icmp_ge (tgt := 18) hx hb dX12_isMap_11 (by decide) (fun _ => ?_) (fun c => absurd (wk_le.mpr (show 0 ≤ iv0.toInt by omega)) c)
    refine lv_iconst (v := 0) hx hb dX12_isMap_18 (by decide) ?_
    exact wk_zret (v := 0) hC hr rfl hlocks hK ((fun _ => 0), (fun _ _ => 0)) rfl [0, 1] rfl rfl hw dX12_isMap_19

set_option maxHeartbeats 4000000 in
set_option maxRecDepth 100000 in
theorem t_X12_misprint (l : Launch) (dC : Nat → ClassId) (dI : Nat → Nat → Nat) (cy : Nat → ClassId) (av0 : Nat) (ad : Nat → Nat) (p0 : Int32) (p1 : Int32) (p2 : Int32) (sz : Nat)  : Met l yX12_misprint wsX12_misprint ({ frames := 1, cells := 0, slots := 0, locals := 21 }) (va_Pc [.ref av0, .int p0, .int p1, .int p2] (wpre dC dI cy sz [(av0, .inr (12, [.ref (ad 0), .int 0, .int 0, .ref (ad 1), .ref (ad 2), .ref (ad 3), .ref (ad 4), .int 0, .int 0, .int 0, .int 0, .ref (ad 5), .ref (ad 6), .ref (ad 7), .int 0, .int 0, .int 0, .int 0, .int 0, .int 0, .int 0, .ref (ad 8), .int 0, .ref (ad 9), .int 0, .ref (ad 10), .ref (ad 11), .int 1, .ref (ad 12), .ref (ad 13), .int 0, .int 0, .ref (ad 14), .ref (ad 15), .ref (ad 16), .ref (ad 17), .ref (ad 18), .int 0, .ref (ad 19), .long 0, .ref (ad 20), .ref (ad 21)])), ((ad 11), .inl (cy 0, 296, .inl (fun _ => 0)))])) (va_Qi (fun (r : Int32) (_ : ((Nat → Nat) × (Nat → Nat → Int32))) => r = (-1)) (fun u => wpost dC dI cy (va_A [(av0, .inr (12, [.ref (ad 0), .int 0, .int 0, .ref (ad 1), .ref (ad 2), .ref (ad 3), .ref (ad 4), .int 0, .int 0, .int 0, .int 0, .ref (ad 5), .ref (ad 6), .ref (ad 7), .int 0, .int 0, .int 0, .int 0, .int 0, .int 0, .int 0, .ref (ad 8), .int 0, .ref (ad 9), .int 0, .ref (ad 10), .ref (ad 11), .int 1, .ref (ad 12), .ref (ad 13), .int 0, .int 0, .ref (ad 14), .ref (ad 15), .ref (ad 16), .ref (ad 17), .ref (ad 18), .int 0, .ref (ad 19), .long 0, .ref (ad 20), .ref (ad 21)])), ((ad 11), .inl (cy 0, 296, .inl (fun _ => 0)))] sz) [(av0, .inr (12, [.ref (ad 0), .int 0, .int 0, .ref (ad 1), .ref (ad 2), .ref (ad 3), .ref (ad 4), .int 0, .int 0, .int 0, .int 0, .ref (ad 5), .ref (ad 6), .ref (ad 7), .int 0, .int 0, .int 0, .int 0, .int 0, .int 0, .int 0, .ref (ad 8), .int 0, .ref (ad 9), .int 0, .ref (ad 10), .ref (ad 11), .int 1, .ref (ad 12), .ref (ad 13), .int 0, .int 0, .ref (ad 14), .ref (ad 15), .ref (ad 16), .ref (ad 17), .ref (ad 18), .int 0, .ref (ad 19), .long 0, .ref (ad 20), .ref (ad 21)])), ((ad 11), .inl (cy 0, 296, .inl (fun _ => 0)))]) (va_A [(av0, .inr (12, [.ref (ad 0), .int 0, .int 0, .ref (ad 1), .ref (ad 2), .ref (ad 3), .ref (ad 4), .int 0, .int 0, .int 0, .int 0, .ref (ad 5), .ref (ad 6), .ref (ad 7), .int 0, .int 0, .int 0, .int 0, .int 0, .int 0, .int 0, .ref (ad 8), .int 0, .ref (ad 9), .int 0, .ref (ad 10), .ref (ad 11), .int 1, .ref (ad 12), .ref (ad 13), .int 0, .int 0, .ref (ad 14), .ref (ad 15), .ref (ad 16), .ref (ad 17), .ref (ad 18), .int 0, .ref (ad 19), .long 0, .ref (ad 20), .ref (ad 21)])), ((ad 11), .inl (cy 0, 296, .inl (fun _ => 0)))] sz)) 0 0 (va_A [(av0, .inr (12, [.ref (ad 0), .int 0, .int 0, .ref (ad 1), .ref (ad 2), .ref (ad 3), .ref (ad 4), .int 0, .int 0, .int 0, .int 0, .ref (ad 5), .ref (ad 6), .ref (ad 7), .int 0, .int 0, .int 0, .int 0, .int 0, .int 0, .int 0, .ref (ad 8), .int 0, .ref (ad 9), .int 0, .ref (ad 10), .ref (ad 11), .int 1, .ref (ad 12), .ref (ad 13), .int 0, .int 0, .ref (ad 14), .ref (ad 15), .ref (ad 16), .ref (ad 17), .ref (ad 18), .int 0, .ref (ad 19), .long 0, .ref (ad 20), .ref (ad 21)])), ((ad 11), .inl (cy 0, 296, .inl (fun _ => 0)))] sz) := by
  refine Met.ofW (cc := cX12_misprint) (maxL := 5) (ret := (some .int)) (by decide) rfl ?_
  intro p e s m args below meth c s₁ B hml hv
  obtain ⟨rfl, hsz, hP, hK, hD0⟩ := hv
  have hx := B.exec
  have hb := B.bytes
  have hr := B.returns
  have hlocks := B.notSynchronized
  have hC : CallFix p m c cX12_misprint 5 s _ wsX12_misprint RX12 := ⟨hx, hb, hml, findClass_of_methodNamed B.named, atoms_spec (ws := wsX12_misprint) B.pre⟩
  subst hsz
  have hD := hD0.self (sz := s.heap.size)
  generalize hAe : va_A [(av0, .inr (12, [.ref (ad 0), .int 0, .int 0, .ref (ad 1), .ref (ad 2), .ref (ad 3), .ref (ad 4), .int 0, .int 0, .int 0, .int 0, .ref (ad 5), .ref (ad 6), .ref (ad 7), .int 0, .int 0, .int 0, .int 0, .int 0, .int 0, .int 0, .ref (ad 8), .int 0, .ref (ad 9), .int 0, .ref (ad 10), .ref (ad 11), .int 1, .ref (ad 12), .ref (ad 13), .int 0, .int 0, .ref (ad 14), .ref (ad 15), .ref (ad 16), .ref (ad 17), .ref (ad 18), .int 0, .ref (ad 19), .long 0, .ref (ad 20), .ref (ad 21)])), ((ad 11), .inl (cy 0, 296, .inl (fun _ => 0)))] s.heap.size = A at hD ⊢
  have hA : ∀ q : Nat, s.heap.size ≤ q → A q := fun q h => by rw [← hAe]; exact Or.inr h
  have hw : Wd dC dI A s.heap s.heap [] [(av0, .inr (12, [.ref (ad 0), .int 0, .int 0, .ref (ad 1), .ref (ad 2), .ref (ad 3), .ref (ad 4), .int 0, .int 0, .int 0, .int 0, .ref (ad 5), .ref (ad 6), .ref (ad 7), .int 0, .int 0, .int 0, .int 0, .int 0, .int 0, .int 0, .ref (ad 8), .int 0, .ref (ad 9), .int 0, .ref (ad 10), .ref (ad 11), .int 1, .ref (ad 12), .ref (ad 13), .int 0, .int 0, .ref (ad 14), .ref (ad 15), .ref (ad 16), .ref (ad 17), .ref (ad 18), .int 0, .ref (ad 19), .long 0, .ref (ad 20), .ref (ad 21)])), ((ad 11), .inl (cy 0, 296, .inl (fun _ => 0)))] := ⟨hP, hD, va_S.rf⟩
  have hl := lv_entry ([.ref av0, .int p0, .int p1, .int p2]) (n := 5) (Nat.le_of_ble_eq_true rfl)
  rw [lg_entry_eq]
  generalize (lg_sl ([.ref av0, .int p0, .int p1, .int p2]) ++ List.replicate (5 - (lg_sl ([.ref av0, .int p0, .int p1, .int p2])).length) Slot.unset).toArray = ls at hl ⊢
  have hl : lv_has ls 5 [(0, .ref av0), (1, .int p0), (2, .int p1), (3, .int p2)] := hl
  refine lv_aload_n hx hb dX12_misprint_0 rfl (lv_at hl 0 rfl) ?_
  refine lv_iload_n hx hb dX12_misprint_1 rfl (lv_at hl 1 rfl) ?_
  refine wk_Vi hC hK hw hA [0, 1] [] rfl rfl rfl rfl (by decide) (c_X12_isMap_1 l dC dI cy av0 p0 (ad 0) (ad 1) (ad 2) (ad 3) (ad 4) (ad 5) (ad 6) (ad 7) (ad 8) (ad 9) (ad 10) (ad 11) (ad 12) (ad 13) (ad 14) (ad 15) (ad 16) (ad 17) (ad 18) (ad 19) (ad 20) (ad 21) s.heap.size ) (cwV 1 hC.2.2.2.2 gX12_misprint_X12_isMap rfl rfl rfl (by decide +kernel) ⟨Nat.le_of_ble_eq_true rfl, Nat.le_of_ble_eq_true rfl⟩) rfl 0 rfl rfl hl.1 rfl (Nat.le_of_ble_eq_true rfl) dX12_misprint_2 0 0 ⟨rfl, rfl⟩ ⟨Nat.le_of_ble_eq_true rfl, Nat.le_of_ble_eq_true rfl⟩ (fun r2 u1 H locs p3 hw => ?_)
  have hw : Wd dC dI A s.heap H locs [(av0, .inr (12, [.ref (ad 0), .int 0, .int 0, .ref (ad 1), .ref (ad 2), .ref (ad 3), .ref (ad 4), .int 0, .int 0, .int 0, .int 0, .ref (ad 5), .ref (ad 6), .ref (ad 7), .int 0, .int 0, .int 0, .int 0, .int 0, .int 0, .int 0, .ref (ad 8), .int 0, .ref (ad 9), .int 0, .ref (ad 10), .ref (ad 11), .int 1, .ref (ad 12), .ref (ad 13), .int 0, .int 0, .ref (ad 14), .ref (ad 15), .ref (ad 16), .ref (ad 17), .ref (ad 18), .int 0, .ref (ad 19), .long 0, .ref (ad 20), .ref (ad 21)])), ((ad 11), .inl (cy 0, 296, .inl (fun _ => 0)))] := hw
  obtain rfl : r2 = 0 := p3
  refine lv_if_eq (tgt := 28) hx hb dX12_misprint_5 (by decide) (fun _ => ?_) (fun c => absurd (by decide) c)
  refine lv_iconst (v := (-1)) hx hb dX12_misprint_28 (by decide) ?_
  exact wk_iret (v := (-1)) hC hr hlocks hK ((fun _ => 0), (fun _ _ => 0)) rfl [0, 1] rfl rfl hw dX12_misprint_29

set_option maxHeartbeats 4000000 in
set_option maxRecDepth 100000 in
theorem t_X12_shown (l : Launch) (dC : Nat → ClassId) (dI : Nat → Nat → Nat) (cy : Nat → ClassId) (av0 : Nat) (ad : Nat → Nat) (p0 : Int32) (p1 : Int32) (sz : Nat)  : Met l yX12_shown wsX12_shown ({ frames := 1, cells := 0, slots := 0, locals := 21 }) (va_Pc [.ref av0, .int p0, .int p1] (wpre dC dI cy sz [(av0, .inr (12, [.ref (ad 0), .int 0, .int 0, .ref (ad 1), .ref (ad 2), .ref (ad 3), .ref (ad 4), .int 0, .int 0, .int 0, .int 0, .ref (ad 5), .ref (ad 6), .ref (ad 7), .int 0, .int 0, .int 0, .int 0, .int 0, .int 0, .int 0, .ref (ad 8), .int 0, .ref (ad 9), .int 0, .ref (ad 10), .ref (ad 11), .int 1, .ref (ad 12), .ref (ad 13), .int 0, .int 0, .ref (ad 14), .ref (ad 15), .ref (ad 16), .ref (ad 17), .ref (ad 18), .int 0, .ref (ad 19), .long 0, .ref (ad 20), .ref (ad 21)])), ((ad 11), .inl (cy 0, 296, .inl (fun _ => 0)))])) (va_Qi (fun (r : Int32) (_ : ((Nat → Nat) × (Nat → Nat → Int32))) => r = (-1)) (fun u => wpost dC dI cy (va_A [(av0, .inr (12, [.ref (ad 0), .int 0, .int 0, .ref (ad 1), .ref (ad 2), .ref (ad 3), .ref (ad 4), .int 0, .int 0, .int 0, .int 0, .ref (ad 5), .ref (ad 6), .ref (ad 7), .int 0, .int 0, .int 0, .int 0, .int 0, .int 0, .int 0, .ref (ad 8), .int 0, .ref (ad 9), .int 0, .ref (ad 10), .ref (ad 11), .int 1, .ref (ad 12), .ref (ad 13), .int 0, .int 0, .ref (ad 14), .ref (ad 15), .ref (ad 16), .ref (ad 17), .ref (ad 18), .int 0, .ref (ad 19), .long 0, .ref (ad 20), .ref (ad 21)])), ((ad 11), .inl (cy 0, 296, .inl (fun _ => 0)))] sz) [(av0, .inr (12, [.ref (ad 0), .int 0, .int 0, .ref (ad 1), .ref (ad 2), .ref (ad 3), .ref (ad 4), .int 0, .int 0, .int 0, .int 0, .ref (ad 5), .ref (ad 6), .ref (ad 7), .int 0, .int 0, .int 0, .int 0, .int 0, .int 0, .int 0, .ref (ad 8), .int 0, .ref (ad 9), .int 0, .ref (ad 10), .ref (ad 11), .int 1, .ref (ad 12), .ref (ad 13), .int 0, .int 0, .ref (ad 14), .ref (ad 15), .ref (ad 16), .ref (ad 17), .ref (ad 18), .int 0, .ref (ad 19), .long 0, .ref (ad 20), .ref (ad 21)])), ((ad 11), .inl (cy 0, 296, .inl (fun _ => 0)))]) (va_A [(av0, .inr (12, [.ref (ad 0), .int 0, .int 0, .ref (ad 1), .ref (ad 2), .ref (ad 3), .ref (ad 4), .int 0, .int 0, .int 0, .int 0, .ref (ad 5), .ref (ad 6), .ref (ad 7), .int 0, .int 0, .int 0, .int 0, .int 0, .int 0, .int 0, .ref (ad 8), .int 0, .ref (ad 9), .int 0, .ref (ad 10), .ref (ad 11), .int 1, .ref (ad 12), .ref (ad 13), .int 0, .int 0, .ref (ad 14), .ref (ad 15), .ref (ad 16), .ref (ad 17), .ref (ad 18), .int 0, .ref (ad 19), .long 0, .ref (ad 20), .ref (ad 21)])), ((ad 11), .inl (cy 0, 296, .inl (fun _ => 0)))] sz)) 0 0 (va_A [(av0, .inr (12, [.ref (ad 0), .int 0, .int 0, .ref (ad 1), .ref (ad 2), .ref (ad 3), .ref (ad 4), .int 0, .int 0, .int 0, .int 0, .ref (ad 5), .ref (ad 6), .ref (ad 7), .int 0, .int 0, .int 0, .int 0, .int 0, .int 0, .int 0, .ref (ad 8), .int 0, .ref (ad 9), .int 0, .ref (ad 10), .ref (ad 11), .int 1, .ref (ad 12), .ref (ad 13), .int 0, .int 0, .ref (ad 14), .ref (ad 15), .ref (ad 16), .ref (ad 17), .ref (ad 18), .int 0, .ref (ad 19), .long 0, .ref (ad 20), .ref (ad 21)])), ((ad 11), .inl (cy 0, 296, .inl (fun _ => 0)))] sz) := by
  refine Met.ofW (cc := cX12_shown) (maxL := 3) (ret := (some .int)) (by decide) rfl ?_
  intro p e s m args below meth c s₁ B hml hv
  obtain ⟨rfl, hsz, hP, hK, hD0⟩ := hv
  have hx := B.exec
  have hb := B.bytes
  have hr := B.returns
  have hlocks := B.notSynchronized
  have hC : CallFix p m c cX12_shown 3 s _ wsX12_shown RX12 := ⟨hx, hb, hml, findClass_of_methodNamed B.named, atoms_spec (ws := wsX12_shown) B.pre⟩
  subst hsz
  have hD := hD0.self (sz := s.heap.size)
  generalize hAe : va_A [(av0, .inr (12, [.ref (ad 0), .int 0, .int 0, .ref (ad 1), .ref (ad 2), .ref (ad 3), .ref (ad 4), .int 0, .int 0, .int 0, .int 0, .ref (ad 5), .ref (ad 6), .ref (ad 7), .int 0, .int 0, .int 0, .int 0, .int 0, .int 0, .int 0, .ref (ad 8), .int 0, .ref (ad 9), .int 0, .ref (ad 10), .ref (ad 11), .int 1, .ref (ad 12), .ref (ad 13), .int 0, .int 0, .ref (ad 14), .ref (ad 15), .ref (ad 16), .ref (ad 17), .ref (ad 18), .int 0, .ref (ad 19), .long 0, .ref (ad 20), .ref (ad 21)])), ((ad 11), .inl (cy 0, 296, .inl (fun _ => 0)))] s.heap.size = A at hD ⊢
  have hA : ∀ q : Nat, s.heap.size ≤ q → A q := fun q h => by rw [← hAe]; exact Or.inr h
  have hw : Wd dC dI A s.heap s.heap [] [(av0, .inr (12, [.ref (ad 0), .int 0, .int 0, .ref (ad 1), .ref (ad 2), .ref (ad 3), .ref (ad 4), .int 0, .int 0, .int 0, .int 0, .ref (ad 5), .ref (ad 6), .ref (ad 7), .int 0, .int 0, .int 0, .int 0, .int 0, .int 0, .int 0, .ref (ad 8), .int 0, .ref (ad 9), .int 0, .ref (ad 10), .ref (ad 11), .int 1, .ref (ad 12), .ref (ad 13), .int 0, .int 0, .ref (ad 14), .ref (ad 15), .ref (ad 16), .ref (ad 17), .ref (ad 18), .int 0, .ref (ad 19), .long 0, .ref (ad 20), .ref (ad 21)])), ((ad 11), .inl (cy 0, 296, .inl (fun _ => 0)))] := ⟨hP, hD, va_S.rf⟩
  have hl := lv_entry ([.ref av0, .int p0, .int p1]) (n := 3) (Nat.le_of_ble_eq_true rfl)
  rw [lg_entry_eq]
  generalize (lg_sl ([.ref av0, .int p0, .int p1]) ++ List.replicate (3 - (lg_sl ([.ref av0, .int p0, .int p1])).length) Slot.unset).toArray = ls at hl ⊢
  have hl : lv_has ls 3 [(0, .ref av0), (1, .int p0), (2, .int p1)] := hl
  refine lv_aload_n hx hb dX12_shown_0 rfl (lv_at hl 0 rfl) ?_
  refine lv_iload_n hx hb dX12_shown_1 rfl (lv_at hl 1 rfl) ?_
  refine wk_Vi hC hK hw hA [0, 1] [] rfl rfl rfl rfl (by decide) (c_X12_isMap_1 l dC dI cy av0 p0 (ad 0) (ad 1) (ad 2) (ad 3) (ad 4) (ad 5) (ad 6) (ad 7) (ad 8) (ad 9) (ad 10) (ad 11) (ad 12) (ad 13) (ad 14) (ad 15) (ad 16) (ad 17) (ad 18) (ad 19) (ad 20) (ad 21) s.heap.size ) (cwV 1 hC.2.2.2.2 gX12_shown_X12_isMap rfl rfl rfl (by decide +kernel) ⟨Nat.le_of_ble_eq_true rfl, Nat.le_of_ble_eq_true rfl⟩) rfl 0 rfl rfl hl.1 rfl (Nat.le_of_ble_eq_true rfl) dX12_shown_2 0 0 ⟨rfl, rfl⟩ ⟨Nat.le_of_ble_eq_true rfl, Nat.le_of_ble_eq_true rfl⟩ (fun r2 u1 H locs p3 hw => ?_)
  have hw : Wd dC dI A s.heap H locs [(av0, .inr (12, [.ref (ad 0), .int 0, .int 0, .ref (ad 1), .ref (ad 2), .ref (ad 3), .ref (ad 4), .int 0, .int 0, .int 0, .int 0, .ref (ad 5), .ref (ad 6), .ref (ad 7), .int 0, .int 0, .int 0, .int 0, .int 0, .int 0, .int 0, .ref (ad 8), .int 0, .ref (ad 9), .int 0, .ref (ad 10), .ref (ad 11), .int 1, .ref (ad 12), .ref (ad 13), .int 0, .int 0, .ref (ad 14), .ref (ad 15), .ref (ad 16), .ref (ad 17), .ref (ad 18), .int 0, .ref (ad 19), .long 0, .ref (ad 20), .ref (ad 21)])), ((ad 11), .inl (cy 0, 296, .inl (fun _ => 0)))] := hw
  obtain rfl : r2 = 0 := p3
  refine lv_if_eq (tgt := 34) hx hb dX12_shown_5 (by decide) (fun _ => ?_) (fun c => absurd (by decide) c)
  refine lv_iconst (v := (-1)) hx hb dX12_shown_34 (by decide) ?_
  exact wk_iret (v := (-1)) hC hr hlocks hK ((fun _ => 0), (fun _ _ => 0)) rfl [0, 1] rfl rfl hw dX12_shown_35

set_option maxHeartbeats 4000000 in
set_option maxRecDepth 100000 in
theorem t_X12_by (l : Launch) (dC : Nat → ClassId) (dI : Nat → Nat → Nat) (cy : Nat → ClassId) (av0 : Nat) (ad : Nat → Nat) (p0 : Int32) (p1 : Int32) (p2 : Int32) (p3 : Int32) (sz : Nat)  : Met l yX12_by wsX12_by ({ frames := 1, cells := 0, slots := 0, locals := 21 }) (va_Pc [.ref av0, .int p0, .int p1, .int p2, .int p3] (wpre dC dI cy sz [(av0, .inr (12, [.ref (ad 0), .int 0, .int 0, .ref (ad 1), .ref (ad 2), .ref (ad 3), .ref (ad 4), .int 0, .int 0, .int 0, .int 0, .ref (ad 5), .ref (ad 6), .ref (ad 7), .int 0, .int 0, .int 0, .int 0, .int 0, .int 0, .int 0, .ref (ad 8), .int 0, .ref (ad 9), .int 0, .ref (ad 10), .ref (ad 11), .int 1, .ref (ad 12), .ref (ad 13), .int 0, .int 0, .ref (ad 14), .ref (ad 15), .ref (ad 16), .ref (ad 17), .ref (ad 18), .int 0, .ref (ad 19), .long 0, .ref (ad 20), .ref (ad 21)])), ((ad 11), .inl (cy 0, 296, .inl (fun _ => 0)))])) (va_Qi (fun (r : Int32) (_ : ((Nat → Nat) × (Nat → Nat → Int32))) => r = (-1)) (fun u => wpost dC dI cy (va_A [(av0, .inr (12, [.ref (ad 0), .int 0, .int 0, .ref (ad 1), .ref (ad 2), .ref (ad 3), .ref (ad 4), .int 0, .int 0, .int 0, .int 0, .ref (ad 5), .ref (ad 6), .ref (ad 7), .int 0, .int 0, .int 0, .int 0, .int 0, .int 0, .int 0, .ref (ad 8), .int 0, .ref (ad 9), .int 0, .ref (ad 10), .ref (ad 11), .int 1, .ref (ad 12), .ref (ad 13), .int 0, .int 0, .ref (ad 14), .ref (ad 15), .ref (ad 16), .ref (ad 17), .ref (ad 18), .int 0, .ref (ad 19), .long 0, .ref (ad 20), .ref (ad 21)])), ((ad 11), .inl (cy 0, 296, .inl (fun _ => 0)))] sz) [(av0, .inr (12, [.ref (ad 0), .int 0, .int 0, .ref (ad 1), .ref (ad 2), .ref (ad 3), .ref (ad 4), .int 0, .int 0, .int 0, .int 0, .ref (ad 5), .ref (ad 6), .ref (ad 7), .int 0, .int 0, .int 0, .int 0, .int 0, .int 0, .int 0, .ref (ad 8), .int 0, .ref (ad 9), .int 0, .ref (ad 10), .ref (ad 11), .int 1, .ref (ad 12), .ref (ad 13), .int 0, .int 0, .ref (ad 14), .ref (ad 15), .ref (ad 16), .ref (ad 17), .ref (ad 18), .int 0, .ref (ad 19), .long 0, .ref (ad 20), .ref (ad 21)])), ((ad 11), .inl (cy 0, 296, .inl (fun _ => 0)))]) (va_A [(av0, .inr (12, [.ref (ad 0), .int 0, .int 0, .ref (ad 1), .ref (ad 2), .ref (ad 3), .ref (ad 4), .int 0, .int 0, .int 0, .int 0, .ref (ad 5), .ref (ad 6), .ref (ad 7), .int 0, .int 0, .int 0, .int 0, .int 0, .int 0, .int 0, .ref (ad 8), .int 0, .ref (ad 9), .int 0, .ref (ad 10), .ref (ad 11), .int 1, .ref (ad 12), .ref (ad 13), .int 0, .int 0, .ref (ad 14), .ref (ad 15), .ref (ad 16), .ref (ad 17), .ref (ad 18), .int 0, .ref (ad 19), .long 0, .ref (ad 20), .ref (ad 21)])), ((ad 11), .inl (cy 0, 296, .inl (fun _ => 0)))] sz)) 0 0 (va_A [(av0, .inr (12, [.ref (ad 0), .int 0, .int 0, .ref (ad 1), .ref (ad 2), .ref (ad 3), .ref (ad 4), .int 0, .int 0, .int 0, .int 0, .ref (ad 5), .ref (ad 6), .ref (ad 7), .int 0, .int 0, .int 0, .int 0, .int 0, .int 0, .int 0, .ref (ad 8), .int 0, .ref (ad 9), .int 0, .ref (ad 10), .ref (ad 11), .int 1, .ref (ad 12), .ref (ad 13), .int 0, .int 0, .ref (ad 14), .ref (ad 15), .ref (ad 16), .ref (ad 17), .ref (ad 18), .int 0, .ref (ad 19), .long 0, .ref (ad 20), .ref (ad 21)])), ((ad 11), .inl (cy 0, 296, .inl (fun _ => 0)))] sz) := by
  refine Met.ofW (cc := cX12_by) (maxL := 6) (ret := (some .int)) (by decide) rfl ?_
  intro p e s m args below meth c s₁ B hml hv
  obtain ⟨rfl, hsz, hP, hK, hD0⟩ := hv
  have hx := B.exec
  have hb := B.bytes
  have hr := B.returns
  have hlocks := B.notSynchronized
  have hC : CallFix p m c cX12_by 6 s _ wsX12_by RX12 := ⟨hx, hb, hml, findClass_of_methodNamed B.named, atoms_spec (ws := wsX12_by) B.pre⟩
  subst hsz
  have hD := hD0.self (sz := s.heap.size)
  generalize hAe : va_A [(av0, .inr (12, [.ref (ad 0), .int 0, .int 0, .ref (ad 1), .ref (ad 2), .ref (ad 3), .ref (ad 4), .int 0, .int 0, .int 0, .int 0, .ref (ad 5), .ref (ad 6), .ref (ad 7), .int 0, .int 0, .int 0, .int 0, .int 0, .int 0, .int 0, .ref (ad 8), .int 0, .ref (ad 9), .int 0, .ref (ad 10), .ref (ad 11), .int 1, .ref (ad 12), .ref (ad 13), .int 0, .int 0, .ref (ad 14), .ref (ad 15), .ref (ad 16), .ref (ad 17), .ref (ad 18), .int 0, .ref (ad 19), .long 0, .ref (ad 20), .ref (ad 21)])), ((ad 11), .inl (cy 0, 296, .inl (fun _ => 0)))] s.heap.size = A at hD ⊢
  have hA : ∀ q : Nat, s.heap.size ≤ q → A q := fun q h => by rw [← hAe]; exact Or.inr h
  have hw : Wd dC dI A s.heap s.heap [] [(av0, .inr (12, [.ref (ad 0), .int 0, .int 0, .ref (ad 1), .ref (ad 2), .ref (ad 3), .ref (ad 4), .int 0, .int 0, .int 0, .int 0, .ref (ad 5), .ref (ad 6), .ref (ad 7), .int 0, .int 0, .int 0, .int 0, .int 0, .int 0, .int 0, .ref (ad 8), .int 0, .ref (ad 9), .int 0, .ref (ad 10), .ref (ad 11), .int 1, .ref (ad 12), .ref (ad 13), .int 0, .int 0, .ref (ad 14), .ref (ad 15), .ref (ad 16), .ref (ad 17), .ref (ad 18), .int 0, .ref (ad 19), .long 0, .ref (ad 20), .ref (ad 21)])), ((ad 11), .inl (cy 0, 296, .inl (fun _ => 0)))] := ⟨hP, hD, va_S.rf⟩
  have hl := lv_entry ([.ref av0, .int p0, .int p1, .int p2, .int p3]) (n := 6) (Nat.le_of_ble_eq_true rfl)
  rw [lg_entry_eq]
  generalize (lg_sl ([.ref av0, .int p0, .int p1, .int p2, .int p3]) ++ List.replicate (6 - (lg_sl ([.ref av0, .int p0, .int p1, .int p2, .int p3])).length) Slot.unset).toArray = ls at hl ⊢
  have hl : lv_has ls 6 [(0, .ref av0), (1, .int p0), (2, .int p1), (3, .int p2), (4, .int p3)] := hl
  refine lv_aload_n hx hb dX12_by_0 rfl (lv_at hl 0 rfl) ?_
  refine lv_iload_n hx hb dX12_by_1 rfl (lv_at hl 1 rfl) ?_
  refine wk_Vi hC hK hw hA [0, 1] [] rfl rfl rfl rfl (by decide) (c_X12_isMap_1 l dC dI cy av0 p0 (ad 0) (ad 1) (ad 2) (ad 3) (ad 4) (ad 5) (ad 6) (ad 7) (ad 8) (ad 9) (ad 10) (ad 11) (ad 12) (ad 13) (ad 14) (ad 15) (ad 16) (ad 17) (ad 18) (ad 19) (ad 20) (ad 21) s.heap.size ) (cwV 1 hC.2.2.2.2 gX12_by_X12_isMap rfl rfl rfl (by decide +kernel) ⟨Nat.le_of_ble_eq_true rfl, Nat.le_of_ble_eq_true rfl⟩) rfl 0 rfl rfl hl.1 rfl (Nat.le_of_ble_eq_true rfl) dX12_by_2 0 0 ⟨rfl, rfl⟩ ⟨Nat.le_of_ble_eq_true rfl, Nat.le_of_ble_eq_true rfl⟩ (fun r2 u1 H locs p3 hw => ?_)
  have hw : Wd dC dI A s.heap H locs [(av0, .inr (12, [.ref (ad 0), .int 0, .int 0, .ref (ad 1), .ref (ad 2), .ref (ad 3), .ref (ad 4), .int 0, .int 0, .int 0, .int 0, .ref (ad 5), .ref (ad 6), .ref (ad 7), .int 0, .int 0, .int 0, .int 0, .int 0, .int 0, .int 0, .ref (ad 8), .int 0, .ref (ad 9), .int 0, .ref (ad 10), .ref (ad 11), .int 1, .ref (ad 12), .ref (ad 13), .int 0, .int 0, .ref (ad 14), .ref (ad 15), .ref (ad 16), .ref (ad 17), .ref (ad 18), .int 0, .ref (ad 19), .long 0, .ref (ad 20), .ref (ad 21)])), ((ad 11), .inl (cy 0, 296, .inl (fun _ => 0)))] := hw
  obtain rfl : r2 = 0 := p3
  refine lv_if_eq (tgt := 35) hx hb dX12_by_5 (by decide) (fun _ => ?_) (fun c => absurd (by decide) c)
  refine lv_iconst (v := (-1)) hx hb dX12_by_35 (by decide) ?_
  exact wk_iret (v := (-1)) hC hr hlocks hK ((fun _ => 0), (fun _ _ => 0)) rfl [0, 1] rfl rfl hw dX12_by_36

set_option maxHeartbeats 4000000 in
set_option maxRecDepth 100000 in
theorem c_X12_isCorner_1 (l : Launch) (dC : Nat → ClassId) (dI : Nat → Nat → Nat) (cy : Nat → ClassId) (av0 : Nat) (iv0 : Int32) (av1 : Nat) (av2 : Nat) (av3 : Nat) (av4 : Nat) (av5 : Nat) (av6 : Nat) (av7 : Nat) (av8 : Nat) (av9 : Nat) (av10 : Nat) (av11 : Nat) (av12 : Nat) (av13 : Nat) (av14 : Nat) (av15 : Nat) (av16 : Nat) (av17 : Nat) (av18 : Nat) (av19 : Nat) (av20 : Nat) (av21 : Nat) (av22 : Nat) (sz : Nat)  : Met l yX12_isCorner wsX12_isCorner ({ frames := 0, cells := 0, slots := 0, locals := 0 }) (va_Pc [.ref av0, .int iv0] (wpre dC dI cy sz [(av0, .inr (12, [.ref av1, .int 0, .int 0, .ref av2, .ref av3, .ref av4, .ref av5, .int 0, .int 0, .int 0, .int 0, .ref av6, .ref av7, .ref av8, .int 0, .int 0, .int 0, .int 0, .int 0, .int 0, .int 0, .ref av9, .int 0, .ref av10, .int 0, .ref av11, .ref av12, .int 1, .ref av13, .ref av14, .int 0, .int 0, .ref av15, .ref av16, .ref av17, .ref av18, .ref av19, .int 0, .ref av20, .long 0, .ref av21, .ref av22])), (av12, .inl (cy 0, 296, .inl (fun _ => 0)))])) (va_Qi (fun (r : Int32) (_ : ((Nat → Nat) × (Nat → Nat → Int32))) => r = 0) (fun u => wpost dC dI cy (va_A [(av0, .inr (12, [.ref av1, .int 0, .int 0, .ref av2, .ref av3, .ref av4, .ref av5, .int 0, .int 0, .int 0, .int 0, .ref av6, .ref av7, .ref av8, .int 0, .int 0, .int 0, .int 0, .int 0, .int 0, .int 0, .ref av9, .int 0, .ref av10, .int 0, .ref av11, .ref av12, .int 1, .ref av13, .ref av14, .int 0, .int 0, .ref av15, .ref av16, .ref av17, .ref av18, .ref av19, .int 0, .ref av20, .long 0, .ref av21, .ref av22])), (av12, .inl (cy 0, 296, .inl (fun _ => 0)))] sz) [(av0, .inr (12, [.ref av1, .int 0, .int 0, .ref av2, .ref av3, .ref av4, .ref av5, .int 0, .int 0, .int 0, .int 0, .ref av6, .ref av7, .ref av8, .int 0, .int 0, .int 0, .int 0, .int 0, .int 0, .int 0, .ref av9, .int 0, .ref av10, .int 0, .ref av11, .ref av12, .int 1, .ref av13, .ref av14, .int 0, .int 0, .ref av15, .ref av16, .ref av17, .ref av18, .ref av19, .int 0, .ref av20, .long 0, .ref av21, .ref av22])), (av12, .inl (cy 0, 296, .inl (fun _ => 0)))]) (va_A [(av0, .inr (12, [.ref av1, .int 0, .int 0, .ref av2, .ref av3, .ref av4, .ref av5, .int 0, .int 0, .int 0, .int 0, .ref av6, .ref av7, .ref av8, .int 0, .int 0, .int 0, .int 0, .int 0, .int 0, .int 0, .ref av9, .int 0, .ref av10, .int 0, .ref av11, .ref av12, .int 1, .ref av13, .ref av14, .int 0, .int 0, .ref av15, .ref av16, .ref av17, .ref av18, .ref av19, .int 0, .ref av20, .long 0, .ref av21, .ref av22])), (av12, .inl (cy 0, 296, .inl (fun _ => 0)))] sz)) 0 0 (va_A [(av0, .inr (12, [.ref av1, .int 0, .int 0, .ref av2, .ref av3, .ref av4, .ref av5, .int 0, .int 0, .int 0, .int 0, .ref av6, .ref av7, .ref av8, .int 0, .int 0, .int 0, .int 0, .int 0, .int 0, .int 0, .ref av9, .int 0, .ref av10, .int 0, .ref av11, .ref av12, .int 1, .ref av13, .ref av14, .int 0, .int 0, .ref av15, .ref av16, .ref av17, .ref av18, .ref av19, .int 0, .ref av20, .long 0, .ref av21, .ref av22])), (av12, .inl (cy 0, 296, .inl (fun _ => 0)))] sz) := by
  refine Met.ofW (cc := cX12_isCorner) (maxL := 2) (ret := (some .boolean)) (by decide) rfl ?_
  intro p e s m args below meth c s₁ B hml hv
  obtain ⟨rfl, hsz, hP, hK, hD0⟩ := hv
  have hx := B.exec
  have hb := B.bytes
  have hr := B.returns
  have hlocks := B.notSynchronized
  have hC : CallFix p m c cX12_isCorner 2 s _ wsX12_isCorner RX12 := ⟨hx, hb, hml, findClass_of_methodNamed B.named, atoms_spec (ws := wsX12_isCorner) B.pre⟩
  subst hsz
  have hD := hD0.self (sz := s.heap.size)
  generalize hAe : va_A [(av0, .inr (12, [.ref av1, .int 0, .int 0, .ref av2, .ref av3, .ref av4, .ref av5, .int 0, .int 0, .int 0, .int 0, .ref av6, .ref av7, .ref av8, .int 0, .int 0, .int 0, .int 0, .int 0, .int 0, .int 0, .ref av9, .int 0, .ref av10, .int 0, .ref av11, .ref av12, .int 1, .ref av13, .ref av14, .int 0, .int 0, .ref av15, .ref av16, .ref av17, .ref av18, .ref av19, .int 0, .ref av20, .long 0, .ref av21, .ref av22])), (av12, .inl (cy 0, 296, .inl (fun _ => 0)))] s.heap.size = A at hD ⊢
  have hA : ∀ q : Nat, s.heap.size ≤ q → A q := fun q h => by rw [← hAe]; exact Or.inr h
  have hw : Wd dC dI A s.heap s.heap [] [(av0, .inr (12, [.ref av1, .int 0, .int 0, .ref av2, .ref av3, .ref av4, .ref av5, .int 0, .int 0, .int 0, .int 0, .ref av6, .ref av7, .ref av8, .int 0, .int 0, .int 0, .int 0, .int 0, .int 0, .int 0, .ref av9, .int 0, .ref av10, .int 0, .ref av11, .ref av12, .int 1, .ref av13, .ref av14, .int 0, .int 0, .ref av15, .ref av16, .ref av17, .ref av18, .ref av19, .int 0, .ref av20, .long 0, .ref av21, .ref av22])), (av12, .inl (cy 0, 296, .inl (fun _ => 0)))] := ⟨hP, hD, va_S.rf⟩
  have hl := lv_entry ([.ref av0, .int iv0]) (n := 2) (Nat.le_of_ble_eq_true rfl)
  rw [lg_entry_eq]
  generalize (lg_sl ([.ref av0, .int iv0]) ++ List.replicate (2 - (lg_sl ([.ref av0, .int iv0])).length) Slot.unset).toArray = ls at hl ⊢
  have hl : lv_has ls 2 [(0, .ref av0), (1, .int iv0)] := hl
  have hinX12 : ∀ w ∈ u_ws RX12 TX12 42, w ∈ wsX12_isCorner := fun _ h => List.mem_cons_of_mem _ (List.mem_append_right _ (h))
  refine lv_iload_n hx hb dX12_isCorner_0 rfl (lv_at hl 1 rfl) ?_
  refine lv_if_lt (tgt := 18) hx hb dX12_isCorner_1 (by decide) (fun c1 => ?_) (fun c1 => ?_)
  · have c1 : iv0.toInt < 0 := wk_lt.mp c1
    refine lv_iconst (v := 0) hx hb dX12_isCorner_18 (by decide) ?_
    exact wk_zret (v := 0) hC hr rfl hlocks hK ((fun _ => 0), (fun _ _ => 0)) rfl [0, 1] rfl rfl hw dX12_isCorner_19
  · have c1 : 0 ≤ iv0.toInt := wk_ltF c1
    refine lv_iload_n hx hb dX12_isCorner_4 rfl (lv_at hl 1 rfl) ?_
    refine lv_aload_n hx hb dX12_isCorner_5 rfl (lv_at hl 0 rfl) ?_
    refine wk_get hC hK hw hinX12 0 rfl rfl 26 (by decide) (List.mem_of_getElem? (i := 1) rfl) rfl rfl dX12_isCorner_6 ?_
    refine lv_iconst (v := 0) hx hb dX12_isCorner_9 (by decide) ?_
    refine wk_iald hC hK hw 1 rfl (show ¬ ((0 : Int32) < 0 ∨ 296 ≤ (0 : Int32).toNatClampNeg) by decide) dX12_isCorner_10 ?_
    refine wk_top 0 rfl ?_
    refine lv_icmp_ge (tgt := 18) hx hb dX12_isCorner_11 (by decide) (fun _ => ?_) (fun c => absurd (wk_le.mpr (show 0 ≤ iv0.toInt by omega)) c)
    refine lv_iconst (v := 0) hx hb dX12_isCorner_18 (by decide) ?_
    exact wk_zret (v := 0) hC hr rfl hlocks hK ((fun _ => 0), (fun _ _ => 0)) rfl [0, 1] rfl rfl hw dX12_isCorner_19

set_option maxHeartbeats 4000000 in
set_option maxRecDepth 100000 in
theorem t_X12_walker (l : Launch) (dC : Nat → ClassId) (dI : Nat → Nat → Nat) (cy : Nat → ClassId) (av0 : Nat) (ad : Nat → Nat) (p0 : Int32) (p1 : Int32) (p2 : Int32) (p3 : Int32) (p4 : Int32) (sz : Nat)  : Met l yX12_walker wsX12_walker ({ frames := 1, cells := 0, slots := 0, locals := 21 }) (va_Pc [.ref av0, .int p0, .int p1, .int p2, .int p3, .int p4] (wpre dC dI cy sz [(av0, .inr (12, [.ref (ad 0), .int 0, .int 0, .ref (ad 1), .ref (ad 2), .ref (ad 3), .ref (ad 4), .int 0, .int 0, .int 0, .int 0, .ref (ad 5), .ref (ad 6), .ref (ad 7), .int 0, .int 0, .int 0, .int 0, .int 0, .int 0, .int 0, .ref (ad 8), .int 0, .ref (ad 9), .int 0, .ref (ad 10), .ref (ad 11), .int 1, .ref (ad 12), .ref (ad 13), .int 0, .int 0, .ref (ad 14), .ref (ad 15), .ref (ad 16), .ref (ad 17), .ref (ad 18), .int 0, .ref (ad 19), .long 0, .ref (ad 20), .ref (ad 21)])), ((ad 11), .inl (cy 0, 296, .inl (fun _ => 0)))])) (va_Qi (fun (r : Int32) (_ : ((Nat → Nat) × (Nat → Nat → Int32))) => r = (-2)) (fun u => wpost dC dI cy (va_A [(av0, .inr (12, [.ref (ad 0), .int 0, .int 0, .ref (ad 1), .ref (ad 2), .ref (ad 3), .ref (ad 4), .int 0, .int 0, .int 0, .int 0, .ref (ad 5), .ref (ad 6), .ref (ad 7), .int 0, .int 0, .int 0, .int 0, .int 0, .int 0, .int 0, .ref (ad 8), .int 0, .ref (ad 9), .int 0, .ref (ad 10), .ref (ad 11), .int 1, .ref (ad 12), .ref (ad 13), .int 0, .int 0, .ref (ad 14), .ref (ad 15), .ref (ad 16), .ref (ad 17), .ref (ad 18), .int 0, .ref (ad 19), .long 0, .ref (ad 20), .ref (ad 21)])), ((ad 11), .inl (cy 0, 296, .inl (fun _ => 0)))] sz) [(av0, .inr (12, [.ref (ad 0), .int 0, .int 0, .ref (ad 1), .ref (ad 2), .ref (ad 3), .ref (ad 4), .int 0, .int 0, .int 0, .int 0, .ref (ad 5), .ref (ad 6), .ref (ad 7), .int 0, .int 0, .int 0, .int 0, .int 0, .int 0, .int 0, .ref (ad 8), .int 0, .ref (ad 9), .int 0, .ref (ad 10), .ref (ad 11), .int 1, .ref (ad 12), .ref (ad 13), .int 0, .int 0, .ref (ad 14), .ref (ad 15), .ref (ad 16), .ref (ad 17), .ref (ad 18), .int 0, .ref (ad 19), .long 0, .ref (ad 20), .ref (ad 21)])), ((ad 11), .inl (cy 0, 296, .inl (fun _ => 0)))]) (va_A [(av0, .inr (12, [.ref (ad 0), .int 0, .int 0, .ref (ad 1), .ref (ad 2), .ref (ad 3), .ref (ad 4), .int 0, .int 0, .int 0, .int 0, .ref (ad 5), .ref (ad 6), .ref (ad 7), .int 0, .int 0, .int 0, .int 0, .int 0, .int 0, .int 0, .ref (ad 8), .int 0, .ref (ad 9), .int 0, .ref (ad 10), .ref (ad 11), .int 1, .ref (ad 12), .ref (ad 13), .int 0, .int 0, .ref (ad 14), .ref (ad 15), .ref (ad 16), .ref (ad 17), .ref (ad 18), .int 0, .ref (ad 19), .long 0, .ref (ad 20), .ref (ad 21)])), ((ad 11), .inl (cy 0, 296, .inl (fun _ => 0)))] sz)) 0 0 (va_A [(av0, .inr (12, [.ref (ad 0), .int 0, .int 0, .ref (ad 1), .ref (ad 2), .ref (ad 3), .ref (ad 4), .int 0, .int 0, .int 0, .int 0, .ref (ad 5), .ref (ad 6), .ref (ad 7), .int 0, .int 0, .int 0, .int 0, .int 0, .int 0, .int 0, .ref (ad 8), .int 0, .ref (ad 9), .int 0, .ref (ad 10), .ref (ad 11), .int 1, .ref (ad 12), .ref (ad 13), .int 0, .int 0, .ref (ad 14), .ref (ad 15), .ref (ad 16), .ref (ad 17), .ref (ad 18), .int 0, .ref (ad 19), .long 0, .ref (ad 20), .ref (ad 21)])), ((ad 11), .inl (cy 0, 296, .inl (fun _ => 0)))] sz) := by
  refine Met.ofW (cc := cX12_walker) (maxL := 6) (ret := (some .int)) (by decide) rfl ?_
  intro p e s m args below meth c s₁ B hml hv
  obtain ⟨rfl, hsz, hP, hK, hD0⟩ := hv
  have hx := B.exec
  have hb := B.bytes
  have hr := B.returns
  have hlocks := B.notSynchronized
  have hC : CallFix p m c cX12_walker 6 s _ wsX12_walker RX12 := ⟨hx, hb, hml, findClass_of_methodNamed B.named, atoms_spec (ws := wsX12_walker) B.pre⟩
  subst hsz
  have hD := hD0.self (sz := s.heap.size)
  generalize hAe : va_A [(av0, .inr (12, [.ref (ad 0), .int 0, .int 0, .ref (ad 1), .ref (ad 2), .ref (ad 3), .ref (ad 4), .int 0, .int 0, .int 0, .int 0, .ref (ad 5), .ref (ad 6), .ref (ad 7), .int 0, .int 0, .int 0, .int 0, .int 0, .int 0, .int 0, .ref (ad 8), .int 0, .ref (ad 9), .int 0, .ref (ad 10), .ref (ad 11), .int 1, .ref (ad 12), .ref (ad 13), .int 0, .int 0, .ref (ad 14), .ref (ad 15), .ref (ad 16), .ref (ad 17), .ref (ad 18), .int 0, .ref (ad 19), .long 0, .ref (ad 20), .ref (ad 21)])), ((ad 11), .inl (cy 0, 296, .inl (fun _ => 0)))] s.heap.size = A at hD ⊢
  have hA : ∀ q : Nat, s.heap.size ≤ q → A q := fun q h => by rw [← hAe]; exact Or.inr h
  have hw : Wd dC dI A s.heap s.heap [] [(av0, .inr (12, [.ref (ad 0), .int 0, .int 0, .ref (ad 1), .ref (ad 2), .ref (ad 3), .ref (ad 4), .int 0, .int 0, .int 0, .int 0, .ref (ad 5), .ref (ad 6), .ref (ad 7), .int 0, .int 0, .int 0, .int 0, .int 0, .int 0, .int 0, .ref (ad 8), .int 0, .ref (ad 9), .int 0, .ref (ad 10), .ref (ad 11), .int 1, .ref (ad 12), .ref (ad 13), .int 0, .int 0, .ref (ad 14), .ref (ad 15), .ref (ad 16), .ref (ad 17), .ref (ad 18), .int 0, .ref (ad 19), .long 0, .ref (ad 20), .ref (ad 21)])), ((ad 11), .inl (cy 0, 296, .inl (fun _ => 0)))] := ⟨hP, hD, va_S.rf⟩
  have hl := lv_entry ([.ref av0, .int p0, .int p1, .int p2, .int p3, .int p4]) (n := 6) (Nat.le_of_ble_eq_true rfl)
  rw [lg_entry_eq]
  generalize (lg_sl ([.ref av0, .int p0, .int p1, .int p2, .int p3, .int p4]) ++ List.replicate (6 - (lg_sl ([.ref av0, .int p0, .int p1, .int p2, .int p3, .int p4])).length) Slot.unset).toArray = ls at hl ⊢
  have hl : lv_has ls 6 [(0, .ref av0), (1, .int p0), (2, .int p1), (3, .int p2), (4, .int p3), (5, .int p4)] := hl
  refine lv_aload_n hx hb dX12_walker_0 rfl (lv_at hl 0 rfl) ?_
  refine lv_iload_n hx hb dX12_walker_1 rfl (lv_at hl 1 rfl) ?_
  refine wk_Vi hC hK hw hA [0, 1] [] rfl rfl rfl rfl (by decide) (c_X12_isCorner_1 l dC dI cy av0 p0 (ad 0) (ad 1) (ad 2) (ad 3) (ad 4) (ad 5) (ad 6) (ad 7) (ad 8) (ad 9) (ad 10) (ad 11) (ad 12) (ad 13) (ad 14) (ad 15) (ad 16) (ad 17) (ad 18) (ad 19) (ad 20) (ad 21) s.heap.size ) (cwV 1 hC.2.2.2.2 gX12_walker_X12_isCorner rfl rfl rfl (by decide +kernel) ⟨Nat.le_of_ble_eq_true rfl, Nat.le_of_ble_eq_true rfl⟩) rfl 0 rfl rfl hl.1 rfl (Nat.le_of_ble_eq_true rfl) dX12_walker_2 0 0 ⟨rfl, rfl⟩ ⟨Nat.le_of_ble_eq_true rfl, Nat.le_of_ble_eq_true rfl⟩ (fun r2 u1 H locs p3 hw => ?_)
  have hw : Wd dC dI A s.heap H locs [(av0, .inr (12, [.ref (ad 0), .int 0, .int 0, .ref (ad 1), .ref (ad 2), .ref (ad 3), .ref (ad 4), .int 0, .int 0, .int 0, .int 0, .ref (ad 5), .ref (ad 6), .ref (ad 7), .int 0, .int 0, .int 0, .int 0, .int 0, .int 0, .int 0, .ref (ad 8), .int 0, .ref (ad 9), .int 0, .ref (ad 10), .ref (ad 11), .int 1, .ref (ad 12), .ref (ad 13), .int 0, .int 0, .ref (ad 14), .ref (ad 15), .ref (ad 16), .ref (ad 17), .ref (ad 18), .int 0, .ref (ad 19), .long 0, .ref (ad 20), .ref (ad 21)])), ((ad 11), .inl (cy 0, 296, .inl (fun _ => 0)))] := hw
  obtain rfl : r2 = 0 := p3
  refine lv_if_eq (tgt := 57) hx hb dX12_walker_5 (by decide) (fun _ => ?_) (fun c => absurd (by decide) c)
  refine lv_bipush (v := (-2)) hx hb dX12_walker_57 (by decide) ?_
  exact wk_iret (v := (-2)) hC hr hlocks hK ((fun _ => 0), (fun _ _ => 0)) rfl [0, 1] rfl rfl hw dX12_walker_59

set_option maxHeartbeats 4000000 in
set_option maxRecDepth 100000 in
theorem c_X12_isWalker_1 (l : Launch) (dC : Nat → ClassId) (dI : Nat → Nat → Nat) (cy : Nat → ClassId) (av0 : Nat) (iv0 : Int32) (av1 : Nat) (av2 : Nat) (av3 : Nat) (av4 : Nat) (av5 : Nat) (av6 : Nat) (av7 : Nat) (av8 : Nat) (av9 : Nat) (av10 : Nat) (av11 : Nat) (av12 : Nat) (av13 : Nat) (av14 : Nat) (av15 : Nat) (av16 : Nat) (av17 : Nat) (av18 : Nat) (av19 : Nat) (av20 : Nat) (av21 : Nat) (av22 : Nat) (sz : Nat)  : Met l yX12_isWalker wsX12_isWalker ({ frames := 0, cells := 0, slots := 0, locals := 0 }) (va_Pc [.ref av0, .int iv0] (wpre dC dI cy sz [(av0, .inr (12, [.ref av1, .int 0, .int 0, .ref av2, .ref av3, .ref av4, .ref av5, .int 0, .int 0, .int 0, .int 0, .ref av6, .ref av7, .ref av8, .int 0, .int 0, .int 0, .int 0, .int 0, .int 0, .int 0, .ref av9, .int 0, .ref av10, .int 0, .ref av11, .ref av12, .int 1, .ref av13, .ref av14, .int 0, .int 0, .ref av15, .ref av16, .ref av17, .ref av18, .ref av19, .int 0, .ref av20, .long 0, .ref av21, .ref av22])), (av12, .inl (cy 0, 296, .inl (fun _ => 0)))])) (va_Qi (fun (r : Int32) (_ : ((Nat → Nat) × (Nat → Nat → Int32))) => r = 0) (fun u => wpost dC dI cy (va_A [(av0, .inr (12, [.ref av1, .int 0, .int 0, .ref av2, .ref av3, .ref av4, .ref av5, .int 0, .int 0, .int 0, .int 0, .ref av6, .ref av7, .ref av8, .int 0, .int 0, .int 0, .int 0, .int 0, .int 0, .int 0, .ref av9, .int 0, .ref av10, .int 0, .ref av11, .ref av12, .int 1, .ref av13, .ref av14, .int 0, .int 0, .ref av15, .ref av16, .ref av17, .ref av18, .ref av19, .int 0, .ref av20, .long 0, .ref av21, .ref av22])), (av12, .inl (cy 0, 296, .inl (fun _ => 0)))] sz) [(av0, .inr (12, [.ref av1, .int 0, .int 0, .ref av2, .ref av3, .ref av4, .ref av5, .int 0, .int 0, .int 0, .int 0, .ref av6, .ref av7, .ref av8, .int 0, .int 0, .int 0, .int 0, .int 0, .int 0, .int 0, .ref av9, .int 0, .ref av10, .int 0, .ref av11, .ref av12, .int 1, .ref av13, .ref av14, .int 0, .int 0, .ref av15, .ref av16, .ref av17, .ref av18, .ref av19, .int 0, .ref av20, .long 0, .ref av21, .ref av22])), (av12, .inl (cy 0, 296, .inl (fun _ => 0)))]) (va_A [(av0, .inr (12, [.ref av1, .int 0, .int 0, .ref av2, .ref av3, .ref av4, .ref av5, .int 0, .int 0, .int 0, .int 0, .ref av6, .ref av7, .ref av8, .int 0, .int 0, .int 0, .int 0, .int 0, .int 0, .int 0, .ref av9, .int 0, .ref av10, .int 0, .ref av11, .ref av12, .int 1, .ref av13, .ref av14, .int 0, .int 0, .ref av15, .ref av16, .ref av17, .ref av18, .ref av19, .int 0, .ref av20, .long 0, .ref av21, .ref av22])), (av12, .inl (cy 0, 296, .inl (fun _ => 0)))] sz)) 0 0 (va_A [(av0, .inr (12, [.ref av1, .int 0, .int 0, .ref av2, .ref av3, .ref av4, .ref av5, .int 0, .int 0, .int 0, .int 0, .ref av6, .ref av7, .ref av8, .int 0, .int 0, .int 0, .int 0, .int 0, .int 0, .int 0, .ref av9, .int 0, .ref av10, .int 0, .ref av11, .ref av12, .int 1, .ref av13, .ref av14, .int 0, .int 0, .ref av15, .ref av16, .ref av17, .ref av18, .ref av19, .int 0, .ref av20, .long 0, .ref av21, .ref av22])), (av12, .inl (cy 0, 296, .inl (fun _ => 0)))] sz) := by
  refine Met.ofW (cc := cX12_isWalker) (maxL := 2) (ret := (some .boolean)) (by decide) rfl ?_
  intro p e s m args below meth c s₁ B hml hv
  obtain ⟨rfl, hsz, hP, hK, hD0⟩ := hv
  have hx := B.exec
  have hb := B.bytes
  have hr := B.returns
  have hlocks := B.notSynchronized
  have hC : CallFix p m c cX12_isWalker 2 s _ wsX12_isWalker RX12 := ⟨hx, hb, hml, findClass_of_methodNamed B.named, atoms_spec (ws := wsX12_isWalker) B.pre⟩
  subst hsz
  have hD := hD0.self (sz := s.heap.size)
  generalize hAe : va_A [(av0, .inr (12, [.ref av1, .int 0, .int 0, .ref av2, .ref av3, .ref av4, .ref av5, .int 0, .int 0, .int 0, .int 0, .ref av6, .ref av7, .ref av8, .int 0, .int 0, .int 0, .int 0, .int 0, .int 0, .int 0, .ref av9, .int 0, .ref av10, .int 0, .ref av11, .ref av12, .int 1, .ref av13, .ref av14, .int 0, .int 0, .ref av15, .ref av16, .ref av17, .ref av18, .ref av19, .int 0, .ref av20, .long 0, .ref av21, .ref av22])), (av12, .inl (cy 0, 296, .inl (fun _ => 0)))] s.heap.size = A at hD ⊢
  have hA : ∀ q : Nat, s.heap.size ≤ q → A q := fun q h => by rw [← hAe]; exact Or.inr h
  have hw : Wd dC dI A s.heap s.heap [] [(av0, .inr (12, [.ref av1, .int 0, .int 0, .ref av2, .ref av3, .ref av4, .ref av5, .int 0, .int 0, .int 0, .int 0, .ref av6, .ref av7, .ref av8, .int 0, .int 0, .int 0, .int 0, .int 0, .int 0, .int 0, .ref av9, .int 0, .ref av10, .int 0, .ref av11, .ref av12, .int 1, .ref av13, .ref av14, .int 0, .int 0, .ref av15, .ref av16, .ref av17, .ref av18, .ref av19, .int 0, .ref av20, .long 0, .ref av21, .ref av22])), (av12, .inl (cy 0, 296, .inl (fun _ => 0)))] := ⟨hP, hD, va_S.rf⟩
  have hl := lv_entry ([.ref av0, .int iv0]) (n := 2) (Nat.le_of_ble_eq_true rfl)
  rw [lg_entry_eq]
  generalize (lg_sl ([.ref av0, .int iv0]) ++ List.replicate (2 - (lg_sl ([.ref av0, .int iv0])).length) Slot.unset).toArray = ls at hl ⊢
  have hl : lv_has ls 2 [(0, .ref av0), (1, .int iv0)] := hl
  have hinX12 : ∀ w ∈ u_ws RX12 TX12 42, w ∈ wsX12_isWalker := fun _ h => List.mem_cons_of_mem _ (List.mem_append_right _ (h))
  refine lv_iload_n hx hb dX12_isWalker_0 rfl (lv_at hl 1 rfl) ?_
  refine lv_if_lt (tgt := 18) hx hb dX12_isWalker_1 (by decide) (fun c1 => ?_) (fun c1 => ?_)
  · have c1 : iv0.toInt < 0 := wk_lt.mp c1
    refine lv_iconst (v := 0) hx hb dX12_isWalker_18 (by decide) ?_
    exact wk_zret (v := 0) hC hr rfl hlocks hK ((fun _ => 0), (fun _ _ => 0)) rfl [0, 1] rfl rfl hw dX12_isWalker_19
  · have c1 : 0 ≤ iv0.toInt := wk_ltF c1
    refine lv_iload_n hx hb dX12_isWalker_4 rfl (lv_at hl 1 rfl) ?_
    refine lv_aload_n hx hb dX12_isWalker_5 rfl (lv_at hl 0 rfl) ?_
    refine wk_get hC hK hw hinX12 0 rfl rfl 26 (by decide) (List.mem_of_getElem? (i := 1) rfl) rfl rfl dX12_isWalker_6 ?_
    refine lv_iconst (v := 5) hx hb dX12_isWalker_9 (by decide) ?_
    refine wk_iald hC hK hw 1 rfl (show ¬ ((5 : Int32) < 0 ∨ 296 ≤ (5 : Int32).toNatClampNeg) by decide) dX12_isWalker_10 ?_
    refine wk_top 0 rfl ?_
    refine lv_icmp_ge (tgt := 18) hx hb dX12_isWalker_11 (by decide) (fun _ => ?_) (fun c => absurd (wk_le.mpr (show 0 ≤ iv0.toInt by omega)) c)
    refine lv_iconst (v := 0) hx hb dX12_isWalker_18 (by decide) ?_
    exact wk_zret (v := 0) hC hr rfl hlocks hK ((fun _ => 0), (fun _ _ => 0)) rfl [0, 1] rfl rfl hw dX12_isWalker_19

set_option maxHeartbeats 4000000 in
set_option maxRecDepth 100000 in
theorem t_X12_about (l : Launch) (dC : Nat → ClassId) (dI : Nat → Nat → Nat) (cy : Nat → ClassId) (av0 : Nat) (ad : Nat → Nat) (p0 : Int32) (p1 : Int32) (sz : Nat)  : Met l yX12_about wsX12_about ({ frames := 1, cells := 0, slots := 0, locals := 21 }) (va_Pc [.ref av0, .int p0, .int p1] (wpre dC dI cy sz [(av0, .inr (12, [.ref (ad 0), .int 0, .int 0, .ref (ad 1), .ref (ad 2), .ref (ad 3), .ref (ad 4), .int 0, .int 0, .int 0, .int 0, .ref (ad 5), .ref (ad 6), .ref (ad 7), .int 0, .int 0, .int 0, .int 0, .int 0, .int 0, .int 0, .ref (ad 8), .int 0, .ref (ad 9), .int 0, .ref (ad 10), .ref (ad 11), .int 1, .ref (ad 12), .ref (ad 13), .int 0, .int 0, .ref (ad 14), .ref (ad 15), .ref (ad 16), .ref (ad 17), .ref (ad 18), .int 0, .ref (ad 19), .long 0, .ref (ad 20), .ref (ad 21)])), ((ad 11), .inl (cy 0, 296, .inl (fun _ => 0)))])) (va_Qi (fun (r : Int32) (_ : ((Nat → Nat) × (Nat → Nat → Int32))) => r = (-1)) (fun u => wpost dC dI cy (va_A [(av0, .inr (12, [.ref (ad 0), .int 0, .int 0, .ref (ad 1), .ref (ad 2), .ref (ad 3), .ref (ad 4), .int 0, .int 0, .int 0, .int 0, .ref (ad 5), .ref (ad 6), .ref (ad 7), .int 0, .int 0, .int 0, .int 0, .int 0, .int 0, .int 0, .ref (ad 8), .int 0, .ref (ad 9), .int 0, .ref (ad 10), .ref (ad 11), .int 1, .ref (ad 12), .ref (ad 13), .int 0, .int 0, .ref (ad 14), .ref (ad 15), .ref (ad 16), .ref (ad 17), .ref (ad 18), .int 0, .ref (ad 19), .long 0, .ref (ad 20), .ref (ad 21)])), ((ad 11), .inl (cy 0, 296, .inl (fun _ => 0)))] sz) [(av0, .inr (12, [.ref (ad 0), .int 0, .int 0, .ref (ad 1), .ref (ad 2), .ref (ad 3), .ref (ad 4), .int 0, .int 0, .int 0, .int 0, .ref (ad 5), .ref (ad 6), .ref (ad 7), .int 0, .int 0, .int 0, .int 0, .int 0, .int 0, .int 0, .ref (ad 8), .int 0, .ref (ad 9), .int 0, .ref (ad 10), .ref (ad 11), .int 1, .ref (ad 12), .ref (ad 13), .int 0, .int 0, .ref (ad 14), .ref (ad 15), .ref (ad 16), .ref (ad 17), .ref (ad 18), .int 0, .ref (ad 19), .long 0, .ref (ad 20), .ref (ad 21)])), ((ad 11), .inl (cy 0, 296, .inl (fun _ => 0)))]) (va_A [(av0, .inr (12, [.ref (ad 0), .int 0, .int 0, .ref (ad 1), .ref (ad 2), .ref (ad 3), .ref (ad 4), .int 0, .int 0, .int 0, .int 0, .ref (ad 5), .ref (ad 6), .ref (ad 7), .int 0, .int 0, .int 0, .int 0, .int 0, .int 0, .int 0, .ref (ad 8), .int 0, .ref (ad 9), .int 0, .ref (ad 10), .ref (ad 11), .int 1, .ref (ad 12), .ref (ad 13), .int 0, .int 0, .ref (ad 14), .ref (ad 15), .ref (ad 16), .ref (ad 17), .ref (ad 18), .int 0, .ref (ad 19), .long 0, .ref (ad 20), .ref (ad 21)])), ((ad 11), .inl (cy 0, 296, .inl (fun _ => 0)))] sz)) 0 0 (va_A [(av0, .inr (12, [.ref (ad 0), .int 0, .int 0, .ref (ad 1), .ref (ad 2), .ref (ad 3), .ref (ad 4), .int 0, .int 0, .int 0, .int 0, .ref (ad 5), .ref (ad 6), .ref (ad 7), .int 0, .int 0, .int 0, .int 0, .int 0, .int 0, .int 0, .ref (ad 8), .int 0, .ref (ad 9), .int 0, .ref (ad 10), .ref (ad 11), .int 1, .ref (ad 12), .ref (ad 13), .int 0, .int 0, .ref (ad 14), .ref (ad 15), .ref (ad 16), .ref (ad 17), .ref (ad 18), .int 0, .ref (ad 19), .long 0, .ref (ad 20), .ref (ad 21)])), ((ad 11), .inl (cy 0, 296, .inl (fun _ => 0)))] sz) := by
  refine Met.ofW (cc := cX12_about) (maxL := 3) (ret := (some .int)) (by decide) rfl ?_
  intro p e s m args below meth c s₁ B hml hv
  obtain ⟨rfl, hsz, hP, hK, hD0⟩ := hv
  have hx := B.exec
  have hb := B.bytes
  have hr := B.returns
  have hlocks := B.notSynchronized
  have hC : CallFix p m c cX12_about 3 s _ wsX12_about RX12 := ⟨hx, hb, hml, findClass_of_methodNamed B.named, atoms_spec (ws := wsX12_about) B.pre⟩
  subst hsz
  have hD := hD0.self (sz := s.heap.size)
  generalize hAe : va_A [(av0, .inr (12, [.ref (ad 0), .int 0, .int 0, .ref (ad 1), .ref (ad 2), .ref (ad 3), .ref (ad 4), .int 0, .int 0, .int 0, .int 0, .ref (ad 5), .ref (ad 6), .ref (ad 7), .int 0, .int 0, .int 0, .int 0, .int 0, .int 0, .int 0, .ref (ad 8), .int 0, .ref (ad 9), .int 0, .ref (ad 10), .ref (ad 11), .int 1, .ref (ad 12), .ref (ad 13), .int 0, .int 0, .ref (ad 14), .ref (ad 15), .ref (ad 16), .ref (ad 17), .ref (ad 18), .int 0, .ref (ad 19), .long 0, .ref (ad 20), .ref (ad 21)])), ((ad 11), .inl (cy 0, 296, .inl (fun _ => 0)))] s.heap.size = A at hD ⊢
  have hA : ∀ q : Nat, s.heap.size ≤ q → A q := fun q h => by rw [← hAe]; exact Or.inr h
  have hw : Wd dC dI A s.heap s.heap [] [(av0, .inr (12, [.ref (ad 0), .int 0, .int 0, .ref (ad 1), .ref (ad 2), .ref (ad 3), .ref (ad 4), .int 0, .int 0, .int 0, .int 0, .ref (ad 5), .ref (ad 6), .ref (ad 7), .int 0, .int 0, .int 0, .int 0, .int 0, .int 0, .int 0, .ref (ad 8), .int 0, .ref (ad 9), .int 0, .ref (ad 10), .ref (ad 11), .int 1, .ref (ad 12), .ref (ad 13), .int 0, .int 0, .ref (ad 14), .ref (ad 15), .ref (ad 16), .ref (ad 17), .ref (ad 18), .int 0, .ref (ad 19), .long 0, .ref (ad 20), .ref (ad 21)])), ((ad 11), .inl (cy 0, 296, .inl (fun _ => 0)))] := ⟨hP, hD, va_S.rf⟩
  have hl := lv_entry ([.ref av0, .int p0, .int p1]) (n := 3) (Nat.le_of_ble_eq_true rfl)
  rw [lg_entry_eq]
  generalize (lg_sl ([.ref av0, .int p0, .int p1]) ++ List.replicate (3 - (lg_sl ([.ref av0, .int p0, .int p1])).length) Slot.unset).toArray = ls at hl ⊢
  have hl : lv_has ls 3 [(0, .ref av0), (1, .int p0), (2, .int p1)] := hl
  refine lv_aload_n hx hb dX12_about_0 rfl (lv_at hl 0 rfl) ?_
  refine lv_iload_n hx hb dX12_about_1 rfl (lv_at hl 1 rfl) ?_
  refine wk_Vi hC hK hw hA [0, 1] [] rfl rfl rfl rfl (by decide) (c_X12_isWalker_1 l dC dI cy av0 p0 (ad 0) (ad 1) (ad 2) (ad 3) (ad 4) (ad 5) (ad 6) (ad 7) (ad 8) (ad 9) (ad 10) (ad 11) (ad 12) (ad 13) (ad 14) (ad 15) (ad 16) (ad 17) (ad 18) (ad 19) (ad 20) (ad 21) s.heap.size ) (cwV 1 hC.2.2.2.2 gX12_about_X12_isWalker rfl rfl rfl (by decide +kernel) ⟨Nat.le_of_ble_eq_true rfl, Nat.le_of_ble_eq_true rfl⟩) rfl 0 rfl rfl hl.1 rfl (Nat.le_of_ble_eq_true rfl) dX12_about_2 0 0 ⟨rfl, rfl⟩ ⟨Nat.le_of_ble_eq_true rfl, Nat.le_of_ble_eq_true rfl⟩ (fun r2 u1 H locs p3 hw => ?_)
  have hw : Wd dC dI A s.heap H locs [(av0, .inr (12, [.ref (ad 0), .int 0, .int 0, .ref (ad 1), .ref (ad 2), .ref (ad 3), .ref (ad 4), .int 0, .int 0, .int 0, .int 0, .ref (ad 5), .ref (ad 6), .ref (ad 7), .int 0, .int 0, .int 0, .int 0, .int 0, .int 0, .int 0, .ref (ad 8), .int 0, .ref (ad 9), .int 0, .ref (ad 10), .ref (ad 11), .int 1, .ref (ad 12), .ref (ad 13), .int 0, .int 0, .ref (ad 14), .ref (ad 15), .ref (ad 16), .ref (ad 17), .ref (ad 18), .int 0, .ref (ad 19), .long 0, .ref (ad 20), .ref (ad 21)])), ((ad 11), .inl (cy 0, 296, .inl (fun _ => 0)))] := hw
  obtain rfl : r2 = 0 := p3
  refine lv_if_eq (tgt := 29) hx hb dX12_about_5 (by decide) (fun _ => ?_) (fun c => absurd (by decide) c)
  refine lv_iconst (v := (-1)) hx hb dX12_about_29 (by decide) ?_
  exact wk_iret (v := (-1)) hC hr hlocks hK ((fun _ => 0), (fun _ _ => 0)) rfl [0, 1] rfl rfl hw dX12_about_30

set_option maxHeartbeats 4000000 in
set_option maxRecDepth 100000 in
theorem t_X12_step (l : Launch) (dC : Nat → ClassId) (dI : Nat → Nat → Nat) (cy : Nat → ClassId) (av0 : Nat) (ad : Nat → Nat) (p0 : Int32) (p1 : Int32) (sz : Nat)  : Met l yX12_step wsX12_step ({ frames := 1, cells := 0, slots := 0, locals := 21 }) (va_Pc [.ref av0, .int p0, .int p1] (wpre dC dI cy sz [(av0, .inr (12, [.ref (ad 0), .int 0, .int 0, .ref (ad 1), .ref (ad 2), .ref (ad 3), .ref (ad 4), .int 0, .int 0, .int 0, .int 0, .ref (ad 5), .ref (ad 6), .ref (ad 7), .int 0, .int 0, .int 0, .int 0, .int 0, .int 0, .int 0, .ref (ad 8), .int 0, .ref (ad 9), .int 0, .ref (ad 10), .ref (ad 11), .int 1, .ref (ad 12), .ref (ad 13), .int 0, .int 0, .ref (ad 14), .ref (ad 15), .ref (ad 16), .ref (ad 17), .ref (ad 18), .int 0, .ref (ad 19), .long 0, .ref (ad 20), .ref (ad 21)])), ((ad 11), .inl (cy 0, 296, .inl (fun _ => 0)))])) (va_Qi (fun (r : Int32) (_ : ((Nat → Nat) × (Nat → Nat → Int32))) => r = (-1)) (fun u => wpost dC dI cy (va_A [(av0, .inr (12, [.ref (ad 0), .int 0, .int 0, .ref (ad 1), .ref (ad 2), .ref (ad 3), .ref (ad 4), .int 0, .int 0, .int 0, .int 0, .ref (ad 5), .ref (ad 6), .ref (ad 7), .int 0, .int 0, .int 0, .int 0, .int 0, .int 0, .int 0, .ref (ad 8), .int 0, .ref (ad 9), .int 0, .ref (ad 10), .ref (ad 11), .int 1, .ref (ad 12), .ref (ad 13), .int 0, .int 0, .ref (ad 14), .ref (ad 15), .ref (ad 16), .ref (ad 17), .ref (ad 18), .int 0, .ref (ad 19), .long 0, .ref (ad 20), .ref (ad 21)])), ((ad 11), .inl (cy 0, 296, .inl (fun _ => 0)))] sz) [(av0, .inr (12, [.ref (ad 0), .int 0, .int 0, .ref (ad 1), .ref (ad 2), .ref (ad 3), .ref (ad 4), .int 0, .int 0, .int 0, .int 0, .ref (ad 5), .ref (ad 6), .ref (ad 7), .int 0, .int 0, .int 0, .int 0, .int 0, .int 0, .int 0, .ref (ad 8), .int 0, .ref (ad 9), .int 0, .ref (ad 10), .ref (ad 11), .int 1, .ref (ad 12), .ref (ad 13), .int 0, .int 0, .ref (ad 14), .ref (ad 15), .ref (ad 16), .ref (ad 17), .ref (ad 18), .int 0, .ref (ad 19), .long 0, .ref (ad 20), .ref (ad 21)])), ((ad 11), .inl (cy 0, 296, .inl (fun _ => 0)))]) (va_A [(av0, .inr (12, [.ref (ad 0), .int 0, .int 0, .ref (ad 1), .ref (ad 2), .ref (ad 3), .ref (ad 4), .int 0, .int 0, .int 0, .int 0, .ref (ad 5), .ref (ad 6), .ref (ad 7), .int 0, .int 0, .int 0, .int 0, .int 0, .int 0, .int 0, .ref (ad 8), .int 0, .ref (ad 9), .int 0, .ref (ad 10), .ref (ad 11), .int 1, .ref (ad 12), .ref (ad 13), .int 0, .int 0, .ref (ad 14), .ref (ad 15), .ref (ad 16), .ref (ad 17), .ref (ad 18), .int 0, .ref (ad 19), .long 0, .ref (ad 20), .ref (ad 21)])), ((ad 11), .inl (cy 0, 296, .inl (fun _ => 0)))] sz)) 0 0 (va_A [(av0, .inr (12, [.ref (ad 0), .int 0, .int 0, .ref (ad 1), .ref (ad 2), .ref (ad 3), .ref (ad 4), .int 0, .int 0, .int 0, .int 0, .ref (ad 5), .ref (ad 6), .ref (ad 7), .int 0, .int 0, .int 0, .int 0, .int 0, .int 0, .int 0, .ref (ad 8), .int 0, .ref (ad 9), .int 0, .ref (ad 10), .ref (ad 11), .int 1, .ref (ad 12), .ref (ad 13), .int 0, .int 0, .ref (ad 14), .ref (ad 15), .ref (ad 16), .ref (ad 17), .ref (ad 18), .int 0, .ref (ad 19), .long 0, .ref (ad 20), .ref (ad 21)])), ((ad 11), .inl (cy 0, 296, .inl (fun _ => 0)))] sz) := by
  refine Met.ofW (cc := cX12_step) (maxL := 4) (ret := (some .int)) (by decide) rfl ?_
  intro p e s m args below meth c s₁ B hml hv
  obtain ⟨rfl, hsz, hP, hK, hD0⟩ := hv
  have hx := B.exec
  have hb := B.bytes
  have hr := B.returns
  have hlocks := B.notSynchronized
  have hC : CallFix p m c cX12_step 4 s _ wsX12_step RX12 := ⟨hx, hb, hml, findClass_of_methodNamed B.named, atoms_spec (ws := wsX12_step) B.pre⟩
  subst hsz
  have hD := hD0.self (sz := s.heap.size)
  generalize hAe : va_A [(av0, .inr (12, [.ref (ad 0), .int 0, .int 0, .ref (ad 1), .ref (ad 2), .ref (ad 3), .ref (ad 4), .int 0, .int 0, .int 0, .int 0, .ref (ad 5), .ref (ad 6), .ref (ad 7), .int 0, .int 0, .int 0, .int 0, .int 0, .int 0, .int 0, .ref (ad 8), .int 0, .ref (ad 9), .int 0, .ref (ad 10), .ref (ad 11), .int 1, .ref (ad 12), .ref (ad 13), .int 0, .int 0, .ref (ad 14), .ref (ad 15), .ref (ad 16), .ref (ad 17), .ref (ad 18), .int 0, .ref (ad 19), .long 0, .ref (ad 20), .ref (ad 21)])), ((ad 11), .inl (cy 0, 296, .inl (fun _ => 0)))] s.heap.size = A at hD ⊢
  have hA : ∀ q : Nat, s.heap.size ≤ q → A q := fun q h => by rw [← hAe]; exact Or.inr h
  have hw : Wd dC dI A s.heap s.heap [] [(av0, .inr (12, [.ref (ad 0), .int 0, .int 0, .ref (ad 1), .ref (ad 2), .ref (ad 3), .ref (ad 4), .int 0, .int 0, .int 0, .int 0, .ref (ad 5), .ref (ad 6), .ref (ad 7), .int 0, .int 0, .int 0, .int 0, .int 0, .int 0, .int 0, .ref (ad 8), .int 0, .ref (ad 9), .int 0, .ref (ad 10), .ref (ad 11), .int 1, .ref (ad 12), .ref (ad 13), .int 0, .int 0, .ref (ad 14), .ref (ad 15), .ref (ad 16), .ref (ad 17), .ref (ad 18), .int 0, .ref (ad 19), .long 0, .ref (ad 20), .ref (ad 21)])), ((ad 11), .inl (cy 0, 296, .inl (fun _ => 0)))] := ⟨hP, hD, va_S.rf⟩
  have hl := lv_entry ([.ref av0, .int p0, .int p1]) (n := 4) (Nat.le_of_ble_eq_true rfl)
  rw [lg_entry_eq]
  generalize (lg_sl ([.ref av0, .int p0, .int p1]) ++ List.replicate (4 - (lg_sl ([.ref av0, .int p0, .int p1])).length) Slot.unset).toArray = ls at hl ⊢
  have hl : lv_has ls 4 [(0, .ref av0), (1, .int p0), (2, .int p1)] := hl
  refine lv_aload_n hx hb dX12_step_0 rfl (lv_at hl 0 rfl) ?_
  refine lv_iload_n hx hb dX12_step_1 rfl (lv_at hl 1 rfl) ?_
  refine wk_Vi hC hK hw hA [0, 1] [] rfl rfl rfl rfl (by decide) (c_X12_isWalker_1 l dC dI cy av0 p0 (ad 0) (ad 1) (ad 2) (ad 3) (ad 4) (ad 5) (ad 6) (ad 7) (ad 8) (ad 9) (ad 10) (ad 11) (ad 12) (ad 13) (ad 14) (ad 15) (ad 16) (ad 17) (ad 18) (ad 19) (ad 20) (ad 21) s.heap.size ) (cwV 1 hC.2.2.2.2 gX12_step_X12_isWalker rfl rfl rfl (by decide +kernel) ⟨Nat.le_of_ble_eq_true rfl, Nat.le_of_ble_eq_true rfl⟩) rfl 0 rfl rfl hl.1 rfl (Nat.le_of_ble_eq_true rfl) dX12_step_2 0 0 ⟨rfl, rfl⟩ ⟨Nat.le_of_ble_eq_true rfl, Nat.le_of_ble_eq_true rfl⟩ (fun r2 u1 H locs p3 hw => ?_)
  have hw : Wd dC dI A s.heap H locs [(av0, .inr (12, [.ref (ad 0), .int 0, .int 0, .ref (ad 1), .ref (ad 2), .ref (ad 3), .ref (ad 4), .int 0, .int 0, .int 0, .int 0, .ref (ad 5), .ref (ad 6), .ref (ad 7), .int 0, .int 0, .int 0, .int 0, .int 0, .int 0, .int 0, .ref (ad 8), .int 0, .ref (ad 9), .int 0, .ref (ad 10), .ref (ad 11), .int 1, .ref (ad 12), .ref (ad 13), .int 0, .int 0, .ref (ad 14), .ref (ad 15), .ref (ad 16), .ref (ad 17), .ref (ad 18), .int 0, .ref (ad 19), .long 0, .ref (ad 20), .ref (ad 21)])), ((ad 11), .inl (cy 0, 296, .inl (fun _ => 0)))] := hw
  obtain rfl : r2 = 0 := p3
  refine lv_if_eq (tgt := 20) hx hb dX12_step_5 (by decide) (fun _ => ?_) (fun c => absurd (by decide) c)
  refine lv_iconst (v := (-1)) hx hb dX12_step_20 (by decide) ?_
  exact wk_iret (v := (-1)) hC hr hlocks hK ((fun _ => 0), (fun _ _ => 0)) rfl [0, 1] rfl rfl hw dX12_step_21

set_option maxHeartbeats 4000000 in
set_option maxRecDepth 100000 in
theorem c_X12_canLook_1 (l : Launch) (dC : Nat → ClassId) (dI : Nat → Nat → Nat) (cy : Nat → ClassId) (av0 : Nat) (iv0 : Int32) (iv1 : Int32) (iv2 : Int32) (av1 : Nat) (av2 : Nat) (av3 : Nat) (av4 : Nat) (av5 : Nat) (av6 : Nat) (av7 : Nat) (av8 : Nat) (av9 : Nat) (av10 : Nat) (av11 : Nat) (av12 : Nat) (av13 : Nat) (av14 : Nat) (av15 : Nat) (av16 : Nat) (av17 : Nat) (av18 : Nat) (av19 : Nat) (av20 : Nat) (av21 : Nat) (av22 : Nat) (sz : Nat)  : Met l yX12_canLook wsX12_canLook ({ frames := 1, cells := 0, slots := 0, locals := 21 }) (va_Pc [.ref av0, .int iv0, .int iv1, .int iv2] (wpre dC dI cy sz [(av0, .inr (12, [.ref av1, .int 0, .int 0, .ref av2, .ref av3, .ref av4, .ref av5, .int 0, .int 0, .int 0, .int 0, .ref av6, .ref av7, .ref av8, .int 0, .int 0, .int 0, .int 0, .int 0, .int 0, .int 0, .ref av9, .int 0, .ref av10, .int 0, .ref av11, .ref av12, .int 1, .ref av13, .ref av14, .int 0, .int 0, .ref av15, .ref av16, .ref av17, .ref av18, .ref av19, .int 0, .ref av20, .long 0, .ref av21, .ref av22])), (av12, .inl (cy 0, 296, .inl (fun _ => 0)))])) (va_Qi (fun (r : Int32) (_ : ((Nat → Nat) × (Nat → Nat → Int32))) => r = 0) (fun u => wpost dC dI cy (va_A [(av0, .inr (12, [.ref av1, .int 0, .int 0, .ref av2, .ref av3, .ref av4, .ref av5, .int 0, .int 0, .int 0, .int 0, .ref av6, .ref av7, .ref av8, .int 0, .int 0, .int 0, .int 0, .int 0, .int 0, .int 0, .ref av9, .int 0, .ref av10, .int 0, .ref av11, .ref av12, .int 1, .ref av13, .ref av14, .int 0, .int 0, .ref av15, .ref av16, .ref av17, .ref av18, .ref av19, .int 0, .ref av20, .long 0, .ref av21, .ref av22])), (av12, .inl (cy 0, 296, .inl (fun _ => 0)))] sz) [(av0, .inr (12, [.ref av1, .int 0, .int 0, .ref av2, .ref av3, .ref av4, .ref av5, .int 0, .int 0, .int 0, .int 0, .ref av6, .ref av7, .ref av8, .int 0, .int 0, .int 0, .int 0, .int 0, .int 0, .int 0, .ref av9, .int 0, .ref av10, .int 0, .ref av11, .ref av12, .int 1, .ref av13, .ref av14, .int 0, .int 0, .ref av15, .ref av16, .ref av17, .ref av18, .ref av19, .int 0, .ref av20, .long 0, .ref av21, .ref av22])), (av12, .inl (cy 0, 296, .inl (fun _ => 0)))]) (va_A [(av0, .inr (12, [.ref av1, .int 0, .int 0, .ref av2, .ref av3, .ref av4, .ref av5, .int 0, .int 0, .int 0, .int 0, .ref av6, .ref av7, .ref av8, .int 0, .int 0, .int 0, .int 0, .int 0, .int 0, .int 0, .ref av9, .int 0, .ref av10, .int 0, .ref av11, .ref av12, .int 1, .ref av13, .ref av14, .int 0, .int 0, .ref av15, .ref av16, .ref av17, .ref av18, .ref av19, .int 0, .ref av20, .long 0, .ref av21, .ref av22])), (av12, .inl (cy 0, 296, .inl (fun _ => 0)))] sz)) 0 0 (va_A [(av0, .inr (12, [.ref av1, .int 0, .int 0, .ref av2, .ref av3, .ref av4, .ref av5, .int 0, .int 0, .int 0, .int 0, .ref av6, .ref av7, .ref av8, .int 0, .int 0, .int 0, .int 0, .int 0, .int 0, .int 0, .ref av9, .int 0, .ref av10, .int 0, .ref av11, .ref av12, .int 1, .ref av13, .ref av14, .int 0, .int 0, .ref av15, .ref av16, .ref av17, .ref av18, .ref av19, .int 0, .ref av20, .long 0, .ref av21, .ref av22])), (av12, .inl (cy 0, 296, .inl (fun _ => 0)))] sz) := by
  refine Met.ofW (cc := cX12_canLook) (maxL := 4) (ret := (some .boolean)) (by decide) rfl ?_
  intro p e s m args below meth c s₁ B hml hv
  obtain ⟨rfl, hsz, hP, hK, hD0⟩ := hv
  have hx := B.exec
  have hb := B.bytes
  have hr := B.returns
  have hlocks := B.notSynchronized
  have hC : CallFix p m c cX12_canLook 4 s _ wsX12_canLook RX12 := ⟨hx, hb, hml, findClass_of_methodNamed B.named, atoms_spec (ws := wsX12_canLook) B.pre⟩
  subst hsz
  have hD := hD0.self (sz := s.heap.size)
  generalize hAe : va_A [(av0, .inr (12, [.ref av1, .int 0, .int 0, .ref av2, .ref av3, .ref av4, .ref av5, .int 0, .int 0, .int 0, .int 0, .ref av6, .ref av7, .ref av8, .int 0, .int 0, .int 0, .int 0, .int 0, .int 0, .int 0, .ref av9, .int 0, .ref av10, .int 0, .ref av11, .ref av12, .int 1, .ref av13, .ref av14, .int 0, .int 0, .ref av15, .ref av16, .ref av17, .ref av18, .ref av19, .int 0, .ref av20, .long 0, .ref av21, .ref av22])), (av12, .inl (cy 0, 296, .inl (fun _ => 0)))] s.heap.size = A at hD ⊢
  have hA : ∀ q : Nat, s.heap.size ≤ q → A q := fun q h => by rw [← hAe]; exact Or.inr h
  have hw : Wd dC dI A s.heap s.heap [] [(av0, .inr (12, [.ref av1, .int 0, .int 0, .ref av2, .ref av3, .ref av4, .ref av5, .int 0, .int 0, .int 0, .int 0, .ref av6, .ref av7, .ref av8, .int 0, .int 0, .int 0, .int 0, .int 0, .int 0, .int 0, .ref av9, .int 0, .ref av10, .int 0, .ref av11, .ref av12, .int 1, .ref av13, .ref av14, .int 0, .int 0, .ref av15, .ref av16, .ref av17, .ref av18, .ref av19, .int 0, .ref av20, .long 0, .ref av21, .ref av22])), (av12, .inl (cy 0, 296, .inl (fun _ => 0)))] := ⟨hP, hD, va_S.rf⟩
  have hl := lv_entry ([.ref av0, .int iv0, .int iv1, .int iv2]) (n := 4) (Nat.le_of_ble_eq_true rfl)
  rw [lg_entry_eq]
  generalize (lg_sl ([.ref av0, .int iv0, .int iv1, .int iv2]) ++ List.replicate (4 - (lg_sl ([.ref av0, .int iv0, .int iv1, .int iv2])).length) Slot.unset).toArray = ls at hl ⊢
  have hl : lv_has ls 4 [(0, .ref av0), (1, .int iv0), (2, .int iv1), (3, .int iv2)] := hl
  refine lv_aload_n hx hb dX12_canLook_0 rfl (lv_at hl 0 rfl) ?_
  refine lv_iload_n hx hb dX12_canLook_1 rfl (lv_at hl 1 rfl) ?_
  refine wk_Vi hC hK hw hA [0, 1] [] rfl rfl rfl rfl (by decide) (c_X12_isCorner_1 l dC dI cy av0 iv0 av1 av2 av3 av4 av5 av6 av7 av8 av9 av10 av11 av12 av13 av14 av15 av16 av17 av18 av19 av20 av21 av22 s.heap.size ) (cwV 1 hC.2.2.2.2 gX12_canLook_X12_isCorner rfl rfl rfl (by decide +kernel) ⟨Nat.le_of_ble_eq_true rfl, Nat.le_of_ble_eq_true rfl⟩) rfl 0 rfl rfl hl.1 rfl (Nat.le_of_ble_eq_true rfl) dX12_canLook_2 0 0 ⟨rfl, rfl⟩ ⟨Nat.le_of_ble_eq_true rfl, Nat.le_of_ble_eq_true rfl⟩ (fun r2 u1 H locs p3 hw => ?_)
  have hw : Wd dC dI A s.heap H locs [(av0, .inr (12, [.ref av1, .int 0, .int 0, .ref av2, .ref av3, .ref av4, .ref av5, .int 0, .int 0, .int 0, .int 0, .ref av6, .ref av7, .ref av8, .int 0, .int 0, .int 0, .int 0, .int 0, .int 0, .int 0, .ref av9, .int 0, .ref av10, .int 0, .ref av11, .ref av12, .int 1, .ref av13, .ref av14, .int 0, .int 0, .ref av15, .ref av16, .ref av17, .ref av18, .ref av19, .int 0, .ref av20, .long 0, .ref av21, .ref av22])), (av12, .inl (cy 0, 296, .inl (fun _ => 0)))] := hw
  obtain rfl : r2 = 0 := p3
  refine lv_if_eq (tgt := 27) hx hb dX12_canLook_5 (by decide) (fun _ => ?_) (fun c => absurd (by decide) c)
  refine lv_iconst (v := 0) hx hb dX12_canLook_27 (by decide) ?_
  exact wk_zret (v := 0) hC hr rfl hlocks hK ((fun _ => 0), (fun _ _ => 0)) rfl [0, 1] rfl rfl hw dX12_canLook_28

set_option maxHeartbeats 4000000 in
set_option maxRecDepth 100000 in
theorem t_X12_soonest (l : Launch) (dC : Nat → ClassId) (dI : Nat → Nat → Nat) (cy : Nat → ClassId) (av0 : Nat) (ad : Nat → Nat) (p0 : Int32) (p1 : Int32) (p2 : Int32) (sz : Nat)  : Met l yX12_soonest wsX12_soonest ({ frames := 2, cells := 0, slots := 0, locals := 44 }) (va_Pc [.ref av0, .int p0, .int p1, .int p2] (wpre dC dI cy sz [(av0, .inr (12, [.ref (ad 0), .int 0, .int 0, .ref (ad 1), .ref (ad 2), .ref (ad 3), .ref (ad 4), .int 0, .int 0, .int 0, .int 0, .ref (ad 5), .ref (ad 6), .ref (ad 7), .int 0, .int 0, .int 0, .int 0, .int 0, .int 0, .int 0, .ref (ad 8), .int 0, .ref (ad 9), .int 0, .ref (ad 10), .ref (ad 11), .int 1, .ref (ad 12), .ref (ad 13), .int 0, .int 0, .ref (ad 14), .ref (ad 15), .ref (ad 16), .ref (ad 17), .ref (ad 18), .int 0, .ref (ad 19), .long 0, .ref (ad 20), .ref (ad 21)])), ((ad 11), .inl (cy 0, 296, .inl (fun _ => 0)))])) (va_Qi (fun (r : Int32) (_ : ((Nat → Nat) × (Nat → Nat → Int32))) => r = (-1)) (fun u => wpost dC dI cy (va_A [(av0, .inr (12, [.ref (ad 0), .int 0, .int 0, .ref (ad 1), .ref (ad 2), .ref (ad 3), .ref (ad 4), .int 0, .int 0, .int 0, .int 0, .ref (ad 5), .ref (ad 6), .ref (ad 7), .int 0, .int 0, .int 0, .int 0, .int 0, .int 0, .int 0, .ref (ad 8), .int 0, .ref (ad 9), .int 0, .ref (ad 10), .ref (ad 11), .int 1, .ref (ad 12), .ref (ad 13), .int 0, .int 0, .ref (ad 14), .ref (ad 15), .ref (ad 16), .ref (ad 17), .ref (ad 18), .int 0, .ref (ad 19), .long 0, .ref (ad 20), .ref (ad 21)])), ((ad 11), .inl (cy 0, 296, .inl (fun _ => 0)))] sz) [(av0, .inr (12, [.ref (ad 0), .int 0, .int 0, .ref (ad 1), .ref (ad 2), .ref (ad 3), .ref (ad 4), .int 0, .int 0, .int 0, .int 0, .ref (ad 5), .ref (ad 6), .ref (ad 7), .int 0, .int 0, .int 0, .int 0, .int 0, .int 0, .int 0, .ref (ad 8), .int 0, .ref (ad 9), .int 0, .ref (ad 10), .ref (ad 11), .int 1, .ref (ad 12), .ref (ad 13), .int 0, .int 0, .ref (ad 14), .ref (ad 15), .ref (ad 16), .ref (ad 17), .ref (ad 18), .int 0, .ref (ad 19), .long 0, .ref (ad 20), .ref (ad 21)])), ((ad 11), .inl (cy 0, 296, .inl (fun _ => 0)))]) (va_A [(av0, .inr (12, [.ref (ad 0), .int 0, .int 0, .ref (ad 1), .ref (ad 2), .ref (ad 3), .ref (ad 4), .int 0, .int 0, .int 0, .int 0, .ref (ad 5), .ref (ad 6), .ref (ad 7), .int 0, .int 0, .int 0, .int 0, .int 0, .int 0, .int 0, .ref (ad 8), .int 0, .ref (ad 9), .int 0, .ref (ad 10), .ref (ad 11), .int 1, .ref (ad 12), .ref (ad 13), .int 0, .int 0, .ref (ad 14), .ref (ad 15), .ref (ad 16), .ref (ad 17), .ref (ad 18), .int 0, .ref (ad 19), .long 0, .ref (ad 20), .ref (ad 21)])), ((ad 11), .inl (cy 0, 296, .inl (fun _ => 0)))] sz)) 0 0 (va_A [(av0, .inr (12, [.ref (ad 0), .int 0, .int 0, .ref (ad 1), .ref (ad 2), .ref (ad 3), .ref (ad 4), .int 0, .int 0, .int 0, .int 0, .ref (ad 5), .ref (ad 6), .ref (ad 7), .int 0, .int 0, .int 0, .int 0, .int 0, .int 0, .int 0, .ref (ad 8), .int 0, .ref (ad 9), .int 0, .ref (ad 10), .ref (ad 11), .int 1, .ref (ad 12), .ref (ad 13), .int 0, .int 0, .ref (ad 14), .ref (ad 15), .ref (ad 16), .ref (ad 17), .ref (ad 18), .int 0, .ref (ad 19), .long 0, .ref (ad 20), .ref (ad 21)])), ((ad 11), .inl (cy 0, 296, .inl (fun _ => 0)))] sz) := by
  refine Met.ofW (cc := cX12_soonest) (maxL := 5) (ret := (some .int)) (by decide) rfl ?_
  intro p e s m args below meth c s₁ B hml hv
  obtain ⟨rfl, hsz, hP, hK, hD0⟩ := hv
  have hx := B.exec
  have hb := B.bytes
  have hr := B.returns
  have hlocks := B.notSynchronized
  have hC : CallFix p m c cX12_soonest 5 s _ wsX12_soonest RX12 := ⟨hx, hb, hml, findClass_of_methodNamed B.named, atoms_spec (ws := wsX12_soonest) B.pre⟩
  subst hsz
  have hD := hD0.self (sz := s.heap.size)
  generalize hAe : va_A [(av0, .inr (12, [.ref (ad 0), .int 0, .int 0, .ref (ad 1), .ref (ad 2), .ref (ad 3), .ref (ad 4), .int 0, .int 0, .int 0, .int 0, .ref (ad 5), .ref (ad 6), .ref (ad 7), .int 0, .int 0, .int 0, .int 0, .int 0, .int 0, .int 0, .ref (ad 8), .int 0, .ref (ad 9), .int 0, .ref (ad 10), .ref (ad 11), .int 1, .ref (ad 12), .ref (ad 13), .int 0, .int 0, .ref (ad 14), .ref (ad 15), .ref (ad 16), .ref (ad 17), .ref (ad 18), .int 0, .ref (ad 19), .long 0, .ref (ad 20), .ref (ad 21)])), ((ad 11), .inl (cy 0, 296, .inl (fun _ => 0)))] s.heap.size = A at hD ⊢
  have hA : ∀ q : Nat, s.heap.size ≤ q → A q := fun q h => by rw [← hAe]; exact Or.inr h
  have hw : Wd dC dI A s.heap s.heap [] [(av0, .inr (12, [.ref (ad 0), .int 0, .int 0, .ref (ad 1), .ref (ad 2), .ref (ad 3), .ref (ad 4), .int 0, .int 0, .int 0, .int 0, .ref (ad 5), .ref (ad 6), .ref (ad 7), .int 0, .int 0, .int 0, .int 0, .int 0, .int 0, .int 0, .ref (ad 8), .int 0, .ref (ad 9), .int 0, .ref (ad 10), .ref (ad 11), .int 1, .ref (ad 12), .ref (ad 13), .int 0, .int 0, .ref (ad 14), .ref (ad 15), .ref (ad 16), .ref (ad 17), .ref (ad 18), .int 0, .ref (ad 19), .long 0, .ref (ad 20), .ref (ad 21)])), ((ad 11), .inl (cy 0, 296, .inl (fun _ => 0)))] := ⟨hP, hD, va_S.rf⟩
  have hl := lv_entry ([.ref av0, .int p0, .int p1, .int p2]) (n := 5) (Nat.le_of_ble_eq_true rfl)
  rw [lg_entry_eq]
  generalize (lg_sl ([.ref av0, .int p0, .int p1, .int p2]) ++ List.replicate (5 - (lg_sl ([.ref av0, .int p0, .int p1, .int p2])).length) Slot.unset).toArray = ls at hl ⊢
  have hl : lv_has ls 5 [(0, .ref av0), (1, .int p0), (2, .int p1), (3, .int p2)] := hl
  refine lv_aload_n hx hb dX12_soonest_0 rfl (lv_at hl 0 rfl) ?_
  refine lv_iload_n hx hb dX12_soonest_1 rfl (lv_at hl 1 rfl) ?_
  refine lv_iload_n hx hb dX12_soonest_2 rfl (lv_at hl 2 rfl) ?_
  refine lv_iload_n hx hb dX12_soonest_3 rfl (lv_at hl 3 rfl) ?_
  refine wk_Vi hC hK hw hA [0, 1] [] rfl rfl rfl rfl (by decide) (c_X12_canLook_1 l dC dI cy av0 p0 p1 p2 (ad 0) (ad 1) (ad 2) (ad 3) (ad 4) (ad 5) (ad 6) (ad 7) (ad 8) (ad 9) (ad 10) (ad 11) (ad 12) (ad 13) (ad 14) (ad 15) (ad 16) (ad 17) (ad 18) (ad 19) (ad 20) (ad 21) s.heap.size ) (cwV 3 hC.2.2.2.2 gX12_soonest_X12_canLook rfl rfl rfl (by decide +kernel) ⟨Nat.le_of_ble_eq_true rfl, Nat.le_of_ble_eq_true rfl⟩) rfl 0 rfl rfl hl.1 rfl (Nat.le_of_ble_eq_true rfl) dX12_soonest_4 0 0 ⟨rfl, rfl⟩ ⟨Nat.le_of_ble_eq_true rfl, Nat.le_of_ble_eq_true rfl⟩ (fun r2 u1 H locs p3 hw => ?_)
  have hw : Wd dC dI A s.heap H locs [(av0, .inr (12, [.ref (ad 0), .int 0, .int 0, .ref (ad 1), .ref (ad 2), .ref (ad 3), .ref (ad 4), .int 0, .int 0, .int 0, .int 0, .ref (ad 5), .ref (ad 6), .ref (ad 7), .int 0, .int 0, .int 0, .int 0, .int 0, .int 0, .int 0, .ref (ad 8), .int 0, .ref (ad 9), .int 0, .ref (ad 10), .ref (ad 11), .int 1, .ref (ad 12), .ref (ad 13), .int 0, .int 0, .ref (ad 14), .ref (ad 15), .ref (ad 16), .ref (ad 17), .ref (ad 18), .int 0, .ref (ad 19), .long 0, .ref (ad 20), .ref (ad 21)])), ((ad 11), .inl (cy 0, 296, .inl (fun _ => 0)))] := hw
  obtain rfl : r2 = 0 := p3
  refine lv_if_ne (tgt := 12) hx hb dX12_soonest_7 (by decide) (fun c => absurd c (by decide)) (fun _ => ?_)
  refine lv_iconst (v := (-1)) hx hb dX12_soonest_10 (by decide) ?_
  exact wk_iret (v := (-1)) hC hr hlocks hK ((fun _ => 0), (fun _ _ => 0)) rfl [0, 1] rfl rfl hw dX12_soonest_11

set_option maxHeartbeats 4000000 in
set_option maxRecDepth 100000 in
theorem t_X12_way (l : Launch) (dC : Nat → ClassId) (dI : Nat → Nat → Nat) (cy : Nat → ClassId) (av0 : Nat) (ad : Nat → Nat) (p0 : Int32) (p1 : Int32) (p2 : Int32) (p3 : Int32) (sz : Nat)  : Met l yX12_way wsX12_way ({ frames := 2, cells := 0, slots := 0, locals := 44 }) (va_Pc [.ref av0, .int p0, .int p1, .int p2, .int p3] (wpre dC dI cy sz [(av0, .inr (12, [.ref (ad 0), .int 0, .int 0, .ref (ad 1), .ref (ad 2), .ref (ad 3), .ref (ad 4), .int 0, .int 0, .int 0, .int 0, .ref (ad 5), .ref (ad 6), .ref (ad 7), .int 0, .int 0, .int 0, .int 0, .int 0, .int 0, .int 0, .ref (ad 8), .int 0, .ref (ad 9), .int 0, .ref (ad 10), .ref (ad 11), .int 1, .ref (ad 12), .ref (ad 13), .int 0, .int 0, .ref (ad 14), .ref (ad 15), .ref (ad 16), .ref (ad 17), .ref (ad 18), .int 0, .ref (ad 19), .long 0, .ref (ad 20), .ref (ad 21)])), ((ad 11), .inl (cy 0, 296, .inl (fun _ => 0)))])) (va_Qi (fun (r : Int32) (_ : ((Nat → Nat) × (Nat → Nat → Int32))) => r = (-1)) (fun u => wpost dC dI cy (va_A [(av0, .inr (12, [.ref (ad 0), .int 0, .int 0, .ref (ad 1), .ref (ad 2), .ref (ad 3), .ref (ad 4), .int 0, .int 0, .int 0, .int 0, .ref (ad 5), .ref (ad 6), .ref (ad 7), .int 0, .int 0, .int 0, .int 0, .int 0, .int 0, .int 0, .ref (ad 8), .int 0, .ref (ad 9), .int 0, .ref (ad 10), .ref (ad 11), .int 1, .ref (ad 12), .ref (ad 13), .int 0, .int 0, .ref (ad 14), .ref (ad 15), .ref (ad 16), .ref (ad 17), .ref (ad 18), .int 0, .ref (ad 19), .long 0, .ref (ad 20), .ref (ad 21)])), ((ad 11), .inl (cy 0, 296, .inl (fun _ => 0)))] sz) [(av0, .inr (12, [.ref (ad 0), .int 0, .int 0, .ref (ad 1), .ref (ad 2), .ref (ad 3), .ref (ad 4), .int 0, .int 0, .int 0, .int 0, .ref (ad 5), .ref (ad 6), .ref (ad 7), .int 0, .int 0, .int 0, .int 0, .int 0, .int 0, .int 0, .ref (ad 8), .int 0, .ref (ad 9), .int 0, .ref (ad 10), .ref (ad 11), .int 1, .ref (ad 12), .ref (ad 13), .int 0, .int 0, .ref (ad 14), .ref (ad 15), .ref (ad 16), .ref (ad 17), .ref (ad 18), .int 0, .ref (ad 19), .long 0, .ref (ad 20), .ref (ad 21)])), ((ad 11), .inl (cy 0, 296, .inl (fun _ => 0)))]) (va_A [(av0, .inr (12, [.ref (ad 0), .int 0, .int 0, .ref (ad 1), .ref (ad 2), .ref (ad 3), .ref (ad 4), .int 0, .int 0, .int 0, .int 0, .ref (ad 5), .ref (ad 6), .ref (ad 7), .int 0, .int 0, .int 0, .int 0, .int 0, .int 0, .int 0, .ref (ad 8), .int 0, .ref (ad 9), .int 0, .ref (ad 10), .ref (ad 11), .int 1, .ref (ad 12), .ref (ad 13), .int 0, .int 0, .ref (ad 14), .ref (ad 15), .ref (ad 16), .ref (ad 17), .ref (ad 18), .int 0, .ref (ad 19), .long 0, .ref (ad 20), .ref (ad 21)])), ((ad 11), .inl (cy 0, 296, .inl (fun _ => 0)))] sz)) 0 0 (va_A [(av0, .inr (12, [.ref (ad 0), .int 0, .int 0, .ref (ad 1), .ref (ad 2), .ref (ad 3), .ref (ad 4), .int 0, .int 0, .int 0, .int 0, .ref (ad 5), .ref (ad 6), .ref (ad 7), .int 0, .int 0, .int 0, .int 0, .int 0, .int 0, .int 0, .ref (ad 8), .int 0, .ref (ad 9), .int 0, .ref (ad 10), .ref (ad 11), .int 1, .ref (ad 12), .ref (ad 13), .int 0, .int 0, .ref (ad 14), .ref (ad 15), .ref (ad 16), .ref (ad 17), .ref (ad 18), .int 0, .ref (ad 19), .long 0, .ref (ad 20), .ref (ad 21)])), ((ad 11), .inl (cy 0, 296, .inl (fun _ => 0)))] sz) := by
  refine Met.ofW (cc := cX12_way) (maxL := 10) (ret := (some .int)) (by decide) rfl ?_
  intro p e s m args below meth c s₁ B hml hv
  obtain ⟨rfl, hsz, hP, hK, hD0⟩ := hv
  have hx := B.exec
  have hb := B.bytes
  have hr := B.returns
  have hlocks := B.notSynchronized
  have hC : CallFix p m c cX12_way 10 s _ wsX12_way RX12 := ⟨hx, hb, hml, findClass_of_methodNamed B.named, atoms_spec (ws := wsX12_way) B.pre⟩
  subst hsz
  have hD := hD0.self (sz := s.heap.size)
  generalize hAe : va_A [(av0, .inr (12, [.ref (ad 0), .int 0, .int 0, .ref (ad 1), .ref (ad 2), .ref (ad 3), .ref (ad 4), .int 0, .int 0, .int 0, .int 0, .ref (ad 5), .ref (ad 6), .ref (ad 7), .int 0, .int 0, .int 0, .int 0, .int 0, .int 0, .int 0, .ref (ad 8), .int 0, .ref (ad 9), .int 0, .ref (ad 10), .ref (ad 11), .int 1, .ref (ad 12), .ref (ad 13), .int 0, .int 0, .ref (ad 14), .ref (ad 15), .ref (ad 16), .ref (ad 17), .ref (ad 18), .int 0, .ref (ad 19), .long 0, .ref (ad 20), .ref (ad 21)])), ((ad 11), .inl (cy 0, 296, .inl (fun _ => 0)))] s.heap.size = A at hD ⊢
  have hA : ∀ q : Nat, s.heap.size ≤ q → A q := fun q h => by rw [← hAe]; exact Or.inr h
  have hw : Wd dC dI A s.heap s.heap [] [(av0, .inr (12, [.ref (ad 0), .int 0, .int 0, .ref (ad 1), .ref (ad 2), .ref (ad 3), .ref (ad 4), .int 0, .int 0, .int 0, .int 0, .ref (ad 5), .ref (ad 6), .ref (ad 7), .int 0, .int 0, .int 0, .int 0, .int 0, .int 0, .int 0, .ref (ad 8), .int 0, .ref (ad 9), .int 0, .ref (ad 10), .ref (ad 11), .int 1, .ref (ad 12), .ref (ad 13), .int 0, .int 0, .ref (ad 14), .ref (ad 15), .ref (ad 16), .ref (ad 17), .ref (ad 18), .int 0, .ref (ad 19), .long 0, .ref (ad 20), .ref (ad 21)])), ((ad 11), .inl (cy 0, 296, .inl (fun _ => 0)))] := ⟨hP, hD, va_S.rf⟩
  have hl := lv_entry ([.ref av0, .int p0, .int p1, .int p2, .int p3]) (n := 10) (Nat.le_of_ble_eq_true rfl)
  rw [lg_entry_eq]
  generalize (lg_sl ([.ref av0, .int p0, .int p1, .int p2, .int p3]) ++ List.replicate (10 - (lg_sl ([.ref av0, .int p0, .int p1, .int p2, .int p3])).length) Slot.unset).toArray = ls at hl ⊢
  have hl : lv_has ls 10 [(0, .ref av0), (1, .int p0), (2, .int p1), (3, .int p2), (4, .int p3)] := hl
  refine lv_aload_n hx hb dX12_way_0 rfl (lv_at hl 0 rfl) ?_
  refine lv_iload_n hx hb dX12_way_1 rfl (lv_at hl 1 rfl) ?_
  refine lv_iload_n hx hb dX12_way_2 rfl (lv_at hl 2 rfl) ?_
  refine lv_iload_n hx hb dX12_way_3 rfl (lv_at hl 3 rfl) ?_
  refine wk_Vi hC hK hw hA [0, 1] [] rfl rfl rfl rfl (by decide) (c_X12_canLook_1 l dC dI cy av0 p0 p1 p2 (ad 0) (ad 1) (ad 2) (ad 3) (ad 4) (ad 5) (ad 6) (ad 7) (ad 8) (ad 9) (ad 10) (ad 11) (ad 12) (ad 13) (ad 14) (ad 15) (ad 16) (ad 17) (ad 18) (ad 19) (ad 20) (ad 21) s.heap.size ) (cwV 3 hC.2.2.2.2 gX12_way_X12_canLook rfl rfl rfl (by decide +kernel) ⟨Nat.le_of_ble_eq_true rfl, Nat.le_of_ble_eq_true rfl⟩) rfl 0 rfl rfl hl.1 rfl (Nat.le_of_ble_eq_true rfl) dX12_way_4 0 0 ⟨rfl, rfl⟩ ⟨Nat.le_of_ble_eq_true rfl, Nat.le_of_ble_eq_true rfl⟩ (fun r2 u1 H locs p3 hw => ?_)
  have hw : Wd dC dI A s.heap H locs [(av0, .inr (12, [.ref (ad 0), .int 0, .int 0, .ref (ad 1), .ref (ad 2), .ref (ad 3), .ref (ad 4), .int 0, .int 0, .int 0, .int 0, .ref (ad 5), .ref (ad 6), .ref (ad 7), .int 0, .int 0, .int 0, .int 0, .int 0, .int 0, .int 0, .ref (ad 8), .int 0, .ref (ad 9), .int 0, .ref (ad 10), .ref (ad 11), .int 1, .ref (ad 12), .ref (ad 13), .int 0, .int 0, .ref (ad 14), .ref (ad 15), .ref (ad 16), .ref (ad 17), .ref (ad 18), .int 0, .ref (ad 19), .long 0, .ref (ad 20), .ref (ad 21)])), ((ad 11), .inl (cy 0, 296, .inl (fun _ => 0)))] := hw
  obtain rfl : r2 = 0 := p3
  refine lv_if_eq (tgt := 15) hx hb dX12_way_7 (by decide) (fun _ => ?_) (fun c => absurd (by decide) c)
  refine lv_iconst (v := (-1)) hx hb dX12_way_15 (by decide) ?_
  exact wk_iret (v := (-1)) hC hr hlocks hK ((fun _ => 0), (fun _ _ => 0)) rfl [0, 1] rfl rfl hw dX12_way_16

set_option maxHeartbeats 4000000 in
set_option maxRecDepth 100000 in
theorem t_X12_comes (l : Launch) (dC : Nat → ClassId) (dI : Nat → Nat → Nat) (cy : Nat → ClassId) (av0 : Nat) (ad : Nat → Nat) (p0 : Int32) (p1 : Int32) (p2 : Int32) (sz : Nat)  : Met l yX12_comes wsX12_comes ({ frames := 1, cells := 0, slots := 0, locals := 21 }) (va_Pc [.ref av0, .int p0, .int p1, .int p2] (wpre dC dI cy sz [(av0, .inr (12, [.ref (ad 0), .int 0, .int 0, .ref (ad 1), .ref (ad 2), .ref (ad 3), .ref (ad 4), .int 0, .int 0, .int 0, .int 0, .ref (ad 5), .ref (ad 6), .ref (ad 7), .int 0, .int 0, .int 0, .int 0, .int 0, .int 0, .int 0, .ref (ad 8), .int 0, .ref (ad 9), .int 0, .ref (ad 10), .ref (ad 11), .int 1, .ref (ad 12), .ref (ad 13), .int 0, .int 0, .ref (ad 14), .ref (ad 15), .ref (ad 16), .ref (ad 17), .ref (ad 18), .int 0, .ref (ad 19), .long 0, .ref (ad 20), .ref (ad 21)])), ((ad 11), .inl (cy 0, 296, .inl (fun _ => 0)))])) (va_Qi (fun (r : Int32) (_ : ((Nat → Nat) × (Nat → Nat → Int32))) => r = (-1)) (fun u => wpost dC dI cy (va_A [(av0, .inr (12, [.ref (ad 0), .int 0, .int 0, .ref (ad 1), .ref (ad 2), .ref (ad 3), .ref (ad 4), .int 0, .int 0, .int 0, .int 0, .ref (ad 5), .ref (ad 6), .ref (ad 7), .int 0, .int 0, .int 0, .int 0, .int 0, .int 0, .int 0, .ref (ad 8), .int 0, .ref (ad 9), .int 0, .ref (ad 10), .ref (ad 11), .int 1, .ref (ad 12), .ref (ad 13), .int 0, .int 0, .ref (ad 14), .ref (ad 15), .ref (ad 16), .ref (ad 17), .ref (ad 18), .int 0, .ref (ad 19), .long 0, .ref (ad 20), .ref (ad 21)])), ((ad 11), .inl (cy 0, 296, .inl (fun _ => 0)))] sz) [(av0, .inr (12, [.ref (ad 0), .int 0, .int 0, .ref (ad 1), .ref (ad 2), .ref (ad 3), .ref (ad 4), .int 0, .int 0, .int 0, .int 0, .ref (ad 5), .ref (ad 6), .ref (ad 7), .int 0, .int 0, .int 0, .int 0, .int 0, .int 0, .int 0, .ref (ad 8), .int 0, .ref (ad 9), .int 0, .ref (ad 10), .ref (ad 11), .int 1, .ref (ad 12), .ref (ad 13), .int 0, .int 0, .ref (ad 14), .ref (ad 15), .ref (ad 16), .ref (ad 17), .ref (ad 18), .int 0, .ref (ad 19), .long 0, .ref (ad 20), .ref (ad 21)])), ((ad 11), .inl (cy 0, 296, .inl (fun _ => 0)))]) (va_A [(av0, .inr (12, [.ref (ad 0), .int 0, .int 0, .ref (ad 1), .ref (ad 2), .ref (ad 3), .ref (ad 4), .int 0, .int 0, .int 0, .int 0, .ref (ad 5), .ref (ad 6), .ref (ad 7), .int 0, .int 0, .int 0, .int 0, .int 0, .int 0, .int 0, .ref (ad 8), .int 0, .ref (ad 9), .int 0, .ref (ad 10), .ref (ad 11), .int 1, .ref (ad 12), .ref (ad 13), .int 0, .int 0, .ref (ad 14), .ref (ad 15), .ref (ad 16), .ref (ad 17), .ref (ad 18), .int 0, .ref (ad 19), .long 0, .ref (ad 20), .ref (ad 21)])), ((ad 11), .inl (cy 0, 296, .inl (fun _ => 0)))] sz)) 0 0 (va_A [(av0, .inr (12, [.ref (ad 0), .int 0, .int 0, .ref (ad 1), .ref (ad 2), .ref (ad 3), .ref (ad 4), .int 0, .int 0, .int 0, .int 0, .ref (ad 5), .ref (ad 6), .ref (ad 7), .int 0, .int 0, .int 0, .int 0, .int 0, .int 0, .int 0, .ref (ad 8), .int 0, .ref (ad 9), .int 0, .ref (ad 10), .ref (ad 11), .int 1, .ref (ad 12), .ref (ad 13), .int 0, .int 0, .ref (ad 14), .ref (ad 15), .ref (ad 16), .ref (ad 17), .ref (ad 18), .int 0, .ref (ad 19), .long 0, .ref (ad 20), .ref (ad 21)])), ((ad 11), .inl (cy 0, 296, .inl (fun _ => 0)))] sz) := by
  refine Met.ofW (cc := cX12_comes) (maxL := 7) (ret := (some .int)) (by decide) rfl ?_
  intro p e s m args below meth c s₁ B hml hv
  obtain ⟨rfl, hsz, hP, hK, hD0⟩ := hv
  have hx := B.exec
  have hb := B.bytes
  have hr := B.returns
  have hlocks := B.notSynchronized
  have hC : CallFix p m c cX12_comes 7 s _ wsX12_comes RX12 := ⟨hx, hb, hml, findClass_of_methodNamed B.named, atoms_spec (ws := wsX12_comes) B.pre⟩
  subst hsz
  have hD := hD0.self (sz := s.heap.size)
  generalize hAe : va_A [(av0, .inr (12, [.ref (ad 0), .int 0, .int 0, .ref (ad 1), .ref (ad 2), .ref (ad 3), .ref (ad 4), .int 0, .int 0, .int 0, .int 0, .ref (ad 5), .ref (ad 6), .ref (ad 7), .int 0, .int 0, .int 0, .int 0, .int 0, .int 0, .int 0, .ref (ad 8), .int 0, .ref (ad 9), .int 0, .ref (ad 10), .ref (ad 11), .int 1, .ref (ad 12), .ref (ad 13), .int 0, .int 0, .ref (ad 14), .ref (ad 15), .ref (ad 16), .ref (ad 17), .ref (ad 18), .int 0, .ref (ad 19), .long 0, .ref (ad 20), .ref (ad 21)])), ((ad 11), .inl (cy 0, 296, .inl (fun _ => 0)))] s.heap.size = A at hD ⊢
  have hA : ∀ q : Nat, s.heap.size ≤ q → A q := fun q h => by rw [← hAe]; exact Or.inr h
  have hw : Wd dC dI A s.heap s.heap [] [(av0, .inr (12, [.ref (ad 0), .int 0, .int 0, .ref (ad 1), .ref (ad 2), .ref (ad 3), .ref (ad 4), .int 0, .int 0, .int 0, .int 0, .ref (ad 5), .ref (ad 6), .ref (ad 7), .int 0, .int 0, .int 0, .int 0, .int 0, .int 0, .int 0, .ref (ad 8), .int 0, .ref (ad 9), .int 0, .ref (ad 10), .ref (ad 11), .int 1, .ref (ad 12), .ref (ad 13), .int 0, .int 0, .ref (ad 14), .ref (ad 15), .ref (ad 16), .ref (ad 17), .ref (ad 18), .int 0, .ref (ad 19), .long 0, .ref (ad 20), .ref (ad 21)])), ((ad 11), .inl (cy 0, 296, .inl (fun _ => 0)))] := ⟨hP, hD, va_S.rf⟩
  have hl := lv_entry ([.ref av0, .int p0, .int p1, .int p2]) (n := 7) (Nat.le_of_ble_eq_true rfl)
  rw [lg_entry_eq]
  generalize (lg_sl ([.ref av0, .int p0, .int p1, .int p2]) ++ List.replicate (7 - (lg_sl ([.ref av0, .int p0, .int p1, .int p2])).length) Slot.unset).toArray = ls at hl ⊢
  have hl : lv_has ls 7 [(0, .ref av0), (1, .int p0), (2, .int p1), (3, .int p2)] := hl
  refine lv_aload_n hx hb dX12_comes_0 rfl (lv_at hl 0 rfl) ?_
  refine lv_iload_n hx hb dX12_comes_1 rfl (lv_at hl 1 rfl) ?_
  refine wk_Vi hC hK hw hA [0, 1] [] rfl rfl rfl rfl (by decide) (c_X12_isWalker_1 l dC dI cy av0 p0 (ad 0) (ad 1) (ad 2) (ad 3) (ad 4) (ad 5) (ad 6) (ad 7) (ad 8) (ad 9) (ad 10) (ad 11) (ad 12) (ad 13) (ad 14) (ad 15) (ad 16) (ad 17) (ad 18) (ad 19) (ad 20) (ad 21) s.heap.size ) (cwV 1 hC.2.2.2.2 gX12_comes_X12_isWalker rfl rfl rfl (by decide +kernel) ⟨Nat.le_of_ble_eq_true rfl, Nat.le_of_ble_eq_true rfl⟩) rfl 0 rfl rfl hl.1 rfl (Nat.le_of_ble_eq_true rfl) dX12_comes_2 0 0 ⟨rfl, rfl⟩ ⟨Nat.le_of_ble_eq_true rfl, Nat.le_of_ble_eq_true rfl⟩ (fun r2 u1 H locs p3 hw => ?_)
  have hw : Wd dC dI A s.heap H locs [(av0, .inr (12, [.ref (ad 0), .int 0, .int 0, .ref (ad 1), .ref (ad 2), .ref (ad 3), .ref (ad 4), .int 0, .int 0, .int 0, .int 0, .ref (ad 5), .ref (ad 6), .ref (ad 7), .int 0, .int 0, .int 0, .int 0, .int 0, .int 0, .int 0, .ref (ad 8), .int 0, .ref (ad 9), .int 0, .ref (ad 10), .ref (ad 11), .int 1, .ref (ad 12), .ref (ad 13), .int 0, .int 0, .ref (ad 14), .ref (ad 15), .ref (ad 16), .ref (ad 17), .ref (ad 18), .int 0, .ref (ad 19), .long 0, .ref (ad 20), .ref (ad 21)])), ((ad 11), .inl (cy 0, 296, .inl (fun _ => 0)))] := hw
  obtain rfl : r2 = 0 := p3
  refine lv_if_eq (tgt := 32) hx hb dX12_comes_5 (by decide) (fun _ => ?_) (fun c => absurd (by decide) c)
  refine lv_iconst (v := (-1)) hx hb dX12_comes_32 (by decide) ?_
  exact wk_iret (v := (-1)) hC hr hlocks hK ((fun _ => 0), (fun _ _ => 0)) rfl [0, 1] rfl rfl hw dX12_comes_33

set_option maxHeartbeats 4000000 in
set_option maxRecDepth 100000 in
theorem t_X12_round (l : Launch) (dC : Nat → ClassId) (dI : Nat → Nat → Nat) (cy : Nat → ClassId) (av0 : Nat) (ad : Nat → Nat) (p0 : Int32) (p1 : Int32) (sz : Nat)  : Met l yX12_round wsX12_round ({ frames := 1, cells := 0, slots := 0, locals := 21 }) (va_Pc [.ref av0, .int p0, .int p1] (wpre dC dI cy sz [(av0, .inr (12, [.ref (ad 0), .int 0, .int 0, .ref (ad 1), .ref (ad 2), .ref (ad 3), .ref (ad 4), .int 0, .int 0, .int 0, .int 0, .ref (ad 5), .ref (ad 6), .ref (ad 7), .int 0, .int 0, .int 0, .int 0, .int 0, .int 0, .int 0, .ref (ad 8), .int 0, .ref (ad 9), .int 0, .ref (ad 10), .ref (ad 11), .int 1, .ref (ad 12), .ref (ad 13), .int 0, .int 0, .ref (ad 14), .ref (ad 15), .ref (ad 16), .ref (ad 17), .ref (ad 18), .int 0, .ref (ad 19), .long 0, .ref (ad 20), .ref (ad 21)])), ((ad 11), .inl (cy 0, 296, .inl (fun _ => 0)))])) (va_Qi (fun (r : Int32) (_ : ((Nat → Nat) × (Nat → Nat → Int32))) => r = (-1)) (fun u => wpost dC dI cy (va_A [(av0, .inr (12, [.ref (ad 0), .int 0, .int 0, .ref (ad 1), .ref (ad 2), .ref (ad 3), .ref (ad 4), .int 0, .int 0, .int 0, .int 0, .ref (ad 5), .ref (ad 6), .ref (ad 7), .int 0, .int 0, .int 0, .int 0, .int 0, .int 0, .int 0, .ref (ad 8), .int 0, .ref (ad 9), .int 0, .ref (ad 10), .ref (ad 11), .int 1, .ref (ad 12), .ref (ad 13), .int 0, .int 0, .ref (ad 14), .ref (ad 15), .ref (ad 16), .ref (ad 17), .ref (ad 18), .int 0, .ref (ad 19), .long 0, .ref (ad 20), .ref (ad 21)])), ((ad 11), .inl (cy 0, 296, .inl (fun _ => 0)))] sz) [(av0, .inr (12, [.ref (ad 0), .int 0, .int 0, .ref (ad 1), .ref (ad 2), .ref (ad 3), .ref (ad 4), .int 0, .int 0, .int 0, .int 0, .ref (ad 5), .ref (ad 6), .ref (ad 7), .int 0, .int 0, .int 0, .int 0, .int 0, .int 0, .int 0, .ref (ad 8), .int 0, .ref (ad 9), .int 0, .ref (ad 10), .ref (ad 11), .int 1, .ref (ad 12), .ref (ad 13), .int 0, .int 0, .ref (ad 14), .ref (ad 15), .ref (ad 16), .ref (ad 17), .ref (ad 18), .int 0, .ref (ad 19), .long 0, .ref (ad 20), .ref (ad 21)])), ((ad 11), .inl (cy 0, 296, .inl (fun _ => 0)))]) (va_A [(av0, .inr (12, [.ref (ad 0), .int 0, .int 0, .ref (ad 1), .ref (ad 2), .ref (ad 3), .ref (ad 4), .int 0, .int 0, .int 0, .int 0, .ref (ad 5), .ref (ad 6), .ref (ad 7), .int 0, .int 0, .int 0, .int 0, .int 0, .int 0, .int 0, .ref (ad 8), .int 0, .ref (ad 9), .int 0, .ref (ad 10), .ref (ad 11), .int 1, .ref (ad 12), .ref (ad 13), .int 0, .int 0, .ref (ad 14), .ref (ad 15), .ref (ad 16), .ref (ad 17), .ref (ad 18), .int 0, .ref (ad 19), .long 0, .ref (ad 20), .ref (ad 21)])), ((ad 11), .inl (cy 0, 296, .inl (fun _ => 0)))] sz)) 0 0 (va_A [(av0, .inr (12, [.ref (ad 0), .int 0, .int 0, .ref (ad 1), .ref (ad 2), .ref (ad 3), .ref (ad 4), .int 0, .int 0, .int 0, .int 0, .ref (ad 5), .ref (ad 6), .ref (ad 7), .int 0, .int 0, .int 0, .int 0, .int 0, .int 0, .int 0, .ref (ad 8), .int 0, .ref (ad 9), .int 0, .ref (ad 10), .ref (ad 11), .int 1, .ref (ad 12), .ref (ad 13), .int 0, .int 0, .ref (ad 14), .ref (ad 15), .ref (ad 16), .ref (ad 17), .ref (ad 18), .int 0, .ref (ad 19), .long 0, .ref (ad 20), .ref (ad 21)])), ((ad 11), .inl (cy 0, 296, .inl (fun _ => 0)))] sz) := by
  refine Met.ofW (cc := cX12_round) (maxL := 6) (ret := (some .int)) (by decide) rfl ?_
  intro p e s m args below meth c s₁ B hml hv
  obtain ⟨rfl, hsz, hP, hK, hD0⟩ := hv
  have hx := B.exec
  have hb := B.bytes
  have hr := B.returns
  have hlocks := B.notSynchronized
  have hC : CallFix p m c cX12_round 6 s _ wsX12_round RX12 := ⟨hx, hb, hml, findClass_of_methodNamed B.named, atoms_spec (ws := wsX12_round) B.pre⟩
  subst hsz
  have hD := hD0.self (sz := s.heap.size)
  generalize hAe : va_A [(av0, .inr (12, [.ref (ad 0), .int 0, .int 0, .ref (ad 1), .ref (ad 2), .ref (ad 3), .ref (ad 4), .int 0, .int 0, .int 0, .int 0, .ref (ad 5), .ref (ad 6), .ref (ad 7), .int 0, .int 0, .int 0, .int 0, .int 0, .int 0, .int 0, .ref (ad 8), .int 0, .ref (ad 9), .int 0, .ref (ad 10), .ref (ad 11), .int 1, .ref (ad 12), .ref (ad 13), .int 0, .int 0, .ref (ad 14), .ref (ad 15), .ref (ad 16), .ref (ad 17), .ref (ad 18), .int 0, .ref (ad 19), .long 0, .ref (ad 20), .ref (ad 21)])), ((ad 11), .inl (cy 0, 296, .inl (fun _ => 0)))] s.heap.size = A at hD ⊢
  have hA : ∀ q : Nat, s.heap.size ≤ q → A q := fun q h => by rw [← hAe]; exact Or.inr h
  have hw : Wd dC dI A s.heap s.heap [] [(av0, .inr (12, [.ref (ad 0), .int 0, .int 0, .ref (ad 1), .ref (ad 2), .ref (ad 3), .ref (ad 4), .int 0, .int 0, .int 0, .int 0, .ref (ad 5), .ref (ad 6), .ref (ad 7), .int 0, .int 0, .int 0, .int 0, .int 0, .int 0, .int 0, .ref (ad 8), .int 0, .ref (ad 9), .int 0, .ref (ad 10), .ref (ad 11), .int 1, .ref (ad 12), .ref (ad 13), .int 0, .int 0, .ref (ad 14), .ref (ad 15), .ref (ad 16), .ref (ad 17), .ref (ad 18), .int 0, .ref (ad 19), .long 0, .ref (ad 20), .ref (ad 21)])), ((ad 11), .inl (cy 0, 296, .inl (fun _ => 0)))] := ⟨hP, hD, va_S.rf⟩
  have hl := lv_entry ([.ref av0, .int p0, .int p1]) (n := 6) (Nat.le_of_ble_eq_true rfl)
  rw [lg_entry_eq]
  generalize (lg_sl ([.ref av0, .int p0, .int p1]) ++ List.replicate (6 - (lg_sl ([.ref av0, .int p0, .int p1])).length) Slot.unset).toArray = ls at hl ⊢
  have hl : lv_has ls 6 [(0, .ref av0), (1, .int p0), (2, .int p1)] := hl
  refine lv_aload_n hx hb dX12_round_0 rfl (lv_at hl 0 rfl) ?_
  refine lv_iload_n hx hb dX12_round_1 rfl (lv_at hl 1 rfl) ?_
  refine wk_Vi hC hK hw hA [0, 1] [] rfl rfl rfl rfl (by decide) (c_X12_isWalker_1 l dC dI cy av0 p0 (ad 0) (ad 1) (ad 2) (ad 3) (ad 4) (ad 5) (ad 6) (ad 7) (ad 8) (ad 9) (ad 10) (ad 11) (ad 12) (ad 13) (ad 14) (ad 15) (ad 16) (ad 17) (ad 18) (ad 19) (ad 20) (ad 21) s.heap.size ) (cwV 1 hC.2.2.2.2 gX12_round_X12_isWalker rfl rfl rfl (by decide +kernel) ⟨Nat.le_of_ble_eq_true rfl, Nat.le_of_ble_eq_true rfl⟩) rfl 0 rfl rfl hl.1 rfl (Nat.le_of_ble_eq_true rfl) dX12_round_2 0 0 ⟨rfl, rfl⟩ ⟨Nat.le_of_ble_eq_true rfl, Nat.le_of_ble_eq_true rfl⟩ (fun r2 u1 H locs p3 hw => ?_)
  have hw : Wd dC dI A s.heap H locs [(av0, .inr (12, [.ref (ad 0), .int 0, .int 0, .ref (ad 1), .ref (ad 2), .ref (ad 3), .ref (ad 4), .int 0, .int 0, .int 0, .int 0, .ref (ad 5), .ref (ad 6), .ref (ad 7), .int 0, .int 0, .int 0, .int 0, .int 0, .int 0, .int 0, .ref (ad 8), .int 0, .ref (ad 9), .int 0, .ref (ad 10), .ref (ad 11), .int 1, .ref (ad 12), .ref (ad 13), .int 0, .int 0, .ref (ad 14), .ref (ad 15), .ref (ad 16), .ref (ad 17), .ref (ad 18), .int 0, .ref (ad 19), .long 0, .ref (ad 20), .ref (ad 21)])), ((ad 11), .inl (cy 0, 296, .inl (fun _ => 0)))] := hw
  obtain rfl : r2 = 0 := p3
  refine lv_if_eq (tgt := 18) hx hb dX12_round_5 (by decide) (fun _ => ?_) (fun c => absurd (by decide) c)
  refine lv_iconst (v := (-1)) hx hb dX12_round_18 (by decide) ?_
  exact wk_iret (v := (-1)) hC hr hlocks hK ((fun _ => 0), (fun _ _ => 0)) rfl [0, 1] rfl rfl hw dX12_round_19

set_option maxHeartbeats 4000000 in
set_option maxRecDepth 100000 in
theorem t_X12_questions (l : Launch) (dC : Nat → ClassId) (dI : Nat → Nat → Nat) (cy : Nat → ClassId) (av0 : Nat) (ad : Nat → Nat) (p0 : Int32) (p1 : Int32) (sz : Nat)  : Met l yX12_questions wsX12_questions ({ frames := 1, cells := 0, slots := 0, locals := 21 }) (va_Pc [.ref av0, .int p0, .int p1] (wpre dC dI cy sz [(av0, .inr (12, [.ref (ad 0), .int 0, .int 0, .ref (ad 1), .ref (ad 2), .ref (ad 3), .ref (ad 4), .int 0, .int 0, .int 0, .int 0, .ref (ad 5), .ref (ad 6), .ref (ad 7), .int 0, .int 0, .int 0, .int 0, .int 0, .int 0, .int 0, .ref (ad 8), .int 0, .ref (ad 9), .int 0, .ref (ad 10), .ref (ad 11), .int 1, .ref (ad 12), .ref (ad 13), .int 0, .int 0, .ref (ad 14), .ref (ad 15), .ref (ad 16), .ref (ad 17), .ref (ad 18), .int 0, .ref (ad 19), .long 0, .ref (ad 20), .ref (ad 21)])), ((ad 11), .inl (cy 0, 296, .inl (fun _ => 0)))])) (va_Qi (fun (r : Int32) (_ : ((Nat → Nat) × (Nat → Nat → Int32))) => r = (-1)) (fun u => wpost dC dI cy (va_A [(av0, .inr (12, [.ref (ad 0), .int 0, .int 0, .ref (ad 1), .ref (ad 2), .ref (ad 3), .ref (ad 4), .int 0, .int 0, .int 0, .int 0, .ref (ad 5), .ref (ad 6), .ref (ad 7), .int 0, .int 0, .int 0, .int 0, .int 0, .int 0, .int 0, .ref (ad 8), .int 0, .ref (ad 9), .int 0, .ref (ad 10), .ref (ad 11), .int 1, .ref (ad 12), .ref (ad 13), .int 0, .int 0, .ref (ad 14), .ref (ad 15), .ref (ad 16), .ref (ad 17), .ref (ad 18), .int 0, .ref (ad 19), .long 0, .ref (ad 20), .ref (ad 21)])), ((ad 11), .inl (cy 0, 296, .inl (fun _ => 0)))] sz) [(av0, .inr (12, [.ref (ad 0), .int 0, .int 0, .ref (ad 1), .ref (ad 2), .ref (ad 3), .ref (ad 4), .int 0, .int 0, .int 0, .int 0, .ref (ad 5), .ref (ad 6), .ref (ad 7), .int 0, .int 0, .int 0, .int 0, .int 0, .int 0, .int 0, .ref (ad 8), .int 0, .ref (ad 9), .int 0, .ref (ad 10), .ref (ad 11), .int 1, .ref (ad 12), .ref (ad 13), .int 0, .int 0, .ref (ad 14), .ref (ad 15), .ref (ad 16), .ref (ad 17), .ref (ad 18), .int 0, .ref (ad 19), .long 0, .ref (ad 20), .ref (ad 21)])), ((ad 11), .inl (cy 0, 296, .inl (fun _ => 0)))]) (va_A [(av0, .inr (12, [.ref (ad 0), .int 0, .int 0, .ref (ad 1), .ref (ad 2), .ref (ad 3), .ref (ad 4), .int 0, .int 0, .int 0, .int 0, .ref (ad 5), .ref (ad 6), .ref (ad 7), .int 0, .int 0, .int 0, .int 0, .int 0, .int 0, .int 0, .ref (ad 8), .int 0, .ref (ad 9), .int 0, .ref (ad 10), .ref (ad 11), .int 1, .ref (ad 12), .ref (ad 13), .int 0, .int 0, .ref (ad 14), .ref (ad 15), .ref (ad 16), .ref (ad 17), .ref (ad 18), .int 0, .ref (ad 19), .long 0, .ref (ad 20), .ref (ad 21)])), ((ad 11), .inl (cy 0, 296, .inl (fun _ => 0)))] sz)) 0 0 (va_A [(av0, .inr (12, [.ref (ad 0), .int 0, .int 0, .ref (ad 1), .ref (ad 2), .ref (ad 3), .ref (ad 4), .int 0, .int 0, .int 0, .int 0, .ref (ad 5), .ref (ad 6), .ref (ad 7), .int 0, .int 0, .int 0, .int 0, .int 0, .int 0, .int 0, .ref (ad 8), .int 0, .ref (ad 9), .int 0, .ref (ad 10), .ref (ad 11), .int 1, .ref (ad 12), .ref (ad 13), .int 0, .int 0, .ref (ad 14), .ref (ad 15), .ref (ad 16), .ref (ad 17), .ref (ad 18), .int 0, .ref (ad 19), .long 0, .ref (ad 20), .ref (ad 21)])), ((ad 11), .inl (cy 0, 296, .inl (fun _ => 0)))] sz) := by
  refine Met.ofW (cc := cX12_questions) (maxL := 8) (ret := (some .int)) (by decide) rfl ?_
  intro p e s m args below meth c s₁ B hml hv
  obtain ⟨rfl, hsz, hP, hK, hD0⟩ := hv
  have hx := B.exec
  have hb := B.bytes
  have hr := B.returns
  have hlocks := B.notSynchronized
  have hC : CallFix p m c cX12_questions 8 s _ wsX12_questions RX12 := ⟨hx, hb, hml, findClass_of_methodNamed B.named, atoms_spec (ws := wsX12_questions) B.pre⟩
  subst hsz
  have hD := hD0.self (sz := s.heap.size)
  generalize hAe : va_A [(av0, .inr (12, [.ref (ad 0), .int 0, .int 0, .ref (ad 1), .ref (ad 2), .ref (ad 3), .ref (ad 4), .int 0, .int 0, .int 0, .int 0, .ref (ad 5), .ref (ad 6), .ref (ad 7), .int 0, .int 0, .int 0, .int 0, .int 0, .int 0, .int 0, .ref (ad 8), .int 0, .ref (ad 9), .int 0, .ref (ad 10), .ref (ad 11), .int 1, .ref (ad 12), .ref (ad 13), .int 0, .int 0, .ref (ad 14), .ref (ad 15), .ref (ad 16), .ref (ad 17), .ref (ad 18), .int 0, .ref (ad 19), .long 0, .ref (ad 20), .ref (ad 21)])), ((ad 11), .inl (cy 0, 296, .inl (fun _ => 0)))] s.heap.size = A at hD ⊢
  have hA : ∀ q : Nat, s.heap.size ≤ q → A q := fun q h => by rw [← hAe]; exact Or.inr h
  have hw : Wd dC dI A s.heap s.heap [] [(av0, .inr (12, [.ref (ad 0), .int 0, .int 0, .ref (ad 1), .ref (ad 2), .ref (ad 3), .ref (ad 4), .int 0, .int 0, .int 0, .int 0, .ref (ad 5), .ref (ad 6), .ref (ad 7), .int 0, .int 0, .int 0, .int 0, .int 0, .int 0, .int 0, .ref (ad 8), .int 0, .ref (ad 9), .int 0, .ref (ad 10), .ref (ad 11), .int 1, .ref (ad 12), .ref (ad 13), .int 0, .int 0, .ref (ad 14), .ref (ad 15), .ref (ad 16), .ref (ad 17), .ref (ad 18), .int 0, .ref (ad 19), .long 0, .ref (ad 20), .ref (ad 21)])), ((ad 11), .inl (cy 0, 296, .inl (fun _ => 0)))] := ⟨hP, hD, va_S.rf⟩
  have hl := lv_entry ([.ref av0, .int p0, .int p1]) (n := 8) (Nat.le_of_ble_eq_true rfl)
  rw [lg_entry_eq]
  generalize (lg_sl ([.ref av0, .int p0, .int p1]) ++ List.replicate (8 - (lg_sl ([.ref av0, .int p0, .int p1])).length) Slot.unset).toArray = ls at hl ⊢
  have hl : lv_has ls 8 [(0, .ref av0), (1, .int p0), (2, .int p1)] := hl
  refine lv_aload_n hx hb dX12_questions_0 rfl (lv_at hl 0 rfl) ?_
  refine lv_iload_n hx hb dX12_questions_1 rfl (lv_at hl 1 rfl) ?_
  refine wk_Vi hC hK hw hA [0, 1] [] rfl rfl rfl rfl (by decide) (c_X12_isWalker_1 l dC dI cy av0 p0 (ad 0) (ad 1) (ad 2) (ad 3) (ad 4) (ad 5) (ad 6) (ad 7) (ad 8) (ad 9) (ad 10) (ad 11) (ad 12) (ad 13) (ad 14) (ad 15) (ad 16) (ad 17) (ad 18) (ad 19) (ad 20) (ad 21) s.heap.size ) (cwV 1 hC.2.2.2.2 gX12_questions_X12_isWalker rfl rfl rfl (by decide +kernel) ⟨Nat.le_of_ble_eq_true rfl, Nat.le_of_ble_eq_true rfl⟩) rfl 0 rfl rfl hl.1 rfl (Nat.le_of_ble_eq_true rfl) dX12_questions_2 0 0 ⟨rfl, rfl⟩ ⟨Nat.le_of_ble_eq_true rfl, Nat.le_of_ble_eq_true rfl⟩ (fun r2 u1 H locs p3 hw => ?_)
  have hw : Wd dC dI A s.heap H locs [(av0, .inr (12, [.ref (ad 0), .int 0, .int 0, .ref (ad 1), .ref (ad 2), .ref (ad 3), .ref (ad 4), .int 0, .int 0, .int 0, .int 0, .ref (ad 5), .ref (ad 6), .ref (ad 7), .int 0, .int 0, .int 0, .int 0, .int 0, .int 0, .int 0, .ref (ad 8), .int 0, .ref (ad 9), .int 0, .ref (ad 10), .ref (ad 11), .int 1, .ref (ad 12), .ref (ad 13), .int 0, .int 0, .ref (ad 14), .ref (ad 15), .ref (ad 16), .ref (ad 17), .ref (ad 18), .int 0, .ref (ad 19), .long 0, .ref (ad 20), .ref (ad 21)])), ((ad 11), .inl (cy 0, 296, .inl (fun _ => 0)))] := hw
  obtain rfl : r2 = 0 := p3
  refine lv_if_eq (tgt := 20) hx hb dX12_questions_5 (by decide) (fun _ => ?_) (fun c => absurd (by decide) c)
  refine lv_iconst (v := (-1)) hx hb dX12_questions_20 (by decide) ?_
  exact wk_iret (v := (-1)) hC hr hlocks hK ((fun _ => 0), (fun _ _ => 0)) rfl [0, 1] rfl rfl hw dX12_questions_21

set_option maxHeartbeats 4000000 in
set_option maxRecDepth 100000 in
theorem t_X12_cheap (l : Launch) (dC : Nat → ClassId) (dI : Nat → Nat → Nat) (cy : Nat → ClassId) (av0 : Nat) (ad : Nat → Nat) (p0 : Int32) (sz : Nat)  : Met l yX12_cheap wsX12_cheap ({ frames := 1, cells := 0, slots := 0, locals := 21 }) (va_Pc [.ref av0, .int p0] (wpre dC dI cy sz [(av0, .inr (12, [.ref (ad 0), .int 0, .int 0, .ref (ad 1), .ref (ad 2), .ref (ad 3), .ref (ad 4), .int 0, .int 0, .int 0, .int 0, .ref (ad 5), .ref (ad 6), .ref (ad 7), .int 0, .int 0, .int 0, .int 0, .int 0, .int 0, .int 0, .ref (ad 8), .int 0, .ref (ad 9), .int 0, .ref (ad 10), .ref (ad 11), .int 1, .ref (ad 12), .ref (ad 13), .int 0, .int 0, .ref (ad 14), .ref (ad 15), .ref (ad 16), .ref (ad 17), .ref (ad 18), .int 0, .ref (ad 19), .long 0, .ref (ad 20), .ref (ad 21)])), ((ad 11), .inl (cy 0, 296, .inl (fun _ => 0)))])) (va_Qi (fun (r : Int32) (_ : ((Nat → Nat) × (Nat → Nat → Int32))) => r = (-1)) (fun u => wpost dC dI cy (va_A [(av0, .inr (12, [.ref (ad 0), .int 0, .int 0, .ref (ad 1), .ref (ad 2), .ref (ad 3), .ref (ad 4), .int 0, .int 0, .int 0, .int 0, .ref (ad 5), .ref (ad 6), .ref (ad 7), .int 0, .int 0, .int 0, .int 0, .int 0, .int 0, .int 0, .ref (ad 8), .int 0, .ref (ad 9), .int 0, .ref (ad 10), .ref (ad 11), .int 1, .ref (ad 12), .ref (ad 13), .int 0, .int 0, .ref (ad 14), .ref (ad 15), .ref (ad 16), .ref (ad 17), .ref (ad 18), .int 0, .ref (ad 19), .long 0, .ref (ad 20), .ref (ad 21)])), ((ad 11), .inl (cy 0, 296, .inl (fun _ => 0)))] sz) [(av0, .inr (12, [.ref (ad 0), .int 0, .int 0, .ref (ad 1), .ref (ad 2), .ref (ad 3), .ref (ad 4), .int 0, .int 0, .int 0, .int 0, .ref (ad 5), .ref (ad 6), .ref (ad 7), .int 0, .int 0, .int 0, .int 0, .int 0, .int 0, .int 0, .ref (ad 8), .int 0, .ref (ad 9), .int 0, .ref (ad 10), .ref (ad 11), .int 1, .ref (ad 12), .ref (ad 13), .int 0, .int 0, .ref (ad 14), .ref (ad 15), .ref (ad 16), .ref (ad 17), .ref (ad 18), .int 0, .ref (ad 19), .long 0, .ref (ad 20), .ref (ad 21)])), ((ad 11), .inl (cy 0, 296, .inl (fun _ => 0)))]) (va_A [(av0, .inr (12, [.ref (ad 0), .int 0, .int 0, .ref (ad 1), .ref (ad 2), .ref (ad 3), .ref (ad 4), .int 0, .int 0, .int 0, .int 0, .ref (ad 5), .ref (ad 6), .ref (ad 7), .int 0, .int 0, .int 0, .int 0, .int 0, .int 0, .int 0, .ref (ad 8), .int 0, .ref (ad 9), .int 0, .ref (ad 10), .ref (ad 11), .int 1, .ref (ad 12), .ref (ad 13), .int 0, .int 0, .ref (ad 14), .ref (ad 15), .ref (ad 16), .ref (ad 17), .ref (ad 18), .int 0, .ref (ad 19), .long 0, .ref (ad 20), .ref (ad 21)])), ((ad 11), .inl (cy 0, 296, .inl (fun _ => 0)))] sz)) 0 0 (va_A [(av0, .inr (12, [.ref (ad 0), .int 0, .int 0, .ref (ad 1), .ref (ad 2), .ref (ad 3), .ref (ad 4), .int 0, .int 0, .int 0, .int 0, .ref (ad 5), .ref (ad 6), .ref (ad 7), .int 0, .int 0, .int 0, .int 0, .int 0, .int 0, .int 0, .ref (ad 8), .int 0, .ref (ad 9), .int 0, .ref (ad 10), .ref (ad 11), .int 1, .ref (ad 12), .ref (ad 13), .int 0, .int 0, .ref (ad 14), .ref (ad 15), .ref (ad 16), .ref (ad 17), .ref (ad 18), .int 0, .ref (ad 19), .long 0, .ref (ad 20), .ref (ad 21)])), ((ad 11), .inl (cy 0, 296, .inl (fun _ => 0)))] sz) := by
  refine Met.ofW (cc := cX12_cheap) (maxL := 2) (ret := (some .int)) (by decide) rfl ?_
  intro p e s m args below meth c s₁ B hml hv
  obtain ⟨rfl, hsz, hP, hK, hD0⟩ := hv
  have hx := B.exec
  have hb := B.bytes
  have hr := B.returns
  have hlocks := B.notSynchronized
  have hC : CallFix p m c cX12_cheap 2 s _ wsX12_cheap RX12 := ⟨hx, hb, hml, findClass_of_methodNamed B.named, atoms_spec (ws := wsX12_cheap) B.pre⟩
  subst hsz
  have hD := hD0.self (sz := s.heap.size)
  generalize hAe : va_A [(av0, .inr (12, [.ref (ad 0), .int 0, .int 0, .ref (ad 1), .ref (ad 2), .ref (ad 3), .ref (ad 4), .int 0, .int 0, .int 0, .int 0, .ref (ad 5), .ref (ad 6), .ref (ad 7), .int 0, .int 0, .int 0, .int 0, .int 0, .int 0, .int 0, .ref (ad 8), .int 0, .ref (ad 9), .int 0, .ref (ad 10), .ref (ad 11), .int 1, .ref (ad 12), .ref (ad 13), .int 0, .int 0, .ref (ad 14), .ref (ad 15), .ref (ad 16), .ref (ad 17), .ref (ad 18), .int 0, .ref (ad 19), .long 0, .ref (ad 20), .ref (ad 21)])), ((ad 11), .inl (cy 0, 296, .inl (fun _ => 0)))] s.heap.size = A at hD ⊢
  have hA : ∀ q : Nat, s.heap.size ≤ q → A q := fun q h => by rw [← hAe]; exact Or.inr h
  have hw : Wd dC dI A s.heap s.heap [] [(av0, .inr (12, [.ref (ad 0), .int 0, .int 0, .ref (ad 1), .ref (ad 2), .ref (ad 3), .ref (ad 4), .int 0, .int 0, .int 0, .int 0, .ref (ad 5), .ref (ad 6), .ref (ad 7), .int 0, .int 0, .int 0, .int 0, .int 0, .int 0, .int 0, .ref (ad 8), .int 0, .ref (ad 9), .int 0, .ref (ad 10), .ref (ad 11), .int 1, .ref (ad 12), .ref (ad 13), .int 0, .int 0, .ref (ad 14), .ref (ad 15), .ref (ad 16), .ref (ad 17), .ref (ad 18), .int 0, .ref (ad 19), .long 0, .ref (ad 20), .ref (ad 21)])), ((ad 11), .inl (cy 0, 296, .inl (fun _ => 0)))] := ⟨hP, hD, va_S.rf⟩
  have hl := lv_entry ([.ref av0, .int p0]) (n := 2) (Nat.le_of_ble_eq_true rfl)
  rw [lg_entry_eq]
  generalize (lg_sl ([.ref av0, .int p0]) ++ List.replicate (2 - (lg_sl ([.ref av0, .int p0])).length) Slot.unset).toArray = ls at hl ⊢
  have hl : lv_has ls 2 [(0, .ref av0), (1, .int p0)] := hl
  refine lv_aload_n hx hb dX12_cheap_0 rfl (lv_at hl 0 rfl) ?_
  refine lv_iload_n hx hb dX12_cheap_1 rfl (lv_at hl 1 rfl) ?_
  refine wk_Vi hC hK hw hA [0, 1] [] rfl rfl rfl rfl (by decide) (c_X12_isStreet_1 l dC dI cy av0 p0 (ad 0) (ad 1) (ad 2) (ad 3) (ad 4) (ad 5) (ad 6) (ad 7) (ad 8) (ad 9) (ad 10) (ad 11) (ad 12) (ad 13) (ad 14) (ad 15) (ad 16) (ad 17) (ad 18) (ad 19) (ad 20) (ad 21) s.heap.size ) (cwV 1 hC.2.2.2.2 gX12_cheap_X12_isStreet rfl rfl rfl (by decide +kernel) ⟨Nat.le_of_ble_eq_true rfl, Nat.le_of_ble_eq_true rfl⟩) rfl 0 rfl rfl hl.1 rfl (Nat.le_of_ble_eq_true rfl) dX12_cheap_2 0 0 ⟨rfl, rfl⟩ ⟨Nat.le_of_ble_eq_true rfl, Nat.le_of_ble_eq_true rfl⟩ (fun r2 u1 H locs p3 hw => ?_)
  have hw : Wd dC dI A s.heap H locs [(av0, .inr (12, [.ref (ad 0), .int 0, .int 0, .ref (ad 1), .ref (ad 2), .ref (ad 3), .ref (ad 4), .int 0, .int 0, .int 0, .int 0, .ref (ad 5), .ref (ad 6), .ref (ad 7), .int 0, .int 0, .int 0, .int 0, .int 0, .int 0, .int 0, .ref (ad 8), .int 0, .ref (ad 9), .int 0, .ref (ad 10), .ref (ad 11), .int 1, .ref (ad 12), .ref (ad 13), .int 0, .int 0, .ref (ad 14), .ref (ad 15), .ref (ad 16), .ref (ad 17), .ref (ad 18), .int 0, .ref (ad 19), .long 0, .ref (ad 20), .ref (ad 21)])), ((ad 11), .inl (cy 0, 296, .inl (fun _ => 0)))] := hw
  obtain rfl : r2 = 0 := p3
  refine lv_if_eq (tgt := 16) hx hb dX12_cheap_5 (by decide) (fun _ => ?_) (fun c => absurd (by decide) c)
  refine lv_iconst (v := (-1)) hx hb dX12_cheap_16 (by decide) ?_
  exact wk_iret (v := (-1)) hC hr hlocks hK ((fun _ => 0), (fun _ _ => 0)) rfl [0, 1] rfl rfl hw dX12_cheap_17

set_option maxHeartbeats 4000000 in
set_option maxRecDepth 100000 in
theorem t_X12_wrong (l : Launch) (dC : Nat → ClassId) (dI : Nat → Nat → Nat) (cy : Nat → ClassId) (av0 : Nat) (ad : Nat → Nat) (p0 : Int32) (sz : Nat)  : Met l yX12_wrong wsX12_wrong ({ frames := 1, cells := 0, slots := 0, locals := 20 }) (va_Pc [.ref av0, .int p0] (wpre dC dI cy sz [(av0, .inr (12, [.ref (ad 0), .int 0, .int 0, .ref (ad 1), .ref (ad 2), .ref (ad 3), .ref (ad 4), .int 0, .int 0, .int 0, .int 0, .ref (ad 5), .ref (ad 6), .ref (ad 7), .int 0, .int 0, .int 0, .int 0, .int 0, .int 0, .int 0, .ref (ad 8), .int 0, .ref (ad 9), .int 0, .ref (ad 10), .ref (ad 11), .int 1, .ref (ad 12), .ref (ad 13), .int 0, .int 0, .ref (ad 14), .ref (ad 15), .ref (ad 16), .ref (ad 17), .ref (ad 18), .int 0, .ref (ad 19), .long 0, .ref (ad 20), .ref (ad 21)])), ((ad 11), .inl (cy 0, 296, .inl (fun _ => 0)))])) (va_Qi (fun (r : Int32) (_ : ((Nat → Nat) × (Nat → Nat → Int32))) => r = (-1)) (fun u => wpost dC dI cy (va_A [(av0, .inr (12, [.ref (ad 0), .int 0, .int 0, .ref (ad 1), .ref (ad 2), .ref (ad 3), .ref (ad 4), .int 0, .int 0, .int 0, .int 0, .ref (ad 5), .ref (ad 6), .ref (ad 7), .int 0, .int 0, .int 0, .int 0, .int 0, .int 0, .int 0, .ref (ad 8), .int 0, .ref (ad 9), .int 0, .ref (ad 10), .ref (ad 11), .int 1, .ref (ad 12), .ref (ad 13), .int 0, .int 0, .ref (ad 14), .ref (ad 15), .ref (ad 16), .ref (ad 17), .ref (ad 18), .int 0, .ref (ad 19), .long 0, .ref (ad 20), .ref (ad 21)])), ((ad 11), .inl (cy 0, 296, .inl (fun _ => 0)))] sz) [(av0, .inr (12, [.ref (ad 0), .int 0, .int 0, .ref (ad 1), .ref (ad 2), .ref (ad 3), .ref (ad 4), .int 0, .int 0, .int 0, .int 0, .ref (ad 5), .ref (ad 6), .ref (ad 7), .int 0, .int 0, .int 0, .int 0, .int 0, .int 0, .int 0, .ref (ad 8), .int 0, .ref (ad 9), .int 0, .ref (ad 10), .ref (ad 11), .int 1, .ref (ad 12), .ref (ad 13), .int 0, .int 0, .ref (ad 14), .ref (ad 15), .ref (ad 16), .ref (ad 17), .ref (ad 18), .int 0, .ref (ad 19), .long 0, .ref (ad 20), .ref (ad 21)])), ((ad 11), .inl (cy 0, 296, .inl (fun _ => 0)))]) (va_A [(av0, .inr (12, [.ref (ad 0), .int 0, .int 0, .ref (ad 1), .ref (ad 2), .ref (ad 3), .ref (ad 4), .int 0, .int 0, .int 0, .int 0, .ref (ad 5), .ref (ad 6), .ref (ad 7), .int 0, .int 0, .int 0, .int 0, .int 0, .int 0, .int 0, .ref (ad 8), .int 0, .ref (ad 9), .int 0, .ref (ad 10), .ref (ad 11), .int 1, .ref (ad 12), .ref (ad 13), .int 0, .int 0, .ref (ad 14), .ref (ad 15), .ref (ad 16), .ref (ad 17), .ref (ad 18), .int 0, .ref (ad 19), .long 0, .ref (ad 20), .ref (ad 21)])), ((ad 11), .inl (cy 0, 296, .inl (fun _ => 0)))] sz)) 0 0 (va_A [(av0, .inr (12, [.ref (ad 0), .int 0, .int 0, .ref (ad 1), .ref (ad 2), .ref (ad 3), .ref (ad 4), .int 0, .int 0, .int 0, .int 0, .ref (ad 5), .ref (ad 6), .ref (ad 7), .int 0, .int 0, .int 0, .int 0, .int 0, .int 0, .int 0, .ref (ad 8), .int 0, .ref (ad 9), .int 0, .ref (ad 10), .ref (ad 11), .int 1, .ref (ad 12), .ref (ad 13), .int 0, .int 0, .ref (ad 14), .ref (ad 15), .ref (ad 16), .ref (ad 17), .ref (ad 18), .int 0, .ref (ad 19), .long 0, .ref (ad 20), .ref (ad 21)])), ((ad 11), .inl (cy 0, 296, .inl (fun _ => 0)))] sz) := by
  refine Met.ofW (cc := cX12_wrong) (maxL := 5) (ret := (some .int)) (by decide) rfl ?_
  intro p e s m args below meth c s₁ B hml hv
  obtain ⟨rfl, hsz, hP, hK, hD0⟩ := hv
  have hx := B.exec
  have hb := B.bytes
  have hr := B.returns
  have hlocks := B.notSynchronized
  have hC : CallFix p m c cX12_wrong 5 s _ wsX12_wrong RX12 := ⟨hx, hb, hml, findClass_of_methodNamed B.named, atoms_spec (ws := wsX12_wrong) B.pre⟩
  subst hsz
  have hD := hD0.self (sz := s.heap.size)
  generalize hAe : va_A [(av0, .inr (12, [.ref (ad 0), .int 0, .int 0, .ref (ad 1), .ref (ad 2), .ref (ad 3), .ref (ad 4), .int 0, .int 0, .int 0, .int 0, .ref (ad 5), .ref (ad 6), .ref (ad 7), .int 0, .int 0, .int 0, .int 0, .int 0, .int 0, .int 0, .ref (ad 8), .int 0, .ref (ad 9), .int 0, .ref (ad 10), .ref (ad 11), .int 1, .ref (ad 12), .ref (ad 13), .int 0, .int 0, .ref (ad 14), .ref (ad 15), .ref (ad 16), .ref (ad 17), .ref (ad 18), .int 0, .ref (ad 19), .long 0, .ref (ad 20), .ref (ad 21)])), ((ad 11), .inl (cy 0, 296, .inl (fun _ => 0)))] s.heap.size = A at hD ⊢
  have hA : ∀ q : Nat, s.heap.size ≤ q → A q := fun q h => by rw [← hAe]; exact Or.inr h
  have hw : Wd dC dI A s.heap s.heap [] [(av0, .inr (12, [.ref (ad 0), .int 0, .int 0, .ref (ad 1), .ref (ad 2), .ref (ad 3), .ref (ad 4), .int 0, .int 0, .int 0, .int 0, .ref (ad 5), .ref (ad 6), .ref (ad 7), .int 0, .int 0, .int 0, .int 0, .int 0, .int 0, .int 0, .ref (ad 8), .int 0, .ref (ad 9), .int 0, .ref (ad 10), .ref (ad 11), .int 1, .ref (ad 12), .ref (ad 13), .int 0, .int 0, .ref (ad 14), .ref (ad 15), .ref (ad 16), .ref (ad 17), .ref (ad 18), .int 0, .ref (ad 19), .long 0, .ref (ad 20), .ref (ad 21)])), ((ad 11), .inl (cy 0, 296, .inl (fun _ => 0)))] := ⟨hP, hD, va_S.rf⟩
  have hl := lv_entry ([.ref av0, .int p0]) (n := 5) (Nat.le_of_ble_eq_true rfl)
  rw [lg_entry_eq]
  generalize (lg_sl ([.ref av0, .int p0]) ++ List.replicate (5 - (lg_sl ([.ref av0, .int p0])).length) Slot.unset).toArray = ls at hl ⊢
  have hl : lv_has ls 5 [(0, .ref av0), (1, .int p0)] := hl
  refine lv_aload_n hx hb dX12_wrong_0 rfl (lv_at hl 0 rfl) ?_
  refine wk_Vi hC hK hw hA [0, 1] [] rfl rfl rfl rfl (by decide) (c_X12_isTown_1 l dC dI cy av0 (ad 0) (ad 1) (ad 2) (ad 3) (ad 4) (ad 5) (ad 6) (ad 7) (ad 8) (ad 9) (ad 10) (ad 11) (ad 12) (ad 13) (ad 14) (ad 15) (ad 16) (ad 17) (ad 18) (ad 19) (ad 20) (ad 21) s.heap.size ) (cwV 0 hC.2.2.2.2 gX12_wrong_X12_isTown rfl rfl rfl (by decide +kernel) ⟨Nat.le_of_ble_eq_true rfl, Nat.le_of_ble_eq_true rfl⟩) rfl 0 rfl rfl hl.1 rfl (Nat.le_of_ble_eq_true rfl) dX12_wrong_1 0 0 ⟨rfl, rfl⟩ ⟨Nat.le_of_ble_eq_true rfl, Nat.le_of_ble_eq_true rfl⟩ (fun r2 u1 H locs p3 hw => ?_)
  have hw : Wd dC dI A s.heap H locs [(av0, .inr (12, [.ref (ad 0), .int 0, .int 0, .ref (ad 1), .ref (ad 2), .ref (ad 3), .ref (ad 4), .int 0, .int 0, .int 0, .int 0, .ref (ad 5), .ref (ad 6), .ref (ad 7), .int 0, .int 0, .int 0, .int 0, .int 0, .int 0, .int 0, .ref (ad 8), .int 0, .ref (ad 9), .int 0, .ref (ad 10), .ref (ad 11), .int 1, .ref (ad 12), .ref (ad 13), .int 0, .int 0, .ref (ad 14), .ref (ad 15), .ref (ad 16), .ref (ad 17), .ref (ad 18), .int 0, .ref (ad 19), .long 0, .ref (ad 20), .ref (ad 21)])), ((ad 11), .inl (cy 0, 296, .inl (fun _ => 0)))] := hw
  obtain rfl : r2 = 0 := p3
  refine lv_if_eq (tgt := 19) hx hb dX12_wrong_4 (by decide) (fun _ => ?_) (fun c => absurd (by decide) c)
  refine lv_iconst (v := (-1)) hx hb dX12_wrong_19 (by decide) ?_
  exact wk_iret (v := (-1)) hC hr hlocks hK ((fun _ => 0), (fun _ _ => 0)) rfl [0, 1] rfl rfl hw dX12_wrong_20

set_option maxHeartbeats 4000000 in
set_option maxRecDepth 100000 in
theorem t_X12_errand_0 (l : Launch) (dC : Nat → ClassId) (dI : Nat → Nat → Nat) (cy : Nat → ClassId) (av0 : Nat) (ad : Nat → Nat) (p0 : Int32) (p1 : Int32) (sz : Nat) (hp : p0.toInt ≤ -2) : Met l yX12_errand wsX12_errand ({ frames := 1, cells := 0, slots := 0, locals := 21 }) (va_Pc [.ref av0, .int p0, .int p1] (wpre dC dI cy sz [(av0, .inr (12, [.ref (ad 0), .int 0, .int 0, .ref (ad 1), .ref (ad 2), .ref (ad 3), .ref (ad 4), .int 0, .int 0, .int 0, .int 0, .ref (ad 5), .ref (ad 6), .ref (ad 7), .int 0, .int 0, .int 0, .int 0, .int 0, .int 0, .int 0, .ref (ad 8), .int 0, .ref (ad 9), .int 0, .ref (ad 10), .ref (ad 11), .int 1, .ref (ad 12), .ref (ad 13), .int 0, .int 0, .ref (ad 14), .ref (ad 15), .ref (ad 16), .ref (ad 17), .ref (ad 18), .int 0, .ref (ad 19), .long 0, .ref (ad 20), .ref (ad 21)])), ((ad 11), .inl (cy 0, 296, .inl (fun _ => 0)))])) (va_Qi (fun (r : Int32) (_ : ((Nat → Nat) × (Nat → Nat → Int32))) => r = (-2)) (fun u => wpost dC dI cy (va_A [(av0, .inr (12, [.ref (ad 0), .int 0, .int 0, .ref (ad 1), .ref (ad 2), .ref (ad 3), .ref (ad 4), .int 0, .int 0, .int 0, .int 0, .ref (ad 5), .ref (ad 6), .ref (ad 7), .int 0, .int 0, .int 0, .int 0, .int 0, .int 0, .int 0, .ref (ad 8), .int 0, .ref (ad 9), .int 0, .ref (ad 10), .ref (ad 11), .int 1, .ref (ad 12), .ref (ad 13), .int 0, .int 0, .ref (ad 14), .ref (ad 15), .ref (ad 16), .ref (ad 17), .ref (ad 18), .int 0, .ref (ad 19), .long 0, .ref (ad 20), .ref (ad 21)])), ((ad 11), .inl (cy 0, 296, .inl (fun _ => 0)))] sz) [(av0, .inr (12, [.ref (ad 0), .int 0, .int 0, .ref (ad 1), .ref (ad 2), .ref (ad 3), .ref (ad 4), .int 0, .int 0, .int 0, .int 0, .ref (ad 5), .ref (ad 6), .ref (ad 7), .int 0, .int 0, .int 0, .int 0, .int 0, .int 0, .int 0, .ref (ad 8), .int 0, .ref (ad 9), .int 0, .ref (ad 10), .ref (ad 11), .int 1, .ref (ad 12), .ref (ad 13), .int 0, .int 0, .ref (ad 14), .ref (ad 15), .ref (ad 16), .ref (ad 17), .ref (ad 18), .int 0, .ref (ad 19), .long 0, .ref (ad 20), .ref (ad 21)])), ((ad 11), .inl (cy 0, 296, .inl (fun _ => 0)))]) (va_A [(av0, .inr (12, [.ref (ad 0), .int 0, .int 0, .ref (ad 1), .ref (ad 2), .ref (ad 3), .ref (ad 4), .int 0, .int 0, .int 0, .int 0, .ref (ad 5), .ref (ad 6), .ref (ad 7), .int 0, .int 0, .int 0, .int 0, .int 0, .int 0, .int 0, .ref (ad 8), .int 0, .ref (ad 9), .int 0, .ref (ad 10), .ref (ad 11), .int 1, .ref (ad 12), .ref (ad 13), .int 0, .int 0, .ref (ad 14), .ref (ad 15), .ref (ad 16), .ref (ad 17), .ref (ad 18), .int 0, .ref (ad 19), .long 0, .ref (ad 20), .ref (ad 21)])), ((ad 11), .inl (cy 0, 296, .inl (fun _ => 0)))] sz)) 0 0 (va_A [(av0, .inr (12, [.ref (ad 0), .int 0, .int 0, .ref (ad 1), .ref (ad 2), .ref (ad 3), .ref (ad 4), .int 0, .int 0, .int 0, .int 0, .ref (ad 5), .ref (ad 6), .ref (ad 7), .int 0, .int 0, .int 0, .int 0, .int 0, .int 0, .int 0, .ref (ad 8), .int 0, .ref (ad 9), .int 0, .ref (ad 10), .ref (ad 11), .int 1, .ref (ad 12), .ref (ad 13), .int 0, .int 0, .ref (ad 14), .ref (ad 15), .ref (ad 16), .ref (ad 17), .ref (ad 18), .int 0, .ref (ad 19), .long 0, .ref (ad 20), .ref (ad 21)])), ((ad 11), .inl (cy 0, 296, .inl (fun _ => 0)))] sz) := by
  refine Met.ofW (cc := cX12_errand) (maxL := 3) (ret := (some .int)) (by decide) rfl ?_
  intro p e s m args below meth c s₁ B hml hv
  obtain ⟨rfl, hsz, hP, hK, hD0⟩ := hv
  have hx := B.exec
  have hb := B.bytes
  have hr := B.returns
  have hlocks := B.notSynchronized
  have hC : CallFix p m c cX12_errand 3 s _ wsX12_errand RX12 := ⟨hx, hb, hml, findClass_of_methodNamed B.named, atoms_spec (ws := wsX12_errand) B.pre⟩
  subst hsz
  have hD := hD0.self (sz := s.heap.size)
  generalize hAe : va_A [(av0, .inr (12, [.ref (ad 0), .int 0, .int 0, .ref (ad 1), .ref (ad 2), .ref (ad 3), .ref (ad 4), .int 0, .int 0, .int 0, .int 0, .ref (ad 5), .ref (ad 6), .ref (ad 7), .int 0, .int 0, .int 0, .int 0, .int 0, .int 0, .int 0, .ref (ad 8), .int 0, .ref (ad 9), .int 0, .ref (ad 10), .ref (ad 11), .int 1, .ref (ad 12), .ref (ad 13), .int 0, .int 0, .ref (ad 14), .ref (ad 15), .ref (ad 16), .ref (ad 17), .ref (ad 18), .int 0, .ref (ad 19), .long 0, .ref (ad 20), .ref (ad 21)])), ((ad 11), .inl (cy 0, 296, .inl (fun _ => 0)))] s.heap.size = A at hD ⊢
  have hA : ∀ q : Nat, s.heap.size ≤ q → A q := fun q h => by rw [← hAe]; exact Or.inr h
  have hw : Wd dC dI A s.heap s.heap [] [(av0, .inr (12, [.ref (ad 0), .int 0, .int 0, .ref (ad 1), .ref (ad 2), .ref (ad 3), .ref (ad 4), .int 0, .int 0, .int 0, .int 0, .ref (ad 5), .ref (ad 6), .ref (ad 7), .int 0, .int 0, .int 0, .int 0, .int 0, .int 0, .int 0, .ref (ad 8), .int 0, .ref (ad 9), .int 0, .ref (ad 10), .ref (ad 11), .int 1, .ref (ad 12), .ref (ad 13), .int 0, .int 0, .ref (ad 14), .ref (ad 15), .ref (ad 16), .ref (ad 17), .ref (ad 18), .int 0, .ref (ad 19), .long 0, .ref (ad 20), .ref (ad 21)])), ((ad 11), .inl (cy 0, 296, .inl (fun _ => 0)))] := ⟨hP, hD, va_S.rf⟩
  have hl := lv_entry ([.ref av0, .int p0, .int p1]) (n := 3) (Nat.le_of_ble_eq_true rfl)
  rw [lg_entry_eq]
  generalize (lg_sl ([.ref av0, .int p0, .int p1]) ++ List.replicate (3 - (lg_sl ([.ref av0, .int p0, .int p1])).length) Slot.unset).toArray = ls at hl ⊢
  have hl : lv_has ls 3 [(0, .ref av0), (1, .int p0), (2, .int p1)] := hl
  refine lv_iload_n hx hb dX12_errand_0 rfl (lv_at hl 1 rfl) ?_
  refine lv_iconst (v := (-1)) hx hb dX12_errand_1 (by decide) ?_
  refine lv_icmp_ne (tgt := 15) hx hb dX12_errand_2 (by decide) (fun _ => ?_) (fun c => absurd (fun h => absurd (show p0.toInt = (-1 : Int) from wk_eq.mp h) (by omega)) c)
  refine lv_aload_n hx hb dX12_errand_15 rfl (lv_at hl 0 rfl) ?_
  refine lv_iload_n hx hb dX12_errand_16 rfl (lv_at hl 1 rfl) ?_
  refine wk_Vi hC hK hw hA [0, 1] [] rfl rfl rfl rfl (by decide) (c_X12_isCorner_1 l dC dI cy av0 p0 (ad 0) (ad 1) (ad 2) (ad 3) (ad 4) (ad 5) (ad 6) (ad 7) (ad 8) (ad 9) (ad 10) (ad 11) (ad 12) (ad 13) (ad 14) (ad 15) (ad 16) (ad 17) (ad 18) (ad 19) (ad 20) (ad 21) s.heap.size ) (cwV 1 hC.2.2.2.2 gX12_errand_X12_isCorner rfl rfl rfl (by decide +kernel) ⟨Nat.le_of_ble_eq_true rfl, Nat.le_of_ble_eq_true rfl⟩) rfl 0 rfl rfl hl.1 rfl (Nat.le_of_ble_eq_true rfl) dX12_errand_17 0 0 ⟨rfl, rfl⟩ ⟨Nat.le_of_ble_eq_true rfl, Nat.le_of_ble_eq_true rfl⟩ (fun r2 u1 H locs p3 hw => ?_)
  have hw : Wd dC dI A s.heap H locs [(av0, .inr (12, [.ref (ad 0), .int 0, .int 0, .ref (ad 1), .ref (ad 2), .ref (ad 3), .ref (ad 4), .int 0, .int 0, .int 0, .int 0, .ref (ad 5), .ref (ad 6), .ref (ad 7), .int 0, .int 0, .int 0, .int 0, .int 0, .int 0, .int 0, .ref (ad 8), .int 0, .ref (ad 9), .int 0, .ref (ad 10), .ref (ad 11), .int 1, .ref (ad 12), .ref (ad 13), .int 0, .int 0, .ref (ad 14), .ref (ad 15), .ref (ad 16), .ref (ad 17), .ref (ad 18), .int 0, .ref (ad 19), .long 0, .ref (ad 20), .ref (ad 21)])), ((ad 11), .inl (cy 0, 296, .inl (fun _ => 0)))] := hw
  obtain rfl : r2 = 0 := p3
  refine lv_if_eq (tgt := 48) hx hb dX12_errand_20 (by decide) (fun _ => ?_) (fun c => absurd (by decide) c)
  refine lv_bipush (v := (-2)) hx hb dX12_errand_48 (by decide) ?_
  exact wk_iret (v := (-2)) hC hr hlocks hK ((fun _ => 0), (fun _ _ => 0)) rfl [0, 1] rfl rfl hw dX12_errand_50

set_option maxHeartbeats 4000000 in
set_option maxRecDepth 100000 in
theorem t_X12_errand_1 (l : Launch) (dC : Nat → ClassId) (dI : Nat → Nat → Nat) (cy : Nat → ClassId) (av0 : Nat) (ad : Nat → Nat) (p1 : Int32) (sz : Nat)  : Met l yX12_errand wsX12_errand ({ frames := 0, cells := 0, slots := 0, locals := 0 }) (va_Pc [.ref av0, .int (-1), .int p1] (wpre dC dI cy sz [(av0, .inr (12, [.ref (ad 0), .int 0, .int 0, .ref (ad 1), .ref (ad 2), .ref (ad 3), .ref (ad 4), .int 0, .int 0, .int 0, .int 0, .ref (ad 5), .ref (ad 6), .ref (ad 7), .int 0, .int 0, .int 0, .int 0, .int 0, .int 0, .int 0, .ref (ad 8), .int 0, .ref (ad 9), .int 0, .ref (ad 10), .ref (ad 11), .int 1, .ref (ad 12), .ref (ad 13), .int 0, .int 0, .ref (ad 14), .ref (ad 15), .ref (ad 16), .ref (ad 17), .ref (ad 18), .int 0, .ref (ad 19), .long 0, .ref (ad 20), .ref (ad 21)])), ((ad 11), .inl (cy 0, 296, .inl (fun _ => 0)))])) (va_Qi (fun (r : Int32) (_ : ((Nat → Nat) × (Nat → Nat → Int32))) => r = 0) (fun u => wpost dC dI cy (va_A [(av0, .inr (12, [.ref (ad 0), .int 0, .int 0, .ref (ad 1), .ref (ad 2), .ref (ad 3), .ref (ad 4), .int 0, .int 0, .int 0, .int 0, .ref (ad 5), .ref (ad 6), .ref (ad 7), .int 0, .int 0, .int 0, .int 0, .int 0, .int 0, .int 0, .ref (ad 8), .int 0, .ref (ad 9), .int 0, .ref (ad 10), .ref (ad 11), .int 1, .ref (ad 12), .ref (ad 13), .int 0, .int 0, .ref (ad 14), .ref (ad 15), .ref (ad 16), .ref (ad 17), .ref (ad 18), .int 0, .ref (ad 19), .long 0, .ref (ad 20), .ref (ad 21)])), ((ad 11), .inl (cy 0, 296, .inl (fun _ => 0)))] sz) [(av0, .inr (12, [.ref (ad 0), .int 0, .int 0, .ref (ad 1), .ref (ad 2), .ref (ad 3), .ref (ad 4), .int 0, .int 0, .int 0, .int 0, .ref (ad 5), .ref (ad 6), .ref (ad 7), .int 0, .int 0, .int 0, .int 0, .int 0, .int 0, .int 0, .ref (ad 8), .int 0, .ref (ad 9), .int 0, .ref (ad 10), .ref (ad 11), .int 1, .ref (ad 12), .ref (ad 13), .int 0, .int 0, .ref (ad 14), .ref (ad 15), .ref (ad 16), .ref (ad 17), .ref (ad 18), .int 0, .ref (ad 19), .long 0, .ref (ad 20), .ref (ad 21)])), ((ad 11), .inl (cy 0, 296, .inl (u.2 0)))]) (va_A [(av0, .inr (12, [.ref (ad 0), .int 0, .int 0, .ref (ad 1), .ref (ad 2), .ref (ad 3), .ref (ad 4), .int 0, .int 0, .int 0, .int 0, .ref (ad 5), .ref (ad 6), .ref (ad 7), .int 0, .int 0, .int 0, .int 0, .int 0, .int 0, .int 0, .ref (ad 8), .int 0, .ref (ad 9), .int 0, .ref (ad 10), .ref (ad 11), .int 1, .ref (ad 12), .ref (ad 13), .int 0, .int 0, .ref (ad 14), .ref (ad 15), .ref (ad 16), .ref (ad 17), .ref (ad 18), .int 0, .ref (ad 19), .long 0, .ref (ad 20), .ref (ad 21)])), ((ad 11), .inl (cy 0, 296, .inl (fun _ => 0)))] sz)) 0 0 (va_A [(av0, .inr (12, [.ref (ad 0), .int 0, .int 0, .ref (ad 1), .ref (ad 2), .ref (ad 3), .ref (ad 4), .int 0, .int 0, .int 0, .int 0, .ref (ad 5), .ref (ad 6), .ref (ad 7), .int 0, .int 0, .int 0, .int 0, .int 0, .int 0, .int 0, .ref (ad 8), .int 0, .ref (ad 9), .int 0, .ref (ad 10), .ref (ad 11), .int 1, .ref (ad 12), .ref (ad 13), .int 0, .int 0, .ref (ad 14), .ref (ad 15), .ref (ad 16), .ref (ad 17), .ref (ad 18), .int 0, .ref (ad 19), .long 0, .ref (ad 20), .ref (ad 21)])), ((ad 11), .inl (cy 0, 296, .inl (fun _ => 0)))] sz) := by
  refine Met.ofW (cc := cX12_errand) (maxL := 3) (ret := (some .int)) (by decide) rfl ?_
  intro p e s m args below meth c s₁ B hml hv
  obtain ⟨rfl, hsz, hP, hK, hD0⟩ := hv
  have hx := B.exec
  have hb := B.bytes
  have hr := B.returns
  have hlocks := B.notSynchronized
  have hC : CallFix p m c cX12_errand 3 s _ wsX12_errand RX12 := ⟨hx, hb, hml, findClass_of_methodNamed B.named, atoms_spec (ws := wsX12_errand) B.pre⟩
  subst hsz
  have hD := hD0.self (sz := s.heap.size)
  generalize hAe : va_A [(av0, .inr (12, [.ref (ad 0), .int 0, .int 0, .ref (ad 1), .ref (ad 2), .ref (ad 3), .ref (ad 4), .int 0, .int 0, .int 0, .int 0, .ref (ad 5), .ref (ad 6), .ref (ad 7), .int 0, .int 0, .int 0, .int 0, .int 0, .int 0, .int 0, .ref (ad 8), .int 0, .ref (ad 9), .int 0, .ref (ad 10), .ref (ad 11), .int 1, .ref (ad 12), .ref (ad 13), .int 0, .int 0, .ref (ad 14), .ref (ad 15), .ref (ad 16), .ref (ad 17), .ref (ad 18), .int 0, .ref (ad 19), .long 0, .ref (ad 20), .ref (ad 21)])), ((ad 11), .inl (cy 0, 296, .inl (fun _ => 0)))] s.heap.size = A at hD ⊢
  have hA : ∀ q : Nat, s.heap.size ≤ q → A q := fun q h => by rw [← hAe]; exact Or.inr h
  have hw : Wd dC dI A s.heap s.heap [] [(av0, .inr (12, [.ref (ad 0), .int 0, .int 0, .ref (ad 1), .ref (ad 2), .ref (ad 3), .ref (ad 4), .int 0, .int 0, .int 0, .int 0, .ref (ad 5), .ref (ad 6), .ref (ad 7), .int 0, .int 0, .int 0, .int 0, .int 0, .int 0, .int 0, .ref (ad 8), .int 0, .ref (ad 9), .int 0, .ref (ad 10), .ref (ad 11), .int 1, .ref (ad 12), .ref (ad 13), .int 0, .int 0, .ref (ad 14), .ref (ad 15), .ref (ad 16), .ref (ad 17), .ref (ad 18), .int 0, .ref (ad 19), .long 0, .ref (ad 20), .ref (ad 21)])), ((ad 11), .inl (cy 0, 296, .inl (fun _ => 0)))] := ⟨hP, hD, va_S.rf⟩
  have hl := lv_entry ([.ref av0, .int (-1), .int p1]) (n := 3) (Nat.le_of_ble_eq_true rfl)
  rw [lg_entry_eq]
  generalize (lg_sl ([.ref av0, .int (-1), .int p1]) ++ List.replicate (3 - (lg_sl ([.ref av0, .int (-1), .int p1])).length) Slot.unset).toArray = ls at hl ⊢
  have hl : lv_has ls 3 [(0, .ref av0), (1, .int (-1)), (2, .int p1)] := hl
  have hinX12 : ∀ w ∈ u_ws RX12 TX12 42, w ∈ wsX12_errand := fun _ h => List.mem_cons_of_mem _ (List.mem_append_right _ (h))
  refine lv_iload_n hx hb dX12_errand_0 rfl (lv_at hl 1 rfl) ?_
  refine lv_iconst (v := (-1)) hx hb dX12_errand_1 (by decide) ?_
  refine lv_icmp_ne (tgt := 15) hx hb dX12_errand_2 (by decide) (fun c => absurd c (by decide)) (fun _ => ?_)
  refine lv_aload_n hx hb dX12_errand_5 rfl (lv_at hl 0 rfl) ?_
  refine wk_get hC hK hw hinX12 0 rfl rfl 26 (by decide) (List.mem_of_getElem? (i := 1) rfl) rfl rfl dX12_errand_6 ?_
  refine lv_bipush (v := 6) hx hb dX12_errand_9 (by decide) ?_
  refine lv_iconst (v := 0) hx hb dX12_errand_11 (by decide) ?_
  refine wk_iast hC hK hw 1 rfl (show ¬ ((6 : Int32) < 0 ∨ 296 ≤ (6 : Int32).toNatClampNeg) by decide) dX12_errand_12 (fun H locs hw => ?_)
  obtain ⟨f1, hw⟩ : ∃ f1 : Nat → Int32, Wd dC dI A s.heap H locs [(av0, .inr (12, [.ref (ad 0), .int 0, .int 0, .ref (ad 1), .ref (ad 2), .ref (ad 3), .ref (ad 4), .int 0, .int 0, .int 0, .int 0, .ref (ad 5), .ref (ad 6), .ref (ad 7), .int 0, .int 0, .int 0, .int 0, .int 0, .int 0, .int 0, .ref (ad 8), .int 0, .ref (ad 9), .int 0, .ref (ad 10), .ref (ad 11), .int 1, .ref (ad 12), .ref (ad 13), .int 0, .int 0, .ref (ad 14), .ref (ad 15), .ref (ad 16), .ref (ad 17), .ref (ad 18), .int 0, .ref (ad 19), .long 0, .ref (ad 20), .ref (ad 21)])), ((ad 11), .inl (cy 0, 296, .inl f1))] := ⟨_, hw⟩
  refine lv_iconst (v := 0) hx hb dX12_errand_13 (by decide) ?_
  exact wk_iret (v := 0) hC hr hlocks hK ((fun _ => 0), (fun k => ([f1] : List (Nat → Int32)).getD k (fun _ => 0))) rfl [0, 1] rfl rfl hw dX12_errand_14

set_option maxHeartbeats 4000000 in
set_option maxRecDepth 100000 in
theorem t_X12_errand_2 (l : Launch) (dC : Nat → ClassId) (dI : Nat → Nat → Nat) (cy : Nat → ClassId) (av0 : Nat) (ad : Nat → Nat) (p0 : Int32) (p1 : Int32) (sz : Nat) (hp : 0 ≤ p0.toInt) : Met l yX12_errand wsX12_errand ({ frames := 1, cells := 0, slots := 0, locals := 21 }) (va_Pc [.ref av0, .int p0, .int p1] (wpre dC dI cy sz [(av0, .inr (12, [.ref (ad 0), .int 0, .int 0, .ref (ad 1), .ref (ad 2), .ref (ad 3), .ref (ad 4), .int 0, .int 0, .int 0, .int 0, .ref (ad 5), .ref (ad 6), .ref (ad 7), .int 0, .int 0, .int 0, .int 0, .int 0, .int 0, .int 0, .ref (ad 8), .int 0, .ref (ad 9), .int 0, .ref (ad 10), .ref (ad 11), .int 1, .ref (ad 12), .ref (ad 13), .int 0, .int 0, .ref (ad 14), .ref (ad 15), .ref (ad 16), .ref (ad 17), .ref (ad 18), .int 0, .ref (ad 19), .long 0, .ref (ad 20), .ref (ad 21)])), ((ad 11), .inl (cy 0, 296, .inl (fun _ => 0)))])) (va_Qi (fun (r : Int32) (_ : ((Nat → Nat) × (Nat → Nat → Int32))) => r = (-2)) (fun u => wpost dC dI cy (va_A [(av0, .inr (12, [.ref (ad 0), .int 0, .int 0, .ref (ad 1), .ref (ad 2), .ref (ad 3), .ref (ad 4), .int 0, .int 0, .int 0, .int 0, .ref (ad 5), .ref (ad 6), .ref (ad 7), .int 0, .int 0, .int 0, .int 0, .int 0, .int 0, .int 0, .ref (ad 8), .int 0, .ref (ad 9), .int 0, .ref (ad 10), .ref (ad 11), .int 1, .ref (ad 12), .ref (ad 13), .int 0, .int 0, .ref (ad 14), .ref (ad 15), .ref (ad 16), .ref (ad 17), .ref (ad 18), .int 0, .ref (ad 19), .long 0, .ref (ad 20), .ref (ad 21)])), ((ad 11), .inl (cy 0, 296, .inl (fun _ => 0)))] sz) [(av0, .inr (12, [.ref (ad 0), .int 0, .int 0, .ref (ad 1), .ref (ad 2), .ref (ad 3), .ref (ad 4), .int 0, .int 0, .int 0, .int 0, .ref (ad 5), .ref (ad 6), .ref (ad 7), .int 0, .int 0, .int 0, .int 0, .int 0, .int 0, .int 0, .ref (ad 8), .int 0, .ref (ad 9), .int 0, .ref (ad 10), .ref (ad 11), .int 1, .ref (ad 12), .ref (ad 13), .int 0, .int 0, .ref (ad 14), .ref (ad 15), .ref (ad 16), .ref (ad 17), .ref (ad 18), .int 0, .ref (ad 19), .long 0, .ref (ad 20), .ref (ad 21)])), ((ad 11), .inl (cy 0, 296, .inl (fun _ => 0)))]) (va_A [(av0, .inr (12, [.ref (ad 0), .int 0, .int 0, .ref (ad 1), .ref (ad 2), .ref (ad 3), .ref (ad 4), .int 0, .int 0, .int 0, .int 0, .ref (ad 5), .ref (ad 6), .ref (ad 7), .int 0, .int 0, .int 0, .int 0, .int 0, .int 0, .int 0, .ref (ad 8), .int 0, .ref (ad 9), .int 0, .ref (ad 10), .ref (ad 11), .int 1, .ref (ad 12), .ref (ad 13), .int 0, .int 0, .ref (ad 14), .ref (ad 15), .ref (ad 16), .ref (ad 17), .ref (ad 18), .int 0, .ref (ad 19), .long 0, .ref (ad 20), .ref (ad 21)])), ((ad 11), .inl (cy 0, 296, .inl (fun _ => 0)))] sz)) 0 0 (va_A [(av0, .inr (12, [.ref (ad 0), .int 0, .int 0, .ref (ad 1), .ref (ad 2), .ref (ad 3), .ref (ad 4), .int 0, .int 0, .int 0, .int 0, .ref (ad 5), .ref (ad 6), .ref (ad 7), .int 0, .int 0, .int 0, .int 0, .int 0, .int 0, .int 0, .ref (ad 8), .int 0, .ref (ad 9), .int 0, .ref (ad 10), .ref (ad 11), .int 1, .ref (ad 12), .ref (ad 13), .int 0, .int 0, .ref (ad 14), .ref (ad 15), .ref (ad 16), .ref (ad 17), .ref (ad 18), .int 0, .ref (ad 19), .long 0, .ref (ad 20), .ref (ad 21)])), ((ad 11), .inl (cy 0, 296, .inl (fun _ => 0)))] sz) := by
  refine Met.ofW (cc := cX12_errand) (maxL := 3) (ret := (some .int)) (by decide) rfl ?_
  intro p e s m args below meth c s₁ B hml hv
  obtain ⟨rfl, hsz, hP, hK, hD0⟩ := hv
  have hx := B.exec
  have hb := B.bytes
  have hr := B.returns
  have hlocks := B.notSynchronized
  have hC : CallFix p m c cX12_errand 3 s _ wsX12_errand RX12 := ⟨hx, hb, hml, findClass_of_methodNamed B.named, atoms_spec (ws := wsX12_errand) B.pre⟩
  subst hsz
  have hD := hD0.self (sz := s.heap.size)
  generalize hAe : va_A [(av0, .inr (12, [.ref (ad 0), .int 0, .int 0, .ref (ad 1), .ref (ad 2), .ref (ad 3), .ref (ad 4), .int 0, .int 0, .int 0, .int 0, .ref (ad 5), .ref (ad 6), .ref (ad 7), .int 0, .int 0, .int 0, .int 0, .int 0, .int 0, .int 0, .ref (ad 8), .int 0, .ref (ad 9), .int 0, .ref (ad 10), .ref (ad 11), .int 1, .ref (ad 12), .ref (ad 13), .int 0, .int 0, .ref (ad 14), .ref (ad 15), .ref (ad 16), .ref (ad 17), .ref (ad 18), .int 0, .ref (ad 19), .long 0, .ref (ad 20), .ref (ad 21)])), ((ad 11), .inl (cy 0, 296, .inl (fun _ => 0)))] s.heap.size = A at hD ⊢
  have hA : ∀ q : Nat, s.heap.size ≤ q → A q := fun q h => by rw [← hAe]; exact Or.inr h
  have hw : Wd dC dI A s.heap s.heap [] [(av0, .inr (12, [.ref (ad 0), .int 0, .int 0, .ref (ad 1), .ref (ad 2), .ref (ad 3), .ref (ad 4), .int 0, .int 0, .int 0, .int 0, .ref (ad 5), .ref (ad 6), .ref (ad 7), .int 0, .int 0, .int 0, .int 0, .int 0, .int 0, .int 0, .ref (ad 8), .int 0, .ref (ad 9), .int 0, .ref (ad 10), .ref (ad 11), .int 1, .ref (ad 12), .ref (ad 13), .int 0, .int 0, .ref (ad 14), .ref (ad 15), .ref (ad 16), .ref (ad 17), .ref (ad 18), .int 0, .ref (ad 19), .long 0, .ref (ad 20), .ref (ad 21)])), ((ad 11), .inl (cy 0, 296, .inl (fun _ => 0)))] := ⟨hP, hD, va_S.rf⟩
  have hl := lv_entry ([.ref av0, .int p0, .int p1]) (n := 3) (Nat.le_of_ble_eq_true rfl)
  rw [lg_entry_eq]
  generalize (lg_sl ([.ref av0, .int p0, .int p1]) ++ List.replicate (3 - (lg_sl ([.ref av0, .int p0, .int p1])).length) Slot.unset).toArray = ls at hl ⊢
  have hl : lv_has ls 3 [(0, .ref av0), (1, .int p0), (2, .int p1)] := hl
  refine lv_iload_n hx hb dX12_errand_0 rfl (lv_at hl 1 rfl) ?_
  refine lv_iconst (v := (-1)) hx hb dX12_errand_1 (by decide) ?_
  refine lv_icmp_ne (tgt := 15) hx hb dX12_errand_2 (by decide) (fun _ => ?_) (fun c => absurd (fun h => absurd (show p0.toInt = (-1 : Int) from wk_eq.mp h) (by omega)) c)
  refine lv_aload_n hx hb dX12_errand_15 rfl (lv_at hl 0 rfl) ?_
  refine lv_iload_n hx hb dX12_errand_16 rfl (lv_at hl 1 rfl) ?_
  refine wk_Vi hC hK hw hA [0, 1] [] rfl rfl rfl rfl (by decide) (c_X12_isCorner_1 l dC dI cy av0 p0 (ad 0) (ad 1) (ad 2) (ad 3) (ad 4) (ad 5) (ad 6) (ad 7) (ad 8) (ad 9) (ad 10) (ad 11) (ad 12) (ad 13) (ad 14) (ad 15) (ad 16) (ad 17) (ad 18) (ad 19) (ad 20) (ad 21) s.heap.size ) (cwV 1 hC.2.2.2.2 gX12_errand_X12_isCorner rfl rfl rfl (by decide +kernel) ⟨Nat.le_of_ble_eq_true rfl, Nat.le_of_ble_eq_true rfl⟩) rfl 0 rfl rfl hl.1 rfl (Nat.le_of_ble_eq_true rfl) dX12_errand_17 0 0 ⟨rfl, rfl⟩ ⟨Nat.le_of_ble_eq_true rfl, Nat.le_of_ble_eq_true rfl⟩ (fun r2 u1 H locs p3 hw => ?_)
  have hw : Wd dC dI A s.heap H locs [(av0, .inr (12, [.ref (ad 0), .int 0, .int 0, .ref (ad 1), .ref (ad 2), .ref (ad 3), .ref (ad 4), .int 0, .int 0, .int 0, .int 0, .ref (ad 5), .ref (ad 6), .ref (ad 7), .int 0, .int 0, .int 0, .int 0, .int 0, .int 0, .int 0, .ref (ad 8), .int 0, .ref (ad 9), .int 0, .ref (ad 10), .ref (ad 11), .int 1, .ref (ad 12), .ref (ad 13), .int 0, .int 0, .ref (ad 14), .ref (ad 15), .ref (ad 16), .ref (ad 17), .ref (ad 18), .int 0, .ref (ad 19), .long 0, .ref (ad 20), .ref (ad 21)])), ((ad 11), .inl (cy 0, 296, .inl (fun _ => 0)))] := hw
  obtain rfl : r2 = 0 := p3
  refine lv_if_eq (tgt := 48) hx hb dX12_errand_20 (by decide) (fun _ => ?_) (fun c => absurd (by decide) c)
  refine lv_bipush (v := (-2)) hx hb dX12_errand_48 (by decide) ?_
  exact wk_iret (v := (-2)) hC hr hlocks hK ((fun _ => 0), (fun _ _ => 0)) rfl [0, 1] rfl rfl hw dX12_errand_50

set_option maxHeartbeats 4000000 in
set_option maxRecDepth 100000 in
theorem t_X12_ways (l : Launch) (dC : Nat → ClassId) (dI : Nat → Nat → Nat) (cy : Nat → ClassId) (av0 : Nat) (ad : Nat → Nat) (p0 : Int32) (p1 : Int32) (sz : Nat)  : Met l yX12_ways wsX12_ways ({ frames := 1, cells := 0, slots := 0, locals := 20 }) (va_Pc [.ref av0, .int p0, .int p1] (wpre dC dI cy sz [(av0, .inr (12, [.ref (ad 0), .int 0, .int 0, .ref (ad 1), .ref (ad 2), .ref (ad 3), .ref (ad 4), .int 0, .int 0, .int 0, .int 0, .ref (ad 5), .ref (ad 6), .ref (ad 7), .int 0, .int 0, .int 0, .int 0, .int 0, .int 0, .int 0, .ref (ad 8), .int 0, .ref (ad 9), .int 0, .ref (ad 10), .ref (ad 11), .int 1, .ref (ad 12), .ref (ad 13), .int 0, .int 0, .ref (ad 14), .ref (ad 15), .ref (ad 16), .ref (ad 17), .ref (ad 18), .int 0, .ref (ad 19), .long 0, .ref (ad 20), .ref (ad 21)])), ((ad 11), .inl (cy 0, 296, .inl (fun _ => 0)))])) (va_Qi (fun (r : Int32) (_ : ((Nat → Nat) × (Nat → Nat → Int32))) => r = (-1)) (fun u => wpost dC dI cy (va_A [(av0, .inr (12, [.ref (ad 0), .int 0, .int 0, .ref (ad 1), .ref (ad 2), .ref (ad 3), .ref (ad 4), .int 0, .int 0, .int 0, .int 0, .ref (ad 5), .ref (ad 6), .ref (ad 7), .int 0, .int 0, .int 0, .int 0, .int 0, .int 0, .int 0, .ref (ad 8), .int 0, .ref (ad 9), .int 0, .ref (ad 10), .ref (ad 11), .int 1, .ref (ad 12), .ref (ad 13), .int 0, .int 0, .ref (ad 14), .ref (ad 15), .ref (ad 16), .ref (ad 17), .ref (ad 18), .int 0, .ref (ad 19), .long 0, .ref (ad 20), .ref (ad 21)])), ((ad 11), .inl (cy 0, 296, .inl (fun _ => 0)))] sz) [(av0, .inr (12, [.ref (ad 0), .int 0, .int 0, .ref (ad 1), .ref (ad 2), .ref (ad 3), .ref (ad 4), .int 0, .int 0, .int 0, .int 0, .ref (ad 5), .ref (ad 6), .ref (ad 7), .int 0, .int 0, .int 0, .int 0, .int 0, .int 0, .int 0, .ref (ad 8), .int 0, .ref (ad 9), .int 0, .ref (ad 10), .ref (ad 11), .int 1, .ref (ad 12), .ref (ad 13), .int 0, .int 0, .ref (ad 14), .ref (ad 15), .ref (ad 16), .ref (ad 17), .ref (ad 18), .int 0, .ref (ad 19), .long 0, .ref (ad 20), .ref (ad 21)])), ((ad 11), .inl (cy 0, 296, .inl (fun _ => 0)))]) (va_A [(av0, .inr (12, [.ref (ad 0), .int 0, .int 0, .ref (ad 1), .ref (ad 2), .ref (ad 3), .ref (ad 4), .int 0, .int 0, .int 0, .int 0, .ref (ad 5), .ref (ad 6), .ref (ad 7), .int 0, .int 0, .int 0, .int 0, .int 0, .int 0, .int 0, .ref (ad 8), .int 0, .ref (ad 9), .int 0, .ref (ad 10), .ref (ad 11), .int 1, .ref (ad 12), .ref (ad 13), .int 0, .int 0, .ref (ad 14), .ref (ad 15), .ref (ad 16), .ref (ad 17), .ref (ad 18), .int 0, .ref (ad 19), .long 0, .ref (ad 20), .ref (ad 21)])), ((ad 11), .inl (cy 0, 296, .inl (fun _ => 0)))] sz)) 0 0 (va_A [(av0, .inr (12, [.ref (ad 0), .int 0, .int 0, .ref (ad 1), .ref (ad 2), .ref (ad 3), .ref (ad 4), .int 0, .int 0, .int 0, .int 0, .ref (ad 5), .ref (ad 6), .ref (ad 7), .int 0, .int 0, .int 0, .int 0, .int 0, .int 0, .int 0, .ref (ad 8), .int 0, .ref (ad 9), .int 0, .ref (ad 10), .ref (ad 11), .int 1, .ref (ad 12), .ref (ad 13), .int 0, .int 0, .ref (ad 14), .ref (ad 15), .ref (ad 16), .ref (ad 17), .ref (ad 18), .int 0, .ref (ad 19), .long 0, .ref (ad 20), .ref (ad 21)])), ((ad 11), .inl (cy 0, 296, .inl (fun _ => 0)))] sz) := by
  refine Met.ofW (cc := cX12_ways) (maxL := 7) (ret := (some .int)) (by decide) rfl ?_
  intro p e s m args below meth c s₁ B hml hv
  obtain ⟨rfl, hsz, hP, hK, hD0⟩ := hv
  have hx := B.exec
  have hb := B.bytes
  have hr := B.returns
  have hlocks := B.notSynchronized
  have hC : CallFix p m c cX12_ways 7 s _ wsX12_ways RX12 := ⟨hx, hb, hml, findClass_of_methodNamed B.named, atoms_spec (ws := wsX12_ways) B.pre⟩
  subst hsz
  have hD := hD0.self (sz := s.heap.size)
  generalize hAe : va_A [(av0, .inr (12, [.ref (ad 0), .int 0, .int 0, .ref (ad 1), .ref (ad 2), .ref (ad 3), .ref (ad 4), .int 0, .int 0, .int 0, .int 0, .ref (ad 5), .ref (ad 6), .ref (ad 7), .int 0, .int 0, .int 0, .int 0, .int 0, .int 0, .int 0, .ref (ad 8), .int 0, .ref (ad 9), .int 0, .ref (ad 10), .ref (ad 11), .int 1, .ref (ad 12), .ref (ad 13), .int 0, .int 0, .ref (ad 14), .ref (ad 15), .ref (ad 16), .ref (ad 17), .ref (ad 18), .int 0, .ref (ad 19), .long 0, .ref (ad 20), .ref (ad 21)])), ((ad 11), .inl (cy 0, 296, .inl (fun _ => 0)))] s.heap.size = A at hD ⊢
  have hA : ∀ q : Nat, s.heap.size ≤ q → A q := fun q h => by rw [← hAe]; exact Or.inr h
  have hw : Wd dC dI A s.heap s.heap [] [(av0, .inr (12, [.ref (ad 0), .int 0, .int 0, .ref (ad 1), .ref (ad 2), .ref (ad 3), .ref (ad 4), .int 0, .int 0, .int 0, .int 0, .ref (ad 5), .ref (ad 6), .ref (ad 7), .int 0, .int 0, .int 0, .int 0, .int 0, .int 0, .int 0, .ref (ad 8), .int 0, .ref (ad 9), .int 0, .ref (ad 10), .ref (ad 11), .int 1, .ref (ad 12), .ref (ad 13), .int 0, .int 0, .ref (ad 14), .ref (ad 15), .ref (ad 16), .ref (ad 17), .ref (ad 18), .int 0, .ref (ad 19), .long 0, .ref (ad 20), .ref (ad 21)])), ((ad 11), .inl (cy 0, 296, .inl (fun _ => 0)))] := ⟨hP, hD, va_S.rf⟩
  have hl := lv_entry ([.ref av0, .int p0, .int p1]) (n := 7) (Nat.le_of_ble_eq_true rfl)
  rw [lg_entry_eq]
  generalize (lg_sl ([.ref av0, .int p0, .int p1]) ++ List.replicate (7 - (lg_sl ([.ref av0, .int p0, .int p1])).length) Slot.unset).toArray = ls at hl ⊢
  have hl : lv_has ls 7 [(0, .ref av0), (1, .int p0), (2, .int p1)] := hl
  refine lv_aload_n hx hb dX12_ways_0 rfl (lv_at hl 0 rfl) ?_
  refine wk_Vi hC hK hw hA [0, 1] [] rfl rfl rfl rfl (by decide) (c_X12_isTown_1 l dC dI cy av0 (ad 0) (ad 1) (ad 2) (ad 3) (ad 4) (ad 5) (ad 6) (ad 7) (ad 8) (ad 9) (ad 10) (ad 11) (ad 12) (ad 13) (ad 14) (ad 15) (ad 16) (ad 17) (ad 18) (ad 19) (ad 20) (ad 21) s.heap.size ) (cwV 0 hC.2.2.2.2 gX12_ways_X12_isTown rfl rfl rfl (by decide +kernel) ⟨Nat.le_of_ble_eq_true rfl, Nat.le_of_ble_eq_true rfl⟩) rfl 0 rfl rfl hl.1 rfl (Nat.le_of_ble_eq_true rfl) dX12_ways_1 0 0 ⟨rfl, rfl⟩ ⟨Nat.le_of_ble_eq_true rfl, Nat.le_of_ble_eq_true rfl⟩ (fun r2 u1 H locs p3 hw => ?_)
  have hw : Wd dC dI A s.heap H locs [(av0, .inr (12, [.ref (ad 0), .int 0, .int 0, .ref (ad 1), .ref (ad 2), .ref (ad 3), .ref (ad 4), .int 0, .int 0, .int 0, .int 0, .ref (ad 5), .ref (ad 6), .ref (ad 7), .int 0, .int 0, .int 0, .int 0, .int 0, .int 0, .int 0, .ref (ad 8), .int 0, .ref (ad 9), .int 0, .ref (ad 10), .ref (ad 11), .int 1, .ref (ad 12), .ref (ad 13), .int 0, .int 0, .ref (ad 14), .ref (ad 15), .ref (ad 16), .ref (ad 17), .ref (ad 18), .int 0, .ref (ad 19), .long 0, .ref (ad 20), .ref (ad 21)])), ((ad 11), .inl (cy 0, 296, .inl (fun _ => 0)))] := hw
  obtain rfl : r2 = 0 := p3
  refine lv_if_eq (tgt := 29) hx hb dX12_ways_4 (by decide) (fun _ => ?_) (fun c => absurd (by decide) c)
  refine lv_iconst (v := (-1)) hx hb dX12_ways_29 (by decide) ?_
  exact wk_iret (v := (-1)) hC hr hlocks hK ((fun _ => 0), (fun _ _ => 0)) rfl [0, 1] rfl rfl hw dX12_ways_30

set_option maxHeartbeats 4000000 in
set_option maxRecDepth 100000 in
theorem t_X12_sight_0 (l : Launch) (dC : Nat → ClassId) (dI : Nat → Nat → Nat) (cy : Nat → ClassId) (av0 : Nat) (ad : Nat → Nat) (p0 : Int32) (p1 : Int32) (sz : Nat) (hp : p0.toInt ≤ -2) : Met l yX12_sight wsX12_sight ({ frames := 1, cells := 0, slots := 0, locals := 21 }) (va_Pc [.ref av0, .int p0, .int p1] (wpre dC dI cy sz [(av0, .inr (12, [.ref (ad 0), .int 0, .int 0, .ref (ad 1), .ref (ad 2), .ref (ad 3), .ref (ad 4), .int 0, .int 0, .int 0, .int 0, .ref (ad 5), .ref (ad 6), .ref (ad 7), .int 0, .int 0, .int 0, .int 0, .int 0, .int 0, .int 0, .ref (ad 8), .int 0, .ref (ad 9), .int 0, .ref (ad 10), .ref (ad 11), .int 1, .ref (ad 12), .ref (ad 13), .int 0, .int 0, .ref (ad 14), .ref (ad 15), .ref (ad 16), .ref (ad 17), .ref (ad 18), .int 0, .ref (ad 19), .long 0, .ref (ad 20), .ref (ad 21)])), ((ad 11), .inl (cy 0, 296, .inl (fun _ => 0)))])) (va_Qi (fun (r : Int32) (_ : ((Nat → Nat) × (Nat → Nat → Int32))) => r = (-2)) (fun u => wpost dC dI cy (va_A [(av0, .inr (12, [.ref (ad 0), .int 0, .int 0, .ref (ad 1), .ref (ad 2), .ref (ad 3), .ref (ad 4), .int 0, .int 0, .int 0, .int 0, .ref (ad 5), .ref (ad 6), .ref (ad 7), .int 0, .int 0, .int 0, .int 0, .int 0, .int 0, .int 0, .ref (ad 8), .int 0, .ref (ad 9), .int 0, .ref (ad 10), .ref (ad 11), .int 1, .ref (ad 12), .ref (ad 13), .int 0, .int 0, .ref (ad 14), .ref (ad 15), .ref (ad 16), .ref (ad 17), .ref (ad 18), .int 0, .ref (ad 19), .long 0, .ref (ad 20), .ref (ad 21)])), ((ad 11), .inl (cy 0, 296, .inl (fun _ => 0)))] sz) [(av0, .inr (12, [.ref (ad 0), .int 0, .int 0, .ref (ad 1), .ref (ad 2), .ref (ad 3), .ref (ad 4), .int 0, .int 0, .int 0, .int 0, .ref (ad 5), .ref (ad 6), .ref (ad 7), .int 0, .int 0, .int 0, .int 0, .int 0, .int 0, .int 0, .ref (ad 8), .int 0, .ref (ad 9), .int 0, .ref (ad 10), .ref (ad 11), .int 1, .ref (ad 12), .ref (ad 13), .int 0, .int 0, .ref (ad 14), .ref (ad 15), .ref (ad 16), .ref (ad 17), .ref (ad 18), .int 0, .ref (ad 19), .long 0, .ref (ad 20), .ref (ad 21)])), ((ad 11), .inl (cy 0, 296, .inl (fun _ => 0)))]) (va_A [(av0, .inr (12, [.ref (ad 0), .int 0, .int 0, .ref (ad 1), .ref (ad 2), .ref (ad 3), .ref (ad 4), .int 0, .int 0, .int 0, .int 0, .ref (ad 5), .ref (ad 6), .ref (ad 7), .int 0, .int 0, .int 0, .int 0, .int 0, .int 0, .int 0, .ref (ad 8), .int 0, .ref (ad 9), .int 0, .ref (ad 10), .ref (ad 11), .int 1, .ref (ad 12), .ref (ad 13), .int 0, .int 0, .ref (ad 14), .ref (ad 15), .ref (ad 16), .ref (ad 17), .ref (ad 18), .int 0, .ref (ad 19), .long 0, .ref (ad 20), .ref (ad 21)])), ((ad 11), .inl (cy 0, 296, .inl (fun _ => 0)))] sz)) 0 0 (va_A [(av0, .inr (12, [.ref (ad 0), .int 0, .int 0, .ref (ad 1), .ref (ad 2), .ref (ad 3), .ref (ad 4), .int 0, .int 0, .int 0, .int 0, .ref (ad 5), .ref (ad 6), .ref (ad 7), .int 0, .int 0, .int 0, .int 0, .int 0, .int 0, .int 0, .ref (ad 8), .int 0, .ref (ad 9), .int 0, .ref (ad 10), .ref (ad 11), .int 1, .ref (ad 12), .ref (ad 13), .int 0, .int 0, .ref (ad 14), .ref (ad 15), .ref (ad 16), .ref (ad 17), .ref (ad 18), .int 0, .ref (ad 19), .long 0, .ref (ad 20), .ref (ad 21)])), ((ad 11), .inl (cy 0, 296, .inl (fun _ => 0)))] sz) := by
  refine Met.ofW (cc := cX12_sight) (maxL := 3) (ret := (some .int)) (by decide) rfl ?_
  intro p e s m args below meth c s₁ B hml hv
  obtain ⟨rfl, hsz, hP, hK, hD0⟩ := hv
  have hx := B.exec
  have hb := B.bytes
  have hr := B.returns
  have hlocks := B.notSynchronized
  have hC : CallFix p m c cX12_sight 3 s _ wsX12_sight RX12 := ⟨hx, hb, hml, findClass_of_methodNamed B.named, atoms_spec (ws := wsX12_sight) B.pre⟩
  subst hsz
  have hD := hD0.self (sz := s.heap.size)
  generalize hAe : va_A [(av0, .inr (12, [.ref (ad 0), .int 0, .int 0, .ref (ad 1), .ref (ad 2), .ref (ad 3), .ref (ad 4), .int 0, .int 0, .int 0, .int 0, .ref (ad 5), .ref (ad 6), .ref (ad 7), .int 0, .int 0, .int 0, .int 0, .int 0, .int 0, .int 0, .ref (ad 8), .int 0, .ref (ad 9), .int 0, .ref (ad 10), .ref (ad 11), .int 1, .ref (ad 12), .ref (ad 13), .int 0, .int 0, .ref (ad 14), .ref (ad 15), .ref (ad 16), .ref (ad 17), .ref (ad 18), .int 0, .ref (ad 19), .long 0, .ref (ad 20), .ref (ad 21)])), ((ad 11), .inl (cy 0, 296, .inl (fun _ => 0)))] s.heap.size = A at hD ⊢
  have hA : ∀ q : Nat, s.heap.size ≤ q → A q := fun q h => by rw [← hAe]; exact Or.inr h
  have hw : Wd dC dI A s.heap s.heap [] [(av0, .inr (12, [.ref (ad 0), .int 0, .int 0, .ref (ad 1), .ref (ad 2), .ref (ad 3), .ref (ad 4), .int 0, .int 0, .int 0, .int 0, .ref (ad 5), .ref (ad 6), .ref (ad 7), .int 0, .int 0, .int 0, .int 0, .int 0, .int 0, .int 0, .ref (ad 8), .int 0, .ref (ad 9), .int 0, .ref (ad 10), .ref (ad 11), .int 1, .ref (ad 12), .ref (ad 13), .int 0, .int 0, .ref (ad 14), .ref (ad 15), .ref (ad 16), .ref (ad 17), .ref (ad 18), .int 0, .ref (ad 19), .long 0, .ref (ad 20), .ref (ad 21)])), ((ad 11), .inl (cy 0, 296, .inl (fun _ => 0)))] := ⟨hP, hD, va_S.rf⟩
  have hl := lv_entry ([.ref av0, .int p0, .int p1]) (n := 3) (Nat.le_of_ble_eq_true rfl)
  rw [lg_entry_eq]
  generalize (lg_sl ([.ref av0, .int p0, .int p1]) ++ List.replicate (3 - (lg_sl ([.ref av0, .int p0, .int p1])).length) Slot.unset).toArray = ls at hl ⊢
  have hl : lv_has ls 3 [(0, .ref av0), (1, .int p0), (2, .int p1)] := hl
  refine lv_iload_n hx hb dX12_sight_0 rfl (lv_at hl 1 rfl) ?_
  refine lv_iconst (v := (-1)) hx hb dX12_sight_1 (by decide) ?_
  refine lv_icmp_ne (tgt := 15) hx hb dX12_sight_2 (by decide) (fun _ => ?_) (fun c => absurd (fun h => absurd (show p0.toInt = (-1 : Int) from wk_eq.mp h) (by omega)) c)
  refine lv_aload_n hx hb dX12_sight_15 rfl (lv_at hl 0 rfl) ?_
  refine lv_iload_n hx hb dX12_sight_16 rfl (lv_at hl 1 rfl) ?_
  refine wk_Vi hC hK hw hA [0, 1] [] rfl rfl rfl rfl (by decide) (c_X12_isStreet_1 l dC dI cy av0 p0 (ad 0) (ad 1) (ad 2) (ad 3) (ad 4) (ad 5) (ad 6) (ad 7) (ad 8) (ad 9) (ad 10) (ad 11) (ad 12) (ad 13) (ad 14) (ad 15) (ad 16) (ad 17) (ad 18) (ad 19) (ad 20) (ad 21) s.heap.size ) (cwV 1 hC.2.2.2.2 gX12_sight_X12_isStreet rfl rfl rfl (by decide +kernel) ⟨Nat.le_of_ble_eq_true rfl, Nat.le_of_ble_eq_true rfl⟩) rfl 0 rfl rfl hl.1 rfl (Nat.le_of_ble_eq_true rfl) dX12_sight_17 0 0 ⟨rfl, rfl⟩ ⟨Nat.le_of_ble_eq_true rfl, Nat.le_of_ble_eq_true rfl⟩ (fun r2 u1 H locs p3 hw => ?_)
  have hw : Wd dC dI A s.heap H locs [(av0, .inr (12, [.ref (ad 0), .int 0, .int 0, .ref (ad 1), .ref (ad 2), .ref (ad 3), .ref (ad 4), .int 0, .int 0, .int 0, .int 0, .ref (ad 5), .ref (ad 6), .ref (ad 7), .int 0, .int 0, .int 0, .int 0, .int 0, .int 0, .int 0, .ref (ad 8), .int 0, .ref (ad 9), .int 0, .ref (ad 10), .ref (ad 11), .int 1, .ref (ad 12), .ref (ad 13), .int 0, .int 0, .ref (ad 14), .ref (ad 15), .ref (ad 16), .ref (ad 17), .ref (ad 18), .int 0, .ref (ad 19), .long 0, .ref (ad 20), .ref (ad 21)])), ((ad 11), .inl (cy 0, 296, .inl (fun _ => 0)))] := hw
  obtain rfl : r2 = 0 := p3
  refine lv_if_eq (tgt := 47) hx hb dX12_sight_20 (by decide) (fun _ => ?_) (fun c => absurd (by decide) c)
  refine lv_bipush (v := (-2)) hx hb dX12_sight_47 (by decide) ?_
  exact wk_iret (v := (-2)) hC hr hlocks hK ((fun _ => 0), (fun _ _ => 0)) rfl [0, 1] rfl rfl hw dX12_sight_49

set_option maxHeartbeats 4000000 in
set_option maxRecDepth 100000 in
theorem t_X12_sight_1 (l : Launch) (dC : Nat → ClassId) (dI : Nat → Nat → Nat) (cy : Nat → ClassId) (av0 : Nat) (ad : Nat → Nat) (p1 : Int32) (sz : Nat)  : Met l yX12_sight wsX12_sight ({ frames := 0, cells := 0, slots := 0, locals := 0 }) (va_Pc [.ref av0, .int (-1), .int p1] (wpre dC dI cy sz [(av0, .inr (12, [.ref (ad 0), .int 0, .int 0, .ref (ad 1), .ref (ad 2), .ref (ad 3), .ref (ad 4), .int 0, .int 0, .int 0, .int 0, .ref (ad 5), .ref (ad 6), .ref (ad 7), .int 0, .int 0, .int 0, .int 0, .int 0, .int 0, .int 0, .ref (ad 8), .int 0, .ref (ad 9), .int 0, .ref (ad 10), .ref (ad 11), .int 1, .ref (ad 12), .ref (ad 13), .int 0, .int 0, .ref (ad 14), .ref (ad 15), .ref (ad 16), .ref (ad 17), .ref (ad 18), .int 0, .ref (ad 19), .long 0, .ref (ad 20), .ref (ad 21)])), ((ad 11), .inl (cy 0, 296, .inl (fun _ => 0)))])) (va_Qi (fun (r : Int32) (_ : ((Nat → Nat) × (Nat → Nat → Int32))) => r = 0) (fun u => wpost dC dI cy (va_A [(av0, .inr (12, [.ref (ad 0), .int 0, .int 0, .ref (ad 1), .ref (ad 2), .ref (ad 3), .ref (ad 4), .int 0, .int 0, .int 0, .int 0, .ref (ad 5), .ref (ad 6), .ref (ad 7), .int 0, .int 0, .int 0, .int 0, .int 0, .int 0, .int 0, .ref (ad 8), .int 0, .ref (ad 9), .int 0, .ref (ad 10), .ref (ad 11), .int 1, .ref (ad 12), .ref (ad 13), .int 0, .int 0, .ref (ad 14), .ref (ad 15), .ref (ad 16), .ref (ad 17), .ref (ad 18), .int 0, .ref (ad 19), .long 0, .ref (ad 20), .ref (ad 21)])), ((ad 11), .inl (cy 0, 296, .inl (fun _ => 0)))] sz) [(av0, .inr (12, [.ref (ad 0), .int 0, .int 0, .ref (ad 1), .ref (ad 2), .ref (ad 3), .ref (ad 4), .int 0, .int 0, .int 0, .int 0, .ref (ad 5), .ref (ad 6), .ref (ad 7), .int 0, .int 0, .int 0, .int 0, .int 0, .int 0, .int 0, .ref (ad 8), .int 0, .ref (ad 9), .int 0, .ref (ad 10), .ref (ad 11), .int 1, .ref (ad 12), .ref (ad 13), .int 0, .int 0, .ref (ad 14), .ref (ad 15), .ref (ad 16), .ref (ad 17), .ref (ad 18), .int 0, .ref (ad 19), .long 0, .ref (ad 20), .ref (ad 21)])), ((ad 11), .inl (cy 0, 296, .inl (u.2 0)))]) (va_A [(av0, .inr (12, [.ref (ad 0), .int 0, .int 0, .ref (ad 1), .ref (ad 2), .ref (ad 3), .ref (ad 4), .int 0, .int 0, .int 0, .int 0, .ref (ad 5), .ref (ad 6), .ref (ad 7), .int 0, .int 0, .int 0, .int 0, .int 0, .int 0, .int 0, .ref (ad 8), .int 0, .ref (ad 9), .int 0, .ref (ad 10), .ref (ad 11), .int 1, .ref (ad 12), .ref (ad 13), .int 0, .int 0, .ref (ad 14), .ref (ad 15), .ref (ad 16), .ref (ad 17), .ref (ad 18), .int 0, .ref (ad 19), .long 0, .ref (ad 20), .ref (ad 21)])), ((ad 11), .inl (cy 0, 296, .inl (fun _ => 0)))] sz)) 0 0 (va_A [(av0, .inr (12, [.ref (ad 0), .int 0, .int 0, .ref (ad 1), .ref (ad 2), .ref (ad 3), .ref (ad 4), .int 0, .int 0, .int 0, .int 0, .ref (ad 5), .ref (ad 6), .ref (ad 7), .int 0, .int 0, .int 0, .int 0, .int 0, .int 0, .int 0, .ref (ad 8), .int 0, .ref (ad 9), .int 0, .ref (ad 10), .ref (ad 11), .int 1, .ref (ad 12), .ref (ad 13), .int 0, .int 0, .ref (ad 14), .ref (ad 15), .ref (ad 16), .ref (ad 17), .ref (ad 18), .int 0, .ref (ad 19), .long 0, .ref (ad 20), .ref (ad 21)])), ((ad 11), .inl (cy 0, 296, .inl (fun _ => 0)))] sz) := by
  refine Met.ofW (cc := cX12_sight) (maxL := 3) (ret := (some .int)) (by decide) rfl ?_
  intro p e s m args below meth c s₁ B hml hv
  obtain ⟨rfl, hsz, hP, hK, hD0⟩ := hv
  have hx := B.exec
  have hb := B.bytes
  have hr := B.returns
  have hlocks := B.notSynchronized
  have hC : CallFix p m c cX12_sight 3 s _ wsX12_sight RX12 := ⟨hx, hb, hml, findClass_of_methodNamed B.named, atoms_spec (ws := wsX12_sight) B.pre⟩
  subst hsz
  have hD := hD0.self (sz := s.heap.size)
  generalize hAe : va_A [(av0, .inr (12, [.ref (ad 0), .int 0, .int 0, .ref (ad 1), .ref (ad 2), .ref (ad 3), .ref (ad 4), .int 0, .int 0, .int 0, .int 0, .ref (ad 5), .ref (ad 6), .ref (ad 7), .int 0, .int 0, .int 0, .int 0, .int 0, .int 0, .int 0, .ref (ad 8), .int 0, .ref (ad 9), .int 0, .ref (ad 10), .ref (ad 11), .int 1, .ref (ad 12), .ref (ad 13), .int 0, .int 0, .ref (ad 14), .ref (ad 15), .ref (ad 16), .ref (ad 17), .ref (ad 18), .int 0, .ref (ad 19), .long 0, .ref (ad 20), .ref (ad 21)])), ((ad 11), .inl (cy 0, 296, .inl (fun _ => 0)))] s.heap.size = A at hD ⊢
  have hA : ∀ q : Nat, s.heap.size ≤ q → A q := fun q h => by rw [← hAe]; exact Or.inr h
  have hw : Wd dC dI A s.heap s.heap [] [(av0, .inr (12, [.ref (ad 0), .int 0, .int 0, .ref (ad 1), .ref (ad 2), .ref (ad 3), .ref (ad 4), .int 0, .int 0, .int 0, .int 0, .ref (ad 5), .ref (ad 6), .ref (ad 7), .int 0, .int 0, .int 0, .int 0, .int 0, .int 0, .int 0, .ref (ad 8), .int 0, .ref (ad 9), .int 0, .ref (ad 10), .ref (ad 11), .int 1, .ref (ad 12), .ref (ad 13), .int 0, .int 0, .ref (ad 14), .ref (ad 15), .ref (ad 16), .ref (ad 17), .ref (ad 18), .int 0, .ref (ad 19), .long 0, .ref (ad 20), .ref (ad 21)])), ((ad 11), .inl (cy 0, 296, .inl (fun _ => 0)))] := ⟨hP, hD, va_S.rf⟩
  have hl := lv_entry ([.ref av0, .int (-1), .int p1]) (n := 3) (Nat.le_of_ble_eq_true rfl)
  rw [lg_entry_eq]
  generalize (lg_sl ([.ref av0, .int (-1), .int p1]) ++ List.replicate (3 - (lg_sl ([.ref av0, .int (-1), .int p1])).length) Slot.unset).toArray = ls at hl ⊢
  have hl : lv_has ls 3 [(0, .ref av0), (1, .int (-1)), (2, .int p1)] := hl
  have hinX12 : ∀ w ∈ u_ws RX12 TX12 42, w ∈ wsX12_sight := fun _ h => List.mem_cons_of_mem _ (List.mem_append_right _ (h))
  refine lv_iload_n hx hb dX12_sight_0 rfl (lv_at hl 1 rfl) ?_
  refine lv_iconst (v := (-1)) hx hb dX12_sight_1 (by decide) ?_
  refine lv_icmp_ne (tgt := 15) hx hb dX12_sight_2 (by decide) (fun c => absurd c (by decide)) (fun _ => ?_)
  refine lv_aload_n hx hb dX12_sight_5 rfl (lv_at hl 0 rfl) ?_
  refine wk_get hC hK hw hinX12 0 rfl rfl 26 (by decide) (List.mem_of_getElem? (i := 1) rfl) rfl rfl dX12_sight_6 ?_
  refine lv_bipush (v := 7) hx hb dX12_sight_9 (by decide) ?_
  refine lv_iconst (v := 0) hx hb dX12_sight_11 (by decide) ?_
  refine wk_iast hC hK hw 1 rfl (show ¬ ((7 : Int32) < 0 ∨ 296 ≤ (7 : Int32).toNatClampNeg) by decide) dX12_sight_12 (fun H locs hw => ?_)
  obtain ⟨f1, hw⟩ : ∃ f1 : Nat → Int32, Wd dC dI A s.heap H locs [(av0, .inr (12, [.ref (ad 0), .int 0, .int 0, .ref (ad 1), .ref (ad 2), .ref (ad 3), .ref (ad 4), .int 0, .int 0, .int 0, .int 0, .ref (ad 5), .ref (ad 6), .ref (ad 7), .int 0, .int 0, .int 0, .int 0, .int 0, .int 0, .int 0, .ref (ad 8), .int 0, .ref (ad 9), .int 0, .ref (ad 10), .ref (ad 11), .int 1, .ref (ad 12), .ref (ad 13), .int 0, .int 0, .ref (ad 14), .ref (ad 15), .ref (ad 16), .ref (ad 17), .ref (ad 18), .int 0, .ref (ad 19), .long 0, .ref (ad 20), .ref (ad 21)])), ((ad 11), .inl (cy 0, 296, .inl f1))] := ⟨_, hw⟩
  refine lv_iconst (v := 0) hx hb dX12_sight_13 (by decide) ?_
  exact wk_iret (v := 0) hC hr hlocks hK ((fun _ => 0), (fun k => ([f1] : List (Nat → Int32)).getD k (fun _ => 0))) rfl [0, 1] rfl rfl hw dX12_sight_14

set_option maxHeartbeats 4000000 in
set_option maxRecDepth 100000 in
theorem t_X12_sight_2 (l : Launch) (dC : Nat → ClassId) (dI : Nat → Nat → Nat) (cy : Nat → ClassId) (av0 : Nat) (ad : Nat → Nat) (p0 : Int32) (p1 : Int32) (sz : Nat) (hp : 0 ≤ p0.toInt) : Met l yX12_sight wsX12_sight ({ frames := 1, cells := 0, slots := 0, locals := 21 }) (va_Pc [.ref av0, .int p0, .int p1] (wpre dC dI cy sz [(av0, .inr (12, [.ref (ad 0), .int 0, .int 0, .ref (ad 1), .ref (ad 2), .ref (ad 3), .ref (ad 4), .int 0, .int 0, .int 0, .int 0, .ref (ad 5), .ref (ad 6), .ref (ad 7), .int 0, .int 0, .int 0, .int 0, .int 0, .int 0, .int 0, .ref (ad 8), .int 0, .ref (ad 9), .int 0, .ref (ad 10), .ref (ad 11), .int 1, .ref (ad 12), .ref (ad 13), .int 0, .int 0, .ref (ad 14), .ref (ad 15), .ref (ad 16), .ref (ad 17), .ref (ad 18), .int 0, .ref (ad 19), .long 0, .ref (ad 20), .ref (ad 21)])), ((ad 11), .inl (cy 0, 296, .inl (fun _ => 0)))])) (va_Qi (fun (r : Int32) (_ : ((Nat → Nat) × (Nat → Nat → Int32))) => r = (-2)) (fun u => wpost dC dI cy (va_A [(av0, .inr (12, [.ref (ad 0), .int 0, .int 0, .ref (ad 1), .ref (ad 2), .ref (ad 3), .ref (ad 4), .int 0, .int 0, .int 0, .int 0, .ref (ad 5), .ref (ad 6), .ref (ad 7), .int 0, .int 0, .int 0, .int 0, .int 0, .int 0, .int 0, .ref (ad 8), .int 0, .ref (ad 9), .int 0, .ref (ad 10), .ref (ad 11), .int 1, .ref (ad 12), .ref (ad 13), .int 0, .int 0, .ref (ad 14), .ref (ad 15), .ref (ad 16), .ref (ad 17), .ref (ad 18), .int 0, .ref (ad 19), .long 0, .ref (ad 20), .ref (ad 21)])), ((ad 11), .inl (cy 0, 296, .inl (fun _ => 0)))] sz) [(av0, .inr (12, [.ref (ad 0), .int 0, .int 0, .ref (ad 1), .ref (ad 2), .ref (ad 3), .ref (ad 4), .int 0, .int 0, .int 0, .int 0, .ref (ad 5), .ref (ad 6), .ref (ad 7), .int 0, .int 0, .int 0, .int 0, .int 0, .int 0, .int 0, .ref (ad 8), .int 0, .ref (ad 9), .int 0, .ref (ad 10), .ref (ad 11), .int 1, .ref (ad 12), .ref (ad 13), .int 0, .int 0, .ref (ad 14), .ref (ad 15), .ref (ad 16), .ref (ad 17), .ref (ad 18), .int 0, .ref (ad 19), .long 0, .ref (ad 20), .ref (ad 21)])), ((ad 11), .inl (cy 0, 296, .inl (fun _ => 0)))]) (va_A [(av0, .inr (12, [.ref (ad 0), .int 0, .int 0, .ref (ad 1), .ref (ad 2), .ref (ad 3), .ref (ad 4), .int 0, .int 0, .int 0, .int 0, .ref (ad 5), .ref (ad 6), .ref (ad 7), .int 0, .int 0, .int 0, .int 0, .int 0, .int 0, .int 0, .ref (ad 8), .int 0, .ref (ad 9), .int 0, .ref (ad 10), .ref (ad 11), .int 1, .ref (ad 12), .ref (ad 13), .int 0, .int 0, .ref (ad 14), .ref (ad 15), .ref (ad 16), .ref (ad 17), .ref (ad 18), .int 0, .ref (ad 19), .long 0, .ref (ad 20), .ref (ad 21)])), ((ad 11), .inl (cy 0, 296, .inl (fun _ => 0)))] sz)) 0 0 (va_A [(av0, .inr (12, [.ref (ad 0), .int 0, .int 0, .ref (ad 1), .ref (ad 2), .ref (ad 3), .ref (ad 4), .int 0, .int 0, .int 0, .int 0, .ref (ad 5), .ref (ad 6), .ref (ad 7), .int 0, .int 0, .int 0, .int 0, .int 0, .int 0, .int 0, .ref (ad 8), .int 0, .ref (ad 9), .int 0, .ref (ad 10), .ref (ad 11), .int 1, .ref (ad 12), .ref (ad 13), .int 0, .int 0, .ref (ad 14), .ref (ad 15), .ref (ad 16), .ref (ad 17), .ref (ad 18), .int 0, .ref (ad 19), .long 0, .ref (ad 20), .ref (ad 21)])), ((ad 11), .inl (cy 0, 296, .inl (fun _ => 0)))] sz) := by
  refine Met.ofW (cc := cX12_sight) (maxL := 3) (ret := (some .int)) (by decide) rfl ?_
  intro p e s m args below meth c s₁ B hml hv
  obtain ⟨rfl, hsz, hP, hK, hD0⟩ := hv
  have hx := B.exec
  have hb := B.bytes
  have hr := B.returns
  have hlocks := B.notSynchronized
  have hC : CallFix p m c cX12_sight 3 s _ wsX12_sight RX12 := ⟨hx, hb, hml, findClass_of_methodNamed B.named, atoms_spec (ws := wsX12_sight) B.pre⟩
  subst hsz
  have hD := hD0.self (sz := s.heap.size)
  generalize hAe : va_A [(av0, .inr (12, [.ref (ad 0), .int 0, .int 0, .ref (ad 1), .ref (ad 2), .ref (ad 3), .ref (ad 4), .int 0, .int 0, .int 0, .int 0, .ref (ad 5), .ref (ad 6), .ref (ad 7), .int 0, .int 0, .int 0, .int 0, .int 0, .int 0, .int 0, .ref (ad 8), .int 0, .ref (ad 9), .int 0, .ref (ad 10), .ref (ad 11), .int 1, .ref (ad 12), .ref (ad 13), .int 0, .int 0, .ref (ad 14), .ref (ad 15), .ref (ad 16), .ref (ad 17), .ref (ad 18), .int 0, .ref (ad 19), .long 0, .ref (ad 20), .ref (ad 21)])), ((ad 11), .inl (cy 0, 296, .inl (fun _ => 0)))] s.heap.size = A at hD ⊢
  have hA : ∀ q : Nat, s.heap.size ≤ q → A q := fun q h => by rw [← hAe]; exact Or.inr h
  have hw : Wd dC dI A s.heap s.heap [] [(av0, .inr (12, [.ref (ad 0), .int 0, .int 0, .ref (ad 1), .ref (ad 2), .ref (ad 3), .ref (ad 4), .int 0, .int 0, .int 0, .int 0, .ref (ad 5), .ref (ad 6), .ref (ad 7), .int 0, .int 0, .int 0, .int 0, .int 0, .int 0, .int 0, .ref (ad 8), .int 0, .ref (ad 9), .int 0, .ref (ad 10), .ref (ad 11), .int 1, .ref (ad 12), .ref (ad 13), .int 0, .int 0, .ref (ad 14), .ref (ad 15), .ref (ad 16), .ref (ad 17), .ref (ad 18), .int 0, .ref (ad 19), .long 0, .ref (ad 20), .ref (ad 21)])), ((ad 11), .inl (cy 0, 296, .inl (fun _ => 0)))] := ⟨hP, hD, va_S.rf⟩
  have hl := lv_entry ([.ref av0, .int p0, .int p1]) (n := 3) (Nat.le_of_ble_eq_true rfl)
  rw [lg_entry_eq]
  generalize (lg_sl ([.ref av0, .int p0, .int p1]) ++ List.replicate (3 - (lg_sl ([.ref av0, .int p0, .int p1])).length) Slot.unset).toArray = ls at hl ⊢
  have hl : lv_has ls 3 [(0, .ref av0), (1, .int p0), (2, .int p1)] := hl
  refine lv_iload_n hx hb dX12_sight_0 rfl (lv_at hl 1 rfl) ?_
  refine lv_iconst (v := (-1)) hx hb dX12_sight_1 (by decide) ?_
  refine lv_icmp_ne (tgt := 15) hx hb dX12_sight_2 (by decide) (fun _ => ?_) (fun c => absurd (fun h => absurd (show p0.toInt = (-1 : Int) from wk_eq.mp h) (by omega)) c)
  refine lv_aload_n hx hb dX12_sight_15 rfl (lv_at hl 0 rfl) ?_
  refine lv_iload_n hx hb dX12_sight_16 rfl (lv_at hl 1 rfl) ?_
  refine wk_Vi hC hK hw hA [0, 1] [] rfl rfl rfl rfl (by decide) (c_X12_isStreet_1 l dC dI cy av0 p0 (ad 0) (ad 1) (ad 2) (ad 3) (ad 4) (ad 5) (ad 6) (ad 7) (ad 8) (ad 9) (ad 10) (ad 11) (ad 12) (ad 13) (ad 14) (ad 15) (ad 16) (ad 17) (ad 18) (ad 19) (ad 20) (ad 21) s.heap.size ) (cwV 1 hC.2.2.2.2 gX12_sight_X12_isStreet rfl rfl rfl (by decide +kernel) ⟨Nat.le_of_ble_eq_true rfl, Nat.le_of_ble_eq_true rfl⟩) rfl 0 rfl rfl hl.1 rfl (Nat.le_of_ble_eq_true rfl) dX12_sight_17 0 0 ⟨rfl, rfl⟩ ⟨Nat.le_of_ble_eq_true rfl, Nat.le_of_ble_eq_true rfl⟩ (fun r2 u1 H locs p3 hw => ?_)
  have hw : Wd dC dI A s.heap H locs [(av0, .inr (12, [.ref (ad 0), .int 0, .int 0, .ref (ad 1), .ref (ad 2), .ref (ad 3), .ref (ad 4), .int 0, .int 0, .int 0, .int 0, .ref (ad 5), .ref (ad 6), .ref (ad 7), .int 0, .int 0, .int 0, .int 0, .int 0, .int 0, .int 0, .ref (ad 8), .int 0, .ref (ad 9), .int 0, .ref (ad 10), .ref (ad 11), .int 1, .ref (ad 12), .ref (ad 13), .int 0, .int 0, .ref (ad 14), .ref (ad 15), .ref (ad 16), .ref (ad 17), .ref (ad 18), .int 0, .ref (ad 19), .long 0, .ref (ad 20), .ref (ad 21)])), ((ad 11), .inl (cy 0, 296, .inl (fun _ => 0)))] := hw
  obtain rfl : r2 = 0 := p3
  refine lv_if_eq (tgt := 47) hx hb dX12_sight_20 (by decide) (fun _ => ?_) (fun c => absurd (by decide) c)
  refine lv_bipush (v := (-2)) hx hb dX12_sight_47 (by decide) ?_
  exact wk_iret (v := (-2)) hC hr hlocks hK ((fun _ => 0), (fun _ _ => 0)) rfl [0, 1] rfl rfl hw dX12_sight_49

set_option maxHeartbeats 4000000 in
set_option maxRecDepth 100000 in
theorem t_X12_weekdays (l : Launch) (dC : Nat → ClassId) (dI : Nat → Nat → Nat) (cy : Nat → ClassId) (av0 : Nat) (ad : Nat → Nat) (p0 : Int32) (sz : Nat)  : Met l yX12_weekdays wsX12_weekdays ({ frames := 1, cells := 0, slots := 0, locals := 20 }) (va_Pc [.ref av0, .int p0] (wpre dC dI cy sz [(av0, .inr (12, [.ref (ad 0), .int 0, .int 0, .ref (ad 1), .ref (ad 2), .ref (ad 3), .ref (ad 4), .int 0, .int 0, .int 0, .int 0, .ref (ad 5), .ref (ad 6), .ref (ad 7), .int 0, .int 0, .int 0, .int 0, .int 0, .int 0, .int 0, .ref (ad 8), .int 0, .ref (ad 9), .int 0, .ref (ad 10), .ref (ad 11), .int 1, .ref (ad 12), .ref (ad 13), .int 0, .int 0, .ref (ad 14), .ref (ad 15), .ref (ad 16), .ref (ad 17), .ref (ad 18), .int 0, .ref (ad 19), .long 0, .ref (ad 20), .ref (ad 21)])), ((ad 11), .inl (cy 0, 296, .inl (fun _ => 0)))])) (va_Qi (fun (r : Int32) (_ : ((Nat → Nat) × (Nat → Nat → Int32))) => r = (-1)) (fun u => wpost dC dI cy (va_A [(av0, .inr (12, [.ref (ad 0), .int 0, .int 0, .ref (ad 1), .ref (ad 2), .ref (ad 3), .ref (ad 4), .int 0, .int 0, .int 0, .int 0, .ref (ad 5), .ref (ad 6), .ref (ad 7), .int 0, .int 0, .int 0, .int 0, .int 0, .int 0, .int 0, .ref (ad 8), .int 0, .ref (ad 9), .int 0, .ref (ad 10), .ref (ad 11), .int 1, .ref (ad 12), .ref (ad 13), .int 0, .int 0, .ref (ad 14), .ref (ad 15), .ref (ad 16), .ref (ad 17), .ref (ad 18), .int 0, .ref (ad 19), .long 0, .ref (ad 20), .ref (ad 21)])), ((ad 11), .inl (cy 0, 296, .inl (fun _ => 0)))] sz) [(av0, .inr (12, [.ref (ad 0), .int 0, .int 0, .ref (ad 1), .ref (ad 2), .ref (ad 3), .ref (ad 4), .int 0, .int 0, .int 0, .int 0, .ref (ad 5), .ref (ad 6), .ref (ad 7), .int 0, .int 0, .int 0, .int 0, .int 0, .int 0, .int 0, .ref (ad 8), .int 0, .ref (ad 9), .int 0, .ref (ad 10), .ref (ad 11), .int 1, .ref (ad 12), .ref (ad 13), .int 0, .int 0, .ref (ad 14), .ref (ad 15), .ref (ad 16), .ref (ad 17), .ref (ad 18), .int 0, .ref (ad 19), .long 0, .ref (ad 20), .ref (ad 21)])), ((ad 11), .inl (cy 0, 296, .inl (fun _ => 0)))]) (va_A [(av0, .inr (12, [.ref (ad 0), .int 0, .int 0, .ref (ad 1), .ref (ad 2), .ref (ad 3), .ref (ad 4), .int 0, .int 0, .int 0, .int 0, .ref (ad 5), .ref (ad 6), .ref (ad 7), .int 0, .int 0, .int 0, .int 0, .int 0, .int 0, .int 0, .ref (ad 8), .int 0, .ref (ad 9), .int 0, .ref (ad 10), .ref (ad 11), .int 1, .ref (ad 12), .ref (ad 13), .int 0, .int 0, .ref (ad 14), .ref (ad 15), .ref (ad 16), .ref (ad 17), .ref (ad 18), .int 0, .ref (ad 19), .long 0, .ref (ad 20), .ref (ad 21)])), ((ad 11), .inl (cy 0, 296, .inl (fun _ => 0)))] sz)) 0 0 (va_A [(av0, .inr (12, [.ref (ad 0), .int 0, .int 0, .ref (ad 1), .ref (ad 2), .ref (ad 3), .ref (ad 4), .int 0, .int 0, .int 0, .int 0, .ref (ad 5), .ref (ad 6), .ref (ad 7), .int 0, .int 0, .int 0, .int 0, .int 0, .int 0, .int 0, .ref (ad 8), .int 0, .ref (ad 9), .int 0, .ref (ad 10), .ref (ad 11), .int 1, .ref (ad 12), .ref (ad 13), .int 0, .int 0, .ref (ad 14), .ref (ad 15), .ref (ad 16), .ref (ad 17), .ref (ad 18), .int 0, .ref (ad 19), .long 0, .ref (ad 20), .ref (ad 21)])), ((ad 11), .inl (cy 0, 296, .inl (fun _ => 0)))] sz) := by
  refine Met.ofW (cc := cX12_weekdays) (maxL := 5) (ret := (some .int)) (by decide) rfl ?_
  intro p e s m args below meth c s₁ B hml hv
  obtain ⟨rfl, hsz, hP, hK, hD0⟩ := hv
  have hx := B.exec
  have hb := B.bytes
  have hr := B.returns
  have hlocks := B.notSynchronized
  have hC : CallFix p m c cX12_weekdays 5 s _ wsX12_weekdays RX12 := ⟨hx, hb, hml, findClass_of_methodNamed B.named, atoms_spec (ws := wsX12_weekdays) B.pre⟩
  subst hsz
  have hD := hD0.self (sz := s.heap.size)
  generalize hAe : va_A [(av0, .inr (12, [.ref (ad 0), .int 0, .int 0, .ref (ad 1), .ref (ad 2), .ref (ad 3), .ref (ad 4), .int 0, .int 0, .int 0, .int 0, .ref (ad 5), .ref (ad 6), .ref (ad 7), .int 0, .int 0, .int 0, .int 0, .int 0, .int 0, .int 0, .ref (ad 8), .int 0, .ref (ad 9), .int 0, .ref (ad 10), .ref (ad 11), .int 1, .ref (ad 12), .ref (ad 13), .int 0, .int 0, .ref (ad 14), .ref (ad 15), .ref (ad 16), .ref (ad 17), .ref (ad 18), .int 0, .ref (ad 19), .long 0, .ref (ad 20), .ref (ad 21)])), ((ad 11), .inl (cy 0, 296, .inl (fun _ => 0)))] s.heap.size = A at hD ⊢
  have hA : ∀ q : Nat, s.heap.size ≤ q → A q := fun q h => by rw [← hAe]; exact Or.inr h
  have hw : Wd dC dI A s.heap s.heap [] [(av0, .inr (12, [.ref (ad 0), .int 0, .int 0, .ref (ad 1), .ref (ad 2), .ref (ad 3), .ref (ad 4), .int 0, .int 0, .int 0, .int 0, .ref (ad 5), .ref (ad 6), .ref (ad 7), .int 0, .int 0, .int 0, .int 0, .int 0, .int 0, .int 0, .ref (ad 8), .int 0, .ref (ad 9), .int 0, .ref (ad 10), .ref (ad 11), .int 1, .ref (ad 12), .ref (ad 13), .int 0, .int 0, .ref (ad 14), .ref (ad 15), .ref (ad 16), .ref (ad 17), .ref (ad 18), .int 0, .ref (ad 19), .long 0, .ref (ad 20), .ref (ad 21)])), ((ad 11), .inl (cy 0, 296, .inl (fun _ => 0)))] := ⟨hP, hD, va_S.rf⟩
  have hl := lv_entry ([.ref av0, .int p0]) (n := 5) (Nat.le_of_ble_eq_true rfl)
  rw [lg_entry_eq]
  generalize (lg_sl ([.ref av0, .int p0]) ++ List.replicate (5 - (lg_sl ([.ref av0, .int p0])).length) Slot.unset).toArray = ls at hl ⊢
  have hl : lv_has ls 5 [(0, .ref av0), (1, .int p0)] := hl
  refine lv_aload_n hx hb dX12_weekdays_0 rfl (lv_at hl 0 rfl) ?_
  refine wk_Vi hC hK hw hA [0, 1] [] rfl rfl rfl rfl (by decide) (c_X12_isTown_1 l dC dI cy av0 (ad 0) (ad 1) (ad 2) (ad 3) (ad 4) (ad 5) (ad 6) (ad 7) (ad 8) (ad 9) (ad 10) (ad 11) (ad 12) (ad 13) (ad 14) (ad 15) (ad 16) (ad 17) (ad 18) (ad 19) (ad 20) (ad 21) s.heap.size ) (cwV 0 hC.2.2.2.2 gX12_weekdays_X12_isTown rfl rfl rfl (by decide +kernel) ⟨Nat.le_of_ble_eq_true rfl, Nat.le_of_ble_eq_true rfl⟩) rfl 0 rfl rfl hl.1 rfl (Nat.le_of_ble_eq_true rfl) dX12_weekdays_1 0 0 ⟨rfl, rfl⟩ ⟨Nat.le_of_ble_eq_true rfl, Nat.le_of_ble_eq_true rfl⟩ (fun r2 u1 H locs p3 hw => ?_)
  have hw : Wd dC dI A s.heap H locs [(av0, .inr (12, [.ref (ad 0), .int 0, .int 0, .ref (ad 1), .ref (ad 2), .ref (ad 3), .ref (ad 4), .int 0, .int 0, .int 0, .int 0, .ref (ad 5), .ref (ad 6), .ref (ad 7), .int 0, .int 0, .int 0, .int 0, .int 0, .int 0, .int 0, .ref (ad 8), .int 0, .ref (ad 9), .int 0, .ref (ad 10), .ref (ad 11), .int 1, .ref (ad 12), .ref (ad 13), .int 0, .int 0, .ref (ad 14), .ref (ad 15), .ref (ad 16), .ref (ad 17), .ref (ad 18), .int 0, .ref (ad 19), .long 0, .ref (ad 20), .ref (ad 21)])), ((ad 11), .inl (cy 0, 296, .inl (fun _ => 0)))] := hw
  obtain rfl : r2 = 0 := p3
  refine lv_if_eq (tgt := 17) hx hb dX12_weekdays_4 (by decide) (fun _ => ?_) (fun c => absurd (by decide) c)
  refine lv_iconst (v := (-1)) hx hb dX12_weekdays_17 (by decide) ?_
  exact wk_iret (v := (-1)) hC hr hlocks hK ((fun _ => 0), (fun _ _ => 0)) rfl [0, 1] rfl rfl hw dX12_weekdays_18

set_option maxHeartbeats 4000000 in
set_option maxRecDepth 100000 in
theorem t_X12_came_0 (l : Launch) (dC : Nat → ClassId) (dI : Nat → Nat → Nat) (cy : Nat → ClassId) (av0 : Nat) (ad : Nat → Nat) (p0 : Int32) (sz : Nat) (hp : p0.toInt ≤ -2) : Met l yX12_came wsX12_came ({ frames := 1, cells := 0, slots := 0, locals := 21 }) (va_Pc [.ref av0, .int p0] (wpre dC dI cy sz [(av0, .inr (12, [.ref (ad 0), .int 0, .int 0, .ref (ad 1), .ref (ad 2), .ref (ad 3), .ref (ad 4), .int 0, .int 0, .int 0, .int 0, .ref (ad 5), .ref (ad 6), .ref (ad 7), .int 0, .int 0, .int 0, .int 0, .int 0, .int 0, .int 0, .ref (ad 8), .int 0, .ref (ad 9), .int 0, .ref (ad 10), .ref (ad 11), .int 1, .ref (ad 12), .ref (ad 13), .int 0, .int 0, .ref (ad 14), .ref (ad 15), .ref (ad 16), .ref (ad 17), .ref (ad 18), .int 0, .ref (ad 19), .long 0, .ref (ad 20), .ref (ad 21)])), ((ad 11), .inl (cy 0, 296, .inl (fun _ => 0)))])) (va_Qi (fun (r : Int32) (_ : ((Nat → Nat) × (Nat → Nat → Int32))) => r = (-2)) (fun u => wpost dC dI cy (va_A [(av0, .inr (12, [.ref (ad 0), .int 0, .int 0, .ref (ad 1), .ref (ad 2), .ref (ad 3), .ref (ad 4), .int 0, .int 0, .int 0, .int 0, .ref (ad 5), .ref (ad 6), .ref (ad 7), .int 0, .int 0, .int 0, .int 0, .int 0, .int 0, .int 0, .ref (ad 8), .int 0, .ref (ad 9), .int 0, .ref (ad 10), .ref (ad 11), .int 1, .ref (ad 12), .ref (ad 13), .int 0, .int 0, .ref (ad 14), .ref (ad 15), .ref (ad 16), .ref (ad 17), .ref (ad 18), .int 0, .ref (ad 19), .long 0, .ref (ad 20), .ref (ad 21)])), ((ad 11), .inl (cy 0, 296, .inl (fun _ => 0)))] sz) [(av0, .inr (12, [.ref (ad 0), .int 0, .int 0, .ref (ad 1), .ref (ad 2), .ref (ad 3), .ref (ad 4), .int 0, .int 0, .int 0, .int 0, .ref (ad 5), .ref (ad 6), .ref (ad 7), .int 0, .int 0, .int 0, .int 0, .int 0, .int 0, .int 0, .ref (ad 8), .int 0, .ref (ad 9), .int 0, .ref (ad 10), .ref (ad 11), .int 1, .ref (ad 12), .ref (ad 13), .int 0, .int 0, .ref (ad 14), .ref (ad 15), .ref (ad 16), .ref (ad 17), .ref (ad 18), .int 0, .ref (ad 19), .long 0, .ref (ad 20), .ref (ad 21)])), ((ad 11), .inl (cy 0, 296, .inl (fun _ => 0)))]) (va_A [(av0, .inr (12, [.ref (ad 0), .int 0, .int 0, .ref (ad 1), .ref (ad 2), .ref (ad 3), .ref (ad 4), .int 0, .int 0, .int 0, .int 0, .ref (ad 5), .ref (ad 6), .ref (ad 7), .int 0, .int 0, .int 0, .int 0, .int 0, .int 0, .int 0, .ref (ad 8), .int 0, .ref (ad 9), .int 0, .ref (ad 10), .ref (ad 11), .int 1, .ref (ad 12), .ref (ad 13), .int 0, .int 0, .ref (ad 14), .ref (ad 15), .ref (ad 16), .ref (ad 17), .ref (ad 18), .int 0, .ref (ad 19), .long 0, .ref (ad 20), .ref (ad 21)])), ((ad 11), .inl (cy 0, 296, .inl (fun _ => 0)))] sz)) 0 0 (va_A [(av0, .inr (12, [.ref (ad 0), .int 0, .int 0, .ref (ad 1), .ref (ad 2), .ref (ad 3), .ref (ad 4), .int 0, .int 0, .int 0, .int 0, .ref (ad 5), .ref (ad 6), .ref (ad 7), .int 0, .int 0, .int 0, .int 0, .int 0, .int 0, .int 0, .ref (ad 8), .int 0, .ref (ad 9), .int 0, .ref (ad 10), .ref (ad 11), .int 1, .ref (ad 12), .ref (ad 13), .int 0, .int 0, .ref (ad 14), .ref (ad 15), .ref (ad 16), .ref (ad 17), .ref (ad 18), .int 0, .ref (ad 19), .long 0, .ref (ad 20), .ref (ad 21)])), ((ad 11), .inl (cy 0, 296, .inl (fun _ => 0)))] sz) := by
  refine Met.ofW (cc := cX12_came) (maxL := 2) (ret := (some .int)) (by decide) rfl ?_
  intro p e s m args below meth c s₁ B hml hv
  obtain ⟨rfl, hsz, hP, hK, hD0⟩ := hv
  have hx := B.exec
  have hb := B.bytes
  have hr := B.returns
  have hlocks := B.notSynchronized
  have hC : CallFix p m c cX12_came 2 s _ wsX12_came RX12 := ⟨hx, hb, hml, findClass_of_methodNamed B.named, atoms_spec (ws := wsX12_came) B.pre⟩
  subst hsz
  have hD := hD0.self (sz := s.heap.size)
  generalize hAe : va_A [(av0, .inr (12, [.ref (ad 0), .int 0, .int 0, .ref (ad 1), .ref (ad 2), .ref (ad 3), .ref (ad 4), .int 0, .int 0, .int 0, .int 0, .ref (ad 5), .ref (ad 6), .ref (ad 7), .int 0, .int 0, .int 0, .int 0, .int 0, .int 0, .int 0, .ref (ad 8), .int 0, .ref (ad 9), .int 0, .ref (ad 10), .ref (ad 11), .int 1, .ref (ad 12), .ref (ad 13), .int 0, .int 0, .ref (ad 14), .ref (ad 15), .ref (ad 16), .ref (ad 17), .ref (ad 18), .int 0, .ref (ad 19), .long 0, .ref (ad 20), .ref (ad 21)])), ((ad 11), .inl (cy 0, 296, .inl (fun _ => 0)))] s.heap.size = A at hD ⊢
  have hA : ∀ q : Nat, s.heap.size ≤ q → A q := fun q h => by rw [← hAe]; exact Or.inr h
  have hw : Wd dC dI A s.heap s.heap [] [(av0, .inr (12, [.ref (ad 0), .int 0, .int 0, .ref (ad 1), .ref (ad 2), .ref (ad 3), .ref (ad 4), .int 0, .int 0, .int 0, .int 0, .ref (ad 5), .ref (ad 6), .ref (ad 7), .int 0, .int 0, .int 0, .int 0, .int 0, .int 0, .int 0, .ref (ad 8), .int 0, .ref (ad 9), .int 0, .ref (ad 10), .ref (ad 11), .int 1, .ref (ad 12), .ref (ad 13), .int 0, .int 0, .ref (ad 14), .ref (ad 15), .ref (ad 16), .ref (ad 17), .ref (ad 18), .int 0, .ref (ad 19), .long 0, .ref (ad 20), .ref (ad 21)])), ((ad 11), .inl (cy 0, 296, .inl (fun _ => 0)))] := ⟨hP, hD, va_S.rf⟩
  have hl := lv_entry ([.ref av0, .int p0]) (n := 2) (Nat.le_of_ble_eq_true rfl)
  rw [lg_entry_eq]
  generalize (lg_sl ([.ref av0, .int p0]) ++ List.replicate (2 - (lg_sl ([.ref av0, .int p0])).length) Slot.unset).toArray = ls at hl ⊢
  have hl : lv_has ls 2 [(0, .ref av0), (1, .int p0)] := hl
  refine lv_iload_n hx hb dX12_came_0 rfl (lv_at hl 1 rfl) ?_
  refine lv_iconst (v := (-1)) hx hb dX12_came_1 (by decide) ?_
  refine lv_icmp_ne (tgt := 15) hx hb dX12_came_2 (by decide) (fun _ => ?_) (fun c => absurd (fun h => absurd (show p0.toInt = (-1 : Int) from wk_eq.mp h) (by omega)) c)
  refine lv_aload_n hx hb dX12_came_15 rfl (lv_at hl 0 rfl) ?_
  refine lv_iload_n hx hb dX12_came_16 rfl (lv_at hl 1 rfl) ?_
  refine wk_Vi hC hK hw hA [0, 1] [] rfl rfl rfl rfl (by decide) (c_X12_isCorner_1 l dC dI cy av0 p0 (ad 0) (ad 1) (ad 2) (ad 3) (ad 4) (ad 5) (ad 6) (ad 7) (ad 8) (ad 9) (ad 10) (ad 11) (ad 12) (ad 13) (ad 14) (ad 15) (ad 16) (ad 17) (ad 18) (ad 19) (ad 20) (ad 21) s.heap.size ) (cwV 1 hC.2.2.2.2 gX12_came_X12_isCorner rfl rfl rfl (by decide +kernel) ⟨Nat.le_of_ble_eq_true rfl, Nat.le_of_ble_eq_true rfl⟩) rfl 0 rfl rfl hl.1 rfl (Nat.le_of_ble_eq_true rfl) dX12_came_17 0 0 ⟨rfl, rfl⟩ ⟨Nat.le_of_ble_eq_true rfl, Nat.le_of_ble_eq_true rfl⟩ (fun r2 u1 H locs p3 hw => ?_)
  have hw : Wd dC dI A s.heap H locs [(av0, .inr (12, [.ref (ad 0), .int 0, .int 0, .ref (ad 1), .ref (ad 2), .ref (ad 3), .ref (ad 4), .int 0, .int 0, .int 0, .int 0, .ref (ad 5), .ref (ad 6), .ref (ad 7), .int 0, .int 0, .int 0, .int 0, .int 0, .int 0, .int 0, .ref (ad 8), .int 0, .ref (ad 9), .int 0, .ref (ad 10), .ref (ad 11), .int 1, .ref (ad 12), .ref (ad 13), .int 0, .int 0, .ref (ad 14), .ref (ad 15), .ref (ad 16), .ref (ad 17), .ref (ad 18), .int 0, .ref (ad 19), .long 0, .ref (ad 20), .ref (ad 21)])), ((ad 11), .inl (cy 0, 296, .inl (fun _ => 0)))] := hw
  obtain rfl : r2 = 0 := p3
  refine lv_if_eq (tgt := 35) hx hb dX12_came_20 (by decide) (fun _ => ?_) (fun c => absurd (by decide) c)
  refine lv_bipush (v := (-2)) hx hb dX12_came_35 (by decide) ?_
  exact wk_iret (v := (-2)) hC hr hlocks hK ((fun _ => 0), (fun _ _ => 0)) rfl [0, 1] rfl rfl hw dX12_came_37

set_option maxHeartbeats 4000000 in
set_option maxRecDepth 100000 in
theorem t_X12_came_1 (l : Launch) (dC : Nat → ClassId) (dI : Nat → Nat → Nat) (cy : Nat → ClassId) (av0 : Nat) (ad : Nat → Nat) (sz : Nat)  : Met l yX12_came wsX12_came ({ frames := 0, cells := 0, slots := 0, locals := 0 }) (va_Pc [.ref av0, .int (-1)] (wpre dC dI cy sz [(av0, .inr (12, [.ref (ad 0), .int 0, .int 0, .ref (ad 1), .ref (ad 2), .ref (ad 3), .ref (ad 4), .int 0, .int 0, .int 0, .int 0, .ref (ad 5), .ref (ad 6), .ref (ad 7), .int 0, .int 0, .int 0, .int 0, .int 0, .int 0, .int 0, .ref (ad 8), .int 0, .ref (ad 9), .int 0, .ref (ad 10), .ref (ad 11), .int 1, .ref (ad 12), .ref (ad 13), .int 0, .int 0, .ref (ad 14), .ref (ad 15), .ref (ad 16), .ref (ad 17), .ref (ad 18), .int 0, .ref (ad 19), .long 0, .ref (ad 20), .ref (ad 21)])), ((ad 11), .inl (cy 0, 296, .inl (fun _ => 0)))])) (va_Qi (fun (r : Int32) (_ : ((Nat → Nat) × (Nat → Nat → Int32))) => r = 0) (fun u => wpost dC dI cy (va_A [(av0, .inr (12, [.ref (ad 0), .int 0, .int 0, .ref (ad 1), .ref (ad 2), .ref (ad 3), .ref (ad 4), .int 0, .int 0, .int 0, .int 0, .ref (ad 5), .ref (ad 6), .ref (ad 7), .int 0, .int 0, .int 0, .int 0, .int 0, .int 0, .int 0, .ref (ad 8), .int 0, .ref (ad 9), .int 0, .ref (ad 10), .ref (ad 11), .int 1, .ref (ad 12), .ref (ad 13), .int 0, .int 0, .ref (ad 14), .ref (ad 15), .ref (ad 16), .ref (ad 17), .ref (ad 18), .int 0, .ref (ad 19), .long 0, .ref (ad 20), .ref (ad 21)])), ((ad 11), .inl (cy 0, 296, .inl (fun _ => 0)))] sz) [(av0, .inr (12, [.ref (ad 0), .int 0, .int 0, .ref (ad 1), .ref (ad 2), .ref (ad 3), .ref (ad 4), .int 0, .int 0, .int 0, .int 0, .ref (ad 5), .ref (ad 6), .ref (ad 7), .int 0, .int 0, .int 0, .int 0, .int 0, .int 0, .int 0, .ref (ad 8), .int 0, .ref (ad 9), .int 0, .ref (ad 10), .ref (ad 11), .int 1, .ref (ad 12), .ref (ad 13), .int 0, .int 0, .ref (ad 14), .ref (ad 15), .ref (ad 16), .ref (ad 17), .ref (ad 18), .int 0, .ref (ad 19), .long 0, .ref (ad 20), .ref (ad 21)])), ((ad 11), .inl (cy 0, 296, .inl (u.2 0)))]) (va_A [(av0, .inr (12, [.ref (ad 0), .int 0, .int 0, .ref (ad 1), .ref (ad 2), .ref (ad 3), .ref (ad 4), .int 0, .int 0, .int 0, .int 0, .ref (ad 5), .ref (ad 6), .ref (ad 7), .int 0, .int 0, .int 0, .int 0, .int 0, .int 0, .int 0, .ref (ad 8), .int 0, .ref (ad 9), .int 0, .ref (ad 10), .ref (ad 11), .int 1, .ref (ad 12), .ref (ad 13), .int 0, .int 0, .ref (ad 14), .ref (ad 15), .ref (ad 16), .ref (ad 17), .ref (ad 18), .int 0, .ref (ad 19), .long 0, .ref (ad 20), .ref (ad 21)])), ((ad 11), .inl (cy 0, 296, .inl (fun _ => 0)))] sz)) 0 0 (va_A [(av0, .inr (12, [.ref (ad 0), .int 0, .int 0, .ref (ad 1), .ref (ad 2), .ref (ad 3), .ref (ad 4), .int 0, .int 0, .int 0, .int 0, .ref (ad 5), .ref (ad 6), .ref (ad 7), .int 0, .int 0, .int 0, .int 0, .int 0, .int 0, .int 0, .ref (ad 8), .int 0, .ref (ad 9), .int 0, .ref (ad 10), .ref (ad 11), .int 1, .ref (ad 12), .ref (ad 13), .int 0, .int 0, .ref (ad 14), .ref (ad 15), .ref (ad 16), .ref (ad 17), .ref (ad 18), .int 0, .ref (ad 19), .long 0, .ref (ad 20), .ref (ad 21)])), ((ad 11), .inl (cy 0, 296, .inl (fun _ => 0)))] sz) := by
  refine Met.ofW (cc := cX12_came) (maxL := 2) (ret := (some .int)) (by decide) rfl ?_
  intro p e s m args below meth c s₁ B hml hv
  obtain ⟨rfl, hsz, hP, hK, hD0⟩ := hv
  have hx := B.exec
  have hb := B.bytes
  have hr := B.returns
  have hlocks := B.notSynchronized
  have hC : CallFix p m c cX12_came 2 s _ wsX12_came RX12 := ⟨hx, hb, hml, findClass_of_methodNamed B.named, atoms_spec (ws := wsX12_came) B.pre⟩
  subst hsz
  have hD := hD0.self (sz := s.heap.size)
  generalize hAe : va_A [(av0, .inr (12, [.ref (ad 0), .int 0, .int 0, .ref (ad 1), .ref (ad 2), .ref (ad 3), .ref (ad 4), .int 0, .int 0, .int 0, .int 0, .ref (ad 5), .ref (ad 6), .ref (ad 7), .int 0, .int 0, .int 0, .int 0, .int 0, .int 0, .int 0, .ref (ad 8), .int 0, .ref (ad 9), .int 0, .ref (ad 10), .ref (ad 11), .int 1, .ref (ad 12), .ref (ad 13), .int 0, .int 0, .ref (ad 14), .ref (ad 15), .ref (ad 16), .ref (ad 17), .ref (ad 18), .int 0, .ref (ad 19), .long 0, .ref (ad 20), .ref (ad 21)])), ((ad 11), .inl (cy 0, 296, .inl (fun _ => 0)))] s.heap.size = A at hD ⊢
  have hA : ∀ q : Nat, s.heap.size ≤ q → A q := fun q h => by rw [← hAe]; exact Or.inr h
  have hw : Wd dC dI A s.heap s.heap [] [(av0, .inr (12, [.ref (ad 0), .int 0, .int 0, .ref (ad 1), .ref (ad 2), .ref (ad 3), .ref (ad 4), .int 0, .int 0, .int 0, .int 0, .ref (ad 5), .ref (ad 6), .ref (ad 7), .int 0, .int 0, .int 0, .int 0, .int 0, .int 0, .int 0, .ref (ad 8), .int 0, .ref (ad 9), .int 0, .ref (ad 10), .ref (ad 11), .int 1, .ref (ad 12), .ref (ad 13), .int 0, .int 0, .ref (ad 14), .ref (ad 15), .ref (ad 16), .ref (ad 17), .ref (ad 18), .int 0, .ref (ad 19), .long 0, .ref (ad 20), .ref (ad 21)])), ((ad 11), .inl (cy 0, 296, .inl (fun _ => 0)))] := ⟨hP, hD, va_S.rf⟩
  have hl := lv_entry ([.ref av0, .int (-1)]) (n := 2) (Nat.le_of_ble_eq_true rfl)
  rw [lg_entry_eq]
  generalize (lg_sl ([.ref av0, .int (-1)]) ++ List.replicate (2 - (lg_sl ([.ref av0, .int (-1)])).length) Slot.unset).toArray = ls at hl ⊢
  have hl : lv_has ls 2 [(0, .ref av0), (1, .int (-1))] := hl
  have hinX12 : ∀ w ∈ u_ws RX12 TX12 42, w ∈ wsX12_came := fun _ h => List.mem_cons_of_mem _ (List.mem_append_right _ (h))
  refine lv_iload_n hx hb dX12_came_0 rfl (lv_at hl 1 rfl) ?_
  refine lv_iconst (v := (-1)) hx hb dX12_came_1 (by decide) ?_
  refine lv_icmp_ne (tgt := 15) hx hb dX12_came_2 (by decide) (fun c => absurd c (by decide)) (fun _ => ?_)
  refine lv_aload_n hx hb dX12_came_5 rfl (lv_at hl 0 rfl) ?_
  refine wk_get hC hK hw hinX12 0 rfl rfl 26 (by decide) (List.mem_of_getElem? (i := 1) rfl) rfl rfl dX12_came_6 ?_
  refine lv_bipush (v := 8) hx hb dX12_came_9 (by decide) ?_
  refine lv_iconst (v := 0) hx hb dX12_came_11 (by decide) ?_
  refine wk_iast hC hK hw 1 rfl (show ¬ ((8 : Int32) < 0 ∨ 296 ≤ (8 : Int32).toNatClampNeg) by decide) dX12_came_12 (fun H locs hw => ?_)
  obtain ⟨f1, hw⟩ : ∃ f1 : Nat → Int32, Wd dC dI A s.heap H locs [(av0, .inr (12, [.ref (ad 0), .int 0, .int 0, .ref (ad 1), .ref (ad 2), .ref (ad 3), .ref (ad 4), .int 0, .int 0, .int 0, .int 0, .ref (ad 5), .ref (ad 6), .ref (ad 7), .int 0, .int 0, .int 0, .int 0, .int 0, .int 0, .int 0, .ref (ad 8), .int 0, .ref (ad 9), .int 0, .ref (ad 10), .ref (ad 11), .int 1, .ref (ad 12), .ref (ad 13), .int 0, .int 0, .ref (ad 14), .ref (ad 15), .ref (ad 16), .ref (ad 17), .ref (ad 18), .int 0, .ref (ad 19), .long 0, .ref (ad 20), .ref (ad 21)])), ((ad 11), .inl (cy 0, 296, .inl f1))] := ⟨_, hw⟩
  refine lv_iconst (v := 0) hx hb dX12_came_13 (by decide) ?_
  exact wk_iret (v := 0) hC hr hlocks hK ((fun _ => 0), (fun k => ([f1] : List (Nat → Int32)).getD k (fun _ => 0))) rfl [0, 1] rfl rfl hw dX12_came_14

set_option maxHeartbeats 4000000 in
set_option maxRecDepth 100000 in
theorem t_X12_came_2 (l : Launch) (dC : Nat → ClassId) (dI : Nat → Nat → Nat) (cy : Nat → ClassId) (av0 : Nat) (ad : Nat → Nat) (p0 : Int32) (sz : Nat) (hp : 0 ≤ p0.toInt) : Met l yX12_came wsX12_came ({ frames := 1, cells := 0, slots := 0, locals := 21 }) (va_Pc [.ref av0, .int p0] (wpre dC dI cy sz [(av0, .inr (12, [.ref (ad 0), .int 0, .int 0, .ref (ad 1), .ref (ad 2), .ref (ad 3), .ref (ad 4), .int 0, .int 0, .int 0, .int 0, .ref (ad 5), .ref (ad 6), .ref (ad 7), .int 0, .int 0, .int 0, .int 0, .int 0, .int 0, .int 0, .ref (ad 8), .int 0, .ref (ad 9), .int 0, .ref (ad 10), .ref (ad 11), .int 1, .ref (ad 12), .ref (ad 13), .int 0, .int 0, .ref (ad 14), .ref (ad 15), .ref (ad 16), .ref (ad 17), .ref (ad 18), .int 0, .ref (ad 19), .long 0, .ref (ad 20), .ref (ad 21)])), ((ad 11), .inl (cy 0, 296, .inl (fun _ => 0)))])) (va_Qi (fun (r : Int32) (_ : ((Nat → Nat) × (Nat → Nat → Int32))) => r = (-2)) (fun u => wpost dC dI cy (va_A [(av0, .inr (12, [.ref (ad 0), .int 0, .int 0, .ref (ad 1), .ref (ad 2), .ref (ad 3), .ref (ad 4), .int 0, .int 0, .int 0, .int 0, .ref (ad 5), .ref (ad 6), .ref (ad 7), .int 0, .int 0, .int 0, .int 0, .int 0, .int 0, .int 0, .ref (ad 8), .int 0, .ref (ad 9), .int 0, .ref (ad 10), .ref (ad 11), .int 1, .ref (ad 12), .ref (ad 13), .int 0, .int 0, .ref (ad 14), .ref (ad 15), .ref (ad 16), .ref (ad 17), .ref (ad 18), .int 0, .ref (ad 19), .long 0, .ref (ad 20), .ref (ad 21)])), ((ad 11), .inl (cy 0, 296, .inl (fun _ => 0)))] sz) [(av0, .inr (12, [.ref (ad 0), .int 0, .int 0, .ref (ad 1), .ref (ad 2), .ref (ad 3), .ref (ad 4), .int 0, .int 0, .int 0, .int 0, .ref (ad 5), .ref (ad 6), .ref (ad 7), .int 0, .int 0, .int 0, .int 0, .int 0, .int 0, .int 0, .ref (ad 8), .int 0, .ref (ad 9), .int 0, .ref (ad 10), .ref (ad 11), .int 1, .ref (ad 12), .ref (ad 13), .int 0, .int 0, .ref (ad 14), .ref (ad 15), .ref (ad 16), .ref (ad 17), .ref (ad 18), .int 0, .ref (ad 19), .long 0, .ref (ad 20), .ref (ad 21)])), ((ad 11), .inl (cy 0, 296, .inl (fun _ => 0)))]) (va_A [(av0, .inr (12, [.ref (ad 0), .int 0, .int 0, .ref (ad 1), .ref (ad 2), .ref (ad 3), .ref (ad 4), .int 0, .int 0, .int 0, .int 0, .ref (ad 5), .ref (ad 6), .ref (ad 7), .int 0, .int 0, .int 0, .int 0, .int 0, .int 0, .int 0, .ref (ad 8), .int 0, .ref (ad 9), .int 0, .ref (ad 10), .ref (ad 11), .int 1, .ref (ad 12), .ref (ad 13), .int 0, .int 0, .ref (ad 14), .ref (ad 15), .ref (ad 16), .ref (ad 17), .ref (ad 18), .int 0, .ref (ad 19), .long 0, .ref (ad 20), .ref (ad 21)])), ((ad 11), .inl (cy 0, 296, .inl (fun _ => 0)))] sz)) 0 0 (va_A [(av0, .inr (12, [.ref (ad 0), .int 0, .int 0, .ref (ad 1), .ref (ad 2), .ref (ad 3), .ref (ad 4), .int 0, .int 0, .int 0, .int 0, .ref (ad 5), .ref (ad 6), .ref (ad 7), .int 0, .int 0, .int 0, .int 0, .int 0, .int 0, .int 0, .ref (ad 8), .int 0, .ref (ad 9), .int 0, .ref (ad 10), .ref (ad 11), .int 1, .ref (ad 12), .ref (ad 13), .int 0, .int 0, .ref (ad 14), .ref (ad 15), .ref (ad 16), .ref (ad 17), .ref (ad 18), .int 0, .ref (ad 19), .long 0, .ref (ad 20), .ref (ad 21)])), ((ad 11), .inl (cy 0, 296, .inl (fun _ => 0)))] sz) := by
  refine Met.ofW (cc := cX12_came) (maxL := 2) (ret := (some .int)) (by decide) rfl ?_
  intro p e s m args below meth c s₁ B hml hv
  obtain ⟨rfl, hsz, hP, hK, hD0⟩ := hv
  have hx := B.exec
  have hb := B.bytes
  have hr := B.returns
  have hlocks := B.notSynchronized
  have hC : CallFix p m c cX12_came 2 s _ wsX12_came RX12 := ⟨hx, hb, hml, findClass_of_methodNamed B.named, atoms_spec (ws := wsX12_came) B.pre⟩
  subst hsz
  have hD := hD0.self (sz := s.heap.size)
  generalize hAe : va_A [(av0, .inr (12, [.ref (ad 0), .int 0, .int 0, .ref (ad 1), .ref (ad 2), .ref (ad 3), .ref (ad 4), .int 0, .int 0, .int 0, .int 0, .ref (ad 5), .ref (ad 6), .ref (ad 7), .int 0, .int 0, .int 0, .int 0, .int 0, .int 0, .int 0, .ref (ad 8), .int 0, .ref (ad 9), .int 0, .ref (ad 10), .ref (ad 11), .int 1, .ref (ad 12), .ref (ad 13), .int 0, .int 0, .ref (ad 14), .ref (ad 15), .ref (ad 16), .ref (ad 17), .ref (ad 18), .int 0, .ref (ad 19), .long 0, .ref (ad 20), .ref (ad 21)])), ((ad 11), .inl (cy 0, 296, .inl (fun _ => 0)))] s.heap.size = A at hD ⊢
  have hA : ∀ q : Nat, s.heap.size ≤ q → A q := fun q h => by rw [← hAe]; exact Or.inr h
  have hw : Wd dC dI A s.heap s.heap [] [(av0, .inr (12, [.ref (ad 0), .int 0, .int 0, .ref (ad 1), .ref (ad 2), .ref (ad 3), .ref (ad 4), .int 0, .int 0, .int 0, .int 0, .ref (ad 5), .ref (ad 6), .ref (ad 7), .int 0, .int 0, .int 0, .int 0, .int 0, .int 0, .int 0, .ref (ad 8), .int 0, .ref (ad 9), .int 0, .ref (ad 10), .ref (ad 11), .int 1, .ref (ad 12), .ref (ad 13), .int 0, .int 0, .ref (ad 14), .ref (ad 15), .ref (ad 16), .ref (ad 17), .ref (ad 18), .int 0, .ref (ad 19), .long 0, .ref (ad 20), .ref (ad 21)])), ((ad 11), .inl (cy 0, 296, .inl (fun _ => 0)))] := ⟨hP, hD, va_S.rf⟩
  have hl := lv_entry ([.ref av0, .int p0]) (n := 2) (Nat.le_of_ble_eq_true rfl)
  rw [lg_entry_eq]
  generalize (lg_sl ([.ref av0, .int p0]) ++ List.replicate (2 - (lg_sl ([.ref av0, .int p0])).length) Slot.unset).toArray = ls at hl ⊢
  have hl : lv_has ls 2 [(0, .ref av0), (1, .int p0)] := hl
  refine lv_iload_n hx hb dX12_came_0 rfl (lv_at hl 1 rfl) ?_
  refine lv_iconst (v := (-1)) hx hb dX12_came_1 (by decide) ?_
  refine lv_icmp_ne (tgt := 15) hx hb dX12_came_2 (by decide) (fun _ => ?_) (fun c => absurd (fun h => absurd (show p0.toInt = (-1 : Int) from wk_eq.mp h) (by omega)) c)
  refine lv_aload_n hx hb dX12_came_15 rfl (lv_at hl 0 rfl) ?_
  refine lv_iload_n hx hb dX12_came_16 rfl (lv_at hl 1 rfl) ?_
  refine wk_Vi hC hK hw hA [0, 1] [] rfl rfl rfl rfl (by decide) (c_X12_isCorner_1 l dC dI cy av0 p0 (ad 0) (ad 1) (ad 2) (ad 3) (ad 4) (ad 5) (ad 6) (ad 7) (ad 8) (ad 9) (ad 10) (ad 11) (ad 12) (ad 13) (ad 14) (ad 15) (ad 16) (ad 17) (ad 18) (ad 19) (ad 20) (ad 21) s.heap.size ) (cwV 1 hC.2.2.2.2 gX12_came_X12_isCorner rfl rfl rfl (by decide +kernel) ⟨Nat.le_of_ble_eq_true rfl, Nat.le_of_ble_eq_true rfl⟩) rfl 0 rfl rfl hl.1 rfl (Nat.le_of_ble_eq_true rfl) dX12_came_17 0 0 ⟨rfl, rfl⟩ ⟨Nat.le_of_ble_eq_true rfl, Nat.le_of_ble_eq_true rfl⟩ (fun r2 u1 H locs p3 hw => ?_)
  have hw : Wd dC dI A s.heap H locs [(av0, .inr (12, [.ref (ad 0), .int 0, .int 0, .ref (ad 1), .ref (ad 2), .ref (ad 3), .ref (ad 4), .int 0, .int 0, .int 0, .int 0, .ref (ad 5), .ref (ad 6), .ref (ad 7), .int 0, .int 0, .int 0, .int 0, .int 0, .int 0, .int 0, .ref (ad 8), .int 0, .ref (ad 9), .int 0, .ref (ad 10), .ref (ad 11), .int 1, .ref (ad 12), .ref (ad 13), .int 0, .int 0, .ref (ad 14), .ref (ad 15), .ref (ad 16), .ref (ad 17), .ref (ad 18), .int 0, .ref (ad 19), .long 0, .ref (ad 20), .ref (ad 21)])), ((ad 11), .inl (cy 0, 296, .inl (fun _ => 0)))] := hw
  obtain rfl : r2 = 0 := p3
  refine lv_if_eq (tgt := 35) hx hb dX12_came_20 (by decide) (fun _ => ?_) (fun c => absurd (by decide) c)
  refine lv_bipush (v := (-2)) hx hb dX12_came_35 (by decide) ?_
  exact wk_iret (v := (-2)) hC hr hlocks hK ((fun _ => 0), (fun _ _ => 0)) rfl [0, 1] rfl rfl hw dX12_came_37

set_option maxHeartbeats 4000000 in
set_option maxRecDepth 100000 in
theorem t_X12_had (l : Launch) (dC : Nat → ClassId) (dI : Nat → Nat → Nat) (cy : Nat → ClassId) (av0 : Nat) (ad : Nat → Nat) (p0 : Int32) (sz : Nat)  : Met l yX12_had wsX12_had ({ frames := 1, cells := 0, slots := 0, locals := 21 }) (va_Pc [.ref av0, .int p0] (wpre dC dI cy sz [(av0, .inr (12, [.ref (ad 0), .int 0, .int 0, .ref (ad 1), .ref (ad 2), .ref (ad 3), .ref (ad 4), .int 0, .int 0, .int 0, .int 0, .ref (ad 5), .ref (ad 6), .ref (ad 7), .int 0, .int 0, .int 0, .int 0, .int 0, .int 0, .int 0, .ref (ad 8), .int 0, .ref (ad 9), .int 0, .ref (ad 10), .ref (ad 11), .int 1, .ref (ad 12), .ref (ad 13), .int 0, .int 0, .ref (ad 14), .ref (ad 15), .ref (ad 16), .ref (ad 17), .ref (ad 18), .int 0, .ref (ad 19), .long 0, .ref (ad 20), .ref (ad 21)])), ((ad 11), .inl (cy 0, 296, .inl (fun _ => 0)))])) (va_Qi (fun (r : Int32) (_ : ((Nat → Nat) × (Nat → Nat → Int32))) => r = (-1)) (fun u => wpost dC dI cy (va_A [(av0, .inr (12, [.ref (ad 0), .int 0, .int 0, .ref (ad 1), .ref (ad 2), .ref (ad 3), .ref (ad 4), .int 0, .int 0, .int 0, .int 0, .ref (ad 5), .ref (ad 6), .ref (ad 7), .int 0, .int 0, .int 0, .int 0, .int 0, .int 0, .int 0, .ref (ad 8), .int 0, .ref (ad 9), .int 0, .ref (ad 10), .ref (ad 11), .int 1, .ref (ad 12), .ref (ad 13), .int 0, .int 0, .ref (ad 14), .ref (ad 15), .ref (ad 16), .ref (ad 17), .ref (ad 18), .int 0, .ref (ad 19), .long 0, .ref (ad 20), .ref (ad 21)])), ((ad 11), .inl (cy 0, 296, .inl (fun _ => 0)))] sz) [(av0, .inr (12, [.ref (ad 0), .int 0, .int 0, .ref (ad 1), .ref (ad 2), .ref (ad 3), .ref (ad 4), .int 0, .int 0, .int 0, .int 0, .ref (ad 5), .ref (ad 6), .ref (ad 7), .int 0, .int 0, .int 0, .int 0, .int 0, .int 0, .int 0, .ref (ad 8), .int 0, .ref (ad 9), .int 0, .ref (ad 10), .ref (ad 11), .int 1, .ref (ad 12), .ref (ad 13), .int 0, .int 0, .ref (ad 14), .ref (ad 15), .ref (ad 16), .ref (ad 17), .ref (ad 18), .int 0, .ref (ad 19), .long 0, .ref (ad 20), .ref (ad 21)])), ((ad 11), .inl (cy 0, 296, .inl (fun _ => 0)))]) (va_A [(av0, .inr (12, [.ref (ad 0), .int 0, .int 0, .ref (ad 1), .ref (ad 2), .ref (ad 3), .ref (ad 4), .int 0, .int 0, .int 0, .int 0, .ref (ad 5), .ref (ad 6), .ref (ad 7), .int 0, .int 0, .int 0, .int 0, .int 0, .int 0, .int 0, .ref (ad 8), .int 0, .ref (ad 9), .int 0, .ref (ad 10), .ref (ad 11), .int 1, .ref (ad 12), .ref (ad 13), .int 0, .int 0, .ref (ad 14), .ref (ad 15), .ref (ad 16), .ref (ad 17), .ref (ad 18), .int 0, .ref (ad 19), .long 0, .ref (ad 20), .ref (ad 21)])), ((ad 11), .inl (cy 0, 296, .inl (fun _ => 0)))] sz)) 0 0 (va_A [(av0, .inr (12, [.ref (ad 0), .int 0, .int 0, .ref (ad 1), .ref (ad 2), .ref (ad 3), .ref (ad 4), .int 0, .int 0, .int 0, .int 0, .ref (ad 5), .ref (ad 6), .ref (ad 7), .int 0, .int 0, .int 0, .int 0, .int 0, .int 0, .int 0, .ref (ad 8), .int 0, .ref (ad 9), .int 0, .ref (ad 10), .ref (ad 11), .int 1, .ref (ad 12), .ref (ad 13), .int 0, .int 0, .ref (ad 14), .ref (ad 15), .ref (ad 16), .ref (ad 17), .ref (ad 18), .int 0, .ref (ad 19), .long 0, .ref (ad 20), .ref (ad 21)])), ((ad 11), .inl (cy 0, 296, .inl (fun _ => 0)))] sz) := by
  refine Met.ofW (cc := cX12_had) (maxL := 4) (ret := (some .int)) (by decide) rfl ?_
  intro p e s m args below meth c s₁ B hml hv
  obtain ⟨rfl, hsz, hP, hK, hD0⟩ := hv
  have hx := B.exec
  have hb := B.bytes
  have hr := B.returns
  have hlocks := B.notSynchronized
  have hC : CallFix p m c cX12_had 4 s _ wsX12_had RX12 := ⟨hx, hb, hml, findClass_of_methodNamed B.named, atoms_spec (ws := wsX12_had) B.pre⟩
  subst hsz
  have hD := hD0.self (sz := s.heap.size)
  generalize hAe : va_A [(av0, .inr (12, [.ref (ad 0), .int 0, .int 0, .ref (ad 1), .ref (ad 2), .ref (ad 3), .ref (ad 4), .int 0, .int 0, .int 0, .int 0, .ref (ad 5), .ref (ad 6), .ref (ad 7), .int 0, .int 0, .int 0, .int 0, .int 0, .int 0, .int 0, .ref (ad 8), .int 0, .ref (ad 9), .int 0, .ref (ad 10), .ref (ad 11), .int 1, .ref (ad 12), .ref (ad 13), .int 0, .int 0, .ref (ad 14), .ref (ad 15), .ref (ad 16), .ref (ad 17), .ref (ad 18), .int 0, .ref (ad 19), .long 0, .ref (ad 20), .ref (ad 21)])), ((ad 11), .inl (cy 0, 296, .inl (fun _ => 0)))] s.heap.size = A at hD ⊢
  have hA : ∀ q : Nat, s.heap.size ≤ q → A q := fun q h => by rw [← hAe]; exact Or.inr h
  have hw : Wd dC dI A s.heap s.heap [] [(av0, .inr (12, [.ref (ad 0), .int 0, .int 0, .ref (ad 1), .ref (ad 2), .ref (ad 3), .ref (ad 4), .int 0, .int 0, .int 0, .int 0, .ref (ad 5), .ref (ad 6), .ref (ad 7), .int 0, .int 0, .int 0, .int 0, .int 0, .int 0, .int 0, .ref (ad 8), .int 0, .ref (ad 9), .int 0, .ref (ad 10), .ref (ad 11), .int 1, .ref (ad 12), .ref (ad 13), .int 0, .int 0, .ref (ad 14), .ref (ad 15), .ref (ad 16), .ref (ad 17), .ref (ad 18), .int 0, .ref (ad 19), .long 0, .ref (ad 20), .ref (ad 21)])), ((ad 11), .inl (cy 0, 296, .inl (fun _ => 0)))] := ⟨hP, hD, va_S.rf⟩
  have hl := lv_entry ([.ref av0, .int p0]) (n := 4) (Nat.le_of_ble_eq_true rfl)
  rw [lg_entry_eq]
  generalize (lg_sl ([.ref av0, .int p0]) ++ List.replicate (4 - (lg_sl ([.ref av0, .int p0])).length) Slot.unset).toArray = ls at hl ⊢
  have hl : lv_has ls 4 [(0, .ref av0), (1, .int p0)] := hl
  refine lv_aload_n hx hb dX12_had_0 rfl (lv_at hl 0 rfl) ?_
  refine lv_iload_n hx hb dX12_had_1 rfl (lv_at hl 1 rfl) ?_
  refine wk_Vi hC hK hw hA [0, 1] [] rfl rfl rfl rfl (by decide) (c_X12_isWalker_1 l dC dI cy av0 p0 (ad 0) (ad 1) (ad 2) (ad 3) (ad 4) (ad 5) (ad 6) (ad 7) (ad 8) (ad 9) (ad 10) (ad 11) (ad 12) (ad 13) (ad 14) (ad 15) (ad 16) (ad 17) (ad 18) (ad 19) (ad 20) (ad 21) s.heap.size ) (cwV 1 hC.2.2.2.2 gX12_had_X12_isWalker rfl rfl rfl (by decide +kernel) ⟨Nat.le_of_ble_eq_true rfl, Nat.le_of_ble_eq_true rfl⟩) rfl 0 rfl rfl hl.1 rfl (Nat.le_of_ble_eq_true rfl) dX12_had_2 0 0 ⟨rfl, rfl⟩ ⟨Nat.le_of_ble_eq_true rfl, Nat.le_of_ble_eq_true rfl⟩ (fun r2 u1 H locs p3 hw => ?_)
  have hw : Wd dC dI A s.heap H locs [(av0, .inr (12, [.ref (ad 0), .int 0, .int 0, .ref (ad 1), .ref (ad 2), .ref (ad 3), .ref (ad 4), .int 0, .int 0, .int 0, .int 0, .ref (ad 5), .ref (ad 6), .ref (ad 7), .int 0, .int 0, .int 0, .int 0, .int 0, .int 0, .int 0, .ref (ad 8), .int 0, .ref (ad 9), .int 0, .ref (ad 10), .ref (ad 11), .int 1, .ref (ad 12), .ref (ad 13), .int 0, .int 0, .ref (ad 14), .ref (ad 15), .ref (ad 16), .ref (ad 17), .ref (ad 18), .int 0, .ref (ad 19), .long 0, .ref (ad 20), .ref (ad 21)])), ((ad 11), .inl (cy 0, 296, .inl (fun _ => 0)))] := hw
  obtain rfl : r2 = 0 := p3
  refine lv_if_ne (tgt := 10) hx hb dX12_had_5 (by decide) (fun c => absurd c (by decide)) (fun _ => ?_)
  refine lv_iconst (v := (-1)) hx hb dX12_had_8 (by decide) ?_
  exact wk_iret (v := (-1)) hC hr hlocks hK ((fun _ => 0), (fun _ _ => 0)) rfl [0, 1] rfl rfl hw dX12_had_9

set_option maxHeartbeats 4000000 in
set_option maxRecDepth 100000 in
theorem t_X12_built (l : Launch) (dC : Nat → ClassId) (dI : Nat → Nat → Nat) (cy : Nat → ClassId) (av0 : Nat) (ad : Nat → Nat) (p0 : Int32) (p1 : Int32) (p2 : Int32) (sz : Nat)  : Met l yX12_built wsX12_built ({ frames := 1, cells := 0, slots := 0, locals := 20 }) (va_Pc [.ref av0, .int p0, .int p1, .int p2] (wpre dC dI cy sz [(av0, .inr (12, [.ref (ad 0), .int 0, .int 0, .ref (ad 1), .ref (ad 2), .ref (ad 3), .ref (ad 4), .int 0, .int 0, .int 0, .int 0, .ref (ad 5), .ref (ad 6), .ref (ad 7), .int 0, .int 0, .int 0, .int 0, .int 0, .int 0, .int 0, .ref (ad 8), .int 0, .ref (ad 9), .int 0, .ref (ad 10), .ref (ad 11), .int 1, .ref (ad 12), .ref (ad 13), .int 0, .int 0, .ref (ad 14), .ref (ad 15), .ref (ad 16), .ref (ad 17), .ref (ad 18), .int 0, .ref (ad 19), .long 0, .ref (ad 20), .ref (ad 21)])), ((ad 11), .inl (cy 0, 296, .inl (fun _ => 0)))])) (va_Qi (fun (r : Int32) (_ : ((Nat → Nat) × (Nat → Nat → Int32))) => r = (-1)) (fun u => wpost dC dI cy (va_A [(av0, .inr (12, [.ref (ad 0), .int 0, .int 0, .ref (ad 1), .ref (ad 2), .ref (ad 3), .ref (ad 4), .int 0, .int 0, .int 0, .int 0, .ref (ad 5), .ref (ad 6), .ref (ad 7), .int 0, .int 0, .int 0, .int 0, .int 0, .int 0, .int 0, .ref (ad 8), .int 0, .ref (ad 9), .int 0, .ref (ad 10), .ref (ad 11), .int 1, .ref (ad 12), .ref (ad 13), .int 0, .int 0, .ref (ad 14), .ref (ad 15), .ref (ad 16), .ref (ad 17), .ref (ad 18), .int 0, .ref (ad 19), .long 0, .ref (ad 20), .ref (ad 21)])), ((ad 11), .inl (cy 0, 296, .inl (fun _ => 0)))] sz) [(av0, .inr (12, [.ref (ad 0), .int 0, .int 0, .ref (ad 1), .ref (ad 2), .ref (ad 3), .ref (ad 4), .int 0, .int 0, .int 0, .int 0, .ref (ad 5), .ref (ad 6), .ref (ad 7), .int 0, .int 0, .int 0, .int 0, .int 0, .int 0, .int 0, .ref (ad 8), .int 0, .ref (ad 9), .int 0, .ref (ad 10), .ref (ad 11), .int 1, .ref (ad 12), .ref (ad 13), .int 0, .int 0, .ref (ad 14), .ref (ad 15), .ref (ad 16), .ref (ad 17), .ref (ad 18), .int 0, .ref (ad 19), .long 0, .ref (ad 20), .ref (ad 21)])), ((ad 11), .inl (cy 0, 296, .inl (fun _ => 0)))]) (va_A [(av0, .inr (12, [.ref (ad 0), .int 0, .int 0, .ref (ad 1), .ref (ad 2), .ref (ad 3), .ref (ad 4), .int 0, .int 0, .int 0, .int 0, .ref (ad 5), .ref (ad 6), .ref (ad 7), .int 0, .int 0, .int 0, .int 0, .int 0, .int 0, .int 0, .ref (ad 8), .int 0, .ref (ad 9), .int 0, .ref (ad 10), .ref (ad 11), .int 1, .ref (ad 12), .ref (ad 13), .int 0, .int 0, .ref (ad 14), .ref (ad 15), .ref (ad 16), .ref (ad 17), .ref (ad 18), .int 0, .ref (ad 19), .long 0, .ref (ad 20), .ref (ad 21)])), ((ad 11), .inl (cy 0, 296, .inl (fun _ => 0)))] sz)) 0 0 (va_A [(av0, .inr (12, [.ref (ad 0), .int 0, .int 0, .ref (ad 1), .ref (ad 2), .ref (ad 3), .ref (ad 4), .int 0, .int 0, .int 0, .int 0, .ref (ad 5), .ref (ad 6), .ref (ad 7), .int 0, .int 0, .int 0, .int 0, .int 0, .int 0, .int 0, .ref (ad 8), .int 0, .ref (ad 9), .int 0, .ref (ad 10), .ref (ad 11), .int 1, .ref (ad 12), .ref (ad 13), .int 0, .int 0, .ref (ad 14), .ref (ad 15), .ref (ad 16), .ref (ad 17), .ref (ad 18), .int 0, .ref (ad 19), .long 0, .ref (ad 20), .ref (ad 21)])), ((ad 11), .inl (cy 0, 296, .inl (fun _ => 0)))] sz) := by
  refine Met.ofW (cc := cX12_built) (maxL := 11) (ret := (some .int)) (by decide) rfl ?_
  intro p e s m args below meth c s₁ B hml hv
  obtain ⟨rfl, hsz, hP, hK, hD0⟩ := hv
  have hx := B.exec
  have hb := B.bytes
  have hr := B.returns
  have hlocks := B.notSynchronized
  have hC : CallFix p m c cX12_built 11 s _ wsX12_built RX12 := ⟨hx, hb, hml, findClass_of_methodNamed B.named, atoms_spec (ws := wsX12_built) B.pre⟩
  subst hsz
  have hD := hD0.self (sz := s.heap.size)
  generalize hAe : va_A [(av0, .inr (12, [.ref (ad 0), .int 0, .int 0, .ref (ad 1), .ref (ad 2), .ref (ad 3), .ref (ad 4), .int 0, .int 0, .int 0, .int 0, .ref (ad 5), .ref (ad 6), .ref (ad 7), .int 0, .int 0, .int 0, .int 0, .int 0, .int 0, .int 0, .ref (ad 8), .int 0, .ref (ad 9), .int 0, .ref (ad 10), .ref (ad 11), .int 1, .ref (ad 12), .ref (ad 13), .int 0, .int 0, .ref (ad 14), .ref (ad 15), .ref (ad 16), .ref (ad 17), .ref (ad 18), .int 0, .ref (ad 19), .long 0, .ref (ad 20), .ref (ad 21)])), ((ad 11), .inl (cy 0, 296, .inl (fun _ => 0)))] s.heap.size = A at hD ⊢
  have hA : ∀ q : Nat, s.heap.size ≤ q → A q := fun q h => by rw [← hAe]; exact Or.inr h
  have hw : Wd dC dI A s.heap s.heap [] [(av0, .inr (12, [.ref (ad 0), .int 0, .int 0, .ref (ad 1), .ref (ad 2), .ref (ad 3), .ref (ad 4), .int 0, .int 0, .int 0, .int 0, .ref (ad 5), .ref (ad 6), .ref (ad 7), .int 0, .int 0, .int 0, .int 0, .int 0, .int 0, .int 0, .ref (ad 8), .int 0, .ref (ad 9), .int 0, .ref (ad 10), .ref (ad 11), .int 1, .ref (ad 12), .ref (ad 13), .int 0, .int 0, .ref (ad 14), .ref (ad 15), .ref (ad 16), .ref (ad 17), .ref (ad 18), .int 0, .ref (ad 19), .long 0, .ref (ad 20), .ref (ad 21)])), ((ad 11), .inl (cy 0, 296, .inl (fun _ => 0)))] := ⟨hP, hD, va_S.rf⟩
  have hl := lv_entry ([.ref av0, .int p0, .int p1, .int p2]) (n := 11) (Nat.le_of_ble_eq_true rfl)
  rw [lg_entry_eq]
  generalize (lg_sl ([.ref av0, .int p0, .int p1, .int p2]) ++ List.replicate (11 - (lg_sl ([.ref av0, .int p0, .int p1, .int p2])).length) Slot.unset).toArray = ls at hl ⊢
  have hl : lv_has ls 11 [(0, .ref av0), (1, .int p0), (2, .int p1), (3, .int p2)] := hl
  refine lv_aload_n hx hb dX12_built_0 rfl (lv_at hl 0 rfl) ?_
  refine wk_Vi hC hK hw hA [0, 1] [] rfl rfl rfl rfl (by decide) (c_X12_isTown_1 l dC dI cy av0 (ad 0) (ad 1) (ad 2) (ad 3) (ad 4) (ad 5) (ad 6) (ad 7) (ad 8) (ad 9) (ad 10) (ad 11) (ad 12) (ad 13) (ad 14) (ad 15) (ad 16) (ad 17) (ad 18) (ad 19) (ad 20) (ad 21) s.heap.size ) (cwV 0 hC.2.2.2.2 gX12_built_X12_isTown rfl rfl rfl (by decide +kernel) ⟨Nat.le_of_ble_eq_true rfl, Nat.le_of_ble_eq_true rfl⟩) rfl 0 rfl rfl hl.1 rfl (Nat.le_of_ble_eq_true rfl) dX12_built_1 0 0 ⟨rfl, rfl⟩ ⟨Nat.le_of_ble_eq_true rfl, Nat.le_of_ble_eq_true rfl⟩ (fun r2 u1 H locs p3 hw => ?_)
  have hw : Wd dC dI A s.heap H locs [(av0, .inr (12, [.ref (ad 0), .int 0, .int 0, .ref (ad 1), .ref (ad 2), .ref (ad 3), .ref (ad 4), .int 0, .int 0, .int 0, .int 0, .ref (ad 5), .ref (ad 6), .ref (ad 7), .int 0, .int 0, .int 0, .int 0, .int 0, .int 0, .int 0, .ref (ad 8), .int 0, .ref (ad 9), .int 0, .ref (ad 10), .ref (ad 11), .int 1, .ref (ad 12), .ref (ad 13), .int 0, .int 0, .ref (ad 14), .ref (ad 15), .ref (ad 16), .ref (ad 17), .ref (ad 18), .int 0, .ref (ad 19), .long 0, .ref (ad 20), .ref (ad 21)])), ((ad 11), .inl (cy 0, 296, .inl (fun _ => 0)))] := hw
  obtain rfl : r2 = 0 := p3
  refine lv_if_eq (tgt := 38) hx hb dX12_built_4 (by decide) (fun _ => ?_) (fun c => absurd (by decide) c)
  refine lv_iconst (v := (-1)) hx hb dX12_built_38 (by decide) ?_
  exact wk_iret (v := (-1)) hC hr hlocks hK ((fun _ => 0), (fun _ _ => 0)) rfl [0, 1] rfl rfl hw dX12_built_39

set_option maxHeartbeats 4000000 in
set_option maxRecDepth 100000 in
theorem t_X12_seed_0 (l : Launch) (dC : Nat → ClassId) (dI : Nat → Nat → Nat) (cy : Nat → ClassId) (av0 : Nat) (ad : Nat → Nat) (p0 : Int32) (sz : Nat) (hp : p0.toInt ≤ -1) : Met l yX12_seed wsX12_seed ({ frames := 0, cells := 0, slots := 0, locals := 0 }) (va_Pc [.ref av0, .int p0] (wpre dC dI cy sz [(av0, .inr (12, [.ref (ad 0), .int 0, .int 0, .ref (ad 1), .ref (ad 2), .ref (ad 3), .ref (ad 4), .int 0, .int 0, .int 0, .int 0, .ref (ad 5), .ref (ad 6), .ref (ad 7), .int 0, .int 0, .int 0, .int 0, .int 0, .int 0, .int 0, .ref (ad 8), .int 0, .ref (ad 9), .int 0, .ref (ad 10), .ref (ad 11), .int 1, .ref (ad 12), .ref (ad 13), .int 0, .int 0, .ref (ad 14), .ref (ad 15), .ref (ad 16), .ref (ad 17), .ref (ad 18), .int 0, .ref (ad 19), .long 0, .ref (ad 20), .ref (ad 21)]))])) (va_Qi (fun (r : Int32) (_ : ((Nat → Nat) × (Nat → Nat → Int32))) => r = (-1)) (fun u => wpost dC dI cy (va_A [(av0, .inr (12, [.ref (ad 0), .int 0, .int 0, .ref (ad 1), .ref (ad 2), .ref (ad 3), .ref (ad 4), .int 0, .int 0, .int 0, .int 0, .ref (ad 5), .ref (ad 6), .ref (ad 7), .int 0, .int 0, .int 0, .int 0, .int 0, .int 0, .int 0, .ref (ad 8), .int 0, .ref (ad 9), .int 0, .ref (ad 10), .ref (ad 11), .int 1, .ref (ad 12), .ref (ad 13), .int 0, .int 0, .ref (ad 14), .ref (ad 15), .ref (ad 16), .ref (ad 17), .ref (ad 18), .int 0, .ref (ad 19), .long 0, .ref (ad 20), .ref (ad 21)]))] sz) [(av0, .inr (12, [.ref (ad 0), .int 0, .int 0, .ref (ad 1), .ref (ad 2), .ref (ad 3), .ref (ad 4), .int 0, .int 0, .int 0, .int 0, .ref (ad 5), .ref (ad 6), .ref (ad 7), .int 0, .int 0, .int 0, .int 0, .int 0, .int 0, .int 0, .ref (ad 8), .int 0, .ref (ad 9), .int 0, .ref (ad 10), .ref (ad 11), .int 1, .ref (ad 12), .ref (ad 13), .int 0, .int 0, .ref (ad 14), .ref (ad 15), .ref (ad 16), .ref (ad 17), .ref (ad 18), .int 0, .ref (ad 19), .long 0, .ref (ad 20), .ref (ad 21)]))]) (va_A [(av0, .inr (12, [.ref (ad 0), .int 0, .int 0, .ref (ad 1), .ref (ad 2), .ref (ad 3), .ref (ad 4), .int 0, .int 0, .int 0, .int 0, .ref (ad 5), .ref (ad 6), .ref (ad 7), .int 0, .int 0, .int 0, .int 0, .int 0, .int 0, .int 0, .ref (ad 8), .int 0, .ref (ad 9), .int 0, .ref (ad 10), .ref (ad 11), .int 1, .ref (ad 12), .ref (ad 13), .int 0, .int 0, .ref (ad 14), .ref (ad 15), .ref (ad 16), .ref (ad 17), .ref (ad 18), .int 0, .ref (ad 19), .long 0, .ref (ad 20), .ref (ad 21)]))] sz)) 0 0 (va_A [(av0, .inr (12, [.ref (ad 0), .int 0, .int 0, .ref (ad 1), .ref (ad 2), .ref (ad 3), .ref (ad 4), .int 0, .int 0, .int 0, .int 0, .ref (ad 5), .ref (ad 6), .ref (ad 7), .int 0, .int 0, .int 0, .int 0, .int 0, .int 0, .int 0, .ref (ad 8), .int 0, .ref (ad 9), .int 0, .ref (ad 10), .ref (ad 11), .int 1, .ref (ad 12), .ref (ad 13), .int 0, .int 0, .ref (ad 14), .ref (ad 15), .ref (ad 16), .ref (ad 17), .ref (ad 18), .int 0, .ref (ad 19), .long 0, .ref (ad 20), .ref (ad 21)]))] sz) := by
  refine Met.ofW (cc := cX12_seed) (maxL := 3) (ret := (some .int)) (by decide) rfl ?_
  intro p e s m args below meth c s₁ B hml hv
  obtain ⟨rfl, hsz, hP, hK, hD0⟩ := hv
  have hx := B.exec
  have hb := B.bytes
  have hr := B.returns
  have hlocks := B.notSynchronized
  have hC : CallFix p m c cX12_seed 3 s _ wsX12_seed RX12 := ⟨hx, hb, hml, findClass_of_methodNamed B.named, atoms_spec (ws := wsX12_seed) B.pre⟩
  subst hsz
  have hD := hD0.self (sz := s.heap.size)
  generalize hAe : va_A [(av0, .inr (12, [.ref (ad 0), .int 0, .int 0, .ref (ad 1), .ref (ad 2), .ref (ad 3), .ref (ad 4), .int 0, .int 0, .int 0, .int 0, .ref (ad 5), .ref (ad 6), .ref (ad 7), .int 0, .int 0, .int 0, .int 0, .int 0, .int 0, .int 0, .ref (ad 8), .int 0, .ref (ad 9), .int 0, .ref (ad 10), .ref (ad 11), .int 1, .ref (ad 12), .ref (ad 13), .int 0, .int 0, .ref (ad 14), .ref (ad 15), .ref (ad 16), .ref (ad 17), .ref (ad 18), .int 0, .ref (ad 19), .long 0, .ref (ad 20), .ref (ad 21)]))] s.heap.size = A at hD ⊢
  have hA : ∀ q : Nat, s.heap.size ≤ q → A q := fun q h => by rw [← hAe]; exact Or.inr h
  have hw : Wd dC dI A s.heap s.heap [] [(av0, .inr (12, [.ref (ad 0), .int 0, .int 0, .ref (ad 1), .ref (ad 2), .ref (ad 3), .ref (ad 4), .int 0, .int 0, .int 0, .int 0, .ref (ad 5), .ref (ad 6), .ref (ad 7), .int 0, .int 0, .int 0, .int 0, .int 0, .int 0, .int 0, .ref (ad 8), .int 0, .ref (ad 9), .int 0, .ref (ad 10), .ref (ad 11), .int 1, .ref (ad 12), .ref (ad 13), .int 0, .int 0, .ref (ad 14), .ref (ad 15), .ref (ad 16), .ref (ad 17), .ref (ad 18), .int 0, .ref (ad 19), .long 0, .ref (ad 20), .ref (ad 21)]))] := ⟨hP, hD, va_S.rf⟩
  have hl := lv_entry ([.ref av0, .int p0]) (n := 3) (Nat.le_of_ble_eq_true rfl)
  rw [lg_entry_eq]
  generalize (lg_sl ([.ref av0, .int p0]) ++ List.replicate (3 - (lg_sl ([.ref av0, .int p0])).length) Slot.unset).toArray = ls at hl ⊢
  have hl : lv_has ls 3 [(0, .ref av0), (1, .int p0)] := hl
  refine lv_iload_n hx hb dX12_seed_0 rfl (lv_at hl 1 rfl) ?_
  refine lv_if_ge (tgt := 6) hx hb dX12_seed_1 (by decide) (fun c => absurd c (fun h => absurd (show 0 ≤ p0.toInt from wk_le.mp h) (by omega))) (fun _ => ?_)
  refine lv_iconst (v := (-1)) hx hb dX12_seed_4 (by decide) ?_
  exact wk_iret (v := (-1)) hC hr hlocks hK ((fun _ => 0), (fun _ _ => 0)) rfl [0] rfl rfl hw dX12_seed_5

set_option maxHeartbeats 4000000 in
set_option maxRecDepth 100000 in
theorem t_X12_seed_1 (l : Launch) (dC : Nat → ClassId) (dI : Nat → Nat → Nat) (cy : Nat → ClassId) (av0 : Nat) (ad : Nat → Nat) (p0 : Int32) (sz : Nat) (hp : 0 ≤ p0.toInt) : Met l yX12_seed wsX12_seed ({ frames := 0, cells := 0, slots := 0, locals := 0 }) (va_Pc [.ref av0, .int p0] (wpre dC dI cy sz [(av0, .inr (12, [.ref (ad 0), .int 0, .int 0, .ref (ad 1), .ref (ad 2), .ref (ad 3), .ref (ad 4), .int 0, .int 0, .int 0, .int 0, .ref (ad 5), .ref (ad 6), .ref (ad 7), .int 0, .int 0, .int 0, .int 0, .int 0, .int 0, .int 0, .ref (ad 8), .int 0, .ref (ad 9), .int 0, .ref (ad 10), .ref (ad 11), .int 1, .ref (ad 12), .ref (ad 13), .int 0, .int 0, .ref (ad 14), .ref (ad 15), .ref (ad 16), .ref (ad 17), .ref (ad 18), .int 0, .ref (ad 19), .long 0, .ref (ad 20), .ref (ad 21)])), ((ad 11), .inl (cy 0, 296, .inl (fun _ => 0)))])) (va_Qi (fun (r : Int32) (_ : ((Nat → Nat) × (Nat → Nat → Int32))) => r = 0) (fun u => wpost dC dI cy (va_A [(av0, .inr (12, [.ref (ad 0), .int 0, .int 0, .ref (ad 1), .ref (ad 2), .ref (ad 3), .ref (ad 4), .int 0, .int 0, .int 0, .int 0, .ref (ad 5), .ref (ad 6), .ref (ad 7), .int 0, .int 0, .int 0, .int 0, .int 0, .int 0, .int 0, .ref (ad 8), .int 0, .ref (ad 9), .int 0, .ref (ad 10), .ref (ad 11), .int 1, .ref (ad 12), .ref (ad 13), .int 0, .int 0, .ref (ad 14), .ref (ad 15), .ref (ad 16), .ref (ad 17), .ref (ad 18), .int 0, .ref (ad 19), .long 0, .ref (ad 20), .ref (ad 21)])), ((ad 11), .inl (cy 0, 296, .inl (fun _ => 0)))] sz) [(av0, .inr (12, [.ref (ad 0), .int 0, .int 0, .ref (ad 1), .ref (ad 2), .ref (ad 3), .ref (ad 4), .int 0, .int 0, .int 0, .int 0, .ref (ad 5), .ref (ad 6), .ref (ad 7), .int 0, .int 0, .int 0, .int 0, .int 0, .int 0, .int 0, .ref (ad 8), .int 0, .ref (ad 9), .int 0, .ref (ad 10), .ref (ad 11), .int 1, .ref (ad 12), .ref (ad 13), .int 0, .int 0, .ref (ad 14), .ref (ad 15), .ref (ad 16), .ref (ad 17), .ref (ad 18), .int 0, .ref (ad 19), .long 0, .ref (ad 20), .ref (ad 21)])), ((ad 11), .inl (cy 0, 296, .inl (u.2 0)))]) (va_A [(av0, .inr (12, [.ref (ad 0), .int 0, .int 0, .ref (ad 1), .ref (ad 2), .ref (ad 3), .ref (ad 4), .int 0, .int 0, .int 0, .int 0, .ref (ad 5), .ref (ad 6), .ref (ad 7), .int 0, .int 0, .int 0, .int 0, .int 0, .int 0, .int 0, .ref (ad 8), .int 0, .ref (ad 9), .int 0, .ref (ad 10), .ref (ad 11), .int 1, .ref (ad 12), .ref (ad 13), .int 0, .int 0, .ref (ad 14), .ref (ad 15), .ref (ad 16), .ref (ad 17), .ref (ad 18), .int 0, .ref (ad 19), .long 0, .ref (ad 20), .ref (ad 21)])), ((ad 11), .inl (cy 0, 296, .inl (fun _ => 0)))] sz)) 0 0 (va_A [(av0, .inr (12, [.ref (ad 0), .int 0, .int 0, .ref (ad 1), .ref (ad 2), .ref (ad 3), .ref (ad 4), .int 0, .int 0, .int 0, .int 0, .ref (ad 5), .ref (ad 6), .ref (ad 7), .int 0, .int 0, .int 0, .int 0, .int 0, .int 0, .int 0, .ref (ad 8), .int 0, .ref (ad 9), .int 0, .ref (ad 10), .ref (ad 11), .int 1, .ref (ad 12), .ref (ad 13), .int 0, .int 0, .ref (ad 14), .ref (ad 15), .ref (ad 16), .ref (ad 17), .ref (ad 18), .int 0, .ref (ad 19), .long 0, .ref (ad 20), .ref (ad 21)])), ((ad 11), .inl (cy 0, 296, .inl (fun _ => 0)))] sz) := by
  refine Met.ofW (cc := cX12_seed) (maxL := 3) (ret := (some .int)) (by decide) rfl ?_
  intro p e s m args below meth c s₁ B hml hv
  obtain ⟨rfl, hsz, hP, hK, hD0⟩ := hv
  have hx := B.exec
  have hb := B.bytes
  have hr := B.returns
  have hlocks := B.notSynchronized
  have hC : CallFix p m c cX12_seed 3 s _ wsX12_seed RX12 := ⟨hx, hb, hml, findClass_of_methodNamed B.named, atoms_spec (ws := wsX12_seed) B.pre⟩
  subst hsz
  have hD := hD0.self (sz := s.heap.size)
  generalize hAe : va_A [(av0, .inr (12, [.ref (ad 0), .int 0, .int 0, .ref (ad 1), .ref (ad 2), .ref (ad 3), .ref (ad 4), .int 0, .int 0, .int 0, .int 0, .ref (ad 5), .ref (ad 6), .ref (ad 7), .int 0, .int 0, .int 0, .int 0, .int 0, .int 0, .int 0, .ref (ad 8), .int 0, .ref (ad 9), .int 0, .ref (ad 10), .ref (ad 11), .int 1, .ref (ad 12), .ref (ad 13), .int 0, .int 0, .ref (ad 14), .ref (ad 15), .ref (ad 16), .ref (ad 17), .ref (ad 18), .int 0, .ref (ad 19), .long 0, .ref (ad 20), .ref (ad 21)])), ((ad 11), .inl (cy 0, 296, .inl (fun _ => 0)))] s.heap.size = A at hD ⊢
  have hA : ∀ q : Nat, s.heap.size ≤ q → A q := fun q h => by rw [← hAe]; exact Or.inr h
  have hw : Wd dC dI A s.heap s.heap [] [(av0, .inr (12, [.ref (ad 0), .int 0, .int 0, .ref (ad 1), .ref (ad 2), .ref (ad 3), .ref (ad 4), .int 0, .int 0, .int 0, .int 0, .ref (ad 5), .ref (ad 6), .ref (ad 7), .int 0, .int 0, .int 0, .int 0, .int 0, .int 0, .int 0, .ref (ad 8), .int 0, .ref (ad 9), .int 0, .ref (ad 10), .ref (ad 11), .int 1, .ref (ad 12), .ref (ad 13), .int 0, .int 0, .ref (ad 14), .ref (ad 15), .ref (ad 16), .ref (ad 17), .ref (ad 18), .int 0, .ref (ad 19), .long 0, .ref (ad 20), .ref (ad 21)])), ((ad 11), .inl (cy 0, 296, .inl (fun _ => 0)))] := ⟨hP, hD, va_S.rf⟩
  have hl := lv_entry ([.ref av0, .int p0]) (n := 3) (Nat.le_of_ble_eq_true rfl)
  rw [lg_entry_eq]
  generalize (lg_sl ([.ref av0, .int p0]) ++ List.replicate (3 - (lg_sl ([.ref av0, .int p0])).length) Slot.unset).toArray = ls at hl ⊢
  have hl : lv_has ls 3 [(0, .ref av0), (1, .int p0)] := hl
  have hinX12 : ∀ w ∈ u_ws RX12 TX12 42, w ∈ wsX12_seed := fun _ h => List.mem_cons_of_mem _ (List.mem_append_right _ (h))
  refine lv_iload_n hx hb dX12_seed_0 rfl (lv_at hl 1 rfl) ?_
  refine lv_if_ge (tgt := 6) hx hb dX12_seed_1 (by decide) (fun _ => ?_) (fun c => absurd (wk_le.mpr (show 0 ≤ p0.toInt by omega)) c)
  refine lv_aload_n hx hb dX12_seed_6 rfl (lv_at hl 0 rfl) ?_
  refine wk_get hC hK hw hinX12 0 rfl rfl 26 (by decide) (List.mem_of_getElem? (i := 1) rfl) rfl rfl dX12_seed_7 ?_
  refine lv_bipush (v := 9) hx hb dX12_seed_10 (by decide) ?_
  refine wk_iald hC hK hw 1 rfl (show ¬ ((9 : Int32) < 0 ∨ 296 ≤ (9 : Int32).toNatClampNeg) by decide) dX12_seed_12 ?_
  refine wk_top 0 rfl ?_
  refine lv_istore_n (lv' := [(2, .int 0), (0, .ref av0), (1, .int p0)]) hx hb dX12_seed_13 rfl hl (by decide) rfl (fun ls hl => ?_)
  refine lv_aload_n hx hb dX12_seed_14 rfl (lv_at hl 1 rfl) ?_
  refine wk_get hC hK hw hinX12 0 rfl rfl 26 (by decide) (List.mem_of_getElem? (i := 1) rfl) rfl rfl dX12_seed_15 ?_
  refine lv_bipush (v := 9) hx hb dX12_seed_18 (by decide) ?_
  refine lv_iload_n hx hb dX12_seed_20 rfl (lv_at hl 2 rfl) ?_
  refine wk_iast hC hK hw 1 rfl (show ¬ ((9 : Int32) < 0 ∨ 296 ≤ (9 : Int32).toNatClampNeg) by decide) dX12_seed_21 (fun H locs hw => ?_)
  obtain ⟨f1, hw⟩ : ∃ f1 : Nat → Int32, Wd dC dI A s.heap H locs [(av0, .inr (12, [.ref (ad 0), .int 0, .int 0, .ref (ad 1), .ref (ad 2), .ref (ad 3), .ref (ad 4), .int 0, .int 0, .int 0, .int 0, .ref (ad 5), .ref (ad 6), .ref (ad 7), .int 0, .int 0, .int 0, .int 0, .int 0, .int 0, .int 0, .ref (ad 8), .int 0, .ref (ad 9), .int 0, .ref (ad 10), .ref (ad 11), .int 1, .ref (ad 12), .ref (ad 13), .int 0, .int 0, .ref (ad 14), .ref (ad 15), .ref (ad 16), .ref (ad 17), .ref (ad 18), .int 0, .ref (ad 19), .long 0, .ref (ad 20), .ref (ad 21)])), ((ad 11), .inl (cy 0, 296, .inl f1))] := ⟨_, hw⟩
  refine lv_iload_n hx hb dX12_seed_22 rfl (lv_at hl 0 rfl) ?_
  exact wk_iret (v := 0) hC hr hlocks hK ((fun _ => 0), (fun k => ([f1] : List (Nat → Int32)).getD k (fun _ => 0))) rfl [0, 1] rfl rfl hw dX12_seed_23

set_option maxHeartbeats 4000000 in
set_option maxRecDepth 100000 in
theorem t_X12_strangers (l : Launch) (dC : Nat → ClassId) (dI : Nat → Nat → Nat) (cy : Nat → ClassId) (av0 : Nat) (ad : Nat → Nat) (p0 : Int32) (p1 : Int32) (p2 : Int32) (p3 : Int32) (sz : Nat)  : Met l yX12_strangers wsX12_strangers ({ frames := 1, cells := 0, slots := 0, locals := 20 }) (va_Pc [.ref av0, .int p0, .int p1, .int p2, .int p3] (wpre dC dI cy sz [(av0, .inr (12, [.ref (ad 0), .int 0, .int 0, .ref (ad 1), .ref (ad 2), .ref (ad 3), .ref (ad 4), .int 0, .int 0, .int 0, .int 0, .ref (ad 5), .ref (ad 6), .ref (ad 7), .int 0, .int 0, .int 0, .int 0, .int 0, .int 0, .int 0, .ref (ad 8), .int 0, .ref (ad 9), .int 0, .ref (ad 10), .ref (ad 11), .int 1, .ref (ad 12), .ref (ad 13), .int 0, .int 0, .ref (ad 14), .ref (ad 15), .ref (ad 16), .ref (ad 17), .ref (ad 18), .int 0, .ref (ad 19), .long 0, .ref (ad 20), .ref (ad 21)])), ((ad 11), .inl (cy 0, 296, .inl (fun _ => 0)))])) (va_Qi (fun (r : Int32) (_ : ((Nat → Nat) × (Nat → Nat → Int32))) => r = (-1)) (fun u => wpost dC dI cy (va_A [(av0, .inr (12, [.ref (ad 0), .int 0, .int 0, .ref (ad 1), .ref (ad 2), .ref (ad 3), .ref (ad 4), .int 0, .int 0, .int 0, .int 0, .ref (ad 5), .ref (ad 6), .ref (ad 7), .int 0, .int 0, .int 0, .int 0, .int 0, .int 0, .int 0, .ref (ad 8), .int 0, .ref (ad 9), .int 0, .ref (ad 10), .ref (ad 11), .int 1, .ref (ad 12), .ref (ad 13), .int 0, .int 0, .ref (ad 14), .ref (ad 15), .ref (ad 16), .ref (ad 17), .ref (ad 18), .int 0, .ref (ad 19), .long 0, .ref (ad 20), .ref (ad 21)])), ((ad 11), .inl (cy 0, 296, .inl (fun _ => 0)))] sz) [(av0, .inr (12, [.ref (ad 0), .int 0, .int 0, .ref (ad 1), .ref (ad 2), .ref (ad 3), .ref (ad 4), .int 0, .int 0, .int 0, .int 0, .ref (ad 5), .ref (ad 6), .ref (ad 7), .int 0, .int 0, .int 0, .int 0, .int 0, .int 0, .int 0, .ref (ad 8), .int 0, .ref (ad 9), .int 0, .ref (ad 10), .ref (ad 11), .int 1, .ref (ad 12), .ref (ad 13), .int 0, .int 0, .ref (ad 14), .ref (ad 15), .ref (ad 16), .ref (ad 17), .ref (ad 18), .int 0, .ref (ad 19), .long 0, .ref (ad 20), .ref (ad 21)])), ((ad 11), .inl (cy 0, 296, .inl (fun _ => 0)))]) (va_A [(av0, .inr (12, [.ref (ad 0), .int 0, .int 0, .ref (ad 1), .ref (ad 2), .ref (ad 3), .ref (ad 4), .int 0, .int 0, .int 0, .int 0, .ref (ad 5), .ref (ad 6), .ref (ad 7), .int 0, .int 0, .int 0, .int 0, .int 0, .int 0, .int 0, .ref (ad 8), .int 0, .ref (ad 9), .int 0, .ref (ad 10), .ref (ad 11), .int 1, .ref (ad 12), .ref (ad 13), .int 0, .int 0, .ref (ad 14), .ref (ad 15), .ref (ad 16), .ref (ad 17), .ref (ad 18), .int 0, .ref (ad 19), .long 0, .ref (ad 20), .ref (ad 21)])), ((ad 11), .inl (cy 0, 296, .inl (fun _ => 0)))] sz)) 0 0 (va_A [(av0, .inr (12, [.ref (ad 0), .int 0, .int 0, .ref (ad 1), .ref (ad 2), .ref (ad 3), .ref (ad 4), .int 0, .int 0, .int 0, .int 0, .ref (ad 5), .ref (ad 6), .ref (ad 7), .int 0, .int 0, .int 0, .int 0, .int 0, .int 0, .int 0, .ref (ad 8), .int 0, .ref (ad 9), .int 0, .ref (ad 10), .ref (ad 11), .int 1, .ref (ad 12), .ref (ad 13), .int 0, .int 0, .ref (ad 14), .ref (ad 15), .ref (ad 16), .ref (ad 17), .ref (ad 18), .int 0, .ref (ad 19), .long 0, .ref (ad 20), .ref (ad 21)])), ((ad 11), .inl (cy 0, 296, .inl (fun _ => 0)))] sz) := by
  refine Met.ofW (cc := cX12_strangers) (maxL := 12) (ret := (some .int)) (by decide) rfl ?_
  intro p e s m args below meth c s₁ B hml hv
  obtain ⟨rfl, hsz, hP, hK, hD0⟩ := hv
  have hx := B.exec
  have hb := B.bytes
  have hr := B.returns
  have hlocks := B.notSynchronized
  have hC : CallFix p m c cX12_strangers 12 s _ wsX12_strangers RX12 := ⟨hx, hb, hml, findClass_of_methodNamed B.named, atoms_spec (ws := wsX12_strangers) B.pre⟩
  subst hsz
  have hD := hD0.self (sz := s.heap.size)
  generalize hAe : va_A [(av0, .inr (12, [.ref (ad 0), .int 0, .int 0, .ref (ad 1), .ref (ad 2), .ref (ad 3), .ref (ad 4), .int 0, .int 0, .int 0, .int 0, .ref (ad 5), .ref (ad 6), .ref (ad 7), .int 0, .int 0, .int 0, .int 0, .int 0, .int 0, .int 0, .ref (ad 8), .int 0, .ref (ad 9), .int 0, .ref (ad 10), .ref (ad 11), .int 1, .ref (ad 12), .ref (ad 13), .int 0, .int 0, .ref (ad 14), .ref (ad 15), .ref (ad 16), .ref (ad 17), .ref (ad 18), .int 0, .ref (ad 19), .long 0, .ref (ad 20), .ref (ad 21)])), ((ad 11), .inl (cy 0, 296, .inl (fun _ => 0)))] s.heap.size = A at hD ⊢
  have hA : ∀ q : Nat, s.heap.size ≤ q → A q := fun q h => by rw [← hAe]; exact Or.inr h
  have hw : Wd dC dI A s.heap s.heap [] [(av0, .inr (12, [.ref (ad 0), .int 0, .int 0, .ref (ad 1), .ref (ad 2), .ref (ad 3), .ref (ad 4), .int 0, .int 0, .int 0, .int 0, .ref (ad 5), .ref (ad 6), .ref (ad 7), .int 0, .int 0, .int 0, .int 0, .int 0, .int 0, .int 0, .ref (ad 8), .int 0, .ref (ad 9), .int 0, .ref (ad 10), .ref (ad 11), .int 1, .ref (ad 12), .ref (ad 13), .int 0, .int 0, .ref (ad 14), .ref (ad 15), .ref (ad 16), .ref (ad 17), .ref (ad 18), .int 0, .ref (ad 19), .long 0, .ref (ad 20), .ref (ad 21)])), ((ad 11), .inl (cy 0, 296, .inl (fun _ => 0)))] := ⟨hP, hD, va_S.rf⟩
  have hl := lv_entry ([.ref av0, .int p0, .int p1, .int p2, .int p3]) (n := 12) (Nat.le_of_ble_eq_true rfl)
  rw [lg_entry_eq]
  generalize (lg_sl ([.ref av0, .int p0, .int p1, .int p2, .int p3]) ++ List.replicate (12 - (lg_sl ([.ref av0, .int p0, .int p1, .int p2, .int p3])).length) Slot.unset).toArray = ls at hl ⊢
  have hl : lv_has ls 12 [(0, .ref av0), (1, .int p0), (2, .int p1), (3, .int p2), (4, .int p3)] := hl
  refine lv_aload_n hx hb dX12_strangers_0 rfl (lv_at hl 0 rfl) ?_
  refine wk_Vi hC hK hw hA [0, 1] [] rfl rfl rfl rfl (by decide) (c_X12_isTown_1 l dC dI cy av0 (ad 0) (ad 1) (ad 2) (ad 3) (ad 4) (ad 5) (ad 6) (ad 7) (ad 8) (ad 9) (ad 10) (ad 11) (ad 12) (ad 13) (ad 14) (ad 15) (ad 16) (ad 17) (ad 18) (ad 19) (ad 20) (ad 21) s.heap.size ) (cwV 0 hC.2.2.2.2 gX12_strangers_X12_isTown rfl rfl rfl (by decide +kernel) ⟨Nat.le_of_ble_eq_true rfl, Nat.le_of_ble_eq_true rfl⟩) rfl 0 rfl rfl hl.1 rfl (Nat.le_of_ble_eq_true rfl) dX12_strangers_1 0 0 ⟨rfl, rfl⟩ ⟨Nat.le_of_ble_eq_true rfl, Nat.le_of_ble_eq_true rfl⟩ (fun r2 u1 H locs p3 hw => ?_)
  have hw : Wd dC dI A s.heap H locs [(av0, .inr (12, [.ref (ad 0), .int 0, .int 0, .ref (ad 1), .ref (ad 2), .ref (ad 3), .ref (ad 4), .int 0, .int 0, .int 0, .int 0, .ref (ad 5), .ref (ad 6), .ref (ad 7), .int 0, .int 0, .int 0, .int 0, .int 0, .int 0, .int 0, .ref (ad 8), .int 0, .ref (ad 9), .int 0, .ref (ad 10), .ref (ad 11), .int 1, .ref (ad 12), .ref (ad 13), .int 0, .int 0, .ref (ad 14), .ref (ad 15), .ref (ad 16), .ref (ad 17), .ref (ad 18), .int 0, .ref (ad 19), .long 0, .ref (ad 20), .ref (ad 21)])), ((ad 11), .inl (cy 0, 296, .inl (fun _ => 0)))] := hw
  obtain rfl : r2 = 0 := p3
  refine lv_if_eq (tgt := 64) hx hb dX12_strangers_4 (by decide) (fun _ => ?_) (fun c => absurd (by decide) c)
  refine lv_iconst (v := (-1)) hx hb dX12_strangers_64 (by decide) ?_
  exact wk_iret (v := (-1)) hC hr hlocks hK ((fun _ => 0), (fun _ _ => 0)) rfl [0, 1] rfl rfl hw dX12_strangers_65

set_option maxHeartbeats 4000000 in
set_option maxRecDepth 100000 in
theorem t_X12_count_0 (l : Launch) (dC : Nat → ClassId) (dI : Nat → Nat → Nat) (cy : Nat → ClassId) (av0 : Nat) (ad : Nat → Nat) (p0 : Int32) (sz : Nat) (hp : p0.toInt ≤ -1) : Met l yX12_count wsX12_count ({ frames := 0, cells := 0, slots := 0, locals := 0 }) (va_Pc [.ref av0, .int p0] (wpre dC dI cy sz [(av0, .inr (12, [.ref (ad 0), .int 0, .int 0, .ref (ad 1), .ref (ad 2), .ref (ad 3), .ref (ad 4), .int 0, .int 0, .int 0, .int 0, .ref (ad 5), .ref (ad 6), .ref (ad 7), .int 0, .int 0, .int 0, .int 0, .int 0, .int 0, .int 0, .ref (ad 8), .int 0, .ref (ad 9), .int 0, .ref (ad 10), .ref (ad 11), .int 1, .ref (ad 12), .ref (ad 13), .int 0, .int 0, .ref (ad 14), .ref (ad 15), .ref (ad 16), .ref (ad 17), .ref (ad 18), .int 0, .ref (ad 19), .long 0, .ref (ad 20), .ref (ad 21)]))])) (va_Qi (fun (r : Int32) (_ : ((Nat → Nat) × (Nat → Nat → Int32))) => r = (-1)) (fun u => wpost dC dI cy (va_A [(av0, .inr (12, [.ref (ad 0), .int 0, .int 0, .ref (ad 1), .ref (ad 2), .ref (ad 3), .ref (ad 4), .int 0, .int 0, .int 0, .int 0, .ref (ad 5), .ref (ad 6), .ref (ad 7), .int 0, .int 0, .int 0, .int 0, .int 0, .int 0, .int 0, .ref (ad 8), .int 0, .ref (ad 9), .int 0, .ref (ad 10), .ref (ad 11), .int 1, .ref (ad 12), .ref (ad 13), .int 0, .int 0, .ref (ad 14), .ref (ad 15), .ref (ad 16), .ref (ad 17), .ref (ad 18), .int 0, .ref (ad 19), .long 0, .ref (ad 20), .ref (ad 21)]))] sz) [(av0, .inr (12, [.ref (ad 0), .int 0, .int 0, .ref (ad 1), .ref (ad 2), .ref (ad 3), .ref (ad 4), .int 0, .int 0, .int 0, .int 0, .ref (ad 5), .ref (ad 6), .ref (ad 7), .int 0, .int 0, .int 0, .int 0, .int 0, .int 0, .int 0, .ref (ad 8), .int 0, .ref (ad 9), .int 0, .ref (ad 10), .ref (ad 11), .int 1, .ref (ad 12), .ref (ad 13), .int 0, .int 0, .ref (ad 14), .ref (ad 15), .ref (ad 16), .ref (ad 17), .ref (ad 18), .int 0, .ref (ad 19), .long 0, .ref (ad 20), .ref (ad 21)]))]) (va_A [(av0, .inr (12, [.ref (ad 0), .int 0, .int 0, .ref (ad 1), .ref (ad 2), .ref (ad 3), .ref (ad 4), .int 0, .int 0, .int 0, .int 0, .ref (ad 5), .ref (ad 6), .ref (ad 7), .int 0, .int 0, .int 0, .int 0, .int 0, .int 0, .int 0, .ref (ad 8), .int 0, .ref (ad 9), .int 0, .ref (ad 10), .ref (ad 11), .int 1, .ref (ad 12), .ref (ad 13), .int 0, .int 0, .ref (ad 14), .ref (ad 15), .ref (ad 16), .ref (ad 17), .ref (ad 18), .int 0, .ref (ad 19), .long 0, .ref (ad 20), .ref (ad 21)]))] sz)) 0 0 (va_A [(av0, .inr (12, [.ref (ad 0), .int 0, .int 0, .ref (ad 1), .ref (ad 2), .ref (ad 3), .ref (ad 4), .int 0, .int 0, .int 0, .int 0, .ref (ad 5), .ref (ad 6), .ref (ad 7), .int 0, .int 0, .int 0, .int 0, .int 0, .int 0, .int 0, .ref (ad 8), .int 0, .ref (ad 9), .int 0, .ref (ad 10), .ref (ad 11), .int 1, .ref (ad 12), .ref (ad 13), .int 0, .int 0, .ref (ad 14), .ref (ad 15), .ref (ad 16), .ref (ad 17), .ref (ad 18), .int 0, .ref (ad 19), .long 0, .ref (ad 20), .ref (ad 21)]))] sz) := by
  refine Met.ofW (cc := cX12_count) (maxL := 2) (ret := (some .int)) (by decide) rfl ?_
  intro p e s m args below meth c s₁ B hml hv
  obtain ⟨rfl, hsz, hP, hK, hD0⟩ := hv
  have hx := B.exec
  have hb := B.bytes
  have hr := B.returns
  have hlocks := B.notSynchronized
  have hC : CallFix p m c cX12_count 2 s _ wsX12_count RX12 := ⟨hx, hb, hml, findClass_of_methodNamed B.named, atoms_spec (ws := wsX12_count) B.pre⟩
  subst hsz
  have hD := hD0.self (sz := s.heap.size)
  generalize hAe : va_A [(av0, .inr (12, [.ref (ad 0), .int 0, .int 0, .ref (ad 1), .ref (ad 2), .ref (ad 3), .ref (ad 4), .int 0, .int 0, .int 0, .int 0, .ref (ad 5), .ref (ad 6), .ref (ad 7), .int 0, .int 0, .int 0, .int 0, .int 0, .int 0, .int 0, .ref (ad 8), .int 0, .ref (ad 9), .int 0, .ref (ad 10), .ref (ad 11), .int 1, .ref (ad 12), .ref (ad 13), .int 0, .int 0, .ref (ad 14), .ref (ad 15), .ref (ad 16), .ref (ad 17), .ref (ad 18), .int 0, .ref (ad 19), .long 0, .ref (ad 20), .ref (ad 21)]))] s.heap.size = A at hD ⊢
  have hA : ∀ q : Nat, s.heap.size ≤ q → A q := fun q h => by rw [← hAe]; exact Or.inr h
  have hw : Wd dC dI A s.heap s.heap [] [(av0, .inr (12, [.ref (ad 0), .int 0, .int 0, .ref (ad 1), .ref (ad 2), .ref (ad 3), .ref (ad 4), .int 0, .int 0, .int 0, .int 0, .ref (ad 5), .ref (ad 6), .ref (ad 7), .int 0, .int 0, .int 0, .int 0, .int 0, .int 0, .int 0, .ref (ad 8), .int 0, .ref (ad 9), .int 0, .ref (ad 10), .ref (ad 11), .int 1, .ref (ad 12), .ref (ad 13), .int 0, .int 0, .ref (ad 14), .ref (ad 15), .ref (ad 16), .ref (ad 17), .ref (ad 18), .int 0, .ref (ad 19), .long 0, .ref (ad 20), .ref (ad 21)]))] := ⟨hP, hD, va_S.rf⟩
  have hl := lv_entry ([.ref av0, .int p0]) (n := 2) (Nat.le_of_ble_eq_true rfl)
  rw [lg_entry_eq]
  generalize (lg_sl ([.ref av0, .int p0]) ++ List.replicate (2 - (lg_sl ([.ref av0, .int p0])).length) Slot.unset).toArray = ls at hl ⊢
  have hl : lv_has ls 2 [(0, .ref av0), (1, .int p0)] := hl
  refine lv_iload_n hx hb dX12_count_0 rfl (lv_at hl 1 rfl) ?_
  refine lv_tableOut (tgt := 90) hx hb dX12_count_1 (Or.inl (show p0.toInt < 0 by omega)) (by decide) ?_
  refine lv_iconst (v := (-1)) hx hb dX12_count_90 (by decide) ?_
  exact wk_iret (v := (-1)) hC hr hlocks hK ((fun _ => 0), (fun _ _ => 0)) rfl [0] rfl rfl hw dX12_count_91
