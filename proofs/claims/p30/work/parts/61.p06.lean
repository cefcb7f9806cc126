section
variable {F : Int → Int} {N : Int} {ℓ ℓ' ℓ'' : Nat} {S S' S'' : List Bool} {σ σ' σ'' : SS} {pₓ rₓ aₓ bₓ wₓ xₓ : Int} {nₓ : Nat}
/-- what stands in the rows of the rules alone changed -/
def P45 (σ σ' : SS) : Prop := ∀ qₓ kₓ : Nat, qₓ ≠ 4 → qₓ ≠ 5 → σ' qₓ kₓ = σ qₓ kₓ
theorem P45.ku (hₓ : P45 σ σ') : KU σ σ' := fun qₓ kₓ cₓ => hₓ qₓ kₓ (by omega) (by omega)
theorem OKM.p45 (hₓ : OKM F N σ) (eₓ : P45 σ σ') : OKM F N σ' := by
  obtain ⟨a1ₓ, a2ₓ, a3ₓ, a4ₓ, a5ₓ⟩ := hₓ
  unfold OKM
  rw [eₓ 0 14 (by decide) (by decide), eₓ 0 15 (by decide) (by decide), eₓ 0 18 (by decide) (by decide)]
  exact ⟨⟨(eₓ 0 1 (by decide) (by decide)).trans a1ₓ.1, fun jₓ h0ₓ h1ₓ => by rw [eₓ 1 jₓ.toNat (by decide) (by decide)]; exact a1ₓ.2 jₓ h0ₓ h1ₓ⟩, a2ₓ, a3ₓ, a4ₓ, a5ₓ⟩
theorem cfgM_p45 (eₓ : P45 σ σ') : cfgM F N ℓ S σ' = cfgM F N ℓ S σ := cfgM_eq (eₓ 0 14 (by decide) (by decide)) (eₓ 0 18 (by decide) (by decide)) (eₓ 0 20 (by decide) (by decide))
theorem r_doing76 (hₓ : OKM F N σ) (eₓ : b_X12_isDoingHere_76 nₓ 0 aₓ σ = some (rₓ, σ')) : rₓ = 1 ∧ P45 σ σ' := by
  unfold b_X12_isDoingHere_76 at eₓ
  simp only [mRd_e, mLet_e, mWr_e, mRet_e] at eₓ
  obtain ⟨rfl, rfl⟩ := some_el eₓ
  refine ⟨rfl, fun qₓ kₓ h4ₓ h5ₓ => ?_⟩
  rw [upS_q h5ₓ, upS_q h4ₓ]
/-- what is told of aₓ RULE behindₓ its word -/
theorem r_isDoing (hₓ : OKM F N σ) {c0ₓ : Cfg} (stₓ : St F N c0ₓ (1, sk F N (wd F N (σ 0 14)), σ 0 18, σ 0 20, [])) (eₓ : m_X12_isDoingHere nₓ 0 aₓ σ = some (rₓ, σ')) : KU σ σ' ∧ ((rₓ = 1 ∧ OKM F N σ' ∧ St F N c0ₓ (cfgM F N 8 [] σ')) ∨ (rₓ = 0 ∧ σ' 0 15 ≠ 0 ∧ St F N c0ₓ (halt (σ' 0 15)))) := by
  unfold m_X12_isDoingHere at eₓ
  obtain ⟨r1ₓ, s1ₓ, e1ₓ, eₓ⟩ := mCall_el eₓ
  have hs1ₓ := r_passWordm hₓ.1 hₓ.2.1.1 e1ₓ
  subst hs1ₓ
  have hw0ₓ : 0 ≤ wd F N (σ 0 14) := Int.le_trans hₓ.2.1.1 wd_ge
  have hwNₓ : wd F N (σ 0 14) ≤ N := wd_ub hₓ.2.1.2
  have h1ₓ := hₓ.mv hw0ₓ hwNₓ
  have k1ₓ : KS σ (upS σ 0 14 (wd F N (σ 0 14))) := KS.up (Or.inl rfl)
  simp only [mRd_e, mLet_e, mWr_e] at eₓ
  obtain ⟨r2ₓ, s2ₓ, e2ₓ, eₓ⟩ := mCall_el eₓ
  obtain ⟨τ, hₓτ⟩ : ∃ τ, m_X12_takesWord nₓ 0 26982 τ = some (r2ₓ, s2ₓ) ∧ P45 (upS σ 0 14 (wd F N (σ 0 14))) τ := ⟨_, e2ₓ, fun qₓ kₓ z4ₓ z5ₓ => by rw [upS_q z4ₓ, upS_q z4ₓ]⟩
  obtain ⟨e2'ₓ, hpₓ⟩ := hₓτ
  have hₓτ := h1ₓ.p45 hpₓ
  have c1ₓ : cfgM F N 1 [] τ = (1, sk F N (wd F N (σ 0 14)), σ 0 18, σ 0 20, []) := by rw [cfgM_p45 hpₓ, cfgM_mv]
  have kₓτ : KU σ τ := k1ₓ.ku.tr hpₓ.ku
  have st1ₓ : St F N c0ₓ (cfgM F N 1 [] τ) := by rw [c1ₓ]; exact stₓ
  unfold m_X12_takesWord at e2'ₓ
  obtain ⟨r3ₓ, s3ₓ, e3ₓ, e2'ₓ⟩ := mCall_el e2'ₓ
  obtain ⟨hwₓ, rfl⟩ := r_isWord (W := wIf) (by unfold WD; decide) hₓτ.1 hₓτ.2.1.1 e3ₓ
  obtain ⟨h3ₓ, hc3ₓ⟩ := OKM.stay (ℓ := 1) (S := []) hₓτ
  have k3ₓ : KS τ (upS τ 0 14 (sk F N (τ 0 14))) := KS.up (Or.inl rfl)
  have s1'ₓ : pstep F N (cfgM F N 1 [] τ) = if isWd F N (sk F N (τ 0 14)) wIf = true then (2, sk F N (wd F N (sk F N (τ 0 14))), τ 0 18, τ 0 20, []) else (8, sk F N (τ 0 14), τ 0 18, τ 0 20, []) := rfl
  rcases hwₓ with ⟨hwₓ, rfl⟩ | ⟨hwₓ, rfl⟩
  · rw [mIf_pos (show ¬ (1 : Int) = 0 by decide)] at e2'ₓ
    obtain ⟨r4ₓ, s4ₓ, e4ₓ, e2'ₓ⟩ := mCall_el e2'ₓ
    have hs4ₓ := r_passWordm h3ₓ.1 h3ₓ.2.1.1 e4ₓ
    rw [upS_s, upS_upS] at hs4ₓ
    subst hs4ₓ
    obtain ⟨rfl, rfl⟩ := some_el e2'ₓ
    rw [mIf_neg (show ¬ (1 : Int) = 0 by decide)] at eₓ
    have hq0ₓ : 0 ≤ sk F N (τ 0 14) := Int.le_trans hₓτ.2.1.1 sk_ge
    have hqNₓ : sk F N (τ 0 14) ≤ N := sk_ub hₓτ.2.1.2
    have h4ₓ : OKM F N (upS τ 0 14 (wd F N (sk F N (τ 0 14)))) := hₓτ.mv (Int.le_trans hq0ₓ wd_ge) (wd_ub hqNₓ)
    obtain ⟨r5ₓ, s5ₓ, e5ₓ, eₓ⟩ := mCall_el eₓ
    have hp5ₓ : ∀ zₓ : Int, P45 (upS τ 0 14 (wd F N (sk F N (τ 0 14)))) (upS (upS τ 0 14 (wd F N (sk F N (τ 0 14)))) 4 ((36 * upS σ 0 14 (wd F N (σ 0 14)) 0 17 + 3 * upS σ 0 14 (wd F N (σ 0 14)) 5 (upS σ 0 14 (wd F N (σ 0 14)) 0 17).toNat) + 1).toNat zₓ) := fun zₓ qₓ kₓ z4ₓ z5ₓ => upS_q z4ₓ
    have hp6ₓ := hp5ₓ (upS τ 0 14 (wd F N (sk F N (τ 0 14))) 3 (upS τ 0 14 (wd F N (sk F N (τ 0 14))) 0 17).toNat)
    have h6ₓ := h4ₓ.p45 hp6ₓ
    obtain ⟨k7ₓ, h7ₓ⟩ := r_tested h6ₓ e5ₓ
    have st2ₓ : St F N c0ₓ (cfgM F N 2 [] (upS (upS τ 0 14 (wd F N (sk F N (τ 0 14)))) 4 ((36 * upS σ 0 14 (wd F N (σ 0 14)) 0 17 + 3 * upS σ 0 14 (wd F N (σ 0 14)) 5 (upS σ 0 14 (wd F N (σ 0 14)) 0 17).toNat) + 1).toNat (upS τ 0 14 (wd F N (sk F N (τ 0 14))) 3 (upS τ 0 14 (wd F N (sk F N (τ 0 14))) 0 17).toNat))) := by
      rw [cfgM_p45 hp6ₓ, cfgM_mv]
      exact st1ₓ.tr (St_one (by rw [s1'ₓ, if_pos hwₓ]))
    have ku6 : KU σ s5ₓ := ((kₓτ.tr (KS.up (Or.inl rfl)).ku).tr hp6ₓ.ku).tr k7ₓ
    rcases h7ₓ with ⟨rfl, h7ₓ, st7ₓ⟩ | ⟨rfl, h7ₓ, st7ₓ⟩
    · rw [mIf_pos (show ¬ (1 : Int) = 0 by decide)] at eₓ
      obtain ⟨rfl, hp8ₓ⟩ := r_doing76 h7ₓ eₓ
      exact ⟨ku6.tr hp8ₓ.ku, Or.inl ⟨rfl, h7ₓ.p45 hp8ₓ, by rw [cfgM_p45 hp8ₓ]; exact st2ₓ.tr st7ₓ⟩⟩
    · rw [mIf_neg (fun qₓ => qₓ rfl)] at eₓ
      obtain ⟨rfl, rfl⟩ := some_el eₓ
      exact ⟨ku6, Or.inr ⟨rfl, h7ₓ, st2ₓ.tr st7ₓ⟩⟩
  · rw [mIf_neg (fun qₓ => qₓ rfl)] at e2'ₓ
    obtain ⟨rfl, rfl⟩ := some_el e2'ₓ
    rw [mIf_pos rfl] at eₓ
    obtain ⟨rfl, hp8ₓ⟩ := r_doing76 h3ₓ eₓ
    refine ⟨(kₓτ.tr k3ₓ.ku).tr hp8ₓ.ku, Or.inl ⟨rfl, h3ₓ.p45 hp8ₓ, ?_⟩⟩
    rw [cfgM_p45 hp8ₓ, cfgM_mv, sk_idem]
    exact st1ₓ.tr (St_one (by rw [s1'ₓ, hwₓ, if_neg (by decide)]))
theorem wd_d0 : WD 26479 wGo := by unfold WD; decide
theorem wd_d1 : WD 418548114533 wAside := by unfold WD; decide
theorem wd_d2 : WD 6386539 wAsk := by unfold WD; decide
theorem wd_d3 : WD 2002872692 wWait := by unfold WD; decide
theorem r_doingSort (hₓ : MV F N σ) (hpₓ : 0 ≤ σ 0 14) (eₓ : m_X12_doingSort nₓ 0 σ = some (rₓ, σ')) : ((wDeeds.any (fun W => isWd F N (sk F N (σ 0 14)) W) = true ∧ 0 ≤ rₓ) ∨ (wDeeds.any (fun W => isWd F N (sk F N (σ 0 14)) W) = false ∧ rₓ = -1)) ∧ σ' = upS σ 0 14 (sk F N (σ 0 14)) := by
  have hqₓ : 0 ≤ sk F N (σ 0 14) := Int.le_trans hpₓ runE_le
  have huₓ : MV F N (upS σ 0 14 (sk F N (σ 0 14))) := hₓ.up (by decide) (by omega)
  have hmₓ : ∀ (W : List Int), W ∈ wDeeds → isWd F N (sk F N (σ 0 14)) W = true → wDeeds.any (fun W => isWd F N (sk F N (σ 0 14)) W) = true := fun W h1ₓ h2ₓ => List.any_eq_true.mpr ⟨W, h1ₓ, h2ₓ⟩
  have isw : ∀ {wₓ : Int} {W : List Int} {r1ₓ : Int} {s1ₓ : SS}, WD wₓ W → m_X12_isWord nₓ 0 wₓ (upS σ 0 14 (sk F N (σ 0 14))) = some (r1ₓ, s1ₓ) → ((isWd F N (sk F N (σ 0 14)) W = true ∧ r1ₓ = 1) ∨ (isWd F N (sk F N (σ 0 14)) W = false ∧ r1ₓ = 0)) ∧ s1ₓ = upS σ 0 14 (sk F N (σ 0 14)) := by
    intro wₓ W r1ₓ s1ₓ hWₓ eₓ
    have h2ₓ := r_isWord hWₓ huₓ (by rw [upS_s]; exact hqₓ) eₓ
    rw [upS_s, sk_idem, upS_upS] at h2ₓ
    exact h2ₓ
  unfold m_X12_doingSort at eₓ
  obtain ⟨r0ₓ, s0ₓ, e0ₓ, eₓ⟩ := mCall_el eₓ
  obtain ⟨h0ₓ, rfl⟩ := r_isWord wd_d0 hₓ hpₓ e0ₓ
  rcases h0ₓ with ⟨t0ₓ, rfl⟩ | ⟨f0ₓ, rfl⟩
  · rw [mIf_neg (show ¬ (1 : Int) = 0 by decide)] at eₓ
    obtain ⟨rfl, rfl⟩ := some_el eₓ
    exact ⟨Or.inl ⟨hmₓ wGo (by decide) t0ₓ, by decide⟩, rfl⟩
  rw [mIf_pos rfl] at eₓ
  obtain ⟨r1ₓ, s1ₓ, e1ₓ, eₓ⟩ := mCall_el eₓ
  obtain ⟨h1ₓ, rfl⟩ := isw wd_d1 e1ₓ
  rcases h1ₓ with ⟨t1ₓ, rfl⟩ | ⟨f1ₓ, rfl⟩
  · rw [mIf_neg (show ¬ (1 : Int) = 0 by decide)] at eₓ
    obtain ⟨rfl, rfl⟩ := some_el eₓ
    exact ⟨Or.inl ⟨hmₓ wAside (by decide) t1ₓ, by decide⟩, rfl⟩
  rw [mIf_pos rfl] at eₓ
  obtain ⟨r2ₓ, s2ₓ, e2ₓ, eₓ⟩ := mCall_el eₓ
  obtain ⟨h2ₓ, rfl⟩ := isw wd_d2 e2ₓ
  rcases h2ₓ with ⟨t2ₓ, rfl⟩ | ⟨f2ₓ, rfl⟩
  · rw [mIf_neg (show ¬ (1 : Int) = 0 by decide)] at eₓ
    obtain ⟨rfl, rfl⟩ := some_el eₓ
    exact ⟨Or.inl ⟨hmₓ wAsk (by decide) t2ₓ, by decide⟩, rfl⟩
  rw [mIf_pos rfl] at eₓ
  obtain ⟨r3ₓ, s3ₓ, e3ₓ, eₓ⟩ := mCall_el eₓ
  obtain ⟨h3ₓ, rfl⟩ := isw wd_d3 e3ₓ
  rcases h3ₓ with ⟨t3ₓ, rfl⟩ | ⟨f3ₓ, rfl⟩
  · rw [mIf_neg (show ¬ (1 : Int) = 0 by decide)] at eₓ
    obtain ⟨rfl, rfl⟩ := some_el eₓ
    exact ⟨Or.inl ⟨hmₓ wWait (by decide) t3ₓ, by decide⟩, rfl⟩
  rw [mIf_pos rfl] at eₓ
  obtain ⟨rfl, rfl⟩ := some_el eₓ
  refine ⟨Or.inr ⟨?_, rfl⟩, rfl⟩
  unfold wDeeds
  simp only [List.any_cons, List.any_nil, f0ₓ, f1ₓ, f2ₓ, f3ₓ, Bool.or_false]
/-- aₓ clause of aₓ RULE -/
theorem r_clause (hₓ : OKM F N σ) (htxₓ : σ 0 17 ≠ 6) (hl0ₓ : 0 ≤ σ 0 20) (hl1ₓ : σ 0 20 ≤ 12) (eₓ : m_X12_clauseHere nₓ 0 σ = some (rₓ, σ')) : (∀ qₓ kₓ : Nat, (qₓ = 1 ∨ (qₓ = 0 ∧ (kₓ = 1 ∨ kₓ = 2 ∨ kₓ = 17))) → σ' qₓ kₓ = σ qₓ kₓ) ∧ ((rₓ = 1 ∧ OKM F N σ' ∧ 0 ≤ σ' 0 20 ∧ σ' 0 20 ≤ 12 ∧ St F N (cfgM F N 0 [] σ) (cfgM F N 8 [] σ')) ∨ (rₓ = 0 ∧ σ' 0 15 ≠ 0 ∧ St F N (cfgM F N 0 [] σ) (halt (σ' 0 15)))) := by
  have hq0ₓ : 0 ≤ sk F N (σ 0 14) := Int.le_trans hₓ.2.1.1 sk_ge
  have hqNₓ : sk F N (σ 0 14) ≤ N := sk_ub hₓ.2.1.2
  have hstₓ : pstep F N (cfgM F N 0 [] σ) = if wDeeds.any (fun W => isWd F N (sk F N (σ 0 14)) W) = true then (if 12 ≤ σ 0 20 then halt (1 + 8 * sk F N (σ 0 14) + 4) else (1, sk F N (wd F N (sk F N (σ 0 14))), σ 0 18, σ 0 20 + 1, [])) else halt (1 + 8 * sk F N (σ 0 14)) := rfl
  unfold m_X12_clauseHere at eₓ
  obtain ⟨r1ₓ, s1ₓ, e1ₓ, eₓ⟩ := mCall_el eₓ
  obtain ⟨rfl, rfl⟩ := r_seem hₓ.1 hₓ.2.1.1 e1ₓ
  obtain ⟨h1ₓ, hc1ₓ⟩ := OKM.stay (ℓ := 0) (S := []) hₓ
  have k1ₓ : KS σ (upS σ 0 14 (sk F N (σ 0 14))) := KS.up (Or.inl rfl)
  have n14ₓ : upS σ 0 14 (sk F N (σ 0 14)) 0 14 = sk F N (σ 0 14) := upS_s
  have n20ₓ : upS σ 0 14 (sk F N (σ 0 14)) 0 20 = σ 0 20 := upS_n (by omega)
  have n18ₓ : upS σ 0 14 (sk F N (σ 0 14)) 0 18 = σ 0 18 := upS_n (by omega)
  have ds : ∀ {r'ₓ : Int} {s'ₓ : SS} {τ : SS}, OKM F N τ → τ 0 14 = sk F N (σ 0 14) → m_X12_doingSort nₓ 0 τ = some (r'ₓ, s'ₓ) → ((wDeeds.any (fun W => isWd F N (sk F N (σ 0 14)) W) = true ∧ 0 ≤ r'ₓ) ∨ (wDeeds.any (fun W => isWd F N (sk F N (σ 0 14)) W) = false ∧ r'ₓ = -1)) ∧ s'ₓ = τ := by
    intro r'ₓ s'ₓ τ hₓτ hnₓ eₓ
    obtain ⟨z1ₓ, z2ₓ⟩ := r_doingSort hₓτ.1 hₓτ.2.1.1 eₓ
    rw [hnₓ, sk_idem] at z1ₓ z2ₓ
    refine ⟨z1ₓ, ?_⟩
    rw [z2ₓ, ← hnₓ]; exact upS_id
  rw [mRd_e, n14ₓ, mRd_e, upS_n (show ¬ ((0 : Nat) = 0 ∧ (17 : Nat) = 14) by decide), mIf_pos htxₓ] at eₓ
  unfold b_X12_clauseHere_24 at eₓ
  rw [mIf_pos rfl] at eₓ
  obtain ⟨r2ₓ, s2ₓ, e2ₓ, eₓ⟩ := mCall_el eₓ
  obtain ⟨hdₓ, rfl⟩ := ds h1ₓ n14ₓ e2ₓ
  unfold b_X12_clauseHere_89 at eₓ
  rcases hdₓ with ⟨hanyₓ, hrₓ⟩ | ⟨hanyₓ, rfl⟩
  · rw [mIf_neg (show ¬ r2ₓ < 0 by omega), mIf_pos (show ¬ (1 : Int) = 0 by decide), mRd_e, mIf_pos rfl, n20ₓ] at eₓ
    unfold b_X12_clauseHere_116 at eₓ
    by_cases c12ₓ : σ 0 20 = 12
    · rw [mIf_neg (fun qₓ => qₓ c12ₓ), r_fails h1ₓ.2.2.1, mCall_s] at eₓ
      obtain ⟨rfl, rfl⟩ := some_el eₓ
      refine ⟨fun qₓ kₓ cₓ => by rw [upS_n (by omega), upS_n (by omega)], Or.inr ⟨rfl, by rw [upS_s]; omega, ?_⟩⟩
      rw [upS_s]
      exact St_one (by rw [hstₓ, if_pos hanyₓ, if_pos (by omega)])
    · rw [mIf_pos c12ₓ, mRd_e, n20ₓ, mLet_e, mWr_e, mIf_pos rfl] at eₓ
      have h3ₓ : OKM F N (upS (upS σ 0 14 (sk F N (σ 0 14))) 0 20 (σ 0 20 + 1)) := by
        obtain ⟨b1ₓ, b2ₓ, b3ₓ, b4ₓ, b5ₓ⟩ := h1ₓ
        refine ⟨b1ₓ.up (by decide) (by omega), ?_, ?_, ?_, ?_⟩
        · rw [upS_n (by omega)]; exact b2ₓ
        · rw [upS_n (by omega)]; exact b3ₓ
        · rw [upS_n (by omega)]; exact b4ₓ
        · rw [upS_n (by omega)]; exact b5ₓ
      have m14ₓ : upS (upS σ 0 14 (sk F N (σ 0 14))) 0 20 (σ 0 20 + 1) 0 14 = sk F N (σ 0 14) := (upS_n (by omega)).trans n14ₓ
      obtain ⟨r3ₓ, s3ₓ, e3ₓ, eₓ⟩ := mCall_el eₓ
      obtain ⟨-, rfl⟩ := ds h3ₓ m14ₓ e3ₓ
      obtain ⟨r4ₓ, s4ₓ, e4ₓ, eₓ⟩ := mCall_el eₓ
      obtain ⟨rfl, rfl⟩ := some_el eₓ
      have stₓ : St F N (cfgM F N 0 [] σ) (1, sk F N (wd F N (upS (upS σ 0 14 (sk F N (σ 0 14))) 0 20 (σ 0 20 + 1) 0 14)), upS (upS σ 0 14 (sk F N (σ 0 14))) 0 20 (σ 0 20 + 1) 0 18, upS (upS σ 0 14 (sk F N (σ 0 14))) 0 20 (σ 0 20 + 1) 0 20, []) := by
        rw [m14ₓ, upS_s, upS_n (show ¬ ((0 : Nat) = 0 ∧ (18 : Nat) = 20) by decide), n18ₓ]
        exact St_one (by rw [hstₓ, if_pos hanyₓ, if_neg (by omega)])
      obtain ⟨k4ₓ, h4ₓ⟩ := r_isDoing h3ₓ stₓ e4ₓ
      refine ⟨fun qₓ kₓ cₓ => by rw [k4ₓ qₓ kₓ (by omega), upS_n (by omega), upS_n (by omega)], ?_⟩
      have e20ₓ : σ' 0 20 = σ 0 20 + 1 := (k4ₓ 0 20 (by omega)).trans upS_s
      rcases h4ₓ with ⟨y1ₓ, y2ₓ, y3ₓ⟩ | ⟨y1ₓ, y2ₓ, y3ₓ⟩
      · exact Or.inl ⟨y1ₓ, y2ₓ, by omega, by omega, y3ₓ⟩
      · exact Or.inr ⟨y1ₓ, y2ₓ, y3ₓ⟩
  · rw [mIf_pos (show (-1 : Int) < 0 by decide), mIf_neg (fun qₓ => qₓ rfl), r_fails h1ₓ.2.2.1, mCall_s] at eₓ
    obtain ⟨rfl, rfl⟩ := some_el eₓ
    refine ⟨fun qₓ kₓ cₓ => by rw [upS_n (by omega), upS_n (by omega)], Or.inr ⟨rfl, by rw [upS_s]; omega, ?_⟩⟩
    rw [upS_s, Int.add_zero]
    exact St_one (by rw [hstₓ, hanyₓ, if_neg (by decide)])
theorem r_reads88 (eₓ : b_X12_readsAll_88 (j_X12_readsAll 0 nₓ) nₓ 0 σ = some (rₓ, σ')) : σ' = upS σ 0 1 0 ∧ rₓ = if σ 0 15 = 0 then 1 else 0 := by
  unfold b_X12_readsAll_88 at eₓ
  rw [mWr_e, mRd_e, upS_n (show ¬ ((0 : Nat) = 0 ∧ (15 : Nat) = 1) by decide)] at eₓ
  by_cases cₓ : σ 0 15 = 0
  · rw [mIf_neg (fun qₓ => qₓ cₓ)] at eₓ
    obtain ⟨rfl, rfl⟩ := some_el eₓ
    exact ⟨rfl, by rw [if_pos cₓ]⟩
  · rw [mIf_pos cₓ] at eₓ
    obtain ⟨rfl, rfl⟩ := some_el eₓ
    exact ⟨rfl, by rw [if_neg cₓ]⟩
/-- all clauses of aₓ RULE -/
theorem r_reads0 {c0ₓ : Cfg} : ∀ (nₓ : Nat) (vₓ : Int) (σ : SS), σ 0 17 ≠ 6 → ((vₓ = 1 ∧ OKM F N σ ∧ 0 ≤ σ 0 20 ∧ σ 0 20 ≤ 12 ∧ St F N c0ₓ (cfgM F N 8 [] σ)) ∨ (vₓ = 0 ∧ σ 0 15 ≠ 0 ∧ St F N c0ₓ (halt (σ 0 15)))) → j_X12_readsAll 0 nₓ 35 [vₓ] σ = some (rₓ, σ') → σ' 0 1 = 0 ∧ (∀ kₓ : Nat, (kₓ = 2 ∨ kₓ = 17) → σ' 0 kₓ = σ 0 kₓ) ∧ St F N c0ₓ (halt (σ' 0 15)) ∧ rₓ = (if σ' 0 15 = 0 then 1 else 0) := by
  intro nₓ
  induction nₓ with
  | zero => intro vₓ σ htxₓ hv eₓ; exact none_el eₓ
  | succ nₓ ihₓ =>
    intro vₓ σ htxₓ hv eₓ
    rw [e_X12_readsAll_35] at eₓ
    unfold b_X12_readsAll_35 b_X12_readsAll_66 at eₓ
    have finₓ : ∀ (τ : SS), (∀ kₓ : Nat, (kₓ = 2 ∨ kₓ = 17) → τ 0 kₓ = σ 0 kₓ) → St F N c0ₓ (halt (τ 0 15)) → b_X12_readsAll_88 (j_X12_readsAll 0 nₓ) nₓ 0 τ = some (rₓ, σ') → σ' 0 1 = 0 ∧ (∀ kₓ : Nat, (kₓ = 2 ∨ kₓ = 17) → σ' 0 kₓ = σ 0 kₓ) ∧ St F N c0ₓ (halt (σ' 0 15)) ∧ rₓ = (if σ' 0 15 = 0 then 1 else 0) := by
      intro τ h1ₓ h2ₓ eₓ
      obtain ⟨rfl, rfl⟩ := r_reads88 eₓ
      rw [upS_n (show ¬ ((0 : Nat) = 0 ∧ (15 : Nat) = 1) by decide)]
      exact ⟨upS_s, fun kₓ hkₓ => by rw [upS_n (by omega)]; exact h1ₓ kₓ hkₓ, h2ₓ, rfl⟩
    rcases hv with ⟨rfl, hₓ, hl0ₓ, hl1ₓ, stₓ⟩ | ⟨rfl, hfₓ, stₓ⟩
    · rw [mIf_neg (show ¬ (1 : Int) = 0 by decide)] at eₓ
      have hq0ₓ : 0 ≤ sk F N (σ 0 14) := Int.le_trans hₓ.2.1.1 sk_ge
      have hqNₓ : sk F N (σ 0 14) ≤ N := sk_ub hₓ.2.1.2
      have s8ₓ : pstep F N (cfgM F N 8 [] σ) = if byteIs F N (sk F N (σ 0 14)) 59 = true then (0, sk F N (sk F N (σ 0 14) + 1), σ 0 18, σ 0 20, []) else if sk F N (σ 0 14) < N then halt (1 + 8 * sk F N (σ 0 14)) else halt 0 := rfl
      obtain ⟨r1ₓ, s1ₓ, e1ₓ, eₓ⟩ := mCall_el eₓ
      obtain ⟨rfl, rfl⟩ := r_seem hₓ.1 hₓ.2.1.1 e1ₓ
      obtain ⟨h1ₓ, hc1ₓ⟩ := OKM.stay (ℓ := 8) (S := []) hₓ
      have k1ₓ : KS σ (upS σ 0 14 (sk F N (σ 0 14))) := KS.up (Or.inl rfl)
      have n14ₓ : upS σ 0 14 (sk F N (σ 0 14)) 0 14 = sk F N (σ 0 14) := upS_s
      by_cases c59ₓ : bt F N (sk F N (σ 0 14)) = 59
      · have hbₓ := bt_lt (by decide) c59ₓ
        rw [mIf_neg (fun qₓ => qₓ c59ₓ), mRd_e, n14ₓ, mLet_e, mWr_e, upS_upS] at eₓ
        have h2ₓ : OKM F N (upS σ 0 14 (sk F N (σ 0 14) + 1)) := hₓ.mv (by omega) (by omega)
        have x17ₓ : upS σ 0 14 (sk F N (σ 0 14) + 1) 0 17 = σ 0 17 := upS_n (by omega)
        have x20ₓ : upS σ 0 14 (sk F N (σ 0 14) + 1) 0 20 = σ 0 20 := upS_n (by omega)
        obtain ⟨r2ₓ, s2ₓ, e2ₓ, eₓ⟩ := mCall_el eₓ
        obtain ⟨k3ₓ, h3ₓ⟩ := r_clause h2ₓ (by rw [x17ₓ]; exact htxₓ) (by rw [x20ₓ]; exact hl0ₓ) (by rw [x20ₓ]; exact hl1ₓ) e2ₓ
        have st2ₓ : St F N c0ₓ (cfgM F N 0 [] (upS σ 0 14 (sk F N (σ 0 14) + 1))) := by
          rw [cfgM_mv]
          exact stₓ.tr (St_one (by rw [s8ₓ, if_pos (byteIs_t hbₓ.1 hbₓ.2)]))
        have kk : ∀ kₓ : Nat, (kₓ = 2 ∨ kₓ = 17) → s2ₓ 0 kₓ = σ 0 kₓ := fun kₓ hkₓ => by rw [k3ₓ 0 kₓ (by omega), upS_n (by omega)]
        have res : ∀ P : Prop, P → P := fun _ hₓ => hₓ
        have h9ₓ : (r2ₓ = 1 ∧ OKM F N s2ₓ ∧ 0 ≤ s2ₓ 0 20 ∧ s2ₓ 0 20 ≤ 12 ∧ St F N c0ₓ (cfgM F N 8 [] s2ₓ)) ∨ (r2ₓ = 0 ∧ s2ₓ 0 15 ≠ 0 ∧ St F N c0ₓ (halt (s2ₓ 0 15))) := by
          rcases h3ₓ with ⟨y1ₓ, y2ₓ, y3ₓ, y4ₓ, y5ₓ⟩ | ⟨y1ₓ, y2ₓ, y3ₓ⟩
          · exact Or.inl ⟨y1ₓ, y2ₓ, y3ₓ, y4ₓ, st2ₓ.tr y5ₓ⟩
          · exact Or.inr ⟨y1ₓ, y2ₓ, st2ₓ.tr y3ₓ⟩
        obtain ⟨i1ₓ, i2ₓ, i3ₓ, i4ₓ⟩ := ihₓ r2ₓ s2ₓ (by rw [kk 17 (by omega)]; exact htxₓ) h9ₓ eₓ
        exact ⟨i1ₓ, fun kₓ hkₓ => (i2ₓ kₓ hkₓ).trans (kk kₓ hkₓ), i3ₓ, i4ₓ⟩
      · rw [mIf_pos c59ₓ, mIf_neg (show ¬ (1 : Int) = 0 by decide)] at eₓ
        obtain ⟨r2ₓ, s2ₓ, e2ₓ, eₓ⟩ := mCall_el eₓ
        obtain ⟨rfl, rfl⟩ := r_seem h1ₓ.1 h1ₓ.2.1.1 e2ₓ
        rw [n14ₓ, sk_idem, upS_upS] at eₓ
        have nb : byteIs F N (sk F N (σ 0 14)) 59 = false := byteIs_f (fun qₓ => c59ₓ ((bt_is (by decide)).mpr qₓ))
        by_cases cN : sk F N (σ 0 14) < N
        · have hFₓ := (hₓ.1.2 _ hq0ₓ cN).1
          rw [mIf_neg (show ¬ bt F N (sk F N (σ 0 14)) = -1 by unfold bt; rw [if_pos cN]; omega), mRd_e, n14ₓ, r_fails ((upS_n (by omega)).trans hₓ.2.2.1), mCall_s, Int.add_zero] at eₓ
          refine finₓ _ (fun kₓ hkₓ => by rw [upS_n (by omega), upS_n (by omega)]) ?_ eₓ
          rw [upS_s]
          exact stₓ.tr (St_one (by rw [s8ₓ, nb, if_neg (by decide), if_pos cN]))
        · rw [mIf_pos (show bt F N (sk F N (σ 0 14)) = -1 by unfold bt; rw [if_neg cN])] at eₓ
          refine finₓ _ (fun kₓ hkₓ => by rw [upS_n (by omega)]) ?_ eₓ
          rw [upS_n (show ¬ ((0 : Nat) = 0 ∧ (15 : Nat) = 14) by decide), hₓ.2.2.1]
          exact stₓ.tr (St_one (by rw [s8ₓ, nb, if_neg (by decide), if_neg cN]))
    · rw [mIf_pos rfl, mIf_pos rfl] at eₓ
      exact finₓ σ (fun _ _ => rfl) stₓ eₓ
/-- rule(), of the reference -/
theorem r_rule (hv : MV F N σ) (h0ₓ : 0 ≤ N) (hr0ₓ : 0 ≤ σ 0 2) (hr6ₓ : σ 0 2 ≤ 6) (eₓ : m_X12_rule nₓ 0 σ = some (rₓ, σ')) : (σ 0 2 = 6 ∧ rₓ = -1 ∧ σ' = σ) ∨ (σ 0 2 < 6 ∧ σ' 0 1 = 0 ∧ ∃ φ : Int, St F N (0, sk F N 0, 0, 0, []) (halt φ) ∧ ((φ = 0 ∧ rₓ = σ 0 2 ∧ σ' 0 2 = σ 0 2 + 1) ∨ (φ ≠ 0 ∧ rₓ = -2 - φ ∧ σ' 0 2 = σ 0 2))) := by
  unfold m_X12_rule at eₓ
  rw [mRd_e] at eₓ
  by_cases c6ₓ : σ 0 2 = 6
  · rw [mIf_neg (fun qₓ => qₓ c6ₓ)] at eₓ
    obtain ⟨rfl, rfl⟩ := some_el eₓ
    exact Or.inl ⟨c6ₓ, rfl, rfl⟩
  · rw [mIf_pos c6ₓ, mRd_e, mWr_e, mRd_e, mWr_e] at eₓ
    obtain ⟨r1ₓ, s1ₓ, e1ₓ, eₓ⟩ := mCall_el eₓ
    unfold m_X12_readsAll at e1ₓ
    simp only [mRd_e, mWr_e] at e1ₓ
    obtain ⟨r2ₓ, s2ₓ, e2ₓ, e1ₓ⟩ := mCall_el e1ₓ
    have h9ₓ : ∃ τ : SS, m_X12_clauseHere nₓ 0 τ = some (r2ₓ, s2ₓ) ∧ τ 0 20 = 0 ∧ τ 0 14 = 0 ∧ τ 0 15 = 0 ∧ τ 0 18 = 0 ∧ τ 0 17 = σ 0 2 ∧ τ 0 2 = σ 0 2 ∧ τ 0 1 = N ∧ (∀ kₓ : Nat, τ 1 kₓ = σ 1 kₓ) := by
      refine ⟨_, e2ₓ, ?_, ?_, ?_, ?_, ?_, ?_, ?_, fun kₓ => ?_⟩
      · rw [upS_n (by omega), upS_n (by omega), upS_n (by omega)]; exact upS_s
      · rw [upS_n (by omega), upS_n (by omega)]; exact upS_s
      · rw [upS_n (by omega)]; exact upS_s
      · exact upS_s
      · rw [upS_n (by omega), upS_n (by omega), upS_n (by omega), upS_n (by omega), upS_n (by omega), upS_n (by omega)]; exact upS_s
      · rw [upS_n (by omega), upS_n (by omega), upS_n (by omega), upS_n (by omega), upS_n (by omega), upS_n (by omega), upS_n (by omega)]
      · rw [upS_n (by omega), upS_n (by omega), upS_n (by omega), upS_n (by omega), upS_n (by omega), upS_n (by omega), upS_n (by omega)]; exact hv.1
      · rw [upS_n (by omega), upS_n (by omega), upS_n (by omega), upS_n (by omega), upS_n (by omega), upS_n (by omega), upS_n (by omega)]
    obtain ⟨τ, f1ₓ, f2ₓ, f3ₓ, f4ₓ, f5ₓ, f6ₓ, f7ₓ, f8ₓ, f9ₓ⟩ := h9ₓ
    have hokₓ : OKM F N τ := ⟨⟨f8ₓ, fun jₓ j0ₓ j1ₓ => by rw [f9ₓ]; exact hv.2 jₓ j0ₓ j1ₓ⟩, by rw [f3ₓ]; exact ⟨by decide, h0ₓ⟩, f4ₓ, by rw [f5ₓ]; decide, by rw [f5ₓ]; decide⟩
    obtain ⟨k3ₓ, h3ₓ⟩ := r_clause hokₓ (by rw [f6ₓ]; exact c6ₓ) (by rw [f2ₓ]; decide) (by rw [f2ₓ]; decide) f1ₓ
    have hc0ₓ : cfgM F N 0 [] τ = (0, sk F N 0, 0, 0, []) := by unfold cfgM; rw [f3ₓ, f5ₓ, f2ₓ]
    rw [hc0ₓ] at h3ₓ
    have h4ₓ : (r2ₓ = 1 ∧ OKM F N s2ₓ ∧ 0 ≤ s2ₓ 0 20 ∧ s2ₓ 0 20 ≤ 12 ∧ St F N (0, sk F N 0, 0, 0, []) (cfgM F N 8 [] s2ₓ)) ∨ (r2ₓ = 0 ∧ s2ₓ 0 15 ≠ 0 ∧ St F N (0, sk F N 0, 0, 0, []) (halt (s2ₓ 0 15))) := by
      rcases h3ₓ with ⟨y1ₓ, y2ₓ, y3ₓ, y4ₓ, y5ₓ⟩ | ⟨y1ₓ, y2ₓ, y3ₓ⟩
      · exact Or.inl ⟨y1ₓ, y2ₓ, y3ₓ, y4ₓ, y5ₓ⟩
      · exact Or.inr ⟨y1ₓ, y2ₓ, y3ₓ⟩
    obtain ⟨i1ₓ, i2ₓ, i3ₓ, i4ₓ⟩ := r_reads0 nₓ r2ₓ s2ₓ (by rw [k3ₓ 0 17 (by omega), f6ₓ]; exact c6ₓ) h4ₓ e1ₓ
    have x2ₓ : s1ₓ 0 2 = σ 0 2 := by rw [i2ₓ 2 (by omega), k3ₓ 0 2 (by omega), f7ₓ]
    refine Or.inr ⟨by omega, ?_⟩
    by_cases cf : s1ₓ 0 15 = 0
    · rw [if_pos cf] at i4ₓ
      subst i4ₓ
      rw [mIf_pos (show ¬ (1 : Int) = 0 by decide)] at eₓ
      simp only [mRd_e, mLet_e, mWr_e, mRet_e] at eₓ
      obtain ⟨rfl, rfl⟩ := some_el eₓ
      rw [upS_s, upS_n (show ¬ ((0 : Nat) = 0 ∧ (1 : Nat) = 2) by decide), x2ₓ]
      rw [cf] at i3ₓ
      exact ⟨i1ₓ, 0, i3ₓ, Or.inl ⟨rfl, by omega, rfl⟩⟩
    · rw [if_neg cf] at i4ₓ
      subst i4ₓ
      rw [mIf_neg (fun qₓ => qₓ rfl)] at eₓ
      simp only [mRd_e, mLet_e, mRet_e] at eₓ
      obtain ⟨rfl, rfl⟩ := some_el eₓ
      exact ⟨i1ₓ, _, i3ₓ, Or.inr ⟨cf, rfl, x2ₓ⟩⟩
end
