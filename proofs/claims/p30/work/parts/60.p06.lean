section
variable {F : Int → Int} {N : Int} {qr ℓ ℓ' : Nat} {S S' : List Bool} {σ σ' : SS} {pₓ gₓ φ rₓ tₓ : Int} {nₓ : Nat}
/-- cells that reading aₓ rule leaves: the object's own, the tape's bytes -/
def K0 (σ σ' : SS) : Prop := ∀ qₓ kₓ : Nat, (qₓ = 0 ∨ qₓ = 2 ∨ (qₓ = 1 ∧ kₓ = 2)) → σ' qₓ kₓ = σ qₓ kₓ
theorem K0.rf : K0 σ σ := fun _ _ _ => rfl
theorem K0.tr {σ'' : SS} (hₓ : K0 σ σ') (gₓ : K0 σ' σ'') : K0 σ σ'' := fun qₓ kₓ eₓ => (gₓ qₓ kₓ eₓ).trans (hₓ qₓ kₓ eₓ)
theorem Kp.k0 (hₓ : Kp qr σ σ') : K0 σ σ' := fun qₓ kₓ eₓ => hₓ qₓ kₓ (by omega)
theorem CV.k0 (hₓ : CV F N σ) (eₓ : K0 σ σ') : CV F N σ' := ⟨(eₓ 1 2 (by omega)).trans hₓ.1, fun jₓ h0ₓ h1ₓ => (eₓ 2 _ (by omega)).trans (hₓ.2.1 jₓ h0ₓ h1ₓ), hₓ.2.2⟩
theorem c_isFull : m_X2_isFull nₓ qr σ = some (if σ qr 4 < 12 then 0 else 1, σ) := by
  unfold m_X2_isFull
  rw [mRd_e]
  by_cases cₓ : σ qr 4 < 12
  · rw [mIf_pos cₓ, if_pos cₓ, mRet_e]
  · rw [mIf_neg cₓ, if_neg cₓ, mRet_e]
/-- what aₓ clause added changes: the rule alone -/
theorem c_addClause (hqₓ : 5 ≤ qr) (eₓ : m_X2_addClause nₓ qr tₓ σ = some (rₓ, σ')) : (∀ qₓ kₓ : Nat, qₓ < 5 → σ' qₓ kₓ = σ qₓ kₓ) ∧ σ' qr 4 = if σ qr 4 < 12 then σ qr 4 + 1 else σ qr 4 := by
  unfold m_X2_addClause at eₓ
  rw [c_isFull, mCall_s] at eₓ
  unfold b_X2_addClause_61 at eₓ
  by_cases cₓ : σ qr 4 < 12
  · rw [if_pos cₓ, mIf_neg (fun qₓ => qₓ rfl)] at eₓ
    simp only [mRd_e, mWr_e, mLet_e, mRet_e] at eₓ
    rw [if_pos cₓ]
    have finₓ : ∀ (zₓ : Int), some ((0 : Int), upS (upS (upS (upS σ (qr + 1) (σ qr 4).toNat tₓ) qr 5 zₓ) qr 4 (upS (upS σ (qr + 1) (σ qr 4).toNat tₓ) qr 5 zₓ qr 4 + 1)) (qr + 2) (upS (upS (upS σ (qr + 1) (σ qr 4).toNat tₓ) qr 5 zₓ) qr 4 (upS (upS σ (qr + 1) (σ qr 4).toNat tₓ) qr 5 zₓ qr 4 + 1) qr 4).toNat (upS (upS (upS σ (qr + 1) (σ qr 4).toNat tₓ) qr 5 zₓ) qr 4 (upS (upS σ (qr + 1) (σ qr 4).toNat tₓ) qr 5 zₓ qr 4 + 1) qr 3)) = some (rₓ, σ') → (∀ qₓ kₓ : Nat, qₓ < 5 → σ' qₓ kₓ = σ qₓ kₓ) ∧ σ' qr 4 = σ qr 4 + 1 := by
      intro zₓ eₓ
      obtain ⟨-, rfl⟩ := some_el eₓ
      refine ⟨fun qₓ kₓ hₓ => ?_, ?_⟩
      · rw [upS_q (by omega), upS_q (by omega), upS_q (by omega), upS_q (by omega)]
      · rw [upS_q (by omega), upS_s, upS_k (by decide), upS_q (by omega)]
    by_cases c5ₓ : upS σ (qr + 1) (σ qr 4).toNat tₓ qr 5 = 0
    · rw [mIf_neg (fun qₓ => qₓ c5ₓ)] at eₓ
      by_cases ct : tₓ = 1
      · rw [mIf_neg (fun qₓ => qₓ ct)] at eₓ; exact finₓ 1 eₓ
      · rw [mIf_pos ct] at eₓ; exact finₓ 0 eₓ
    · rw [mIf_pos c5ₓ] at eₓ; exact finₓ 1 eₓ
  · rw [if_neg cₓ, mIf_pos (show ¬ (1 : Int) = 0 by decide)] at eₓ
    obtain ⟨-, rfl⟩ := some_el eₓ
    exact ⟨fun _ _ _ => rfl, by rw [if_neg cₓ]⟩
theorem step0 {qₓ kₓ L : Int} : pstep F N (0, qₓ, kₓ, L, []) = if wDeeds.any (fun W => isWd F N qₓ W) = true then (if 12 ≤ L then halt (1 + 8 * qₓ + 4) else (1, sk F N (wd F N qₓ), kₓ, L + 1, [])) else halt (1 + 8 * qₓ) := rfl
theorem step1 {qₓ kₓ L : Int} : pstep F N (1, qₓ, kₓ, L, []) = if isWd F N qₓ wIf = true then (2, sk F N (wd F N qₓ), kₓ, L, []) else (8, qₓ, kₓ, L, []) := rfl
theorem step8 {qₓ kₓ L : Int} : pstep F N (8, qₓ, kₓ, L, []) = if byteIs F N qₓ 59 = true then (0, sk F N (qₓ + 1), kₓ, L, []) else if qₓ < N then halt (1 + 8 * qₓ) else halt 0 := rfl
theorem step7e {qₓ kₓ L : Int} (hₓ : joinAt F N qₓ = false) : pstep F N (7, qₓ, kₓ, L, []) = (8, qₓ, kₓ, L, []) := by
  show (if joinAt F N qₓ = true then _ else _) = _
  rw [hₓ, if_neg (by decide)]
/-- behindₓ aₓ clause: aₓ semicolon, the end, or aₓ fault -/
theorem c_clauseEnd (hqₓ : 5 ≤ qr) (hₓ : OKC F N σ) (eₓ : m_X6_takeSemicolon nₓ 1 σ = some (rₓ, σ')) : OKC F N σ' ∧ Kp qr σ σ' ∧ ((rₓ = 1 ∧ σ' 1 4 = 0 ∧ St F N (cfgC F N qr 8 [] σ) (cfgC F N qr 0 [] σ')) ∨ (rₓ = 0 ∧ St F N (cfgC F N qr 8 [] σ) (halt (σ' 1 4)))) := by
  rw [← tp_self (σ := σ)] at eₓ
  have hleₓ : σ 1 1 ≤ sk F N (σ 1 1) := sk_ge
  have hp0ₓ := hₓ.2.1.1
  have hNₓ : sk F N (σ 1 1) ≤ N := sk_ub hₓ.2.1.2.1
  rcases c_takeSemicolon hₓ.1 hₓ.2.1.1 eₓ with ⟨hfₓ, rfl, rfl⟩ | ⟨hfₓ, hbₓ, rfl, rfl⟩ | ⟨hfₓ, hbₓ, rfl, rfl⟩
  · rw [tp_self]
    refine ⟨hₓ, Kp.rf, Or.inr ⟨rfl, ?_⟩⟩
    rw [cfg_n hfₓ]; exact St_rf
  · have hbNₓ := (of_decide_eq_true hbₓ).1
    refine ⟨hₓ.mv hfₓ (by omega) (by omega), tp_kp hqₓ, Or.inl ⟨rfl, tp_f, ?_⟩⟩
    rw [cfg_0 hfₓ, cfg_tp0 hqₓ]
    exact St_one (by rw [step8, if_pos hbₓ])
  · rw [cfg_0 hfₓ]
    by_cases cₓ : sk F N (σ 1 1) < N
    · rw [if_pos cₓ]
      refine ⟨hₓ.blame (by omega) hNₓ (by omega), tp_kp hqₓ, Or.inr ⟨rfl, ?_⟩⟩
      rw [tp_f]
      exact St_one (by rw [step8, hbₓ, if_neg (by decide), if_pos cₓ])
    · rw [if_neg cₓ]
      refine ⟨hₓ.mv hfₓ (by omega) hNₓ, tp_kp hqₓ, Or.inr ⟨rfl, ?_⟩⟩
      rw [tp_f]
      exact St_one (by rw [step8, hbₓ, if_neg (by decide), if_neg cₓ])
theorem OKC.lo (hₓ : OKC F N σ) (eₓ : ∀ qₓ kₓ : Nat, qₓ < 5 → σ' qₓ kₓ = σ qₓ kₓ) : OKC F N σ' := by
  obtain ⟨h1ₓ, h2ₓ, h3ₓ, h4ₓ, h5ₓ⟩ := hₓ
  unfold OKC
  rw [eₓ 1 1 (by omega), eₓ 3 2 (by omega), eₓ 1 4 (by omega)]
  exact ⟨⟨(eₓ 1 2 (by omega)).trans h1ₓ.1, fun jₓ h0ₓ h1'ₓ => (eₓ 2 _ (by omega)).trans (h1ₓ.2.1 jₓ h0ₓ h1'ₓ), h1ₓ.2.2⟩, h2ₓ, h3ₓ, h4ₓ, h5ₓ⟩
theorem c_readInto0 (hqₓ : 5 ≤ qr) {c0ₓ : Cfg} : ∀ (nₓ : Nat) (more iₓ : Int) (σ : SS), OKC F N σ → 0 ≤ iₓ → ((more = 0 ∧ St F N c0ₓ (halt (σ 1 4))) ∨ (more = 1 ∧ iₓ ≤ 12 ∧ σ qr 4 = iₓ ∧ σ 1 4 = 0 ∧ St F N c0ₓ (cfgC F N qr 0 [] σ))) → j_X3_readInto 3 qr nₓ 28 [more, iₓ] σ = some (rₓ, σ') → K0 σ σ' ∧ St F N c0ₓ (halt (σ' 1 4)) := by
  intro nₓ
  induction nₓ with
  | zero => intro more iₓ σ hₓ hiₓ hmₓ eₓ; exact none_el eₓ
  | succ nₓ ihₓ =>
    intro more iₓ σ hₓ hiₓ hmₓ eₓ
    rw [e_X3_readInto_28] at eₓ
    unfold b_X3_readInto_28 at eₓ
    rcases hmₓ with ⟨rfl, hstₓ⟩ | ⟨rfl, hi12ₓ, hLₓ, hfₓ, hstₓ⟩
    · rw [mIf_pos rfl] at eₓ
      obtain ⟨-, rfl⟩ := some_el eₓ
      exact ⟨K0.rf, hstₓ⟩
    rw [mIf_neg (show ¬ (1 : Int) = 0 by decide), mIf_neg (show ¬ 12 < iₓ by omega)] at eₓ
    have esₓ := es_0 hfₓ
    rw [← esₓ] at eₓ
    have hp0ₓ := hₓ.2.1.1
    have hleₓ : σ 1 1 ≤ sk F N (σ 1 1) := sk_ge
    have hNₓ : sk F N (σ 1 1) ≤ N := sk_ub hₓ.2.1.2.1
    have hq0ₓ : 0 ≤ sk F N (σ 1 1) := Int.le_trans hp0ₓ hleₓ
    have hwNₓ : wd F N (sk F N (σ 1 1)) ≤ N := wd_ub hNₓ
    have hwqₓ : sk F N (σ 1 1) ≤ wd F N (sk F N (σ 1 1)) := wd_ge
    rw [cfg_0 hfₓ] at hstₓ
    -- behindₓ the clause's word
    have behindₓ : ∀ (v4ₓ : Int) (τ : SS), OKC F N τ → K0 σ τ → (τ qr 4 = σ qr 4 ∨ τ 1 4 ≠ 0) → (τ 1 4 ≠ 0 → St F N c0ₓ (halt (τ 1 4))) → (τ 1 4 = 0 → St F N c0ₓ (1, sk F N (τ 1 1), τ 3 2, σ qr 4 + 1, []) ∧ σ qr 4 < 12) → b_X3_readInto_74 (j_X3_readInto 3 qr nₓ) nₓ 3 qr iₓ v4ₓ τ = some (rₓ, σ') → K0 σ σ' ∧ St F N c0ₓ (halt (σ' 1 4)) := by
      intro v4ₓ τ hₓτ hkₓ hclₓ hbadₓ hgoodₓ eₓ
      unfold b_X3_readInto_74 at eₓ
      obtain ⟨r1ₓ, s1ₓ, e1ₓ, eₓ⟩ := mCall_el eₓ
      obtain ⟨a1ₓ, a2ₓ⟩ := c_addClause hqₓ e1ₓ
      have hs1ₓ : OKC F N s1ₓ := hₓτ.lo a1ₓ
      have hk1ₓ : K0 σ s1ₓ := hkₓ.tr (fun qₓ kₓ cₓ => a1ₓ qₓ kₓ (by omega))
      have f14ₓ : s1ₓ 1 4 = τ 1 4 := a1ₓ 1 4 (by omega)
      have endcₓ : ∀ (s2ₓ : SS), OKC F N s2ₓ → K0 σ s2ₓ → (s2ₓ 1 4 ≠ 0 → St F N c0ₓ (halt (s2ₓ 1 4))) → (s2ₓ 1 4 = 0 → s2ₓ qr 4 = iₓ + 1 ∧ iₓ + 1 ≤ 12 ∧ St F N c0ₓ (cfgC F N qr 8 [] s2ₓ)) → b_X3_readInto_110 (j_X3_readInto 3 qr nₓ) nₓ 3 qr iₓ s2ₓ = some (rₓ, σ') → K0 σ σ' ∧ St F N c0ₓ (halt (σ' 1 4)) := by
        intro s2ₓ h2ₓ hk2ₓ hb2ₓ hg2ₓ eₓ
        unfold b_X3_readInto_110 at eₓ
        obtain ⟨r3ₓ, s3ₓ, e3ₓ, eₓ⟩ := mCall_el eₓ
        rw [mLet_e] at eₓ
        obtain ⟨h3ₓ, hk3ₓ, h4ₓ⟩ := c_clauseEnd hqₓ h2ₓ e3ₓ
        have st8ₓ : St F N c0ₓ (cfgC F N qr 8 [] s2ₓ) := by
          by_cases cₓ : s2ₓ 1 4 = 0
          · exact (hg2ₓ cₓ).2.2
          · rw [cfg_n cₓ]; exact hb2ₓ cₓ
        rcases h4ₓ with ⟨rfl, hzₓ, hst3ₓ⟩ | ⟨rfl, hst3ₓ⟩
        · have cₓ : s2ₓ 1 4 = 0 := by
            by_cases cₓ : s2ₓ 1 4 = 0
            · exact cₓ
            · rw [cfg_n cₓ] at hst3ₓ
              obtain ⟨jₓ, hjₓ⟩ := hst3ₓ
              rw [halt_stays, cfg_0 hzₓ] at hjₓ
              have := congrArg (fun cₓ : Cfg => cₓ.1) hjₓ
              exact absurd (show (9 : Nat) = 0 from this) (by decide)
          obtain ⟨g1ₓ, g2ₓ, g3ₓ⟩ := hg2ₓ cₓ
          have h5ₓ := ihₓ 1 (iₓ + 1) s3ₓ h3ₓ (by omega) (Or.inr ⟨rfl, g2ₓ, by rw [hk3ₓ qr 4 (by omega)]; exact g1ₓ, hzₓ, st8ₓ.tr hst3ₓ⟩) eₓ
          exact ⟨(hk2ₓ.tr hk3ₓ.k0).tr h5ₓ.1, h5ₓ.2⟩
        · have h5ₓ := ihₓ 0 (iₓ + 1) s3ₓ h3ₓ (by omega) (Or.inl ⟨rfl, st8ₓ.tr hst3ₓ⟩) eₓ
          exact ⟨(hk2ₓ.tr hk3ₓ.k0).tr h5ₓ.1, h5ₓ.2⟩
      by_cases cₓ : τ 1 4 = 0
      · obtain ⟨hst1ₓ, hltₓ⟩ := hgoodₓ cₓ
        have hcl'ₓ : τ qr 4 = σ qr 4 := by rcases hclₓ with hₓ | hₓ; exact hₓ; exact absurd cₓ hₓ
        rw [hcl'ₓ, if_pos hltₓ] at a2ₓ
        have c1ₓ : s1ₓ 1 4 = 0 := f14ₓ.trans cₓ
        have es1ₓ := es_0 c1ₓ
        rw [← es1ₓ, c_isFaulty, if_pos rfl, mCall_s, mIf_neg (fun qₓ => qₓ rfl)] at eₓ
        obtain ⟨r2ₓ, s2ₓ, e2ₓ, eₓ⟩ := mCall_el eₓ
        have p1ₓ : s1ₓ 1 1 = τ 1 1 := a1ₓ 1 1 (by omega)
        have k1ₓ : s1ₓ 3 2 = τ 3 2 := a1ₓ 3 2 (by omega)
        have hst1'ₓ : St F N c0ₓ (cfgC F N qr 1 [] s1ₓ) := by rw [cfg_0 c1ₓ, p1ₓ, k1ₓ, a2ₓ]; exact hst1ₓ
        rcases c_takeWord hs1ₓ.1 (kₓ := 3) (by decide) (by decide) hs1ₓ.2.1.1 hs1ₓ.2.1.2.1 e2ₓ with ⟨hwₓ, rfl, rfl⟩ | ⟨hwₓ, rfl, rfl⟩
        · rw [mIf_neg (show ¬ (1 : Int) = 0 by decide)] at eₓ
          obtain ⟨r3ₓ, s3ₓ, e3ₓ, eₓ⟩ := mCall_el eₓ
          have hw'ₓ : isWd F N (sk F N (s1ₓ 1 1)) wIf = true := hwₓ
          have hlₓ := isWd_len hw'ₓ
          rw [show (wIf.length : Int) = 2 from rfl] at hlₓ
          have hle1ₓ : s1ₓ 1 1 ≤ sk F N (s1ₓ 1 1) := sk_ge
          have h1ₓ : RS F N qr 1 2 [] [] s1ₓ (tp s1ₓ (wd F N (sk F N (s1ₓ 1 1))) (sk F N (s1ₓ 1 1)) 0) := RS.step hqₓ hs1ₓ c1ₓ (wd_ub (sk_ub hs1ₓ.2.1.2.1)) (by omega) (by rw [step1, if_pos hw'ₓ])
          have h2ₓ := c_readTest hqₓ h1ₓ.1 e3ₓ
          have h3ₓ := h1ₓ.tr h2ₓ.1
          refine endcₓ s3ₓ h3ₓ.1 (hk1ₓ.tr h3ₓ.2.1.k0) (fun hbₓ => ?_) (fun hzₓ => ?_) eₓ
          · have := h3ₓ.2.2.2; rw [cfg_n hbₓ] at this; exact hst1'ₓ.tr this
          · refine ⟨by rw [h3ₓ.2.1 qr 4 (by omega), a2ₓ]; omega, by omega, ?_⟩
            have h7ₓ := hst1'ₓ.tr h3ₓ.2.2.2
            rw [cfg_0 hzₓ] at h7ₓ ⊢
            exact h7ₓ.tr (St_one (step7e (h2ₓ.2 hzₓ)))
        · rw [mIf_pos rfl] at eₓ
          have h1ₓ : RS F N qr 1 1 [] [] s1ₓ (tp s1ₓ (sk F N (s1ₓ 1 1)) (sk F N (s1ₓ 1 1)) 0) := RS.stay hqₓ hs1ₓ c1ₓ
          refine endcₓ _ h1ₓ.1 (hk1ₓ.tr h1ₓ.2.1.k0) (fun hbₓ => absurd tp_f hbₓ) (fun hzₓ => ?_) eₓ
          refine ⟨by rw [h1ₓ.2.1 qr 4 (by omega), a2ₓ]; omega, by omega, ?_⟩
          rw [cfg_tp0 hqₓ, sk_idem]
          have h8ₓ := hst1'ₓ
          rw [cfg_0 c1ₓ] at h8ₓ
          refine h8ₓ.tr (St_one ?_)
          rw [step1, if_neg (by rw [show wIf = txt 3 from rfl, hwₓ]; decide)]
      · have c1ₓ : s1ₓ 1 4 ≠ 0 := by rw [f14ₓ]; exact cₓ
        rw [← tp_self (σ := s1ₓ), c_isFaulty, if_neg c1ₓ, mCall_s, mIf_pos (show ¬ (1 : Int) = 0 by decide), tp_self] at eₓ
        refine endcₓ s1ₓ hs1ₓ hk1ₓ (fun _ => ?_) (fun hzₓ => absurd hzₓ c1ₓ) eₓ
        rw [f14ₓ]; exact hbadₓ cₓ
    obtain ⟨r1ₓ, s1ₓ, e1ₓ, eₓ⟩ := mCall_el eₓ
    rcases c_readWord hₓ.1 (kₓ := 2) (by decide) (by decide) wls_enc.2.1 hp0ₓ hₓ.2.1.2.1 e1ₓ with ⟨hrₓ, hr0ₓ, rfl⟩ | ⟨rfl, hrₓ, rfl⟩
    · have hanyₓ : wDeeds.any (fun W => isWd F N (sk F N (σ 1 1)) W) = true := idx_any.mp (by rw [← show wls 2 = wDeeds from rfl, ← hrₓ]; exact hr0ₓ)
      rw [c_isFull, mCall_s, tp_o (show qr ≠ 1 by omega)] at eₓ
      by_cases c12ₓ : σ qr 4 < 12
      · rw [if_pos c12ₓ, mIf_pos rfl] at eₓ
        refine behindₓ r1ₓ _ (hₓ.mv hfₓ (by omega) hwNₓ) (tp_kp (qr := qr) hqₓ).k0 (Or.inl (tp_o (by omega))) (fun hbₓ => absurd tp_f hbₓ) (fun _ => ⟨?_, c12ₓ⟩) eₓ
        rw [tp_p, tp_o (show (3 : Nat) ≠ 1 by decide)]
        exact hstₓ.tr (St_one (by rw [step0, if_pos hanyₓ, if_neg (by omega)]))
      · rw [if_neg c12ₓ, mIf_neg (show ¬ (1 : Int) = 0 by decide), mRd_e, tp_g, c_blame, mCall_s, blm_0] at eₓ
        refine behindₓ r1ₓ _ (hₓ.blame (by omega) hwNₓ (by omega)) (tp_kp (qr := qr) hqₓ).k0 (Or.inl (tp_o (by omega))) (fun _ => ?_) (fun hzₓ => ?_) eₓ
        · rw [tp_f]
          refine hstₓ.tr (St_one ?_)
          rw [step0, if_pos hanyₓ, if_pos (by omega)]
          congr 1; omega
        · rw [tp_f] at hzₓ; omega
    · have hanyₓ : ¬ wDeeds.any (fun W => isWd F N (sk F N (σ 1 1)) W) = true := fun qₓ => by have h9ₓ := (idx_any (F := F) (N := N) (Ws := wDeeds)).mpr qₓ; rw [← show wls 2 = wDeeds from rfl, hrₓ] at h9ₓ; omega
      rw [c_isFull, mCall_s, tp_o (show qr ≠ 1 by omega), blm_0] at eₓ
      have stₓ : St F N c0ₓ (halt (1 + 8 * sk F N (σ 1 1))) := hstₓ.tr (St_one (by rw [step0, if_neg hanyₓ]))
      by_cases c12ₓ : σ qr 4 < 12
      · rw [if_pos c12ₓ, mIf_pos rfl] at eₓ
        refine behindₓ (-1) _ (hₓ.blame (by omega) hNₓ (by omega)) (tp_kp (qr := qr) hqₓ).k0 (Or.inl (tp_o (by omega))) (fun _ => ?_) (fun hzₓ => ?_) eₓ
        · rw [tp_f]; exact stₓ
        · rw [tp_f] at hzₓ; omega
      · rw [if_neg c12ₓ, mIf_neg (show ¬ (1 : Int) = 0 by decide), mRd_e, tp_g, c_blame, mCall_s, blm_n (by omega)] at eₓ
        refine behindₓ (-1) _ (hₓ.blame (by omega) hNₓ (by omega)) (tp_kp (qr := qr) hqₓ).k0 (Or.inl (tp_o (by omega))) (fun _ => ?_) (fun hzₓ => ?_) eₓ
        · rw [tp_f]; exact stₓ
        · rw [tp_f] at hzₓ; omega
theorem c_readInto (hqₓ : 5 ≤ qr) (hcₓ : CV F N σ) (h0ₓ : 0 ≤ N) (hNₓ : N ≤ 400) (eₓ : m_X3_readInto nₓ 3 qr σ = some (rₓ, σ')) : K0 σ σ' ∧ St F N (0, sk F N 0, 0, 0, []) (halt (σ' 1 4)) := by
  unfold m_X3_readInto m_X2_clear m_X6_startReading at eₓ
  simp only [mWr_e, mSt_e, mRet_e, mCall_s] at eₓ
  obtain ⟨τ, hₓτ⟩ : ∃ τ, τ = upS (upS (upS (upS (upS (upS (upS σ qr 4 0) qr 3 0) qr 5 0) 3 2 0) 1 1 0) 1 3 0) 1 4 0 := ⟨_, rfl⟩
  rw [← hₓτ] at eₓ
  have hkₓ : K0 σ τ := by
    intro qₓ kₓ cₓ
    rw [hₓτ]
    have c1ₓ : ¬ (qₓ = 1 ∧ kₓ = 4) := by omega
    have c2ₓ : ¬ (qₓ = 1 ∧ kₓ = 3) := by omega
    have c3ₓ : ¬ (qₓ = 1 ∧ kₓ = 1) := by omega
    have n1ₓ : ∀ {sₓ : SS} {aₓ bₓ : Nat} {vₓ : Int}, ¬ (qₓ = aₓ ∧ kₓ = bₓ) → upS sₓ aₓ bₓ vₓ qₓ kₓ = sₓ qₓ kₓ := fun hₓ => if_neg hₓ
    rw [n1ₓ c1ₓ, n1ₓ c2ₓ, n1ₓ c3ₓ, upS_q (by omega), upS_q (by omega), upS_q (by omega), upS_q (by omega)]
  have t14ₓ : τ 1 4 = 0 := by rw [hₓτ]; exact upS_s
  have t11ₓ : τ 1 1 = 0 := by rw [hₓτ, upS_k (by decide), upS_k (by decide)]; exact upS_s
  have t32ₓ : τ 3 2 = 0 := by rw [hₓτ, upS_q (by decide), upS_q (by decide), upS_q (by decide)]; exact upS_s
  have tq4 : τ qr 4 = 0 := by rw [hₓτ, upS_q (by omega), upS_q (by omega), upS_q (by omega), upS_q (by omega), upS_k (by decide), upS_k (by decide)]; exact upS_s
  have hokₓ : OKC F N τ := ⟨hcₓ.k0 hkₓ, ⟨by rw [t11ₓ]; decide, by rw [t11ₓ]; exact h0ₓ, hNₓ⟩, by rw [t32ₓ]; decide, by rw [t32ₓ]; decide, fun _ => by rw [t32ₓ]; decide⟩
  have h1ₓ := c_readInto0 hqₓ (c0ₓ := (0, sk F N 0, 0, 0, [])) nₓ 1 0 τ hokₓ (by decide) (Or.inr ⟨rfl, by decide, tq4, t14ₓ, by rw [cfg_0 t14ₓ, t11ₓ, t32ₓ, tq4]; exact St_rf⟩) eₓ
  exact ⟨hkₓ.tr h1ₓ.1, h1ₓ.2⟩
/-- rule(), of the class -/
theorem c_rule (hcₓ : CV F N σ) (h0ₓ : 0 ≤ N) (hNₓ : N ≤ 400) (hr0ₓ : 0 ≤ σ 0 12) (eₓ : m_X11_rule nₓ 0 σ = some (rₓ, σ')) : (6 ≤ σ 0 12 ∧ rₓ = -1 ∧ σ' = σ) ∨ (σ 0 12 < 6 ∧ σ' 1 2 = 0 ∧ ∃ φ : Int, St F N (0, sk F N 0, 0, 0, []) (halt φ) ∧ ((φ = 0 ∧ rₓ = σ 0 12 ∧ σ' 0 12 = σ 0 12 + 1) ∨ (φ ≠ 0 ∧ rₓ = -2 - φ ∧ σ' 0 12 = σ 0 12))) := by
  unfold m_X11_rule at eₓ
  rw [mRd_e] at eₓ
  by_cases cₓ : σ 0 12 < 6
  · rw [mIf_pos cₓ, mRd_e, mIx_e] at eₓ
    have hqₓ : 5 ≤ el 39 4 (σ 0 12).toNat := by unfold el; simp only [if_neg (show ¬ (39 : Nat) = 33 by decide), if_pos]; omega
    obtain ⟨r1ₓ, s1ₓ, e1ₓ, eₓ⟩ := mCall_el eₓ
    obtain ⟨hkₓ, hstₓ⟩ := c_readInto hqₓ hcₓ h0ₓ hNₓ e1ₓ
    have h12ₓ : s1ₓ 0 12 = σ 0 12 := hkₓ 0 12 (by omega)
    rw [mRd_e, mWr_e] at eₓ
    refine Or.inr ⟨cₓ, ?_⟩
    by_cases cf : s1ₓ 1 4 = 0
    · rw [mIf_pos cf] at eₓ
      simp only [mRd_e, mLet_e, mWr_e, mRet_e] at eₓ
      obtain ⟨rfl, rfl⟩ := some_el eₓ
      rw [upS_s, upS_q (show (0 : Nat) ≠ 1 by decide), h12ₓ]
      exact ⟨by rw [upS_q (by decide)]; exact upS_s, 0, by rw [cf] at hstₓ; exact hstₓ, Or.inl ⟨rfl, by omega, rfl⟩⟩
    · rw [mIf_neg cf] at eₓ
      simp only [mLet_e, mRet_e] at eₓ
      obtain ⟨rfl, rfl⟩ := some_el eₓ
      exact ⟨upS_s, s1ₓ 1 4, hstₓ, Or.inr ⟨cf, rfl, by rw [upS_q (by decide)]; exact h12ₓ⟩⟩
  · rw [mIf_neg cₓ] at eₓ
    obtain ⟨rfl, rfl⟩ := some_el eₓ
    exact Or.inl ⟨by omega, rfl, rfl⟩
end
