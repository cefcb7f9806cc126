/-! the class's clauses of aₓ town -/
section
variable {F : Int → Int} {N pₓ gₓ φ L qₓ : Int} {σ σ' τ : SS} {rₓ : Int} {nₓ : Nat} {D D' : Nat → Int}
def CO (F : Int → Int) (N L : Int) (σ σ' : SS) (X : TCf) : Prop := ∃ (τ : SS) (p'ₓ g'ₓ φ : Int), σ' = tp τ p'ₓ g'ₓ φ ∧ KT σ τ ∧ ((φ ≠ 0 ∧ X = tH φ) ∨ (φ = 0 ∧ 0 ≤ p'ₓ ∧ p'ₓ ≤ N ∧ ∃ D' : Nat → Int, X = tE F N L D' p'ₓ ∧ CT 29 D' τ ∧ OD D'))
theorem CO.bad {X : TCf} (hₓφ : φ ≠ 0) (hₓ : X = tH φ) : CO F N L σ (tp σ pₓ gₓ φ) X := ⟨σ, pₓ, gₓ, φ, rfl, KT.rf, Or.inl ⟨hₓφ, hₓ⟩⟩
theorem CS_keep {q0ₓ iₓ : Nat} (hₓ : CS q0ₓ D σ iₓ) (hDₓ : ∀ kₓ : Nat, 10 + 10 * iₓ ≤ kₓ → kₓ < 20 + 10 * iₓ → D' kₓ = D kₓ) (hlₓ : lf D' iₓ = lf D iₓ) (hₓσ : ∀ qₓ kₓ : Nat, ((qₓ = q0ₓ + 1 ∨ qₓ = q0ₓ + 5) ∧ (kₓ = 2 * iₓ ∨ kₓ = 2 * iₓ + 1)) ∨ (qₓ = q0ₓ + 2 ∧ kₓ = iₓ) ∨ (qₓ = q0ₓ + 3 ∧ 7 * iₓ ≤ kₓ ∧ kₓ < 7 * iₓ + 7) → τ qₓ kₓ = σ qₓ kₓ) (h4ₓ : τ (q0ₓ + 4) iₓ = lf D' iₓ) : CS q0ₓ D' τ iₓ := by
  obtain ⟨h1ₓ, h2ₓ, h3ₓ, h5ₓ, h6ₓ, h7ₓ, h8ₓ⟩ := hₓ
  have esₓ : ∀ jₓ : Nat, jₓ < 7 → sgA D iₓ jₓ = sgA D' iₓ jₓ := fun jₓ hjₓ => (hDₓ _ (by omega) (by omega)).symm
  refine ⟨?_, ?_, ?_, fun jₓ hjₓ => ?_, h4ₓ, ?_, ?_⟩
  · rw [hₓσ _ _ (by omega), hDₓ _ (by omega) (by omega)]; exact h1ₓ
  · rw [hₓσ _ _ (by omega), hDₓ _ (by omega) (by omega)]; exact h2ₓ
  · rw [hₓσ _ _ (by omega), hDₓ _ (by omega) (by omega)]; exact h3ₓ
  · rw [hₓσ _ _ (by omega), hDₓ _ (by omega) (by omega)]; exact h5ₓ jₓ hjₓ
  · rw [hₓσ _ _ (by omega), h7ₓ]; exact sb0_c 7 esₓ
  · rw [hₓσ _ _ (by omega), h8ₓ]; exact sb1_c 7 esₓ
theorem lf_keep {iₓ : Nat} (h3ₓ : D' 3 = D 3) (hDₓ : ∀ kₓ : Nat, 156 ≤ kₓ → D' kₓ = D kₓ) : lf D' iₓ = lf D iₓ := by
  unfold lf; rw [h3ₓ]; exact lfN_c _ (fun jₓ h1ₓ _ => hDₓ jₓ h1ₓ)
theorem c_place {aₓ : Nat} {xₓ yₓ hₓ : Int} : ∃ τ : SS, m_X7_placeStreet nₓ 29 (aₓ : Int) xₓ yₓ hₓ (tp σ pₓ gₓ φ) = some (0, tp τ pₓ gₓ φ) ∧ (τ 30 (2 * aₓ) = xₓ ∧ τ 30 (2 * aₓ + 1) = yₓ ∧ τ 31 aₓ = hₓ ∧ τ 33 aₓ = 0 ∧ τ 34 (2 * aₓ) = 0 ∧ τ 34 (2 * aₓ + 1) = 0) ∧ ∀ qₓ kₓ : Nat, ¬ ((qₓ = 30 ∨ qₓ = 34) ∧ (kₓ = 2 * aₓ ∨ kₓ = 2 * aₓ + 1)) → ¬ ((qₓ = 31 ∨ qₓ = 33) ∧ kₓ = aₓ) → τ qₓ kₓ = σ qₓ kₓ := by
  unfold m_X7_placeStreet
  have e1ₓ : ((aₓ : Int)).toNat = aₓ := by omega
  have e2ₓ : (2 * (aₓ : Int)).toNat = 2 * aₓ := by omega
  have e3ₓ : (2 * (aₓ : Int) + 1).toNat = 2 * aₓ + 1 := by omega
  simp only [mLet_e, mWr_e, mRd_e, mRet_e, e1ₓ, e2ₓ, e3ₓ]
  refine ⟨upS (upS (upS (upS (upS (upS σ 30 (2 * aₓ) xₓ) 30 (2 * aₓ + 1) yₓ) 31 aₓ hₓ) 33 aₓ 0) 34 (2 * aₓ) 0) 34 (2 * aₓ + 1) 0, ?_, ⟨?_, ?_, ?_, ?_, ?_, ?_⟩, ?_⟩
  · simp only [tp_up_o (show (30 : Nat) ≠ 1 by decide), tp_up_o (show (31 : Nat) ≠ 1 by decide), tp_up_o (show (33 : Nat) ≠ 1 by decide), tp_up_o (show (34 : Nat) ≠ 1 by decide)]
  · rw [upS_q (by decide), upS_q (by decide), upS_q (by decide), upS_q (by decide), upS_k (by omega), upS_s]
  · rw [upS_q (by decide), upS_q (by decide), upS_q (by decide), upS_q (by decide), upS_s]
  · rw [upS_q (by decide), upS_q (by decide), upS_q (by decide), upS_s]
  · rw [upS_q (by decide), upS_q (by decide), upS_s]
  · rw [upS_k (by omega), upS_s]
  · rw [upS_s]
  · intro qₓ kₓ h1ₓ h2ₓ
    rw [upS_n (by omega), upS_n (by omega), upS_n (by omega), upS_n (by omega), upS_n (by omega), upS_n (by omega)]
/-- aₓ street whose numbers stand: placed, its signs read -/
theorem c_street1 {aₓ : Nat} {xₓ yₓ hₓ P pₓ : Int} (hcₓ : CV F N σ) (hTₓ : CT 29 D σ) (hOₓ : OD D) (h1ₓ : ¬ 12 ≤ D 1) (haₓ : D 1 = (aₓ : Int)) (hpₓ : 0 ≤ pₓ) (hNₓ : pₓ ≤ N) (eₓ : (mCall (m_X7_placeStreet nₓ 29 (aₓ : Int) xₓ yₓ hₓ (tp σ pₓ P 0)) fun _ s14ₓ => mCall (m_X7_readSigns nₓ 29 1 s14ₓ) fun _ s15ₓ => mRd s15ₓ 29 9 fun x16ₓ => mLet (x16ₓ + 1) fun x17ₓ => mWr s15ₓ 29 9 x17ₓ fun s18ₓ => mRet 0 s18ₓ) = some (rₓ, σ')) : CO F N L σ σ' (sgK F N (fun D' pₓ => tE F N L (uD D' 1 (D 1 + 1)) pₓ) 7 (13 + 10 * (D 1).toNat) (sk F N pₓ) (uD (uD (uD D (10 + 10 * (D 1).toNat) xₓ) (11 + 10 * (D 1).toNat) yₓ) (12 + 10 * (D 1).toNat) hₓ)) := by
  obtain ⟨⟨t8ₓ, t9ₓ, t10ₓ, t11ₓ⟩, tS, tZ⟩ := id hTₓ
  obtain ⟨o0ₓ, o1ₓ, o2ₓ, o3ₓ, o4ₓ⟩ := id hOₓ
  have hatₓ : (D 1).toNat = aₓ := by omega
  rw [hatₓ]
  obtain ⟨τ, w1ₓ, ⟨w2ₓ, w3ₓ, w4ₓ, w5ₓ, w6ₓ, w7ₓ⟩, w8ₓ⟩ := c_place (nₓ := nₓ) (pₓ := pₓ) (gₓ := P) (φ := 0) (σ := σ) (aₓ := aₓ) (xₓ := xₓ) (yₓ := yₓ) (hₓ := hₓ)
  rw [w1ₓ, mCall_s] at eₓ
  obtain ⟨r1ₓ, s1ₓ, e1ₓ, eₓ⟩ := mCall_el eₓ
  unfold m_X7_readSigns at e1ₓ
  obtain ⟨r2ₓ, s2ₓ, e2ₓ, e1ₓ⟩ := mCall_el e1ₓ
  have kₓτ : KT σ τ := fun qₓ kₓ _ => w8ₓ qₓ kₓ (by omega) (by omega)
  have hcₓτ := hcₓ.kt kₓτ
  obtain ⟨-, rfl⟩ := c_lbbm hcₓτ hpₓ e2ₓ
  have d1ₓ : 0 ≤ sk F N pₓ := Int.le_trans hpₓ sk_ge
  have dN : sk F N pₓ ≤ N := sk_ub hNₓ
  obtain ⟨υ, p'ₓ, g'ₓ, φ, u1ₓ, u2ₓ, u3ₓ⟩ := c_signs0 (aₓ := aₓ) nₓ 0 τ (uD (uD (uD D (10 + 10 * aₓ) xₓ) (11 + 10 * aₓ) yₓ) (12 + 10 * aₓ) hₓ) (sk F N pₓ) hcₓτ ((w8ₓ 29 9 (by omega) (by omega)).trans (t9ₓ.trans haₓ)) (by decide) d1ₓ dN ⟨fun jₓ hjₓ => absurd hjₓ (Nat.not_lt_zero _), w6ₓ, w7ₓ⟩ e1ₓ
  subst u1ₓ
  rw [mRd_e, tp_o (by decide), u2ₓ 29 9 (by omega) (by omega), w8ₓ 29 9 (by omega) (by omega), t9ₓ, mLet_e, mWr_e, tp_up_o (by decide)] at eₓ
  obtain ⟨rfl, rfl⟩ := some_el eₓ
  refine ⟨upS υ 29 9 (D 1 + 1), p'ₓ, g'ₓ, φ, rfl, (kₓτ.tr u2ₓ.kt).tr (KT.up (by decide) (by decide)), ?_⟩
  rcases u3ₓ with ⟨v1ₓ, v2ₓ⟩ | ⟨v1ₓ, v2ₓ, v3ₓ, D', v4ₓ, v5ₓ, v6ₓ⟩
  · exact Or.inl ⟨v1ₓ, v2ₓ _⟩
  · refine Or.inr ⟨v1ₓ, v2ₓ, v3ₓ, uD D' 1 (D 1 + 1), v4ₓ _, ?_, ?_⟩
    · have e0ₓ : ∀ kₓ : Nat, (kₓ < 10 + 10 * aₓ ∨ 20 + 10 * aₓ ≤ kₓ) → kₓ ≠ 1 → uD D' 1 (D 1 + 1) kₓ = D kₓ := fun kₓ hkₓ hk1ₓ => by
        rw [uD_n hk1ₓ, v6ₓ kₓ (by omega), uD_n (by omega), uD_n (by omega), uD_n (by omega)]
      have esₓ : ∀ qₓ kₓ : Nat, ¬ ((qₓ = 30 ∨ qₓ = 34) ∧ (kₓ = 2 * aₓ ∨ kₓ = 2 * aₓ + 1)) → ¬ ((qₓ = 31 ∨ qₓ = 33) ∧ kₓ = aₓ) → ¬ (qₓ = 32 ∧ 7 * aₓ ≤ kₓ ∧ kₓ < 7 * aₓ + 7) → ¬ (qₓ = 29 ∧ kₓ = 9) → upS υ 29 9 (D 1 + 1) qₓ kₓ = σ qₓ kₓ := fun qₓ kₓ a1ₓ a2ₓ a3ₓ a4ₓ => by
        rw [upS_n a4ₓ, u2ₓ qₓ kₓ a3ₓ (by omega), w8ₓ qₓ kₓ a1ₓ a2ₓ]
      have el : ∀ iₓ : Nat, lf (uD D' 1 (D 1 + 1)) iₓ = lf D iₓ := fun iₓ => lf_keep (e0ₓ 3 (by omega) (by omega)) (fun kₓ hkₓ => e0ₓ kₓ (by omega) (by omega))
      refine ⟨⟨?_, ?_, ?_, ?_⟩, fun iₓ hiₓ => ?_, fun kₓ hkₓ => ?_⟩
      · rw [esₓ 29 8 (by omega) (by omega) (by omega) (by omega), t8ₓ, e0ₓ 0 (by omega) (by omega)]
      · rw [upS_s, uD_s]
      · rw [esₓ 29 10 (by omega) (by omega) (by omega) (by omega), t10ₓ, e0ₓ 2 (by omega) (by omega)]
      · rw [esₓ 29 11 (by omega) (by omega) (by omega) (by omega), t11ₓ, e0ₓ 3 (by omega) (by omega)]
      · rw [uD_s] at hiₓ
        by_cases cₓ : iₓ = aₓ
        · subst cₓ
          have fₓ : ∀ kₓ : Nat, 10 + 10 * iₓ ≤ kₓ → kₓ < 20 + 10 * iₓ → uD D' 1 (D 1 + 1) kₓ = D' kₓ := fun kₓ k1ₓ k2ₓ => uD_n (by omega)
          refine ⟨?_, ?_, ?_, fun jₓ hjₓ => ?_, ?_, ?_, ?_⟩
          · rw [upS_q (by omega), u2ₓ _ _ (by omega) (by omega)]
            show τ 30 (2 * iₓ) = _
            rw [w2ₓ, fₓ _ (by omega) (by omega), v6ₓ _ (by omega), uD_n (by omega), uD_n (by omega), uD_s]
          · rw [upS_q (by omega), u2ₓ _ _ (by omega) (by omega)]
            show τ 30 (2 * iₓ + 1) = _
            rw [w3ₓ, fₓ _ (by omega) (by omega), v6ₓ _ (by omega), uD_n (by omega), uD_s]
          · rw [upS_q (by omega), u2ₓ _ _ (by omega) (by omega)]
            show τ 31 iₓ = _
            rw [w4ₓ, fₓ _ (by omega) (by omega), v6ₓ _ (by omega), uD_s]
          · rw [upS_q (by omega), fₓ _ (by omega) (by omega)]; exact v5ₓ.1 jₓ hjₓ
          · rw [upS_q (by omega), u2ₓ _ _ (by omega) (by omega), el]
            show τ 33 iₓ = _
            rw [w5ₓ]; exact (lfN_0 _ (fun jₓ hjₓ => by have := o4ₓ jₓ (by omega); omega)).symm
          · rw [upS_q (by omega)]
            exact v5ₓ.2.1.trans (sb0_c 7 (fun jₓ hjₓ => (fₓ _ (by omega) (by omega)).symm))
          · rw [upS_q (by omega)]
            exact v5ₓ.2.2.trans (sb1_c 7 (fun jₓ hjₓ => (fₓ _ (by omega) (by omega)).symm))
        · refine CS_keep (tS iₓ (by omega)) (fun kₓ k1ₓ k2ₓ => e0ₓ kₓ (by omega) (by omega)) (el iₓ) (fun qₓ kₓ hkₓ => esₓ qₓ kₓ (by omega) (by omega) (by omega) (by omega)) ?_
          rw [esₓ _ _ (by omega) (by omega) (by omega) (by omega), el]
          exact (tS iₓ (by omega)).2.2.2.2.1
      · rw [e0ₓ 2 (by omega) (by omega)] at hkₓ
        rw [esₓ _ _ (by omega) (by omega) (by omega) (by omega), esₓ _ _ (by omega) (by omega) (by omega) (by omega), e0ₓ _ (by omega) (by omega), e0ₓ _ (by omega) (by omega)]
        exact tZ kₓ hkₓ
    · have e0ₓ : ∀ kₓ : Nat, (kₓ < 10 ∨ 140 ≤ kₓ) → kₓ ≠ 1 → uD D' 1 (D 1 + 1) kₓ = D kₓ := fun kₓ hkₓ hk1ₓ => by
        rw [uD_n hk1ₓ, v6ₓ kₓ (by omega), uD_n (by omega), uD_n (by omega), uD_n (by omega)]
      refine ⟨by rw [e0ₓ 0 (by omega) (by omega)]; exact o0ₓ, by rw [uD_s]; omega, by rw [e0ₓ 2 (by omega) (by omega)]; exact o2ₓ, by rw [e0ₓ 3 (by omega) (by omega)]; exact o3ₓ, fun kₓ hkₓ => ?_⟩
      rw [e0ₓ 3 (by omega) (by omega)] at hkₓ
      rw [e0ₓ (156 + 3 * kₓ) (by omega) (by omega), uD_s]
      have := o4ₓ kₓ hkₓ
      omega
theorem c_street (hcₓ : CV F N σ) (hTₓ : CT 29 D σ) (hOₓ : OD D) (h1ₓ : ¬ 12 ≤ D 1) (hpₓ : 0 ≤ wd F N qₓ) (hNₓ : wd F N qₓ ≤ N) (eₓ : m_X7_readStreet nₓ 29 1 (tp σ (wd F N qₓ) gₓ 0) = some (rₓ, σ')) : CO F N L σ σ' (tStreet F N qₓ L D) := by
  unfold m_X7_readStreet at eₓ
  obtain ⟨⟨t8ₓ, t9ₓ, t10ₓ, t11ₓ⟩, tS, tZ⟩ := id hTₓ
  obtain ⟨o0ₓ, o1ₓ, o2ₓ, o3ₓ, o4ₓ⟩ := id hOₓ
  rw [mRd_e, tp_o (by decide), t8ₓ, mLet_e] at eₓ
  obtain ⟨xₓ, s1ₓ, e1ₓ, eₓ⟩ := mCall_el eₓ
  unfold tStreet
  rcases c_num hcₓ hpₓ hNₓ e1ₓ with ⟨p1ₓ, φ, hₓφ, rfl, rfl, hKₓ⟩ | ⟨rfl, x0ₓ, x1ₓ, x2ₓ, d0ₓ, dN, hKₓ⟩
  · rw [mRd_e, mLet_e] at eₓ
    obtain ⟨yₓ, s2ₓ, e2ₓ, eₓ⟩ := mCall_el eₓ
    obtain ⟨rfl, rfl⟩ := c_readNumberF hₓφ e2ₓ
    rw [mIf_neg (fun zₓ => zₓ rfl), mRd_e, c_blame, mCall_s] at eₓ
    obtain ⟨zₓ, s3ₓ, e3ₓ, eₓ⟩ := mCall_el eₓ
    have hbₓ : blm φ (8 * tp σ p1ₓ (sk F N (wd F N qₓ)) φ 1 3 + 1) = φ := if_neg hₓφ
    rw [hbₓ] at e3ₓ
    obtain ⟨rfl, rfl⟩ := c_readNumberF hₓφ e3ₓ
    rw [c_isFaulty, mCall_s, if_neg hₓφ, mIf_neg (by decide)] at eₓ
    obtain ⟨rfl, rfl⟩ := some_el eₓ
    exact CO.bad hₓφ (hKₓ _)
  · rw [hKₓ]
    rw [mRd_e, tp_o (by decide), t8ₓ, mLet_e] at eₓ
    obtain ⟨yₓ, s2ₓ, e2ₓ, eₓ⟩ := mCall_el eₓ
    rcases c_num hcₓ d0ₓ dN e2ₓ with ⟨p1ₓ, φ, hₓφ, rfl, rfl, hK2ₓ⟩ | ⟨rfl, y0ₓ, y1ₓ, y2ₓ, d2ₓ, dN2, hK2ₓ⟩
    · rw [mIf_pos (show ¬ (-1 : Int) = xₓ by omega)] at eₓ
      obtain ⟨zₓ, s3ₓ, e3ₓ, eₓ⟩ := mCall_el eₓ
      obtain ⟨rfl, rfl⟩ := c_readNumberF hₓφ e3ₓ
      rw [c_isFaulty, mCall_s, if_neg hₓφ, mIf_neg (by decide)] at eₓ
      obtain ⟨rfl, rfl⟩ := some_el eₓ
      exact CO.bad hₓφ (hK2ₓ _)
    · rw [hK2ₓ]
      by_cases cₓ : yₓ = xₓ
      · rw [mIf_neg (fun zₓ => zₓ cₓ), mRd_e, c_blame, mCall_s, tp_g] at eₓ
        obtain ⟨zₓ, s3ₓ, e3ₓ, eₓ⟩ := mCall_el eₓ
        have hq1ₓ : 0 ≤ sk F N (dg F N (sk F N (wd F N qₓ))) := Int.le_trans d0ₓ sk_ge
        have hbₓ : blm 0 (8 * sk F N (dg F N (sk F N (wd F N qₓ))) + 1) = 1 + 8 * sk F N (dg F N (sk F N (wd F N qₓ))) + 1 := by unfold blm; rw [if_pos rfl]; omega
        rw [hbₓ] at e3ₓ
        obtain ⟨rfl, rfl⟩ := c_readNumberF (by omega) e3ₓ
        rw [c_isFaulty, mCall_s, if_neg (by omega), mIf_neg (by decide)] at eₓ
        obtain ⟨rfl, rfl⟩ := some_el eₓ
        exact CO.bad (by omega) (if_pos cₓ)
      · rw [if_neg cₓ]
        rw [mIf_pos cₓ] at eₓ
        obtain ⟨zₓ, s3ₓ, e3ₓ, eₓ⟩ := mCall_el eₓ
        rcases c_num hcₓ d2ₓ dN2 e3ₓ with ⟨p1ₓ, φ, hₓφ, rfl, rfl, hK3ₓ⟩ | ⟨rfl, z0ₓ, z1ₓ, z2ₓ, d3ₓ, dN3, hK3ₓ⟩
        · rw [c_isFaulty, mCall_s, if_neg hₓφ, mIf_neg (by decide)] at eₓ
          obtain ⟨rfl, rfl⟩ := some_el eₓ
          exact CO.bad hₓφ (hK3ₓ _)
        · rw [hK3ₓ]
          obtain ⟨aₓ, haₓ⟩ : ∃ aₓ : Nat, D 1 = (aₓ : Int) := ⟨(D 1).toNat, by omega⟩
          have hatₓ : (D 1).toNat = aₓ := by omega
          rw [c_isFaulty, mCall_s, if_pos rfl, mIf_pos rfl, mRd_e, tp_o (by decide), t9ₓ, haₓ] at eₓ
          have hP0ₓ : 0 ≤ sk F N (dg F N (sk F N (dg F N (sk F N (dg F N (sk F N (wd F N qₓ))))))) := Int.le_trans d3ₓ sk_ge
          have hPNₓ : sk F N (dg F N (sk F N (dg F N (sk F N (dg F N (sk F N (wd F N qₓ))))))) ≤ N := sk_ub dN3
          generalize hEₓ : dg F N (sk F N (dg F N (sk F N (dg F N (sk F N (wd F N qₓ)))))) = E at eₓ d3ₓ dN3 hP0ₓ hPNₓ ⊢
          exact c_street1 hcₓ hTₓ hOₓ h1ₓ haₓ d3ₓ dN3 eₓ
theorem c_saint (hcₓ : CV F N σ) (hTₓ : CT 29 D σ) (hOₓ : OD D) (h1ₓ : ¬ 8 ≤ D 2) (hpₓ : 0 ≤ wd F N qₓ) (hNₓ : wd F N qₓ ≤ N) (eₓ : m_X7_readSaint nₓ 29 1 (tp σ (wd F N qₓ) gₓ 0) = some (rₓ, σ')) : CO F N L σ σ' (tSaint F N qₓ L D) := by
  unfold m_X7_readSaint at eₓ
  obtain ⟨⟨t8ₓ, t9ₓ, t10ₓ, t11ₓ⟩, tS, tZ⟩ := id hTₓ
  obtain ⟨o0ₓ, o1ₓ, o2ₓ, o3ₓ, o4ₓ⟩ := id hOₓ
  rw [mRd_e, tp_o (by decide), t8ₓ, mLet_e] at eₓ
  obtain ⟨xₓ, s1ₓ, e1ₓ, eₓ⟩ := mCall_el eₓ
  obtain ⟨yₓ, s2ₓ, e2ₓ, eₓ⟩ := mCall_el eₓ
  unfold tSaint
  rcases c_num hcₓ hpₓ hNₓ e1ₓ with ⟨p1ₓ, φ, hₓφ, rfl, rfl, hKₓ⟩ | ⟨rfl, x0ₓ, x1ₓ, x2ₓ, d0ₓ, dN, hKₓ⟩
  · obtain ⟨rfl, rfl⟩ := c_readNumberF hₓφ e2ₓ
    rw [c_isFaulty, mCall_s, if_neg hₓφ, mIf_neg (by decide)] at eₓ
    obtain ⟨rfl, rfl⟩ := some_el eₓ
    exact CO.bad hₓφ (hKₓ _)
  · rw [hKₓ]
    rcases c_num hcₓ d0ₓ dN e2ₓ with ⟨p1ₓ, φ, hₓφ, rfl, rfl, hK2ₓ⟩ | ⟨rfl, y0ₓ, y1ₓ, y2ₓ, d2ₓ, dN2, hK2ₓ⟩
    · rw [c_isFaulty, mCall_s, if_neg hₓφ, mIf_neg (by decide)] at eₓ
      obtain ⟨rfl, rfl⟩ := some_el eₓ
      exact CO.bad hₓφ (hK2ₓ _)
    · rw [hK2ₓ]
      obtain ⟨aₓ, haₓ⟩ : ∃ aₓ : Nat, D 2 = (aₓ : Int) := ⟨(D 2).toNat, by omega⟩
      have hatₓ : (D 2).toNat = aₓ := by omega
      have hat'ₓ : ((aₓ : Nat) : Int).toNat = aₓ := by omega
      rw [hatₓ]
      rw [c_isFaulty, mCall_s, if_pos rfl, mIf_pos rfl, mRd_e, tp_o (by decide), t10ₓ, haₓ, mWr_e, hat'ₓ, tp_up_o (by decide), mRd_e, tp_o (by decide), upS_q (by decide), t10ₓ, haₓ, mWr_e, hat'ₓ, tp_up_o (by decide), mRd_e, tp_o (by decide), upS_q (by decide), upS_q (by decide), t10ₓ, mLet_e, mWr_e, tp_up_o (by decide)] at eₓ
      obtain ⟨rfl, rfl⟩ := some_el eₓ
      refine ⟨_, _, _, 0, rfl, ((KT.up (by decide) (by decide)).tr (KT.up (by decide) (by decide))).tr (KT.up (by decide) (by decide)), Or.inr ⟨rfl, d2ₓ, dN2, _, rfl, ?_, ?_⟩⟩
      · have e0ₓ : ∀ kₓ : Nat, kₓ ≠ 2 → kₓ ≠ 140 + 2 * aₓ → kₓ ≠ 141 + 2 * aₓ → uD (uD (uD D (140 + 2 * aₓ) xₓ) (141 + 2 * aₓ) yₓ) 2 (D 2 + 1) kₓ = D kₓ := fun kₓ k1ₓ k2ₓ k3ₓ => by rw [uD_n k1ₓ, uD_n k3ₓ, uD_n k2ₓ]
        have esₓ : ∀ qₓ kₓ : Nat, ¬ (qₓ = 35 ∧ kₓ = aₓ) → ¬ (qₓ = 36 ∧ kₓ = aₓ) → ¬ (qₓ = 29 ∧ kₓ = 10) → upS (upS (upS σ (29 + 6) aₓ xₓ) (29 + 7) aₓ yₓ) 29 10 (D 2 + 1) qₓ kₓ = σ qₓ kₓ := fun qₓ kₓ a1ₓ a2ₓ a3ₓ => by rw [upS_n a3ₓ, upS_n a2ₓ, upS_n a1ₓ]
        have el : ∀ iₓ : Nat, lf (uD (uD (uD D (140 + 2 * aₓ) xₓ) (141 + 2 * aₓ) yₓ) 2 (D 2 + 1)) iₓ = lf D iₓ := fun iₓ => lf_keep (e0ₓ 3 (by omega) (by omega) (by omega)) (fun kₓ hkₓ => e0ₓ kₓ (by omega) (by omega) (by omega))
        refine ⟨⟨?_, ?_, ?_, ?_⟩, fun iₓ hiₓ => ?_, fun kₓ hkₓ => ?_⟩
        · rw [esₓ _ _ (by omega) (by omega) (by omega), t8ₓ, e0ₓ 0 (by omega) (by omega) (by omega)]
        · rw [esₓ _ _ (by omega) (by omega) (by omega), t9ₓ, e0ₓ 1 (by omega) (by omega) (by omega)]
        · rw [upS_s, uD_s]
        · rw [esₓ _ _ (by omega) (by omega) (by omega), t11ₓ, e0ₓ 3 (by omega) (by omega) (by omega)]
        · rw [e0ₓ 1 (by omega) (by omega) (by omega)] at hiₓ
          refine CS_keep (tS iₓ hiₓ) (fun kₓ k1ₓ k2ₓ => e0ₓ kₓ (by omega) (by omega) (by omega)) (el iₓ) (fun qₓ kₓ hkₓ => esₓ qₓ kₓ (by omega) (by omega) (by omega)) ?_
          rw [esₓ _ _ (by omega) (by omega) (by omega), el]
          exact (tS iₓ hiₓ).2.2.2.2.1
        · rw [uD_s] at hkₓ
          by_cases cₓ : kₓ = aₓ
          · subst cₓ
            refine ⟨?_, ?_⟩
            · rw [upS_q (by decide), upS_q (by decide), upS_s, uD_n (by omega), uD_n (by omega), uD_s]
            · rw [upS_q (by decide), upS_s, uD_n (by omega), uD_s]
          · rw [esₓ _ _ (by omega) (by omega) (by omega), esₓ _ _ (by omega) (by omega) (by omega), e0ₓ _ (by omega) (by omega) (by omega), e0ₓ _ (by omega) (by omega) (by omega)]
            exact tZ kₓ (by omega)
      · have e0ₓ : ∀ kₓ : Nat, (kₓ < 140 ∨ 156 ≤ kₓ) → kₓ ≠ 2 → uD (uD (uD D (140 + 2 * aₓ) xₓ) (141 + 2 * aₓ) yₓ) 2 (D 2 + 1) kₓ = D kₓ := fun kₓ k1ₓ k2ₓ => by rw [uD_n k2ₓ, uD_n (by omega), uD_n (by omega)]
        refine ⟨by rw [e0ₓ 0 (by omega) (by omega)]; exact o0ₓ, by rw [e0ₓ 1 (by omega) (by omega)]; exact o1ₓ, by rw [uD_s]; omega, by rw [e0ₓ 3 (by omega) (by omega)]; exact o3ₓ, fun kₓ hkₓ => ?_⟩
        rw [e0ₓ 3 (by omega) (by omega)] at hkₓ
        rw [e0ₓ (156 + 3 * kₓ) (by omega) (by omega), e0ₓ 1 (by omega) (by omega)]
        exact o4ₓ kₓ hkₓ
theorem c_lift (hcₓ : CV F N σ) (hTₓ : CT 29 D σ) (hOₓ : OD D) (h1ₓ : ¬ 4 ≤ D 3) (hpₓ : 0 ≤ wd F N qₓ) (hNₓ : wd F N qₓ ≤ N) (eₓ : m_X7_readLift nₓ 29 1 (tp σ (wd F N qₓ) gₓ 0) = some (rₓ, σ')) : CO F N L σ σ' (tLift F N qₓ L D) := by
  unfold m_X7_readLift at eₓ
  obtain ⟨⟨t8ₓ, t9ₓ, t10ₓ, t11ₓ⟩, tS, tZ⟩ := id hTₓ
  obtain ⟨o0ₓ, o1ₓ, o2ₓ, o3ₓ, o4ₓ⟩ := id hOₓ
  rw [mRd_e, tp_o (by decide), t9ₓ, mLet_e] at eₓ
  obtain ⟨xₓ, s1ₓ, e1ₓ, eₓ⟩ := mCall_el eₓ
  obtain ⟨yₓ, s2ₓ, e2ₓ, eₓ⟩ := mCall_el eₓ
  rw [mLet_e] at eₓ
  obtain ⟨zₓ, s3ₓ, e3ₓ, eₓ⟩ := mCall_el eₓ
  unfold tLift
  rcases c_num hcₓ hpₓ hNₓ e1ₓ with ⟨p1ₓ, φ, hₓφ, rfl, rfl, hKₓ⟩ | ⟨rfl, x0ₓ, x1ₓ, x2ₓ, d0ₓ, dN, hKₓ⟩
  · obtain ⟨rfl, rfl⟩ := c_readNumberF hₓφ e2ₓ
    obtain ⟨rfl, rfl⟩ := c_readNumberF hₓφ e3ₓ
    rw [c_isFaulty, mCall_s, if_neg hₓφ, mIf_neg (by decide)] at eₓ
    obtain ⟨rfl, rfl⟩ := some_el eₓ
    exact CO.bad hₓφ (hKₓ _)
  · rw [hKₓ]
    rcases c_num hcₓ d0ₓ dN e2ₓ with ⟨p1ₓ, φ, hₓφ, rfl, rfl, hK2ₓ⟩ | ⟨rfl, y0ₓ, y1ₓ, y2ₓ, d2ₓ, dN2, hK2ₓ⟩
    · obtain ⟨rfl, rfl⟩ := c_readNumberF hₓφ e3ₓ
      rw [c_isFaulty, mCall_s, if_neg hₓφ, mIf_neg (by decide)] at eₓ
      obtain ⟨rfl, rfl⟩ := some_el eₓ
      exact CO.bad hₓφ (hK2ₓ _)
    · rw [hK2ₓ]
      rcases c_num hcₓ d2ₓ dN2 e3ₓ with ⟨p1ₓ, φ, hₓφ, rfl, rfl, hK3ₓ⟩ | ⟨rfl, z0ₓ, z1ₓ, z2ₓ, d3ₓ, dN3, hK3ₓ⟩
      · rw [c_isFaulty, mCall_s, if_neg hₓφ, mIf_neg (by decide)] at eₓ
        obtain ⟨rfl, rfl⟩ := some_el eₓ
        exact CO.bad hₓφ (hK3ₓ _)
      · rw [hK3ₓ]
        obtain ⟨aₓ, haₓ⟩ : ∃ aₓ : Nat, D 3 = (aₓ : Int) := ⟨(D 3).toNat, by omega⟩
        have hatₓ : (D 3).toNat = aₓ := by omega
        obtain ⟨bₓ, hbₓ⟩ : ∃ bₓ : Nat, xₓ = (bₓ : Int) := ⟨xₓ.toNat, by omega⟩
        have hbtₓ : xₓ.toNat = bₓ := by omega
        rw [hatₓ]
        rw [c_isFaulty, mCall_s, if_pos rfl, mIf_pos rfl, hbtₓ, mRd_e, tp_o (by decide), mLet_e, mLet_e, mLet_e, mLet_e, mWr_e, tp_up_o (by decide), mRd_e, tp_o (by decide), upS_q (by decide), t11ₓ, mLet_e, mWr_e, tp_up_o (by decide)] at eₓ
        obtain ⟨rfl, rfl⟩ := some_el eₓ
        refine ⟨_, _, _, 0, rfl, (KT.up (by decide) (by decide)).tr (KT.up (by decide) (by decide)), Or.inr ⟨rfl, d3ₓ, dN3, _, rfl, ?_, ?_⟩⟩
        · have e0ₓ : ∀ kₓ : Nat, kₓ ≠ 3 → kₓ ≠ 156 + 3 * aₓ → kₓ ≠ 157 + 3 * aₓ → kₓ ≠ 158 + 3 * aₓ → uD (uD (uD (uD D (156 + 3 * aₓ) xₓ) (157 + 3 * aₓ) yₓ) (158 + 3 * aₓ) zₓ) 3 (D 3 + 1) kₓ = D kₓ := fun kₓ k1ₓ k2ₓ k3ₓ k4ₓ => by rw [uD_n k1ₓ, uD_n k4ₓ, uD_n k3ₓ, uD_n k2ₓ]
          have esₓ : ∀ qₓ kₓ : Nat, ¬ (qₓ = 33 ∧ kₓ = bₓ) → ¬ (qₓ = 29 ∧ kₓ = 11) → ∀ vₓ wₓ : Int, upS (upS σ (29 + 4) bₓ vₓ) 29 11 wₓ qₓ kₓ = σ qₓ kₓ := fun qₓ kₓ a1ₓ a2ₓ vₓ wₓ => by rw [upS_n a2ₓ, upS_n a1ₓ]
          have el : ∀ iₓ : Nat, lf (uD (uD (uD (uD D (156 + 3 * aₓ) xₓ) (157 + 3 * aₓ) yₓ) (158 + 3 * aₓ) zₓ) 3 (D 3 + 1)) iₓ = if iₓ = bₓ then mOr (lf D iₓ) (mShl 1 zₓ - mShl 1 yₓ) else lf D iₓ := fun iₓ => by
            unfold lf
            rw [uD_s, show (D 3 + 1).toNat = aₓ + 1 by omega, hatₓ]
            show (if uD (uD (uD (uD D (156 + 3 * aₓ) xₓ) (157 + 3 * aₓ) yₓ) (158 + 3 * aₓ) zₓ) 3 (D 3 + 1) (156 + 3 * aₓ) = (iₓ : Int) then _ else _) = _
            rw [show uD (uD (uD (uD D (156 + 3 * aₓ) xₓ) (157 + 3 * aₓ) yₓ) (158 + 3 * aₓ) zₓ) 3 (D 3 + 1) (156 + 3 * aₓ) = xₓ by rw [uD_n (by omega), uD_n (by omega), uD_n (by omega), uD_s], show uD (uD (uD (uD D (156 + 3 * aₓ) xₓ) (157 + 3 * aₓ) yₓ) (158 + 3 * aₓ) zₓ) 3 (D 3 + 1) (157 + 3 * aₓ) = yₓ by rw [uD_n (by omega), uD_n (by omega), uD_s], show uD (uD (uD (uD D (156 + 3 * aₓ) xₓ) (157 + 3 * aₓ) yₓ) (158 + 3 * aₓ) zₓ) 3 (D 3 + 1) (158 + 3 * aₓ) = zₓ by rw [uD_n (by omega), uD_s], lfN_c (E := D) aₓ (fun jₓ j1ₓ j2ₓ => e0ₓ jₓ (by omega) (by omega) (by omega) (by omega))]
            by_cases cₓ : iₓ = bₓ
            · rw [if_pos cₓ, if_pos (by omega)]
            · rw [if_neg cₓ, if_neg (by omega)]
          refine ⟨⟨?_, ?_, ?_, ?_⟩, fun iₓ hiₓ => ?_, fun kₓ hkₓ => ?_⟩
          · rw [esₓ _ _ (by omega) (by omega), t8ₓ, e0ₓ 0 (by omega) (by omega) (by omega) (by omega)]
          · rw [esₓ _ _ (by omega) (by omega), t9ₓ, e0ₓ 1 (by omega) (by omega) (by omega) (by omega)]
          · rw [esₓ _ _ (by omega) (by omega), t10ₓ, e0ₓ 2 (by omega) (by omega) (by omega) (by omega)]
          · rw [upS_s, uD_s]
          · rw [e0ₓ 1 (by omega) (by omega) (by omega) (by omega)] at hiₓ
            obtain ⟨s1ₓ, s2ₓ, s3ₓ, s4ₓ, s5ₓ, s6ₓ, s7ₓ⟩ := tS iₓ hiₓ
            have ea : ∀ jₓ : Nat, jₓ < 7 → sgA D iₓ jₓ = sgA (uD (uD (uD (uD D (156 + 3 * aₓ) xₓ) (157 + 3 * aₓ) yₓ) (158 + 3 * aₓ) zₓ) 3 (D 3 + 1)) iₓ jₓ := fun jₓ hjₓ => (e0ₓ _ (by omega) (by omega) (by omega) (by omega)).symm
            refine ⟨?_, ?_, ?_, fun jₓ hjₓ => ?_, ?_, ?_, ?_⟩
            · rw [esₓ _ _ (by omega) (by omega), e0ₓ _ (by omega) (by omega) (by omega) (by omega)]; exact s1ₓ
            · rw [esₓ _ _ (by omega) (by omega), e0ₓ _ (by omega) (by omega) (by omega) (by omega)]; exact s2ₓ
            · rw [esₓ _ _ (by omega) (by omega), e0ₓ _ (by omega) (by omega) (by omega) (by omega)]; exact s3ₓ
            · rw [esₓ _ _ (by omega) (by omega), e0ₓ _ (by omega) (by omega) (by omega) (by omega)]; exact s4ₓ jₓ hjₓ
            · rw [el]
              by_cases cₓ : iₓ = bₓ
              · subst cₓ
                rw [upS_q (by decide), upS_s, if_pos rfl, s5ₓ]
              · rw [esₓ _ _ (by omega) (by omega), if_neg cₓ]; exact s5ₓ
            · rw [esₓ _ _ (by omega) (by omega), s6ₓ]; exact sb0_c 7 ea
            · rw [esₓ _ _ (by omega) (by omega), s7ₓ]; exact sb1_c 7 ea
          · rw [e0ₓ 2 (by omega) (by omega) (by omega) (by omega)] at hkₓ
            rw [esₓ _ _ (by omega) (by omega), esₓ _ _ (by omega) (by omega), e0ₓ _ (by omega) (by omega) (by omega) (by omega), e0ₓ _ (by omega) (by omega) (by omega) (by omega)]
            exact tZ kₓ hkₓ
        · have e0ₓ : ∀ kₓ : Nat, kₓ < 156 → kₓ ≠ 3 → uD (uD (uD (uD D (156 + 3 * aₓ) xₓ) (157 + 3 * aₓ) yₓ) (158 + 3 * aₓ) zₓ) 3 (D 3 + 1) kₓ = D kₓ := fun kₓ k1ₓ k2ₓ => by rw [uD_n k2ₓ, uD_n (by omega), uD_n (by omega), uD_n (by omega)]
          refine ⟨by rw [e0ₓ 0 (by omega) (by omega)]; exact o0ₓ, by rw [e0ₓ 1 (by omega) (by omega)]; exact o1ₓ, by rw [e0ₓ 2 (by omega) (by omega)]; exact o2ₓ, by rw [uD_s]; omega, fun kₓ hkₓ => ?_⟩
          rw [uD_s] at hkₓ
          rw [e0ₓ 1 (by omega) (by omega)]
          by_cases cₓ : kₓ = aₓ
          · subst cₓ
            rw [uD_n (by omega), uD_n (by omega), uD_n (by omega), uD_s]; omega
          · rw [uD_n (by omega), uD_n (by omega), uD_n (by omega), uD_n (by omega)]; exact o4ₓ kₓ (by omega)
end
