section
variable {F : Int → Int} {N pₓ gₓ φ L qₓ : Int} {σ σ' τ : SS} {rₓ : Int} {nₓ : Nat} {D D' : Nat → Int}
theorem c_find (eₓ : m_X7_findSaints nₓ 29 L (tp σ pₓ gₓ φ) = some (rₓ, σ')) : ∃ τ, σ' = tp τ pₓ gₓ φ ∧ O37 σ τ := by
  unfold m_X7_findSaints at eₓ
  rw [mWr_e, tp_up_o (by decide)] at eₓ
  obtain ⟨τ, h1ₓ, h2ₓ⟩ := c_saintsF nₓ 0 _ eₓ
  exact ⟨τ, h1ₓ, fun qₓ kₓ hqₓ => (h2ₓ qₓ kₓ hqₓ).trans (upS_q hqₓ)⟩
theorem c_from91F : ∀ (nₓ : Nat) (iₓ : Int) (σ : SS), j_X7_readFrom 29 1 nₓ 91 [iₓ] (tp σ pₓ gₓ φ) = some (rₓ, σ') → ∃ τ, σ' = tp τ pₓ gₓ φ ∧ O37 σ τ := by
  intro nₓ
  induction nₓ with
  | zero => intro iₓ σ eₓ; exact none_el eₓ
  | succ nₓ ihₓ =>
    intro iₓ σ eₓ
    rw [e_X7_readFrom_91] at eₓ
    unfold b_X7_readFrom_91 at eₓ
    rw [mRd_e] at eₓ
    by_cases cₓ : tp σ pₓ gₓ φ 29 9 ≤ iₓ
    · rw [mIf_pos cₓ] at eₓ
      obtain ⟨rfl, rfl⟩ := some_el eₓ
      exact ⟨σ, rfl, fun _ _ _ => rfl⟩
    · rw [mIf_neg cₓ] at eₓ
      obtain ⟨r1ₓ, s1ₓ, e1ₓ, eₓ⟩ := mCall_el eₓ
      obtain ⟨τ, h1ₓ, h2ₓ⟩ := c_find e1ₓ
      subst h1ₓ
      rw [mLet_e] at eₓ
      obtain ⟨υ, h3ₓ, h4ₓ⟩ := ihₓ _ _ eₓ
      exact ⟨υ, h3ₓ, fun qₓ kₓ hqₓ => (h4ₓ qₓ kₓ hqₓ).trans (h2ₓ qₓ kₓ hqₓ)⟩
theorem CT.o37 (hₓ : CT 29 D σ) (eₓ : O37 σ τ) : CT 29 D τ := by
  obtain ⟨⟨t8ₓ, t9ₓ, t10ₓ, t11ₓ⟩, tS, tZ⟩ := hₓ
  refine ⟨⟨?_, ?_, ?_, ?_⟩, fun jₓ hjₓ => ?_, fun jₓ hjₓ => ?_⟩
  · rw [eₓ _ _ (by decide)]; exact t8ₓ
  · rw [eₓ _ _ (by decide)]; exact t9ₓ
  · rw [eₓ _ _ (by decide)]; exact t10ₓ
  · rw [eₓ _ _ (by decide)]; exact t11ₓ
  · exact CS_keep (tS jₓ hjₓ) (fun _ _ _ => rfl) rfl (fun qₓ kₓ hkₓ => eₓ _ _ (by omega)) (by rw [eₓ _ _ (by decide)]; exact (tS jₓ hjₓ).2.2.2.2.1)
  · rw [eₓ _ _ (by decide), eₓ _ _ (by decide)]; exact tZ jₓ hjₓ
theorem c_from91 (hOₓ : OD D) : ∀ (nₓ iₓ : Nat) (σ : SS), CT 29 D σ → (iₓ : Int) ≤ D 1 → (∀ jₓ : Nat, jₓ < iₓ → σ 37 jₓ = szN D jₓ (D 2).toNat) → j_X7_readFrom 29 1 nₓ 91 [(iₓ : Int)] (tp σ pₓ gₓ φ) = some (rₓ, σ') → ∃ τ, σ' = tp τ pₓ gₓ φ ∧ O37 σ τ ∧ ∀ jₓ : Nat, (jₓ : Int) < D 1 → τ 37 jₓ = szN D jₓ (D 2).toNat := by
  intro nₓ
  induction nₓ with
  | zero => intro iₓ σ _ _ _ eₓ; exact none_el eₓ
  | succ nₓ ihₓ =>
    intro iₓ σ hTₓ hiₓ hjₓ eₓ
    rw [e_X7_readFrom_91] at eₓ
    unfold b_X7_readFrom_91 at eₓ
    rw [mRd_e, tp_o (by decide), hTₓ.1.2.1] at eₓ
    by_cases cₓ : D 1 ≤ (iₓ : Int)
    · rw [mIf_pos cₓ] at eₓ
      obtain ⟨rfl, rfl⟩ := some_el eₓ
      exact ⟨σ, rfl, fun _ _ _ => rfl, fun jₓ hₓ => hjₓ jₓ (by omega)⟩
    · rw [mIf_neg cₓ] at eₓ
      obtain ⟨r1ₓ, s1ₓ, e1ₓ, eₓ⟩ := mCall_el eₓ
      have hi'ₓ : (iₓ : Int) < D 1 := by omega
      have ei : ((iₓ : Nat) : Int).toNat = iₓ := by omega
      unfold m_X7_findSaints at e1ₓ
      rw [mWr_e, tp_up_o (by decide), ei] at e1ₓ
      have o1ₓ : O37 σ (upS σ (29 + 8) iₓ 0) := fun qₓ kₓ hqₓ => upS_q hqₓ
      obtain ⟨τ, h1ₓ, h2ₓ, h3ₓ⟩ := c_saints nₓ 0 _ (hTₓ.o37 o1ₓ) hi'ₓ hOₓ.2.2.1.1 hOₓ.2.2.1.1 upS_s e1ₓ
      subst h1ₓ
      rw [mLet_e, show (iₓ : Int) + 1 = ((iₓ + 1 : Nat) : Int) by omega] at eₓ
      have o2ₓ : O37 σ τ := fun qₓ kₓ hqₓ => (h2ₓ qₓ kₓ (by omega)).trans (o1ₓ qₓ kₓ hqₓ)
      obtain ⟨υ, h4ₓ, h5ₓ, h6ₓ⟩ := ihₓ (iₓ + 1) τ (hTₓ.o37 o2ₓ) (by omega) (fun jₓ hj2ₓ => by
        by_cases cj : jₓ = iₓ
        · subst cj; exact h3ₓ
        · rw [h2ₓ 37 jₓ (by omega), upS_k (by omega)]; exact hjₓ jₓ (by omega)) eₓ
      exact ⟨υ, h4ₓ, fun qₓ kₓ hqₓ => (h5ₓ qₓ kₓ hqₓ).trans (o2ₓ qₓ kₓ hqₓ), h6ₓ⟩
theorem c_from28 {c0ₓ : TCf} : ∀ (nₓ : Nat) (vₓ L : Int) (σ : SS) (pₓ gₓ φ : Int), CV F N σ → ((vₓ = 1 ∧ φ = 0 ∧ 0 ≤ pₓ ∧ pₓ ≤ N ∧ 0 ≤ L ∧ L ≤ 32 ∧ ∃ D, CT 29 D σ ∧ OD D ∧ SU F N c0ₓ (0, sk F N pₓ, L, D)) ∨ (vₓ = 0 ∧ ((φ ≠ 0 ∧ SU F N c0ₓ (tH φ)) ∨ (φ = 0 ∧ ∃ D, CT 29 D σ ∧ OD D ∧ SU F N c0ₓ (9, 0, 0, D))))) → j_X7_readFrom 29 1 nₓ 28 [vₓ, L] (tp σ pₓ gₓ φ) = some (rₓ, σ') → ∃ (τ : SS) (p'ₓ g'ₓ φ' : Int), σ' = tp τ p'ₓ g'ₓ φ' ∧ KT σ τ ∧ ((φ' ≠ 0 ∧ SU F N c0ₓ (tH φ')) ∨ (φ' = 0 ∧ ∃ D, SU F N c0ₓ (9, 0, 0, D) ∧ CT 29 D τ ∧ OD D ∧ ∀ jₓ : Nat, (jₓ : Int) < D 1 → τ 37 jₓ = szN D jₓ (D 2).toNat)) := by
  intro nₓ
  induction nₓ with
  | zero => intro vₓ L σ pₓ gₓ φ _ _ eₓ; exact none_el eₓ
  | succ nₓ ihₓ =>
    intro vₓ L σ pₓ gₓ φ hcₓ hv eₓ
    rw [e_X7_readFrom_28] at eₓ
    unfold b_X7_readFrom_28 at eₓ
    rcases hv with ⟨rfl, rfl, hpₓ, hNₓ, hL0ₓ, hL1ₓ, D, hTₓ, hOₓ, stₓ⟩ | ⟨rfl, hv⟩
    · rw [mIf_neg (by decide), mIf_neg (by omega)] at eₓ
      obtain ⟨wₓ, s1ₓ, e1ₓ, eₓ⟩ := mCall_el eₓ
      have hqₓ : 0 ≤ sk F N pₓ := Int.le_trans hpₓ sk_ge
      have hqNₓ : sk F N pₓ ≤ N := sk_ub hNₓ
      have hclₓ : tCl F N (sk F N pₓ) L D = if tW F N (sk F N pₓ) = -1 then tH (1 + 8 * sk F N pₓ) else if tBad (tW F N (sk F N pₓ)) L D then tH (1 + 8 * sk F N pₓ + 4) else if tW F N (sk F N pₓ) = 0 then nmK F N 2 10 (wd F N (sk F N pₓ)) fun vₓ eₓ => tE F N L (uD D 0 vₓ) eₓ else if tW F N (sk F N pₓ) = 1 then tStreet F N (sk F N pₓ) L D else if tW F N (sk F N pₓ) = 2 then tSaint F N (sk F N pₓ) L D else tLift F N (sk F N pₓ) L D := rfl
      have stop : ∀ (σ2 : SS) (p2ₓ g2ₓ φ2 : Int), KT σ σ2 → φ2 ≠ 0 → tCl F N (sk F N pₓ) L D = tH φ2 → (mCall (m_X6_takeSemicolon nₓ 1 (tp σ2 p2ₓ g2ₓ φ2)) fun x4ₓ s5ₓ => mLet (L + 1) fun x6ₓ => j_X7_readFrom 29 1 nₓ 28 [x4ₓ, x6ₓ] s5ₓ) = some (rₓ, σ') → ∃ (τ : SS) (p'ₓ g'ₓ φ' : Int), σ' = tp τ p'ₓ g'ₓ φ' ∧ KT σ τ ∧ ((φ' ≠ 0 ∧ SU F N c0ₓ (tH φ')) ∨ (φ' = 0 ∧ ∃ D, SU F N c0ₓ (9, 0, 0, D) ∧ CT 29 D τ ∧ OD D ∧ ∀ jₓ : Nat, (jₓ : Int) < D 1 → τ 37 jₓ = szN D jₓ (D 2).toNat)) := by
        intro σ2 p2ₓ g2ₓ φ2 hkₓ hₓφ hXₓ eₓ
        obtain ⟨mₓ, s3ₓ, e3ₓ, eₓ⟩ := mCall_el eₓ
        unfold m_X6_takeSemicolon at e3ₓ
        rw [c_isFaulty, if_neg hₓφ, mCall_s, mIf_neg (by decide)] at e3ₓ
        obtain ⟨rfl, rfl⟩ := some_el e3ₓ
        rw [mLet_e] at eₓ
        obtain ⟨υ, p3ₓ, g3ₓ, φ3, h1ₓ, h2ₓ, h3ₓ⟩ := ihₓ 0 (L + 1) σ2 p2ₓ g2ₓ φ2 (hcₓ.kt hkₓ) (Or.inr ⟨rfl, Or.inl ⟨hₓφ, stₓ.tr (SU_one hXₓ)⟩⟩) eₓ
        exact ⟨υ, p3ₓ, g3ₓ, φ3, h1ₓ, hkₓ.tr h2ₓ, h3ₓ⟩
      rcases c_readWord hcₓ (kₓ := 0) (by decide) rfl wls_enc.1 hpₓ hNₓ e1ₓ with ⟨w1ₓ, w2ₓ, rfl⟩ | ⟨rfl, w2ₓ, rfl⟩
      · have hwₓ : wₓ = tW F N (sk F N pₓ) := w1ₓ
        have hneₓ : ¬ wₓ = -1 := by omega
        have hw4ₓ : wₓ = 0 ∨ wₓ = 1 ∨ wₓ = 2 ∨ wₓ = 3 := by
          rcases tW_r (F := F) (N := N) (qₓ := sk F N pₓ) with hₓ | hₓ | hₓ | hₓ | hₓ <;> omega
        have hwdₓ : 0 ≤ wd F N (sk F N pₓ) := Int.le_trans hqₓ wd_ge
        have hwNₓ : wd F N (sk F N pₓ) ≤ N := wd_ub hqNₓ
        rw [← hwₓ, if_neg hneₓ] at hclₓ
        rw [mIf_neg hneₓ, c_isTooMany hTₓ hw4ₓ hL0ₓ, mCall_s] at eₓ
        by_cases cb : tBad wₓ L D
        · rw [if_pos cb, mIf_neg (by decide), mRd_e, tp_g, c_blame, mCall_s] at eₓ
          rw [if_pos cb] at hclₓ
          obtain ⟨r2ₓ, s2ₓ, e2ₓ, eₓ⟩ := mCall_el eₓ
          have hbₓ : blm 0 (8 * sk F N pₓ + 4) = 1 + 8 * sk F N pₓ + 4 := by unfold blm; rw [if_pos rfl]; omega
          rw [hbₓ] at e2ₓ
          have h2ₓ := c_clauseF (by omega) e2ₓ
          subst h2ₓ
          exact stop _ _ _ _ KT.rf (by omega) hclₓ eₓ
        · rw [if_neg cb, mIf_pos rfl] at eₓ
          rw [if_neg cb] at hclₓ
          obtain ⟨r2ₓ, s2ₓ, e2ₓ, eₓ⟩ := mCall_el eₓ
          obtain ⟨τ, p2ₓ, g2ₓ, φ2, rfl, hkₓ, hXₓ⟩ := c_clause (L := L) hcₓ hTₓ hOₓ hw4ₓ cb hwdₓ hwNₓ e2ₓ
          rcases hXₓ with ⟨hₓφ, hXₓ⟩ | ⟨rfl, hp2ₓ, hN2ₓ, D2, hXₓ, hT2ₓ, hO2ₓ⟩
          · exact stop _ _ _ _ hkₓ hₓφ (hclₓ.trans hXₓ) eₓ
          · obtain ⟨mₓ, s3ₓ, e3ₓ, eₓ⟩ := mCall_el eₓ
            have hcₓτ := hcₓ.kt hkₓ
            rw [mLet_e] at eₓ
            rcases c_takeSemicolon hcₓτ hp2ₓ e3ₓ with ⟨zₓ, -⟩ | ⟨-, hbₓ, rfl, rfl⟩ | ⟨-, hbₓ, rfl, rfl⟩
            · exact absurd rfl zₓ
            · have hb2ₓ := (of_decide_eq_true hbₓ).1
              have hLₓ : L < 32 := by unfold tBad at cb; omega
              obtain ⟨υ, p3ₓ, g3ₓ, φ3, h1ₓ, h2ₓ, h3ₓ⟩ := ihₓ 1 (L + 1) τ _ _ 0 hcₓτ (Or.inl ⟨rfl, rfl, by have := Int.le_trans hp2ₓ (sk_ge (F := F) (N := N) (pₓ := p2ₓ)); omega, by omega, by omega, by omega, D2, hT2ₓ, hO2ₓ, stₓ.tr (SU_one (hclₓ.trans (hXₓ.trans (tE_go hbₓ))))⟩) eₓ
              exact ⟨υ, p3ₓ, g3ₓ, φ3, h1ₓ, hkₓ.tr h2ₓ, h3ₓ⟩
            · have hs0ₓ := Int.le_trans hp2ₓ (sk_ge (F := F) (N := N) (pₓ := p2ₓ))
              by_cases cN : sk F N p2ₓ < N
              · rw [if_pos cN] at eₓ
                obtain ⟨υ, p3ₓ, g3ₓ, φ3, h1ₓ, h2ₓ, h3ₓ⟩ := ihₓ 0 (L + 1) τ _ _ _ hcₓτ (Or.inr ⟨rfl, Or.inl ⟨by omega, stₓ.tr (SU_one (hclₓ.trans (hXₓ.trans (tE_bad hbₓ cN))))⟩⟩) eₓ
                exact ⟨υ, p3ₓ, g3ₓ, φ3, h1ₓ, hkₓ.tr h2ₓ, h3ₓ⟩
              · rw [if_neg cN] at eₓ
                obtain ⟨υ, p3ₓ, g3ₓ, φ3, h1ₓ, h2ₓ, h3ₓ⟩ := ihₓ 0 (L + 1) τ _ _ 0 hcₓτ (Or.inr ⟨rfl, Or.inr ⟨rfl, D2, hT2ₓ, hO2ₓ, stₓ.tr (SU_one (hclₓ.trans (hXₓ.trans (tE_end hbₓ cN))))⟩⟩) eₓ
                exact ⟨υ, p3ₓ, g3ₓ, φ3, h1ₓ, hkₓ.tr h2ₓ, h3ₓ⟩
      · have hwₓ : tW F N (sk F N pₓ) = -1 := w2ₓ
        rw [mIf_pos rfl] at eₓ
        rw [if_pos hwₓ] at hclₓ
        obtain ⟨r2ₓ, s2ₓ, e2ₓ, eₓ⟩ := mCall_el eₓ
        have hbₓ : blm 0 (8 * sk F N pₓ) = 1 + 8 * sk F N pₓ := if_pos rfl
        rw [hbₓ] at e2ₓ
        have h2ₓ := c_clauseF (by omega) e2ₓ
        subst h2ₓ
        exact stop _ _ _ _ KT.rf (by omega) hclₓ eₓ
    · rw [mIf_pos rfl] at eₓ
      rcases hv with ⟨hₓφ, stₓ⟩ | ⟨rfl, D, hTₓ, hOₓ, stₓ⟩
      · obtain ⟨τ, h1ₓ, h2ₓ⟩ := c_from91F nₓ 0 σ eₓ
        exact ⟨τ, pₓ, gₓ, φ, h1ₓ, h2ₓ.kt, Or.inl ⟨hₓφ, stₓ⟩⟩
      · obtain ⟨τ, h1ₓ, h2ₓ, h3ₓ⟩ := c_from91 hOₓ nₓ 0 σ hTₓ hOₓ.2.1.1 (fun jₓ hjₓ => absurd hjₓ (Nat.not_lt_zero _)) eₓ
        exact ⟨τ, pₓ, gₓ, 0, h1ₓ, h2ₓ.kt, Or.inr ⟨rfl, D, stₓ, hTₓ.o37 h2ₓ, hOₓ, h3ₓ⟩⟩
end
