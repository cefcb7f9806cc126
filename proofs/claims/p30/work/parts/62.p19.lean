/-! what the reference's rows are: in their ranges -/
/-- the same town, told in range -/
theorem GD_c {D E : Nat → Int} (hₓ : EqT D E) (hGₓ : GD D) : GD E := by
  obtain ⟨⟨a0ₓ, a1ₓ, a2ₓ, a3ₓ⟩, b1ₓ, b2ₓ, b3ₓ⟩ := hₓ
  obtain ⟨⟨o0ₓ, o1ₓ, o2ₓ, o3ₓ⟩, g1ₓ, g2ₓ, g3ₓ⟩ := hGₓ
  have f1ₓ : ∀ kₓ : Nat, 10 ≤ kₓ → (kₓ : Int) < 10 + 10 * D 1 → E kₓ = D kₓ := fun kₓ h1ₓ h2ₓ => by
    have := b1ₓ (kₓ - 10) (by omega)
    rw [show 10 + (kₓ - 10) = kₓ by omega] at this; exact this
  have f2ₓ : ∀ kₓ : Nat, 140 ≤ kₓ → (kₓ : Int) < 140 + 2 * D 2 → E kₓ = D kₓ := fun kₓ h1ₓ h2ₓ => by
    have := b2ₓ (kₓ - 140) (by omega)
    rw [show 140 + (kₓ - 140) = kₓ by omega] at this; exact this
  have f3ₓ : ∀ kₓ : Nat, 156 ≤ kₓ → (kₓ : Int) < 156 + 3 * D 3 → E kₓ = D kₓ := fun kₓ h1ₓ h2ₓ => by
    have := b3ₓ (kₓ - 156) (by omega)
    rw [show 156 + (kₓ - 156) = kₓ by omega] at this; exact this
  refine ⟨⟨by rw [a0ₓ]; exact o0ₓ, by rw [a1ₓ]; exact o1ₓ, by rw [a2ₓ]; exact o2ₓ, by rw [a3ₓ]; exact o3ₓ⟩, fun iₓ hiₓ => ?_, fun kₓ hkₓ => ?_, fun kₓ hkₓ => ?_⟩
  · rw [a1ₓ] at hiₓ
    obtain ⟨c1ₓ, c2ₓ, c3ₓ⟩ := g1ₓ iₓ hiₓ
    refine ⟨?_, ?_, fun jₓ hjₓ => ?_⟩
    · rw [a0ₓ, f1ₓ (10 + 10 * iₓ) (by omega) (by omega), f1ₓ (11 + 10 * iₓ) (by omega) (by omega)]; exact c1ₓ
    · rw [f1ₓ (12 + 10 * iₓ) (by omega) (by omega)]; exact c2ₓ
    · rw [f1ₓ (13 + 10 * iₓ + jₓ) (by omega) (by omega)]; exact c3ₓ jₓ hjₓ
  · rw [a2ₓ] at hkₓ
    rw [a0ₓ, f2ₓ (140 + 2 * kₓ) (by omega) (by omega), f2ₓ (141 + 2 * kₓ) (by omega) (by omega)]; exact g2ₓ kₓ hkₓ
  · rw [a3ₓ] at hkₓ
    rw [a1ₓ, f3ₓ (156 + 3 * kₓ) (by omega) (by omega), f3ₓ (157 + 3 * kₓ) (by omega) (by omega), f3ₓ (158 + 3 * kₓ) (by omega) (by omega)]; exact g3ₓ kₓ hkₓ
def WF (P : Nat → Int) : Prop := GD P ∧ (∀ kₓ : Nat, (kₓ : Int) < P 6 → 0 ≤ P (252 + 2 * kₓ) ∧ P (252 + 2 * kₓ) < P 0 ∧ 0 ≤ P (253 + 2 * kₓ) ∧ P (253 + 2 * kₓ) < P 0 ∧ P (252 + 2 * kₓ) ≠ P (253 + 2 * kₓ)) ∧ (∀ kₓ : Nat, (kₓ : Int) < P 7 → 0 ≤ P (264 + 2 * kₓ) ∧ P (264 + 2 * kₓ) < P 1) ∧ (∀ kₓ : Nat, (kₓ : Int) < P 8 → 0 ≤ P (288 + kₓ) ∧ P (288 + kₓ) < P 0) ∧ (∀ mₓ iₓ : Nat, (mₓ : Int) < P 4 → (iₓ : Int) < P 1 → 0 ≤ P (168 + 12 * mₓ + iₓ) ∧ P (168 + 12 * mₓ + iₓ) ≤ 3) ∧ (0 ≤ P 4 ∧ P 4 ≤ 4) ∧ (0 ≤ P 6 ∧ P 6 ≤ 6) ∧ (0 ≤ P 7 ∧ P 7 ≤ 12) ∧ 0 ≤ P 8 ∧ P 8 ≤ 8
theorem WF_mw {P Q : Nat → Int} (hₓ : WF P) (hPₓ : ∀ kₓ : Nat, (kₓ < 5 ∨ (5 < kₓ ∧ kₓ < 9) ∨ (9 < kₓ ∧ (kₓ : Int) < 10 + 10 * P 1) ∨ (139 < kₓ ∧ kₓ < 216) ∨ (252 ≤ kₓ ∧ kₓ < 296)) → Q kₓ = P kₓ) : WF Q := by
  obtain ⟨hGₓ, h6ₓ, h7ₓ, h8ₓ, h4ₓ, n4ₓ, n6ₓ, n7ₓ, n8ₓ⟩ := hₓ
  obtain ⟨⟨o0ₓ, o1ₓ, o2ₓ, o3ₓ⟩, -⟩ := id hGₓ
  have heₓ : EqT P Q := ⟨⟨hPₓ 0 (by omega), hPₓ 1 (by omega), hPₓ 2 (by omega), hPₓ 3 (by omega)⟩, fun kₓ hkₓ => hPₓ _ (by omega), fun kₓ hkₓ => hPₓ _ (by omega), fun kₓ hkₓ => hPₓ _ (by omega)⟩
  have p0ₓ := hPₓ 0 (by omega)
  have p1ₓ := hPₓ 1 (by omega)
  have p4ₓ := hPₓ 4 (by omega)
  have p6ₓ := hPₓ 6 (by omega)
  have p7ₓ := hPₓ 7 (by omega)
  have p8ₓ := hPₓ 8 (by omega)
  refine ⟨GD_c heₓ hGₓ, fun kₓ hkₓ => ?_, fun kₓ hkₓ => ?_, fun kₓ hkₓ => ?_, fun mₓ iₓ hmₓ hiₓ => ?_, by omega, by omega, by omega, by omega⟩
  · rw [p6ₓ] at hkₓ
    rw [p0ₓ, hPₓ (252 + 2 * kₓ) (by omega), hPₓ (253 + 2 * kₓ) (by omega)]; exact h6ₓ kₓ hkₓ
  · rw [p7ₓ] at hkₓ
    rw [p1ₓ, hPₓ (264 + 2 * kₓ) (by omega)]; exact h7ₓ kₓ hkₓ
  · rw [p8ₓ] at hkₓ
    rw [p0ₓ, hPₓ (288 + kₓ) (by omega)]; exact h8ₓ kₓ hkₓ
  · rw [p4ₓ] at hmₓ
    rw [p1ₓ] at hiₓ
    rw [hPₓ (168 + 12 * mₓ + iₓ) (by omega)]; exact h4ₓ mₓ iₓ hmₓ hiₓ
def WI (τ : SS) : Prop := WF (τ 12) ∧ ∀ iₓ : Nat, iₓ < 4 → τ 22 iₓ ≠ 0 → WF (fun kₓ => τ 21 (296 * iₓ + kₓ))
section
variable {σ σ' τ τ' : SS} {rₓ r'ₓ xₓ yₓ zₓ : Int} {nₓ n'ₓ N : Nat}
theorem WI_k (hₓ : WI τ) (h1ₓ : ∀ kₓ : Nat, (kₓ < 5 ∨ (5 < kₓ ∧ kₓ < 9) ∨ (9 < kₓ ∧ (kₓ : Int) < 10 + 10 * τ 12 1) ∨ (139 < kₓ ∧ kₓ < 216) ∨ (252 ≤ kₓ ∧ kₓ < 296)) → τ' 12 kₓ = τ 12 kₓ) (h2ₓ : ∀ kₓ : Nat, τ' 21 kₓ = τ 21 kₓ) (h3ₓ : ∀ kₓ : Nat, τ' 22 kₓ = τ 22 kₓ) : WI τ' := by
  refine ⟨WF_mw hₓ.1 h1ₓ, fun iₓ hiₓ hmₓ => ?_⟩
  rw [h3ₓ] at hmₓ
  exact WF_mw (hₓ.2 iₓ hiₓ hmₓ) (fun kₓ _ => h2ₓ _)
theorem WI_1 (hₓ : WI τ) (h1ₓ : WF (τ' 12)) (h2ₓ : ∀ kₓ : Nat, τ' 21 kₓ = τ 21 kₓ) (h3ₓ : ∀ kₓ : Nat, τ' 22 kₓ = τ 22 kₓ) : WI τ' := by
  refine ⟨h1ₓ, fun iₓ hiₓ hmₓ => ?_⟩
  rw [h3ₓ] at hmₓ
  exact WF_mw (hₓ.2 iₓ hiₓ hmₓ) (fun kₓ _ => h2ₓ _)
theorem WI_town (hₓ : WI τ) (h21ₓ : ∀ kₓ : Nat, τ' 21 kₓ = τ 21 kₓ) (h22ₓ : ∀ kₓ : Nat, τ' 22 kₓ = τ 22 kₓ) (htₓ : (TWN σ' τ' ∧ ∀ qₓ kₓ : Nat, 58 < qₓ → qₓ ≠ 148 → σ' qₓ kₓ = σ qₓ kₓ) ∨ ((∀ qₓ kₓ : Nat, 38 ≤ qₓ → σ' qₓ kₓ = σ qₓ kₓ) ∧ ∀ kₓ : Nat, τ' 12 kₓ = τ 12 kₓ)) : WI τ' := by
  rcases htₓ with ⟨⟨D, hOₓ, hTₓ, hZₓ, hSₓ, h8ₓ, h12ₓ, hGₓ⟩, hIₓ⟩ | ⟨hsₓ, h12ₓ⟩
  · have heₓ : EqT D (τ' 12) := hSₓ
    have z4ₓ := h12ₓ 4 (by omega) (by omega)
    have z6ₓ := h12ₓ 6 (by omega) (by omega)
    have z7ₓ := h12ₓ 7 (by omega) (by omega)
    have z8ₓ := h12ₓ 8 (by omega) (by omega)
    exact WI_1 hₓ ⟨GD_c heₓ hGₓ, fun kₓ hkₓ => absurd hkₓ (by omega), fun kₓ hkₓ => absurd hkₓ (by omega), fun kₓ hkₓ => absurd hkₓ (by omega), fun mₓ iₓ hmₓ _ => absurd hmₓ (by omega), by omega, by omega, by omega, by omega⟩ h21ₓ h22ₓ
  · exact WI_k hₓ (fun kₓ _ => h12ₓ kₓ) h21ₓ h22ₓ
theorem WI_print (hₓ : WI τ) (e2ₓ : m_X12_print n'ₓ 0 xₓ τ = some (r'ₓ, τ')) : WI τ' := by
  obtain ⟨hGₓ, h6ₓ, h7ₓ, h8ₓ, h4ₓ, n4ₓ, n6ₓ, n7ₓ, n8ₓ⟩ := id hₓ.1
  obtain ⟨⟨o0ₓ, o1ₓ, o2ₓ, o3ₓ⟩, g1ₓ, -⟩ := id hGₓ
  unfold m_X12_print b_X12_print_29 at e2ₓ
  rw [r_isTown, mCall_s] at e2ₓ
  by_cases ct : 0 < τ 12 0
  · rw [if_pos ct, mIf_neg (by decide), mLet_e, r_in, mCall_s] at e2ₓ
    by_cases cw : 0 ≤ xₓ ∧ xₓ ≤ 6
    · rw [if_pos cw, mIf_neg (by decide), mRd_e, show (4 : Int).toNat = 4 from rfl] at e2ₓ
      by_cases cm : τ 12 4 = 4
      · rw [mIf_neg (fun qₓ => qₓ cm)] at e2ₓ
        obtain ⟨-, rfl⟩ := some_el e2ₓ
        exact hₓ
      · rw [mIf_pos cm] at e2ₓ
        obtain ⟨mₓ, hmₓ⟩ : ∃ mₓ : Nat, τ 12 4 = (mₓ : Int) := ⟨(τ 12 4).toNat, by omega⟩
        obtain ⟨dₓ, rfl⟩ : ∃ dₓ : Nat, xₓ = (dₓ : Int) := ⟨xₓ.toNat, by omega⟩
        obtain ⟨b0ₓ, b1ₓ, b2ₓ, b4ₓ, b5ₓ⟩ := r_print0 o1ₓ.2 (by omega) n'ₓ 0 τ rfl hmₓ e2ₓ
        have fₓ : ∀ kₓ : Nat, kₓ ≠ 4 → (kₓ < 168 ∨ 216 ≤ kₓ) → τ' 12 kₓ = τ 12 kₓ := fun kₓ k1ₓ k2ₓ => b4ₓ kₓ k1ₓ (by omega)
        have heₓ : EqT (τ 12) (τ' 12) := ⟨⟨fₓ 0 (by omega) (by omega), fₓ 1 (by omega) (by omega), fₓ 2 (by omega) (by omega), fₓ 3 (by omega) (by omega)⟩, fun kₓ hkₓ => fₓ _ (by omega) (by omega), fun kₓ hkₓ => fₓ _ (by omega) (by omega), fun kₓ hkₓ => fₓ _ (by omega) (by omega)⟩
        have p0ₓ := fₓ 0 (by omega) (by omega)
        have p1ₓ := fₓ 1 (by omega) (by omega)
        have p6ₓ := fₓ 6 (by omega) (by omega)
        have p7ₓ := fₓ 7 (by omega) (by omega)
        have p8ₓ := fₓ 8 (by omega) (by omega)
        refine WI_1 hₓ ⟨GD_c heₓ hGₓ, fun kₓ hkₓ => ?_, fun kₓ hkₓ => ?_, fun kₓ hkₓ => ?_, fun m'ₓ iₓ hm'ₓ hiₓ => ?_, by omega, by omega, by omega, by omega⟩ (fun kₓ => b1ₓ 21 kₓ (by decide)) (fun kₓ => b1ₓ 22 kₓ (by decide))
        · rw [p6ₓ] at hkₓ
          rw [p0ₓ, fₓ (252 + 2 * kₓ) (by omega) (by omega), fₓ (253 + 2 * kₓ) (by omega) (by omega)]; exact h6ₓ kₓ hkₓ
        · rw [p7ₓ] at hkₓ
          rw [p1ₓ, fₓ (264 + 2 * kₓ) (by omega) (by omega)]; exact h7ₓ kₓ hkₓ
        · rw [p8ₓ] at hkₓ
          rw [p0ₓ, fₓ (288 + kₓ) (by omega) (by omega)]; exact h8ₓ kₓ hkₓ
        · rw [p1ₓ] at hiₓ
          by_cases cm' : m'ₓ = mₓ
          · subst cm'
            rw [b5ₓ iₓ (by omega) hiₓ]; exact (g1ₓ iₓ hiₓ).2.2 dₓ (by omega)
          · rw [b4ₓ _ (by omega) (by omega)]; exact h4ₓ m'ₓ iₓ (by omega) hiₓ
    · rw [if_neg cw, mIf_pos rfl] at e2ₓ
      obtain ⟨-, rfl⟩ := some_el e2ₓ
      exact hₓ
  · rw [if_neg ct, mIf_pos rfl] at e2ₓ
    obtain ⟨-, rfl⟩ := some_el e2ₓ
    exact hₓ
theorem WI_misprint (hₓ : WI τ) (e2ₓ : m_X12_misprint n'ₓ 0 xₓ yₓ zₓ τ = some (r'ₓ, τ')) : WI τ' := by
  obtain ⟨hGₓ, h6ₓ, h7ₓ, h8ₓ, h4ₓ, n4ₓ, n6ₓ, n7ₓ, n8ₓ⟩ := id hₓ.1
  obtain ⟨⟨o0ₓ, o1ₓ, o2ₓ, o3ₓ⟩, g1ₓ, -⟩ := id hGₓ
  unfold m_X12_misprint b_X12_misprint_28 at e2ₓ
  rw [r_isMap, mCall_s] at e2ₓ
  by_cases cm : 0 ≤ xₓ ∧ xₓ < τ 12 4
  · rw [if_pos cm, mIf_neg (by decide), r_isStreet, mCall_s] at e2ₓ
    by_cases cs : 0 ≤ yₓ ∧ yₓ < τ 12 1
    · rw [if_pos cs, mIf_neg (by decide), mLet_e, r_in, mCall_s] at e2ₓ
      by_cases cz : 0 ≤ zₓ ∧ zₓ ≤ 3
      · rw [if_pos cz, mIf_pos (by decide)] at e2ₓ
        obtain ⟨mₓ, rfl⟩ : ∃ mₓ : Nat, xₓ = (mₓ : Int) := ⟨xₓ.toNat, by omega⟩
        obtain ⟨sₓ, rfl⟩ : ∃ sₓ : Nat, yₓ = (sₓ : Int) := ⟨yₓ.toNat, by omega⟩
        rw [mLet_e, mLet_e, mLet_e, mRd_e, mLet_e, mLet_e, mLet_e, mWr_e, mRet_e, show ((168 : Int) + 12 * (mₓ : Int) + (sₓ : Int)).toNat = 168 + 12 * mₓ + sₓ by omega] at e2ₓ
        obtain ⟨-, rfl⟩ := some_el e2ₓ
        have fₓ : ∀ kₓ : Nat, (kₓ < 168 ∨ 216 ≤ kₓ) → upS τ 12 (168 + 12 * mₓ + sₓ) zₓ 12 kₓ = τ 12 kₓ := fun kₓ k1ₓ => upS_k (by omega)
        have heₓ : EqT (τ 12) (upS τ 12 (168 + 12 * mₓ + sₓ) zₓ 12) := ⟨⟨fₓ 0 (by omega), fₓ 1 (by omega), fₓ 2 (by omega), fₓ 3 (by omega)⟩, fun kₓ hkₓ => fₓ _ (by omega), fun kₓ hkₓ => fₓ _ (by omega), fun kₓ hkₓ => fₓ _ (by omega)⟩
        have p0ₓ := fₓ 0 (by omega)
        have p1ₓ := fₓ 1 (by omega)
        have p4ₓ := fₓ 4 (by omega)
        have p6ₓ := fₓ 6 (by omega)
        have p7ₓ := fₓ 7 (by omega)
        have p8ₓ := fₓ 8 (by omega)
        refine WI_1 hₓ ⟨GD_c heₓ hGₓ, fun kₓ hkₓ => ?_, fun kₓ hkₓ => ?_, fun kₓ hkₓ => ?_, fun m'ₓ iₓ hm'ₓ hiₓ => ?_, by omega, by omega, by omega, by omega⟩ (fun kₓ => upS_q (by decide)) (fun kₓ => upS_q (by decide))
        · rw [p6ₓ] at hkₓ
          rw [p0ₓ, fₓ (252 + 2 * kₓ) (by omega), fₓ (253 + 2 * kₓ) (by omega)]; exact h6ₓ kₓ hkₓ
        · rw [p7ₓ] at hkₓ
          rw [p1ₓ, fₓ (264 + 2 * kₓ) (by omega)]; exact h7ₓ kₓ hkₓ
        · rw [p8ₓ] at hkₓ
          rw [p0ₓ, fₓ (288 + kₓ) (by omega)]; exact h8ₓ kₓ hkₓ
        · rw [p4ₓ] at hm'ₓ
          rw [p1ₓ] at hiₓ
          by_cases cc : m'ₓ = mₓ ∧ iₓ = sₓ
          · obtain ⟨rfl, rfl⟩ := cc
            rw [upS_s]; exact cz
          · rw [upS_k (by omega)]; exact h4ₓ m'ₓ iₓ hm'ₓ hiₓ
      · rw [if_neg cz, mIf_neg (fun qₓ => qₓ rfl)] at e2ₓ
        obtain ⟨-, rfl⟩ := some_el e2ₓ
        exact hₓ
    · rw [if_neg cs, mIf_pos rfl] at e2ₓ
      obtain ⟨-, rfl⟩ := some_el e2ₓ
      exact hₓ
  · rw [if_neg cm, mIf_pos rfl] at e2ₓ
    obtain ⟨-, rfl⟩ := some_el e2ₓ
    exact hₓ
theorem WI_errand (hₓ : WI τ) (e2ₓ : m_X12_errand n'ₓ 0 xₓ yₓ τ = some (r'ₓ, τ')) : WI τ' := by
  obtain ⟨hGₓ, h6ₓ, h7ₓ, h8ₓ, h4ₓ, n4ₓ, n6ₓ, n7ₓ, n8ₓ⟩ := id hₓ.1
  obtain ⟨⟨o0ₓ, o1ₓ, o2ₓ, o3ₓ⟩, g1ₓ, -⟩ := id hGₓ
  have i6ₓ : (6 : Int).toNat = 6 := rfl
  have keyₓ : ∀ σ' : SS, (∀ kₓ : Nat, kₓ ≠ 6 → (kₓ < 252 ∨ 264 ≤ kₓ) → σ' 12 kₓ = τ 12 kₓ) → (0 ≤ σ' 12 6 ∧ σ' 12 6 ≤ 6) → (∀ kₓ : Nat, (kₓ : Int) < σ' 12 6 → 0 ≤ σ' 12 (252 + 2 * kₓ) ∧ σ' 12 (252 + 2 * kₓ) < τ 12 0 ∧ 0 ≤ σ' 12 (253 + 2 * kₓ) ∧ σ' 12 (253 + 2 * kₓ) < τ 12 0 ∧ σ' 12 (252 + 2 * kₓ) ≠ σ' 12 (253 + 2 * kₓ)) → (∀ kₓ : Nat, σ' 21 kₓ = τ 21 kₓ) → (∀ kₓ : Nat, σ' 22 kₓ = τ 22 kₓ) → WI σ' := fun σ' fₓ g6ₓ gq f1ₓ f2ₓ => by
    have heₓ : EqT (τ 12) (σ' 12) := ⟨⟨fₓ 0 (by omega) (by omega), fₓ 1 (by omega) (by omega), fₓ 2 (by omega) (by omega), fₓ 3 (by omega) (by omega)⟩, fun kₓ hkₓ => fₓ _ (by omega) (by omega), fun kₓ hkₓ => fₓ _ (by omega) (by omega), fun kₓ hkₓ => fₓ _ (by omega) (by omega)⟩
    have p0ₓ := fₓ 0 (by omega) (by omega)
    have p1ₓ := fₓ 1 (by omega) (by omega)
    have p4ₓ := fₓ 4 (by omega) (by omega)
    have p7ₓ := fₓ 7 (by omega) (by omega)
    have p8ₓ := fₓ 8 (by omega) (by omega)
    refine WI_1 hₓ ⟨GD_c heₓ hGₓ, fun kₓ hkₓ => ?_, fun kₓ hkₓ => ?_, fun kₓ hkₓ => ?_, fun m'ₓ iₓ hm'ₓ hiₓ => ?_, by omega, g6ₓ, by omega, by omega⟩ f1ₓ f2ₓ
    · rw [p0ₓ]; exact gq kₓ hkₓ
    · rw [p7ₓ] at hkₓ
      rw [p1ₓ, fₓ (264 + 2 * kₓ) (by omega) (by omega)]; exact h7ₓ kₓ hkₓ
    · rw [p8ₓ] at hkₓ
      rw [p0ₓ, fₓ (288 + kₓ) (by omega) (by omega)]; exact h8ₓ kₓ hkₓ
    · rw [p4ₓ] at hm'ₓ
      rw [p1ₓ] at hiₓ
      rw [fₓ (168 + 12 * m'ₓ + iₓ) (by omega) (by omega)]; exact h4ₓ m'ₓ iₓ hm'ₓ hiₓ
  unfold m_X12_errand b_X12_errand_48 at e2ₓ
  by_cases cx : xₓ = -1
  · rw [mIf_neg (fun qₓ => qₓ cx), mWr_e, mRet_e, i6ₓ] at e2ₓ
    obtain ⟨-, rfl⟩ := some_el e2ₓ
    exact keyₓ _ (fun kₓ k1ₓ k2ₓ => upS_k k1ₓ) (by rw [upS_s]; decide) (fun kₓ hkₓ => absurd hkₓ (by rw [upS_s]; omega)) (fun kₓ => upS_q (by decide)) (fun kₓ => upS_q (by decide))
  · rw [mIf_pos cx, r_isCorner, mCall_s] at e2ₓ
    by_cases ca : 0 ≤ xₓ ∧ xₓ < τ 12 0
    · rw [if_pos ca, mIf_neg (by decide), r_isCorner, mCall_s] at e2ₓ
      by_cases cb : 0 ≤ yₓ ∧ yₓ < τ 12 0
      · rw [if_pos cb, mIf_neg (by decide)] at e2ₓ
        by_cases cc : xₓ = yₓ
        · rw [mIf_pos cc] at e2ₓ
          obtain ⟨-, rfl⟩ := some_el e2ₓ
          exact hₓ
        · rw [mIf_neg cc, mRd_e, i6ₓ] at e2ₓ
          by_cases cm : τ 12 6 = 6
          · rw [mIf_neg (fun qₓ => qₓ cm)] at e2ₓ
            obtain ⟨-, rfl⟩ := some_el e2ₓ
            exact hₓ
          · rw [mIf_pos cm] at e2ₓ
            obtain ⟨mₓ, hmₓ⟩ : ∃ mₓ : Nat, τ 12 6 = (mₓ : Int) := ⟨(τ 12 6).toNat, by omega⟩
            have j1ₓ : ((252 : Int) + 2 * (mₓ : Int)).toNat = 252 + 2 * mₓ := by omega
            have j2ₓ : ((252 : Int) + 2 * (mₓ : Int) + 1).toNat = 253 + 2 * mₓ := by omega
            have u1ₓ : ∀ (τ : SS) (vₓ : Int), upS τ 12 (252 + 2 * mₓ) vₓ 12 6 = τ 12 6 := fun τ vₓ => upS_k (by omega)
            have u2ₓ : ∀ (τ : SS) (vₓ : Int), upS τ 12 (253 + 2 * mₓ) vₓ 12 6 = τ 12 6 := fun τ vₓ => upS_k (by omega)
            simp only [mRd_e, mLet_e, mWr_e, mRet_e, i6ₓ, hmₓ, j1ₓ, j2ₓ, u1ₓ, u2ₓ, upS_s] at e2ₓ
            obtain ⟨-, rfl⟩ := some_el e2ₓ
            refine keyₓ _ (fun kₓ k1ₓ k2ₓ => by rw [upS_k k1ₓ, upS_k (by omega), upS_k (by omega)]) (by rw [upS_s]; omega) (fun kₓ hkₓ => ?_) (fun kₓ => by rw [upS_q (by decide), upS_q (by decide), upS_q (by decide)]) (fun kₓ => by rw [upS_q (by decide), upS_q (by decide), upS_q (by decide)])
            rw [upS_s] at hkₓ
            by_cases ck : kₓ = mₓ
            · subst ck
              rw [upS_k (show 252 + 2 * kₓ ≠ 6 by omega), upS_k (show 252 + 2 * kₓ ≠ 253 + 2 * kₓ by omega), upS_s, upS_k (show 253 + 2 * kₓ ≠ 6 by omega), upS_s]; omega
            · rw [upS_k (show 252 + 2 * kₓ ≠ 6 by omega), upS_k (show 252 + 2 * kₓ ≠ 253 + 2 * mₓ by omega), upS_k (show 252 + 2 * kₓ ≠ 252 + 2 * mₓ by omega), upS_k (show 253 + 2 * kₓ ≠ 6 by omega), upS_k (show 253 + 2 * kₓ ≠ 253 + 2 * mₓ by omega), upS_k (show 253 + 2 * kₓ ≠ 252 + 2 * mₓ by omega)]; exact h6ₓ kₓ (by omega)
      · rw [if_neg cb, mIf_pos rfl] at e2ₓ
        obtain ⟨-, rfl⟩ := some_el e2ₓ
        exact hₓ
    · rw [if_neg ca, mIf_pos rfl] at e2ₓ
      obtain ⟨-, rfl⟩ := some_el e2ₓ
      exact hₓ
theorem WI_sight (hₓ : WI τ) (e2ₓ : m_X12_sight n'ₓ 0 xₓ yₓ τ = some (r'ₓ, τ')) : WI τ' := by
  obtain ⟨hGₓ, h6ₓ, h7ₓ, h8ₓ, h4ₓ, n4ₓ, n6ₓ, n7ₓ, n8ₓ⟩ := id hₓ.1
  obtain ⟨⟨o0ₓ, o1ₓ, o2ₓ, o3ₓ⟩, g1ₓ, -⟩ := id hGₓ
  have i6ₓ : (7 : Int).toNat = 7 := rfl
  have keyₓ : ∀ σ' : SS, (∀ kₓ : Nat, kₓ ≠ 7 → (kₓ < 264 ∨ 288 ≤ kₓ) → σ' 12 kₓ = τ 12 kₓ) → (0 ≤ σ' 12 7 ∧ σ' 12 7 ≤ 12) → (∀ kₓ : Nat, (kₓ : Int) < σ' 12 7 → 0 ≤ σ' 12 (264 + 2 * kₓ) ∧ σ' 12 (264 + 2 * kₓ) < τ 12 1) → (∀ kₓ : Nat, σ' 21 kₓ = τ 21 kₓ) → (∀ kₓ : Nat, σ' 22 kₓ = τ 22 kₓ) → WI σ' := fun σ' fₓ g6ₓ gq f1ₓ f2ₓ => by
    have heₓ : EqT (τ 12) (σ' 12) := ⟨⟨fₓ 0 (by omega) (by omega), fₓ 1 (by omega) (by omega), fₓ 2 (by omega) (by omega), fₓ 3 (by omega) (by omega)⟩, fun kₓ hkₓ => fₓ _ (by omega) (by omega), fun kₓ hkₓ => fₓ _ (by omega) (by omega), fun kₓ hkₓ => fₓ _ (by omega) (by omega)⟩
    have p0ₓ := fₓ 0 (by omega) (by omega)
    have p1ₓ := fₓ 1 (by omega) (by omega)
    have p4ₓ := fₓ 4 (by omega) (by omega)
    have p6ₓ := fₓ 6 (by omega) (by omega)
    have p8ₓ := fₓ 8 (by omega) (by omega)
    refine WI_1 hₓ ⟨GD_c heₓ hGₓ, fun kₓ hkₓ => ?_, fun kₓ hkₓ => ?_, fun kₓ hkₓ => ?_, fun m'ₓ iₓ hm'ₓ hiₓ => ?_, by omega, by omega, g6ₓ, by omega⟩ f1ₓ f2ₓ
    · rw [p6ₓ] at hkₓ
      rw [p0ₓ, fₓ (252 + 2 * kₓ) (by omega) (by omega), fₓ (253 + 2 * kₓ) (by omega) (by omega)]; exact h6ₓ kₓ hkₓ
    · rw [p1ₓ]; exact gq kₓ hkₓ
    · rw [p8ₓ] at hkₓ
      rw [p0ₓ, fₓ (288 + kₓ) (by omega) (by omega)]; exact h8ₓ kₓ hkₓ
    · rw [p4ₓ] at hm'ₓ
      rw [p1ₓ] at hiₓ
      rw [fₓ (168 + 12 * m'ₓ + iₓ) (by omega) (by omega)]; exact h4ₓ m'ₓ iₓ hm'ₓ hiₓ
  unfold m_X12_sight b_X12_sight_47 at e2ₓ
  by_cases cx : xₓ = -1
  · rw [mIf_neg (fun qₓ => qₓ cx), mWr_e, mRet_e, i6ₓ] at e2ₓ
    obtain ⟨-, rfl⟩ := some_el e2ₓ
    exact keyₓ _ (fun kₓ k1ₓ k2ₓ => upS_k k1ₓ) (by rw [upS_s]; decide) (fun kₓ hkₓ => absurd hkₓ (by rw [upS_s]; omega)) (fun kₓ => upS_q (by decide)) (fun kₓ => upS_q (by decide))
  · rw [mIf_pos cx, r_isStreet, mCall_s] at e2ₓ
    by_cases ca : 0 ≤ xₓ ∧ xₓ < τ 12 1
    · rw [if_pos ca, mIf_neg (by decide), mLet_e, r_in, mCall_s] at e2ₓ
      by_cases cb : 0 ≤ yₓ ∧ yₓ ≤ 3
      · rw [if_pos cb, mIf_neg (by decide), mRd_e, i6ₓ] at e2ₓ
        by_cases cm : τ 12 7 = 12
        · rw [mIf_neg (fun qₓ => qₓ cm)] at e2ₓ
          obtain ⟨-, rfl⟩ := some_el e2ₓ
          exact hₓ
        · rw [mIf_pos cm] at e2ₓ
          obtain ⟨mₓ, hmₓ⟩ : ∃ mₓ : Nat, τ 12 7 = (mₓ : Int) := ⟨(τ 12 7).toNat, by omega⟩
          have j1ₓ : ((264 : Int) + 2 * (mₓ : Int)).toNat = 264 + 2 * mₓ := by omega
          have j2ₓ : ((264 : Int) + 2 * (mₓ : Int) + 1).toNat = 265 + 2 * mₓ := by omega
          have u1ₓ : ∀ (τ : SS) (vₓ : Int), upS τ 12 (264 + 2 * mₓ) vₓ 12 7 = τ 12 7 := fun τ vₓ => upS_k (by omega)
          have u2ₓ : ∀ (τ : SS) (vₓ : Int), upS τ 12 (265 + 2 * mₓ) vₓ 12 7 = τ 12 7 := fun τ vₓ => upS_k (by omega)
          simp only [mRd_e, mLet_e, mWr_e, mRet_e, i6ₓ, hmₓ, j1ₓ, j2ₓ, u1ₓ, u2ₓ, upS_s] at e2ₓ
          obtain ⟨-, rfl⟩ := some_el e2ₓ
          refine keyₓ _ (fun kₓ k1ₓ k2ₓ => by rw [upS_k k1ₓ, upS_k (by omega), upS_k (by omega)]) (by rw [upS_s]; omega) (fun kₓ hkₓ => ?_) (fun kₓ => by rw [upS_q (by decide), upS_q (by decide), upS_q (by decide)]) (fun kₓ => by rw [upS_q (by decide), upS_q (by decide), upS_q (by decide)])
          rw [upS_s] at hkₓ
          by_cases ck : kₓ = mₓ
          · subst ck
            rw [upS_k (show 264 + 2 * kₓ ≠ 7 by omega), upS_k (show 264 + 2 * kₓ ≠ 265 + 2 * kₓ by omega), upS_s]; exact ca
          · rw [upS_k (show 264 + 2 * kₓ ≠ 7 by omega), upS_k (show 264 + 2 * kₓ ≠ 265 + 2 * mₓ by omega), upS_k (show 264 + 2 * kₓ ≠ 264 + 2 * mₓ by omega)]; exact h7ₓ kₓ (by omega)
      · rw [if_neg cb, mIf_pos rfl] at e2ₓ
        obtain ⟨-, rfl⟩ := some_el e2ₓ
        exact hₓ
    · rw [if_neg ca, mIf_pos rfl] at e2ₓ
      obtain ⟨-, rfl⟩ := some_el e2ₓ
      exact hₓ
theorem WI_came (hₓ : WI τ) (e2ₓ : m_X12_came n'ₓ 0 xₓ τ = some (r'ₓ, τ')) : WI τ' := by
  obtain ⟨hGₓ, h6ₓ, h7ₓ, h8ₓ, h4ₓ, n4ₓ, n6ₓ, n7ₓ, n8ₓ⟩ := id hₓ.1
  obtain ⟨⟨o0ₓ, o1ₓ, o2ₓ, o3ₓ⟩, g1ₓ, -⟩ := id hGₓ
  have i6ₓ : (8 : Int).toNat = 8 := rfl
  have keyₓ : ∀ σ' : SS, (∀ kₓ : Nat, kₓ ≠ 8 → (kₓ < 288 ∨ 296 ≤ kₓ) → σ' 12 kₓ = τ 12 kₓ) → (0 ≤ σ' 12 8 ∧ σ' 12 8 ≤ 8) → (∀ kₓ : Nat, (kₓ : Int) < σ' 12 8 → 0 ≤ σ' 12 (288 + kₓ) ∧ σ' 12 (288 + kₓ) < τ 12 0) → (∀ kₓ : Nat, σ' 21 kₓ = τ 21 kₓ) → (∀ kₓ : Nat, σ' 22 kₓ = τ 22 kₓ) → WI σ' := fun σ' fₓ g6ₓ gq f1ₓ f2ₓ => by
    have heₓ : EqT (τ 12) (σ' 12) := ⟨⟨fₓ 0 (by omega) (by omega), fₓ 1 (by omega) (by omega), fₓ 2 (by omega) (by omega), fₓ 3 (by omega) (by omega)⟩, fun kₓ hkₓ => fₓ _ (by omega) (by omega), fun kₓ hkₓ => fₓ _ (by omega) (by omega), fun kₓ hkₓ => fₓ _ (by omega) (by omega)⟩
    have p0ₓ := fₓ 0 (by omega) (by omega)
    have p1ₓ := fₓ 1 (by omega) (by omega)
    have p4ₓ := fₓ 4 (by omega) (by omega)
    have p6ₓ := fₓ 6 (by omega) (by omega)
    have p7ₓ := fₓ 7 (by omega) (by omega)
    refine WI_1 hₓ ⟨GD_c heₓ hGₓ, fun kₓ hkₓ => ?_, fun kₓ hkₓ => ?_, fun kₓ hkₓ => ?_, fun m'ₓ iₓ hm'ₓ hiₓ => ?_, by omega, by omega, by omega, g6ₓ⟩ f1ₓ f2ₓ
    · rw [p6ₓ] at hkₓ
      rw [p0ₓ, fₓ (252 + 2 * kₓ) (by omega) (by omega), fₓ (253 + 2 * kₓ) (by omega) (by omega)]; exact h6ₓ kₓ hkₓ
    · rw [p7ₓ] at hkₓ
      rw [p1ₓ, fₓ (264 + 2 * kₓ) (by omega) (by omega)]; exact h7ₓ kₓ hkₓ
    · rw [p0ₓ]; exact gq kₓ hkₓ
    · rw [p4ₓ] at hm'ₓ
      rw [p1ₓ] at hiₓ
      rw [fₓ (168 + 12 * m'ₓ + iₓ) (by omega) (by omega)]; exact h4ₓ m'ₓ iₓ hm'ₓ hiₓ
  unfold m_X12_came b_X12_came_35 at e2ₓ
  by_cases cx : xₓ = -1
  · rw [mIf_neg (fun qₓ => qₓ cx), mWr_e, mRet_e, i6ₓ] at e2ₓ
    obtain ⟨-, rfl⟩ := some_el e2ₓ
    exact keyₓ _ (fun kₓ k1ₓ k2ₓ => upS_k k1ₓ) (by rw [upS_s]; decide) (fun kₓ hkₓ => absurd hkₓ (by rw [upS_s]; omega)) (fun kₓ => upS_q (by decide)) (fun kₓ => upS_q (by decide))
  · rw [mIf_pos cx, r_isCorner, mCall_s] at e2ₓ
    by_cases ca : 0 ≤ xₓ ∧ xₓ < τ 12 0
    · rw [if_pos ca, mIf_neg (by decide), mRd_e, i6ₓ] at e2ₓ
      by_cases cm : τ 12 8 = 8
      · rw [mIf_neg (fun qₓ => qₓ cm)] at e2ₓ
        obtain ⟨-, rfl⟩ := some_el e2ₓ
        exact hₓ
      · rw [mIf_pos cm] at e2ₓ
        obtain ⟨mₓ, hmₓ⟩ : ∃ mₓ : Nat, τ 12 8 = (mₓ : Int) := ⟨(τ 12 8).toNat, by omega⟩
        have j1ₓ : ((288 : Int) + (mₓ : Int)).toNat = 288 + mₓ := by omega
        have u1ₓ : ∀ (τ : SS) (vₓ : Int), upS τ 12 (288 + mₓ) vₓ 12 8 = τ 12 8 := fun τ vₓ => upS_k (by omega)
        simp only [mRd_e, mLet_e, mWr_e, mRet_e, i6ₓ, hmₓ, j1ₓ, u1ₓ, upS_s] at e2ₓ
        obtain ⟨-, rfl⟩ := some_el e2ₓ
        refine keyₓ _ (fun kₓ k1ₓ k2ₓ => by rw [upS_k k1ₓ, upS_k (by omega)]) (by rw [upS_s]; omega) (fun kₓ hkₓ => ?_) (fun kₓ => by rw [upS_q (by decide), upS_q (by decide)]) (fun kₓ => by rw [upS_q (by decide), upS_q (by decide)])
        rw [upS_s] at hkₓ
        by_cases ck : kₓ = mₓ
        · subst ck
          rw [upS_k (show 288 + kₓ ≠ 8 by omega), upS_s]; exact ca
        · rw [upS_k (show 288 + kₓ ≠ 8 by omega), upS_k (show 288 + kₓ ≠ 288 + mₓ by omega)]; exact h8ₓ kₓ (by omega)
    · rw [if_neg ca, mIf_pos rfl] at e2ₓ
      obtain ⟨-, rfl⟩ := some_el e2ₓ
      exact hₓ
theorem WI_image (hₓ : WI τ) (e2ₓ : m_X12_image n'ₓ 0 xₓ τ = some (r'ₓ, τ')) : WI τ' := by
  unfold m_X12_image at e2ₓ
  rw [mLet_e, r_in, mCall_s] at e2ₓ
  by_cases cₓ : 0 ≤ xₓ ∧ xₓ ≤ 3
  · obtain ⟨aₓ, rfl⟩ : ∃ aₓ : Nat, xₓ = (aₓ : Int) := ⟨xₓ.toNat, by omega⟩
    have ea : ((aₓ : Nat) : Int).toNat = aₓ := by omega
    rw [if_pos cₓ, mIf_pos (by decide), mWr_e, ea] at e2ₓ
    obtain ⟨k1ₓ, k2ₓ, k3ₓ⟩ := r_image0 n'ₓ 0 _ (by decide) e2ₓ
    have t12ₓ : ∀ kₓ : Nat, τ' 12 kₓ = τ 12 kₓ := fun kₓ => by rw [k1ₓ 12 kₓ (by omega), upS_q (by decide)]
    have o1ₓ := hₓ.1.1.1.2.1
    refine ⟨WF_mw hₓ.1 (fun kₓ _ => t12ₓ kₓ), fun iₓ hiₓ hmₓ => ?_⟩
    by_cases ci : iₓ = aₓ
    · subst ci
      refine WF_mw hₓ.1 (fun kₓ hkₓ => ?_)
      show τ' 21 (296 * iₓ + kₓ) = τ 12 kₓ
      rw [k3ₓ kₓ (by omega) (by omega), upS_q (by decide)]
    · rw [k1ₓ 22 iₓ (by omega), upS_k ci] at hmₓ
      have o2ₓ : 0 ≤ τ 21 (296 * iₓ + 1) ∧ τ 21 (296 * iₓ + 1) ≤ 12 := (hₓ.2 iₓ hiₓ hmₓ).1.1.2.1
      refine WF_mw (hₓ.2 iₓ hiₓ hmₓ) (fun kₓ hkₓ => ?_)
      have o3ₓ : (kₓ : Nat) < 296 := by omega
      show τ' 21 (296 * iₓ + kₓ) = τ 21 (296 * iₓ + kₓ)
      rw [k1ₓ 21 _ (by omega), upS_q (by decide)]
  · rw [if_neg cₓ, mIf_neg (fun zₓ => zₓ rfl)] at e2ₓ
    obtain ⟨-, rfl⟩ := some_el e2ₓ
    exact hₓ
theorem WI_back (hₓ : WI τ) (e2ₓ : m_X12_back n'ₓ 0 xₓ τ = some (r'ₓ, τ')) : WI τ' := by
  unfold m_X12_back b_X12_back_21 at e2ₓ
  rw [mLet_e, r_in, mCall_s] at e2ₓ
  by_cases cₓ : 0 ≤ xₓ ∧ xₓ ≤ 3
  · obtain ⟨aₓ, rfl⟩ : ∃ aₓ : Nat, xₓ = (aₓ : Int) := ⟨xₓ.toNat, by omega⟩
    have ea : ((aₓ : Nat) : Int).toNat = aₓ := by omega
    rw [if_pos cₓ, mIf_neg (by decide), mRd_e, ea] at e2ₓ
    by_cases cm : τ 22 aₓ = 0
    · rw [mIf_neg (fun zₓ => zₓ cm)] at e2ₓ
      obtain ⟨-, rfl⟩ := some_el e2ₓ
      exact hₓ
    · rw [mIf_pos cm] at e2ₓ
      obtain ⟨k1ₓ, k2ₓ, k3ₓ⟩ := r_back0 n'ₓ 0 _ (by decide) e2ₓ
      have hwₓ := hₓ.2 aₓ (by omega) cm
      have o2ₓ : 0 ≤ τ 21 (296 * aₓ + 1) ∧ τ 21 (296 * aₓ + 1) ≤ 12 := hwₓ.1.1.2.1
      refine ⟨WF_mw hwₓ (fun kₓ hkₓ => k3ₓ kₓ (by omega) (by omega)), fun iₓ hiₓ hmₓ => ?_⟩
      rw [k1ₓ 22 iₓ (by decide)] at hmₓ
      exact WF_mw (hₓ.2 iₓ hiₓ hmₓ) (fun kₓ _ => k1ₓ 21 _ (by decide))
  · rw [if_neg cₓ, mIf_pos rfl] at e2ₓ
    obtain ⟨-, rfl⟩ := some_el e2ₓ
    exact hₓ
theorem WI_built (hₓ : WI τ) (eₓ : m_X12_built nₓ 0 xₓ yₓ zₓ τ = some (r'ₓ, τ')) : WI τ' := by
  have o1ₓ := hₓ.1.1.1.2.1
  obtain ⟨N, hNₓ⟩ : ∃ N : Nat, τ 12 1 = (N : Int) := ⟨(τ 12 1).toNat, by omega⟩
  obtain ⟨hkₓ, h1ₓ⟩ := rb_built hNₓ eₓ
  refine WI_k hₓ (fun kₓ hk'ₓ => ?_) (fun kₓ => hkₓ 21 kₓ (by decide) (by decide) (by omega)) (fun kₓ => hkₓ 22 kₓ (by decide) (by decide) (by omega))
  by_cases cₓ : kₓ = 1
  · subst cₓ; rw [h1ₓ, hNₓ]
  · exact hkₓ 12 kₓ (by decide) (by decide) (by omega)
end
