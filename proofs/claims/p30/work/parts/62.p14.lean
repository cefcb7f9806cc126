section
variable {σ σ' τ τ' : SS} {rₓ r'ₓ xₓ : Int} {nₓ n'ₓ : Nat} {aₓ bₓ : Nat}
theorem StE.fr {qₓ : Nat} (hₓ : ∀ pₓ kₓ : Nat, qₓ ≤ pₓ → pₓ ≤ qₓ + 16 → σ' pₓ kₓ = σ pₓ kₓ) : StE qₓ qₓ σ σ' :=
  ⟨fun kₓ _ => hₓ _ _ (by omega) (by omega), fun kₓ _ => hₓ _ _ (by omega) (by omega), fun kₓ _ => ⟨hₓ _ _ (by omega) (by omega), hₓ _ _ (by omega) (by omega)⟩, fun kₓ _ => ⟨hₓ _ _ (by omega) (by omega), hₓ _ _ (by omega) (by omega), hₓ _ _ (by omega) (by omega)⟩, fun kₓ _ => hₓ _ _ (by omega) (by omega), fun kₓ _ => ⟨hₓ _ _ (by omega) (by omega), hₓ _ _ (by omega) (by omega), hₓ _ _ (by omega) (by omega)⟩, fun kₓ _ => hₓ _ _ (by omega) (by omega), fun kₓ _ => ⟨hₓ _ _ (by omega) (by omega), hₓ _ _ (by omega) (by omega)⟩, fun kₓ _ => ⟨hₓ _ _ (by omega) (by omega), hₓ _ _ (by omega) (by omega)⟩⟩
def SI (σ τ : SS) : Prop := SRel 38 σ (τ 12) ∧ (∀ iₓ : Nat, iₓ < 4 → σ 144 iₓ = τ 22 iₓ) ∧ ∀ iₓ : Nat, iₓ < 4 → σ 144 iₓ ≠ 0 → SRel (60 + 21 * iₓ) σ (fun kₓ => τ 21 (296 * iₓ + kₓ))
theorem el40 {qₓ iₓ : Nat} : el 40 qₓ iₓ = 60 + 21 * iₓ := by unfold el; rw [if_neg (by decide), if_neg (by decide)]
theorem r_image0 : ∀ (nₓ : Nat) (kₓ : Int) (σ : SS), 0 ≤ kₓ → j_X12_image 0 nₓ 23 [(aₓ : Int), kₓ] σ = some (rₓ, σ') → (∀ qₓ jₓ : Nat, ¬ (qₓ = 21 ∧ 296 * aₓ ≤ jₓ ∧ jₓ < 296 * aₓ + 296) → σ' qₓ jₓ = σ qₓ jₓ) ∧ (∀ jₓ : Nat, jₓ < 296 → (jₓ : Int) < kₓ → σ' 21 (296 * aₓ + jₓ) = σ 21 (296 * aₓ + jₓ)) ∧ ∀ jₓ : Nat, jₓ < 296 → kₓ ≤ (jₓ : Int) → σ' 21 (296 * aₓ + jₓ) = σ 12 jₓ := by
  intro nₓ
  induction nₓ with
  | zero => intro kₓ σ _ eₓ; exact none_el eₓ
  | succ nₓ ihₓ =>
    intro kₓ σ hkₓ eₓ
    rw [e_X12_image_23] at eₓ
    unfold b_X12_image_23 at eₓ
    by_cases cₓ : 296 ≤ kₓ
    · rw [mIf_pos cₓ, mRd_e] at eₓ
      obtain ⟨-, rfl⟩ := some_el eₓ
      exact ⟨fun _ _ _ => rfl, fun _ _ _ => rfl, fun jₓ h1ₓ h2ₓ => absurd h2ₓ (by omega)⟩
    · have e1ₓ : (296 * (aₓ : Int) + kₓ).toNat = 296 * aₓ + kₓ.toNat := by omega
      rw [mIf_neg cₓ, mLet_e, mLet_e, mRd_e, mWr_e, e1ₓ, mLet_e] at eₓ
      obtain ⟨g1ₓ, g2ₓ, g3ₓ⟩ := ihₓ _ _ (by omega) eₓ
      refine ⟨fun qₓ jₓ hₓ => (g1ₓ qₓ jₓ hₓ).trans (upS_n (by omega)), fun jₓ h1ₓ h2ₓ => (g2ₓ jₓ h1ₓ (by omega)).trans (upS_n (by omega)), fun jₓ h1ₓ h2ₓ => ?_⟩
      by_cases cj : (jₓ : Int) = kₓ
      · obtain rfl : kₓ.toNat = jₓ := by omega
        rw [g2ₓ _ h1ₓ (by omega), upS_s]
      · rw [g3ₓ jₓ h1ₓ (by omega), upS_q (by decide)]
theorem r_back0 : ∀ (nₓ : Nat) (kₓ : Int) (σ : SS), 0 ≤ kₓ → j_X12_back 0 nₓ 25 [(aₓ : Int), kₓ] σ = some (rₓ, σ') → (∀ qₓ jₓ : Nat, qₓ ≠ 12 → σ' qₓ jₓ = σ qₓ jₓ) ∧ (∀ jₓ : Nat, jₓ < 296 → (jₓ : Int) < kₓ → σ' 12 jₓ = σ 12 jₓ) ∧ ∀ jₓ : Nat, jₓ < 296 → kₓ ≤ (jₓ : Int) → σ' 12 jₓ = σ 21 (296 * aₓ + jₓ) := by
  intro nₓ
  induction nₓ with
  | zero => intro kₓ σ _ eₓ; exact none_el eₓ
  | succ nₓ ihₓ =>
    intro kₓ σ hkₓ eₓ
    rw [e_X12_back_25] at eₓ
    unfold b_X12_back_25 at eₓ
    by_cases cₓ : 296 ≤ kₓ
    · rw [mIf_pos cₓ, mRd_e] at eₓ
      obtain ⟨-, rfl⟩ := some_el eₓ
      exact ⟨fun _ _ _ => rfl, fun _ _ _ => rfl, fun jₓ h1ₓ h2ₓ => absurd h2ₓ (by omega)⟩
    · have e1ₓ : (296 * (aₓ : Int) + kₓ).toNat = 296 * aₓ + kₓ.toNat := by omega
      rw [mIf_neg cₓ, mLet_e, mLet_e, mRd_e, mWr_e, e1ₓ, mLet_e] at eₓ
      obtain ⟨g1ₓ, g2ₓ, g3ₓ⟩ := ihₓ _ _ (by omega) eₓ
      refine ⟨fun qₓ jₓ hₓ => (g1ₓ qₓ jₓ hₓ).trans (upS_q hₓ), fun jₓ h1ₓ h2ₓ => (g2ₓ jₓ h1ₓ (by omega)).trans (upS_n (by omega)), fun jₓ h1ₓ h2ₓ => ?_⟩
      by_cases cj : (jₓ : Int) = kₓ
      · obtain rfl : kₓ.toNat = jₓ := by omega
        rw [g2ₓ _ h1ₓ (by omega), upS_s]
      · rw [g3ₓ jₓ h1ₓ (by omega), upS_q (by decide)]
theorem f_image (hₓ : SI σ τ) (e1ₓ : m_X11_image nₓ 0 xₓ σ = some (rₓ, σ')) (e2ₓ : m_X12_image n'ₓ 0 xₓ τ = some (r'ₓ, τ')) : SI σ' τ' := by
  obtain ⟨h1ₓ, h2ₓ, h3ₓ⟩ := hₓ
  unfold m_X11_image b_X11_image_9 at e1ₓ
  unfold m_X12_image at e2ₓ
  rw [mLet_e, r_in, mCall_s] at e2ₓ
  by_cases cₓ : 0 ≤ xₓ ∧ xₓ ≤ 3
  · obtain ⟨aₓ, rfl⟩ : ∃ aₓ : Nat, xₓ = (aₓ : Int) := ⟨xₓ.toNat, by omega⟩
    have haₓ : aₓ < 4 := by omega
    have ea : ((aₓ : Nat) : Int).toNat = aₓ := by omega
    rw [if_pos cₓ, mIf_pos (by decide), mWr_e, ea] at e2ₓ
    rw [mIf_neg (by omega), mIf_pos (by omega), mIx_e, ea, el40] at e1ₓ
    obtain ⟨r1ₓ, s1ₓ, d1ₓ, e1ₓ⟩ := mCall_el e1ₓ
    obtain ⟨g1ₓ, g2ₓ⟩ := c_state (by omega) d1ₓ
    rw [mWr_e, mRd_e] at e1ₓ
    obtain ⟨-, rfl⟩ := some_el e1ₓ
    obtain ⟨k1ₓ, k2ₓ, k3ₓ⟩ := r_image0 n'ₓ 0 _ (by decide) e2ₓ
    have t12ₓ : ∀ kₓ : Nat, τ' 12 kₓ = τ 12 kₓ := fun kₓ => by rw [k1ₓ 12 kₓ (by omega), upS_q (by decide)]
    refine ⟨SRel_mv h1ₓ (StE.fr (fun pₓ kₓ p1ₓ p2ₓ => by rw [upS_q (by omega), g2ₓ pₓ kₓ (by omega)])) (fun kₓ _ => t12ₓ kₓ), fun iₓ hiₓ => ?_, fun iₓ hiₓ hmₓ => ?_⟩
    · rw [k1ₓ 22 iₓ (by omega)]
      by_cases ci : iₓ = aₓ
      · subst ci; rw [upS_s, upS_s]
      · rw [upS_k ci, upS_k ci, g2ₓ 144 iₓ (by omega)]; exact h2ₓ iₓ hiₓ
    · by_cases ci : iₓ = aₓ
      · subst ci
        obtain ⟨q1ₓ, q2ₓ, q3ₓ, q4ₓ, q5ₓ, q6ₓ, q7ₓ, q8ₓ, q9ₓ⟩ := g1ₓ
        have e0ₓ : ∀ pₓ kₓ : Nat, pₓ < 144 → upS s1ₓ 144 iₓ 1 pₓ kₓ = s1ₓ pₓ kₓ := fun pₓ kₓ hpₓ => upS_q (by omega)
        refine SRel_mv h1ₓ ⟨fun kₓ hkₓ => (e0ₓ _ _ (by omega)).trans (q1ₓ kₓ hkₓ), fun kₓ hkₓ => (e0ₓ _ _ (by omega)).trans (q2ₓ kₓ hkₓ), fun kₓ hkₓ => ⟨(e0ₓ _ _ (by omega)).trans (q3ₓ kₓ hkₓ).1, (e0ₓ _ _ (by omega)).trans (q3ₓ kₓ hkₓ).2⟩, fun kₓ hkₓ => ⟨(e0ₓ _ _ (by omega)).trans (q4ₓ kₓ hkₓ).1, (e0ₓ _ _ (by omega)).trans (q4ₓ kₓ hkₓ).2.1, (e0ₓ _ _ (by omega)).trans (q4ₓ kₓ hkₓ).2.2⟩, fun kₓ hkₓ => (e0ₓ _ _ (by omega)).trans (q5ₓ kₓ hkₓ), fun kₓ hkₓ => ⟨(e0ₓ _ _ (by omega)).trans (q6ₓ kₓ hkₓ).1, (e0ₓ _ _ (by omega)).trans (q6ₓ kₓ hkₓ).2.1, (e0ₓ _ _ (by omega)).trans (q6ₓ kₓ hkₓ).2.2⟩, fun kₓ hkₓ => (e0ₓ _ _ (by omega)).trans (q7ₓ kₓ hkₓ), fun kₓ hkₓ => ⟨(e0ₓ _ _ (by omega)).trans (q8ₓ kₓ hkₓ).1, (e0ₓ _ _ (by omega)).trans (q8ₓ kₓ hkₓ).2⟩, fun kₓ hkₓ => ⟨(e0ₓ _ _ (by omega)).trans (q9ₓ kₓ hkₓ).1, (e0ₓ _ _ (by omega)).trans (q9ₓ kₓ hkₓ).2⟩⟩ (fun kₓ hkₓ => ?_)
        show τ' 21 (296 * iₓ + kₓ) = τ 12 kₓ
        rw [k3ₓ kₓ (by omega) (by omega), upS_q (by decide)]
      · rw [upS_k ci, g2ₓ 144 iₓ (by omega)] at hmₓ
        refine SRel_mv (h3ₓ iₓ hiₓ hmₓ) (StE.fr (fun pₓ kₓ p1ₓ p2ₓ => by rw [upS_q (by omega), g2ₓ pₓ kₓ (by omega)])) (fun kₓ hkₓ => ?_)
        show τ' 21 (296 * iₓ + kₓ) = τ 21 (296 * iₓ + kₓ)
        rw [k1ₓ 21 _ (by omega), upS_q (by decide)]
  · rw [if_neg cₓ, mIf_neg (fun zₓ => zₓ rfl)] at e2ₓ
    obtain ⟨-, rfl⟩ := some_el e2ₓ
    by_cases c0ₓ : xₓ < 0
    · rw [mIf_pos c0ₓ] at e1ₓ
      obtain ⟨-, rfl⟩ := some_el e1ₓ
      exact ⟨h1ₓ, h2ₓ, h3ₓ⟩
    · rw [mIf_neg c0ₓ, mIf_neg (by omega)] at e1ₓ
      obtain ⟨-, rfl⟩ := some_el e1ₓ
      exact ⟨h1ₓ, h2ₓ, h3ₓ⟩
theorem f_back (hₓ : SI σ τ) (e1ₓ : m_X11_back nₓ 0 xₓ σ = some (rₓ, σ')) (e2ₓ : m_X12_back n'ₓ 0 xₓ τ = some (r'ₓ, τ')) : SI σ' τ' := by
  obtain ⟨h1ₓ, h2ₓ, h3ₓ⟩ := id hₓ
  unfold m_X11_back b_X11_back_18 at e1ₓ
  unfold m_X12_back b_X12_back_21 at e2ₓ
  rw [mLet_e, r_in, mCall_s] at e2ₓ
  by_cases cₓ : 0 ≤ xₓ ∧ xₓ ≤ 3
  · obtain ⟨aₓ, rfl⟩ : ∃ aₓ : Nat, xₓ = (aₓ : Int) := ⟨xₓ.toNat, by omega⟩
    have haₓ : aₓ < 4 := by omega
    have ea : ((aₓ : Nat) : Int).toNat = aₓ := by omega
    rw [if_pos cₓ, mIf_neg (by decide), mRd_e, ea, ← h2ₓ aₓ haₓ] at e2ₓ
    rw [mIf_neg (by omega), mIf_neg (by omega), mRd_e, ea] at e1ₓ
    by_cases cm : σ 144 aₓ = 0
    · rw [mIf_neg (fun zₓ => zₓ cm)] at e1ₓ e2ₓ
      obtain ⟨-, rfl⟩ := some_el e1ₓ
      obtain ⟨-, rfl⟩ := some_el e2ₓ
      exact hₓ
    · rw [mIf_pos cm] at e1ₓ e2ₓ
      rw [mIx_e, ea, el40] at e1ₓ
      obtain ⟨r1ₓ, s1ₓ, d1ₓ, e1ₓ⟩ := mCall_el e1ₓ
      obtain ⟨g1ₓ, g2ₓ⟩ := c_state (by omega) d1ₓ
      obtain ⟨r2ₓ, s2ₓ, d2ₓ, e1ₓ⟩ := mCall_el e1ₓ
      have g3ₓ := c_forget nₓ 0 _ d2ₓ
      rw [mRd_e] at e1ₓ
      obtain ⟨-, rfl⟩ := some_el e1ₓ
      obtain ⟨k1ₓ, k2ₓ, k3ₓ⟩ := r_back0 n'ₓ 0 _ (by decide) e2ₓ
      have e0ₓ : ∀ pₓ kₓ : Nat, pₓ < 144 → σ' pₓ kₓ = s1ₓ pₓ kₓ := fun pₓ kₓ hpₓ => g3ₓ pₓ kₓ (by omega)
      obtain ⟨q1ₓ, q2ₓ, q3ₓ, q4ₓ, q5ₓ, q6ₓ, q7ₓ, q8ₓ, q9ₓ⟩ := g1ₓ
      refine ⟨SRel_mv (h3ₓ aₓ haₓ cm) ⟨fun kₓ hkₓ => (e0ₓ _ _ (by omega)).trans (q1ₓ kₓ hkₓ), fun kₓ hkₓ => (e0ₓ _ _ (by omega)).trans (q2ₓ kₓ hkₓ), fun kₓ hkₓ => ⟨(e0ₓ _ _ (by omega)).trans (q3ₓ kₓ hkₓ).1, (e0ₓ _ _ (by omega)).trans (q3ₓ kₓ hkₓ).2⟩, fun kₓ hkₓ => ⟨(e0ₓ _ _ (by omega)).trans (q4ₓ kₓ hkₓ).1, (e0ₓ _ _ (by omega)).trans (q4ₓ kₓ hkₓ).2.1, (e0ₓ _ _ (by omega)).trans (q4ₓ kₓ hkₓ).2.2⟩, fun kₓ hkₓ => (e0ₓ _ _ (by omega)).trans (q5ₓ kₓ hkₓ), fun kₓ hkₓ => ⟨(e0ₓ _ _ (by omega)).trans (q6ₓ kₓ hkₓ).1, (e0ₓ _ _ (by omega)).trans (q6ₓ kₓ hkₓ).2.1, (e0ₓ _ _ (by omega)).trans (q6ₓ kₓ hkₓ).2.2⟩, fun kₓ hkₓ => (e0ₓ _ _ (by omega)).trans (q7ₓ kₓ hkₓ), fun kₓ hkₓ => ⟨(e0ₓ _ _ (by omega)).trans (q8ₓ kₓ hkₓ).1, (e0ₓ _ _ (by omega)).trans (q8ₓ kₓ hkₓ).2⟩, fun kₓ hkₓ => ⟨(e0ₓ _ _ (by omega)).trans (q9ₓ kₓ hkₓ).1, (e0ₓ _ _ (by omega)).trans (q9ₓ kₓ hkₓ).2⟩⟩ (fun kₓ hkₓ => k3ₓ kₓ (by omega) (by omega)), fun iₓ hiₓ => ?_, fun iₓ hiₓ hmₓ => ?_⟩
      · rw [k1ₓ 22 iₓ (by decide), g3ₓ 144 iₓ (by decide), g2ₓ 144 iₓ (by omega)]; exact h2ₓ iₓ hiₓ
      · rw [g3ₓ 144 iₓ (by decide), g2ₓ 144 iₓ (by omega)] at hmₓ
        refine SRel_mv (h3ₓ iₓ hiₓ hmₓ) (StE.fr (fun pₓ kₓ p1ₓ p2ₓ => by rw [e0ₓ pₓ kₓ (by omega), g2ₓ pₓ kₓ (by omega)])) (fun kₓ hkₓ => ?_)
        show τ' 21 (296 * iₓ + kₓ) = τ 21 (296 * iₓ + kₓ)
        rw [k1ₓ 21 _ (by decide)]
  · rw [if_neg cₓ, mIf_pos rfl] at e2ₓ
    obtain ⟨-, rfl⟩ := some_el e2ₓ
    by_cases c0ₓ : xₓ < 0
    · rw [mIf_pos c0ₓ] at e1ₓ
      obtain ⟨-, rfl⟩ := some_el e1ₓ
      exact hₓ
    · rw [mIf_neg c0ₓ, mIf_pos (by omega)] at e1ₓ
      obtain ⟨-, rfl⟩ := some_el e1ₓ
      exact hₓ
end
