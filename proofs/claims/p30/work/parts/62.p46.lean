/-! the seed's number at both sides; noₓ maps without aₓ town -/
def XSd (σ τ : SS) : Prop := (σ 38 13 = τ 12 9 ∧ (τ 12 0 = 0 → τ 12 4 = 0)) ∧ ∀ iₓ : Nat, iₓ < 4 → τ 22 iₓ ≠ 0 → σ (60 + 21 * iₓ) 13 = τ 21 (296 * iₓ + 9) ∧ (τ 21 (296 * iₓ) = 0 → τ 21 (296 * iₓ + 4) = 0)
section
variable {σ σ' τ τ' : SS} {rₓ r'ₓ xₓ : Int} {nₓ n'ₓ aₓ bₓ : Nat}
theorem XR_k (hₓ : XSd σ τ) (c0ₓ : σ' 38 13 = σ 38 13) (ci : ∀ iₓ : Nat, iₓ < 4 → σ' (60 + 21 * iₓ) 13 = σ (60 + 21 * iₓ) 13) (h12ₓ : ∀ kₓ : Nat, (kₓ = 0 ∨ kₓ = 4 ∨ kₓ = 9) → τ' 12 kₓ = τ 12 kₓ) (h21ₓ : ∀ kₓ : Nat, τ' 21 kₓ = τ 21 kₓ) (h22ₓ : ∀ kₓ : Nat, τ' 22 kₓ = τ 22 kₓ) : XSd σ' τ' := by
  obtain ⟨⟨h1ₓ, h2ₓ⟩, h3ₓ⟩ := hₓ
  refine ⟨⟨by rw [c0ₓ, h12ₓ 9 (by decide)]; exact h1ₓ, by rw [h12ₓ 0 (by decide), h12ₓ 4 (by decide)]; exact h2ₓ⟩, fun iₓ hiₓ hmₓ => ?_⟩
  rw [h22ₓ] at hmₓ
  rw [ci iₓ hiₓ, h21ₓ, h21ₓ, h21ₓ]
  exact h3ₓ iₓ hiₓ hmₓ
theorem c_x0 (hdₓ : aₓ + 20 < bₓ ∨ bₓ + 20 < aₓ) : ∀ (nₓ : Nat) (kₓ : Int) (σ : SS), 0 ≤ kₓ → j_X5_copyFrom aₓ bₓ nₓ 28 [kₓ] σ = some (rₓ, σ') → σ' aₓ 13 = σ bₓ 13 := by
  intro nₓ
  induction nₓ with
  | zero => intro kₓ σ _ eₓ; exact none_el eₓ
  | succ nₓ ihₓ =>
    intro kₓ σ hkₓ eₓ
    rw [e_X5_copyFrom_28] at eₓ
    unfold b_X5_copyFrom_28 at eₓ
    by_cases cₓ : 4 ≤ kₓ
    · rw [mIf_pos cₓ] at eₓ
      simp only [mCp_e, mRd_e, mWr_e, mRet_e] at eₓ
      obtain ⟨-, rfl⟩ := some_el eₓ
      rw [upS_s, upS_q (by omega), upS_q (by omega), upS_q (by omega), upS_q (by omega), upS_q (by omega), cp_m (by omega), cp_m (by omega), cp_m (by omega), cp_m (by omega), cp_m (by omega)]
    · rw [mIf_neg cₓ, mIx_e, mIx_e] at eₓ
      obtain ⟨r1ₓ, s1ₓ, e1ₓ, eₓ⟩ := mCall_el eₓ
      have el33 : ∀ qₓ iₓ : Nat, el 33 qₓ iₓ = qₓ + 6 + iₓ := fun qₓ iₓ => if_pos rfl
      rw [el33, el33] at e1ₓ
      have h1ₓ := c_walkCopy e1ₓ
      rw [mLet_e] at eₓ
      exact (ihₓ _ _ (by omega) eₓ).trans (h1ₓ bₓ 13 (by omega))
theorem c_x13 (hdₓ : aₓ + 20 < bₓ ∨ bₓ + 20 < aₓ) (eₓ : m_X5_copyFrom nₓ aₓ bₓ σ = some (rₓ, σ')) : σ' aₓ 13 = σ bₓ 13 := by
  unfold m_X5_copyFrom m_X5_moveTo at eₓ
  obtain ⟨r1ₓ, s1ₓ, e1ₓ, eₓ⟩ := mCall_el eₓ
  obtain ⟨r2ₓ, s2ₓ, e2ₓ, e1ₓ⟩ := mCall_el e1ₓ
  obtain ⟨c1ₓ, -⟩ := c_copyG (by omega) e2ₓ
  simp only [mWr_e, mRet_e] at e1ₓ
  obtain ⟨-, rfl⟩ := some_el e1ₓ
  rw [mCp_e] at eₓ
  rw [c_x0 hdₓ nₓ 0 _ (by decide) eₓ, cp_m (by omega), upS_q (by omega), upS_q (by omega), upS_q (by omega), upS_q (by omega), upS_q (by omega), c1ₓ _ _ (by omega)]
theorem X_image (hₓ : XSd σ τ) (e1ₓ : m_X11_image nₓ 0 xₓ σ = some (rₓ, σ')) (e2ₓ : m_X12_image n'ₓ 0 xₓ τ = some (r'ₓ, τ')) : XSd σ' τ' := by
  obtain ⟨h1ₓ, h3ₓ⟩ := id hₓ
  unfold m_X11_image b_X11_image_9 at e1ₓ
  unfold m_X12_image at e2ₓ
  rw [mLet_e, r_in, mCall_s] at e2ₓ
  by_cases cₓ : 0 ≤ xₓ ∧ xₓ ≤ 3
  · obtain ⟨aₓ, rfl⟩ : ∃ aₓ : Nat, xₓ = (aₓ : Int) := ⟨xₓ.toNat, by omega⟩
    have haₓ : aₓ < 4 := by omega
    have ea : ((aₓ : Nat) : Int).toNat = aₓ := by omega
    rw [if_pos cₓ, mIf_pos (by decide), mWr_e, ea] at e2ₓ
    rw [mIf_neg (by omega), mIf_pos (by omega), mIx_e, ea, el40] at e1ₓ
    obtain ⟨r1ₓ, s1ₓ, d1ₓ, e1ₓ⟩ := mCall_el e1ₓ
    obtain ⟨-, g2ₓ⟩ := c_state (by omega) d1ₓ
    have g3ₓ := c_x13 (by omega) d1ₓ
    rw [mWr_e, mRd_e] at e1ₓ
    obtain ⟨-, rfl⟩ := some_el e1ₓ
    obtain ⟨k1ₓ, k2ₓ, k3ₓ⟩ := r_image0 n'ₓ 0 _ (by decide) e2ₓ
    have t12ₓ : ∀ kₓ : Nat, τ' 12 kₓ = τ 12 kₓ := fun kₓ => by rw [k1ₓ 12 kₓ (by omega), upS_q (by decide)]
    have t21ₓ : ∀ kₓ : Nat, kₓ < 296 → τ' 21 (296 * aₓ + kₓ) = τ 12 kₓ := fun kₓ hkₓ => by rw [k3ₓ kₓ hkₓ (by omega), upS_q (by decide)]
    refine ⟨⟨by rw [upS_q (by decide), g2ₓ 38 13 (by omega), t12ₓ]; exact h1ₓ.1, by rw [t12ₓ, t12ₓ]; exact h1ₓ.2⟩, fun iₓ hiₓ hmₓ => ?_⟩
    by_cases ci : iₓ = aₓ
    · have t0ₓ := t21ₓ 0 (by decide)
      rw [Nat.add_zero] at t0ₓ
      rw [ci, upS_q (by omega), g3ₓ, t21ₓ 9 (by decide), t0ₓ, t21ₓ 4 (by decide)]
      exact h1ₓ
    · rw [k1ₓ 22 iₓ (by omega), upS_k ci] at hmₓ
      rw [upS_q (by omega), g2ₓ _ _ (by omega), k1ₓ 21 _ (by omega), k1ₓ 21 _ (by omega), k1ₓ 21 _ (by omega), upS_q (by decide), upS_q (by decide), upS_q (by decide)]
      exact h3ₓ iₓ hiₓ hmₓ
  · rw [if_neg cₓ, mIf_neg (fun zₓ => zₓ rfl)] at e2ₓ
    have q2ₓ := (some_el e2ₓ).2
    by_cases c0ₓ : xₓ < 0
    · rw [mIf_pos c0ₓ] at e1ₓ
      have q1ₓ := (some_el e1ₓ).2
      rw [q1ₓ, q2ₓ]; exact hₓ
    · rw [mIf_neg c0ₓ, mIf_neg (by omega)] at e1ₓ
      have q1ₓ := (some_el e1ₓ).2
      rw [q1ₓ, q2ₓ]; exact hₓ
theorem X_back (h2ₓ : ∀ iₓ : Nat, iₓ < 4 → σ 144 iₓ = τ 22 iₓ) (hₓ : XSd σ τ) (e1ₓ : m_X11_back nₓ 0 xₓ σ = some (rₓ, σ')) (e2ₓ : m_X12_back n'ₓ 0 xₓ τ = some (r'ₓ, τ')) : XSd σ' τ' := by
  obtain ⟨h1ₓ, h3ₓ⟩ := id hₓ
  unfold m_X11_back b_X11_back_18 at e1ₓ
  unfold m_X12_back b_X12_back_21 at e2ₓ
  rw [mLet_e, r_in, mCall_s] at e2ₓ
  by_cases cₓ : 0 ≤ xₓ ∧ xₓ ≤ 3
  · obtain ⟨aₓ, rfl⟩ : ∃ aₓ : Nat, xₓ = (aₓ : Int) := ⟨xₓ.toNat, by omega⟩
    have haₓ : aₓ < 4 := by omega
    have ea : ((aₓ : Nat) : Int).toNat = aₓ := by omega
    rw [if_pos cₓ, mIf_neg (by decide), mRd_e, ea, ← h2ₓ aₓ haₓ] at e2ₓ
    rw [mIf_neg (by omega), mIf_neg (by omega), mRd_e, ea] at e1ₓ
    by_cases cm : σ 144 aₓ = 0
    · rw [mIf_neg (fun zₓ => zₓ cm)] at e1ₓ e2ₓ
      have q1ₓ := (some_el e1ₓ).2
      have q2ₓ := (some_el e2ₓ).2
      rw [q1ₓ, q2ₓ]; exact hₓ
    · rw [mIf_pos cm] at e1ₓ e2ₓ
      rw [mIx_e, ea, el40] at e1ₓ
      obtain ⟨r1ₓ, s1ₓ, d1ₓ, e1ₓ⟩ := mCall_el e1ₓ
      obtain ⟨-, g2ₓ⟩ := c_state (by omega) d1ₓ
      have g4ₓ := c_x13 (by omega) d1ₓ
      obtain ⟨r2ₓ, s2ₓ, d2ₓ, e1ₓ⟩ := mCall_el e1ₓ
      have g3ₓ := c_forget nₓ 0 _ d2ₓ
      rw [mRd_e] at e1ₓ
      obtain ⟨-, rfl⟩ := some_el e1ₓ
      obtain ⟨k1ₓ, k2ₓ, k3ₓ⟩ := r_back0 n'ₓ 0 _ (by decide) e2ₓ
      have t12ₓ : ∀ kₓ : Nat, kₓ < 296 → τ' 12 kₓ = τ 21 (296 * aₓ + kₓ) := fun kₓ hkₓ => k3ₓ kₓ hkₓ (by omega)
      have t0ₓ := t12ₓ 0 (by decide)
      rw [Nat.add_zero] at t0ₓ
      have hkₓ := h3ₓ aₓ haₓ (by rw [← h2ₓ aₓ haₓ]; exact cm)
      refine ⟨⟨by rw [g3ₓ 38 13 (by decide), g4ₓ, t12ₓ 9 (by decide)]; exact hkₓ.1, by rw [t0ₓ, t12ₓ 4 (by decide)]; exact hkₓ.2⟩, fun iₓ hiₓ hmₓ => ?_⟩
      rw [k1ₓ 22 iₓ (by decide)] at hmₓ
      rw [g3ₓ _ 13 (by omega), g2ₓ _ 13 (by omega), k1ₓ 21 _ (by decide), k1ₓ 21 _ (by decide), k1ₓ 21 _ (by decide)]
      exact h3ₓ iₓ hiₓ hmₓ
  · rw [if_neg cₓ, mIf_pos rfl] at e2ₓ
    have q2ₓ := (some_el e2ₓ).2
    by_cases c0ₓ : xₓ < 0
    · rw [mIf_pos c0ₓ] at e1ₓ
      have q1ₓ := (some_el e1ₓ).2
      rw [q1ₓ, q2ₓ]; exact hₓ
    · rw [mIf_neg c0ₓ, mIf_pos (by omega)] at e1ₓ
      have q1ₓ := (some_el e1ₓ).2
      rw [q1ₓ, q2ₓ]; exact hₓ
theorem X_print (hₓ : XSd σ τ) (c0ₓ : σ' 38 13 = σ 38 13) (ci : ∀ iₓ : Nat, iₓ < 4 → σ' (60 + 21 * iₓ) 13 = σ (60 + 21 * iₓ) 13) (h0ₓ : τ' 12 0 = τ 12 0) (h9ₓ : τ' 12 9 = τ 12 9) (h21ₓ : ∀ kₓ : Nat, τ' 21 kₓ = τ 21 kₓ) (h22ₓ : ∀ kₓ : Nat, τ' 22 kₓ = τ 22 kₓ) (hpₓ : 0 ≤ τ 12 0) (e2ₓ : m_X12_print n'ₓ 0 xₓ τ = some (r'ₓ, τ')) : XSd σ' τ' := by
  by_cases ct : 0 < τ 12 0
  · obtain ⟨⟨h1ₓ, h2ₓ⟩, h3ₓ⟩ := hₓ
    refine ⟨⟨by rw [c0ₓ, h9ₓ]; exact h1ₓ, fun qₓ => by omega⟩, fun iₓ hiₓ hmₓ => ?_⟩
    rw [h22ₓ] at hmₓ
    rw [ci iₓ hiₓ, h21ₓ, h21ₓ, h21ₓ]
    exact h3ₓ iₓ hiₓ hmₓ
  · unfold m_X12_print b_X12_print_29 at e2ₓ
    rw [r_isTown, mCall_s, if_neg ct, mIf_pos rfl] at e2ₓ
    have q2ₓ := (some_el e2ₓ).2
    rw [q2ₓ]
    exact XR_k hₓ c0ₓ ci (fun _ _ => rfl) (fun _ => rfl) (fun _ => rfl)
theorem X_seed (hₓ : XSd σ τ) (e1ₓ : m_X11_seed nₓ 0 xₓ σ = some (rₓ, σ')) (e2ₓ : m_X12_seed n'ₓ 0 xₓ τ = some (r'ₓ, τ')) : XSd σ' τ' := by
  unfold m_X11_seed at e1ₓ
  unfold m_X12_seed at e2ₓ
  by_cases cₓ : 0 ≤ xₓ
  · rw [mIf_pos cₓ, mRd_e, mWr_e, mRet_e] at e1ₓ e2ₓ
    have q1ₓ := (some_el e1ₓ).2
    have q2ₓ := (some_el e2ₓ).2
    have p2ₓ : τ' = upS τ 12 9 xₓ := q2ₓ
    obtain ⟨⟨h1ₓ, h2ₓ⟩, h3ₓ⟩ := hₓ
    refine ⟨⟨by rw [q1ₓ, p2ₓ, upS_s, upS_s], by rw [p2ₓ, upS_k (by decide), upS_k (by decide)]; exact h2ₓ⟩, fun iₓ hiₓ hmₓ => ?_⟩
    rw [p2ₓ, upS_q (by decide)] at hmₓ
    rw [q1ₓ, p2ₓ, upS_q (by omega), upS_q (by decide), upS_q (by decide), upS_q (by decide)]
    exact h3ₓ iₓ hiₓ hmₓ
  · rw [mIf_neg cₓ, mRet_e] at e1ₓ e2ₓ
    have q1ₓ := (some_el e1ₓ).2
    have q2ₓ := (some_el e2ₓ).2
    rw [q1ₓ, q2ₓ]; exact hₓ
theorem f_town9 (hₓ : TR σ τ) (hb1ₓ : ∀ jₓ : Nat, jₓ < 400 → -128 ≤ τ 1 jₓ ∧ τ 1 jₓ ≤ 127) (hNₓ : σ 1 2 ≤ 400) (e2ₓ : m_X12_town n'ₓ 0 τ = some (r'ₓ, τ')) : τ' 12 9 = τ 12 9 := by
  obtain ⟨htₓ, hrₓ⟩ := hₓ
  obtain ⟨t1ₓ, t2ₓ, t3ₓ⟩ := id htₓ
  have hv : MV (fun jₓ => σ 2 jₓ.toNat) (σ 1 2) τ := ⟨t1ₓ.symm, fun jₓ j0ₓ j1ₓ => ⟨t3ₓ jₓ.toNat (by omega), hb1ₓ jₓ.toNat (by omega)⟩⟩
  obtain ⟨-, -, φ, D, -, gₓ⟩ := r_town hv t2ₓ e2ₓ
  rcases gₓ with ⟨-, -, gₓ⟩ | ⟨-, -, -, -, gₓ, -⟩
  · exact gₓ 9
  · exact gₓ
theorem X_town (hₓ : XSd σ τ) (c0ₓ : σ' 38 13 = σ 38 13) (ci : ∀ iₓ : Nat, iₓ < 4 → σ' (60 + 21 * iₓ) 13 = σ (60 + 21 * iₓ) 13) (h9ₓ : τ' 12 9 = τ 12 9) (h21ₓ : ∀ kₓ : Nat, τ' 21 kₓ = τ 21 kₓ) (h22ₓ : ∀ kₓ : Nat, τ' 22 kₓ = τ 22 kₓ) (htₓ : (TWN σ' τ' ∧ ∀ qₓ kₓ : Nat, 58 < qₓ → qₓ ≠ 148 → σ' qₓ kₓ = σ qₓ kₓ) ∨ ((∀ qₓ kₓ : Nat, 38 ≤ qₓ → σ' qₓ kₓ = σ qₓ kₓ) ∧ ∀ kₓ : Nat, τ' 12 kₓ = τ 12 kₓ)) : XSd σ' τ' := by
  rcases htₓ with ⟨⟨D, hOₓ, hTₓ, hZₓ, hSₓ, h8ₓ, h12ₓ, hGₓ⟩, -⟩ | ⟨-, h12ₓ⟩
  · obtain ⟨⟨h1ₓ, h2ₓ⟩, h3ₓ⟩ := hₓ
    refine ⟨⟨by rw [c0ₓ, h9ₓ]; exact h1ₓ, fun _ => h12ₓ 4 (by decide) (by decide)⟩, fun iₓ hiₓ hmₓ => ?_⟩
    rw [h22ₓ] at hmₓ
    rw [ci iₓ hiₓ, h21ₓ, h21ₓ, h21ₓ]
    exact h3ₓ iₓ hiₓ hmₓ
  · exact XR_k hₓ c0ₓ ci (fun kₓ _ => h12ₓ kₓ) h21ₓ h22ₓ
end
