section
variable {F : Int → Int} {N pₓ gₓ φ L qₓ : Int} {σ σ' τ : SS} {rₓ : Int} {nₓ : Nat} {D D' : Nat → Int}
theorem mCp_e {aₓ bₓ kₓ : Nat} {K : SS → RR} : mCp σ aₓ bₓ kₓ K = K (cpS σ aₓ bₓ kₓ) := rfl
theorem cp_h {aₓ bₓ mₓ kₓ : Nat} (hₓ : kₓ < mₓ) : cpS σ aₓ bₓ mₓ bₓ kₓ = σ aₓ kₓ := if_pos ⟨rfl, hₓ⟩
theorem cp_m {aₓ bₓ mₓ qₓ kₓ : Nat} (hₓ : qₓ ≠ bₓ) : cpS σ aₓ bₓ mₓ qₓ kₓ = σ qₓ kₓ := if_neg (fun zₓ => hₓ zₓ.1)
theorem c_forget {q0ₓ : Nat} : ∀ (nₓ : Nat) (iₓ : Int) (σ : SS), j_X0_forgetAll q0ₓ nₓ 2 [iₓ] σ = some (rₓ, σ') → ∀ qₓ kₓ : Nat, qₓ ≠ 148 → σ' qₓ kₓ = σ qₓ kₓ := by
  intro nₓ
  induction nₓ with
  | zero => intro iₓ σ eₓ; exact none_el eₓ
  | succ nₓ ihₓ =>
    intro iₓ σ eₓ
    rw [e_X0_forgetAll_2] at eₓ
    unfold b_X0_forgetAll_2 at eₓ
    by_cases cₓ : 11 ≤ iₓ
    · rw [mIf_pos cₓ] at eₓ
      obtain ⟨rfl, rfl⟩ := some_el eₓ
      exact fun _ _ _ => rfl
    · rw [mIf_neg cₓ, mWr_e, mLet_e] at eₓ
      exact fun qₓ kₓ hₓ => (ihₓ _ _ eₓ qₓ kₓ hₓ).trans (upS_q hₓ)
theorem c_copy (eₓ : m_X7_copyFrom nₓ 39 29 σ = some (rₓ, σ')) : (∀ qₓ kₓ : Nat, (qₓ < 39 ∨ 47 < qₓ) → σ' qₓ kₓ = σ qₓ kₓ) ∧ (∀ kₓ : Nat, kₓ < 26 → σ' 40 kₓ = σ 30 kₓ ∧ σ' 44 kₓ = σ 34 kₓ) ∧ (∀ kₓ : Nat, kₓ < 13 → σ' 41 kₓ = σ 31 kₓ ∧ σ' 43 kₓ = σ 33 kₓ ∧ σ' 47 kₓ = σ 37 kₓ) ∧ (∀ kₓ : Nat, kₓ < 91 → σ' 42 kₓ = σ 32 kₓ) ∧ (∀ kₓ : Nat, kₓ < 8 → σ' 45 kₓ = σ 35 kₓ ∧ σ' 46 kₓ = σ 36 kₓ) ∧ ∀ kₓ : Nat, (kₓ = 8 ∨ kₓ = 9 ∨ kₓ = 10 ∨ kₓ = 11) → σ' 39 kₓ = σ 29 kₓ := by
  unfold m_X7_copyFrom at eₓ
  simp only [mCp_e, mRd_e, mWr_e, mRet_e] at eₓ
  obtain ⟨-, rfl⟩ := some_el eₓ
  refine ⟨fun qₓ kₓ hₓ => ?_, fun kₓ hₓ => ⟨?_, ?_⟩, fun kₓ hₓ => ⟨?_, ?_, ?_⟩, fun kₓ hₓ => ?_, fun kₓ hₓ => ⟨?_, ?_⟩, fun kₓ hₓ => ?_⟩
  · rw [upS_q (by omega), upS_q (by omega), upS_q (by omega), upS_q (by omega), cp_m (by omega), cp_m (by omega), cp_m (by omega), cp_m (by omega), cp_m (by omega), cp_m (by omega), cp_m (by omega), cp_m (by omega)]
  · rw [upS_q (by omega), upS_q (by omega), upS_q (by omega), upS_q (by omega), cp_m (by omega), cp_m (by omega), cp_m (by omega), cp_m (by omega), cp_m (by omega), cp_m (by omega), cp_m (by omega)]
    exact cp_h hₓ
  · rw [upS_q (by omega), upS_q (by omega), upS_q (by omega), upS_q (by omega), cp_m (by omega), cp_m (by omega), cp_m (by omega)]
    refine (cp_h hₓ).trans ?_
    rw [cp_m (by omega), cp_m (by omega), cp_m (by omega), cp_m (by omega)]
  · rw [upS_q (by omega), upS_q (by omega), upS_q (by omega), upS_q (by omega), cp_m (by omega), cp_m (by omega), cp_m (by omega), cp_m (by omega), cp_m (by omega), cp_m (by omega)]
    refine (cp_h hₓ).trans ?_
    rw [cp_m (by omega)]
  · rw [upS_q (by omega), upS_q (by omega), upS_q (by omega), upS_q (by omega), cp_m (by omega), cp_m (by omega), cp_m (by omega), cp_m (by omega)]
    refine (cp_h hₓ).trans ?_
    rw [cp_m (by omega), cp_m (by omega), cp_m (by omega)]
  · rw [upS_q (by omega), upS_q (by omega), upS_q (by omega), upS_q (by omega)]
    refine (cp_h hₓ).trans ?_
    rw [cp_m (by omega), cp_m (by omega), cp_m (by omega), cp_m (by omega), cp_m (by omega), cp_m (by omega), cp_m (by omega)]
  · rw [upS_q (by omega), upS_q (by omega), upS_q (by omega), upS_q (by omega), cp_m (by omega), cp_m (by omega), cp_m (by omega), cp_m (by omega), cp_m (by omega)]
    refine (cp_h hₓ).trans ?_
    rw [cp_m (by omega), cp_m (by omega)]
  · rw [upS_q (by omega), upS_q (by omega), upS_q (by omega), upS_q (by omega), cp_m (by omega), cp_m (by omega)]
    refine (cp_h hₓ).trans ?_
    rw [cp_m (by omega), cp_m (by omega), cp_m (by omega), cp_m (by omega), cp_m (by omega)]
  · rw [upS_q (by omega), upS_q (by omega), upS_q (by omega), upS_q (by omega), cp_m (by omega)]
    refine (cp_h hₓ).trans ?_
    rw [cp_m (by omega), cp_m (by omega), cp_m (by omega), cp_m (by omega), cp_m (by omega), cp_m (by omega)]
  · have e0ₓ : ∀ jₓ : Nat, cpS (cpS (cpS (cpS (cpS (cpS (cpS (cpS σ (29 + 1) (39 + 1) 26) (29 + 2) (39 + 2) 13) (29 + 3) (39 + 3) 91) (29 + 4) (39 + 4) 13) (29 + 5) (39 + 5) 26) (29 + 6) (39 + 6) 8) (29 + 7) (39 + 7) 8) (29 + 8) (39 + 8) 13 29 jₓ = σ 29 jₓ := fun jₓ => by
      rw [cp_m (by omega), cp_m (by omega), cp_m (by omega), cp_m (by omega), cp_m (by omega), cp_m (by omega), cp_m (by omega), cp_m (by omega)]
    rcases hₓ with rfl | rfl | rfl | rfl
    · rw [upS_k (by decide), upS_k (by decide), upS_k (by decide), upS_s, e0ₓ]
    · rw [upS_k (by decide), upS_k (by decide), upS_s, upS_q (by decide), e0ₓ]
    · rw [upS_k (by decide), upS_s, upS_q (by decide), upS_q (by decide), e0ₓ]
    · rw [upS_s, upS_q (by decide), upS_q (by decide), upS_q (by decide), e0ₓ]
/-- town(), of the class -/
theorem c_town (hcₓ : CV F N σ) (h0ₓ : 0 ≤ N) (eₓ : m_X11_town nₓ 0 σ = some (rₓ, σ')) : σ' 1 2 = 0 ∧ (∀ kₓ : Nat, σ' 0 kₓ = σ 0 kₓ) ∧ ∃ (φ : Int) (D : Nat → Int), SU F N (0, sk F N 0, 0, fun _ => 0) (9, φ, 0, D) ∧ ((φ ≠ 0 ∧ rₓ = -2 - φ ∧ ∀ qₓ kₓ : Nat, 38 ≤ qₓ → σ' qₓ kₓ = σ qₓ kₓ) ∨ (φ = 0 ∧ rₓ = D 1 ∧ OD D ∧ CT 39 D σ' ∧ (∀ jₓ : Nat, (jₓ : Int) < D 1 → σ' 47 jₓ = szN D jₓ (D 2).toNat) ∧ (∀ kₓ : Nat, (kₓ = 8 ∨ kₓ = 10 ∨ kₓ = 11 ∨ kₓ = 12) → σ' 38 kₓ = 0) ∧ ∀ qₓ kₓ : Nat, 58 < qₓ → qₓ ≠ 148 → σ' qₓ kₓ = σ qₓ kₓ)) := by
  unfold m_X11_town at eₓ
  obtain ⟨r1ₓ, s1ₓ, e1ₓ, eₓ⟩ := mCall_el eₓ
  unfold m_X7_readFrom m_X6_startReading at e1ₓ
  simp only [mWr_e, mRet_e, mCall_s] at e1ₓ
  obtain ⟨τ, hₓτ⟩ : ∃ τ, τ = upS (upS (upS (upS (upS (upS (upS σ 29 8 0) 29 9 0) 29 10 0) 29 11 0) 1 1 0) 1 3 0) 1 4 0 := ⟨_, rfl⟩
  rw [← hₓτ] at e1ₓ
  have hkₓ : ∀ qₓ kₓ : Nat, ¬ (qₓ = 29 ∧ 8 ≤ kₓ ∧ kₓ ≤ 11) → ¬ (qₓ = 1 ∧ (kₓ = 1 ∨ kₓ = 3 ∨ kₓ = 4)) → τ qₓ kₓ = σ qₓ kₓ := by
    intro qₓ kₓ a1ₓ a2ₓ
    rw [hₓτ, upS_n (by omega), upS_n (by omega), upS_n (by omega), upS_n (by omega), upS_n (by omega), upS_n (by omega), upS_n (by omega)]
  have t11ₓ : τ 1 1 = 0 := by rw [hₓτ, upS_k (by decide), upS_k (by decide)]; exact upS_s
  have t13ₓ : τ 1 3 = 0 := by rw [hₓτ, upS_k (by decide)]; exact upS_s
  have t14ₓ : τ 1 4 = 0 := by rw [hₓτ]; exact upS_s
  have t8ₓ : τ 29 8 = 0 := by rw [hₓτ, upS_q (by decide), upS_q (by decide), upS_q (by decide), upS_k (by decide), upS_k (by decide), upS_k (by decide)]; exact upS_s
  have t9ₓ : τ 29 9 = 0 := by rw [hₓτ, upS_q (by decide), upS_q (by decide), upS_q (by decide), upS_k (by decide), upS_k (by decide)]; exact upS_s
  have t10ₓ : τ 29 10 = 0 := by rw [hₓτ, upS_q (by decide), upS_q (by decide), upS_q (by decide), upS_k (by decide)]; exact upS_s
  have t12ₓ : τ 29 11 = 0 := by rw [hₓτ, upS_q (by decide), upS_q (by decide), upS_q (by decide)]; exact upS_s
  have hctₓ : CV F N τ := ⟨(hkₓ 1 2 (by omega) (by omega)).trans hcₓ.1, fun jₓ j0ₓ j1ₓ => (hkₓ 2 _ (by omega) (by omega)).trans (hcₓ.2.1 jₓ j0ₓ j1ₓ), hcₓ.2.2⟩
  have hsₓ : tp τ 0 0 0 = τ := by
    have := tp_self (σ := τ)
    rw [t11ₓ, t13ₓ, t14ₓ] at this; exact this
  rw [← hsₓ] at e1ₓ
  have hTₓ : CT 29 (fun _ => 0) τ := ⟨⟨t8ₓ, t9ₓ, t10ₓ, t12ₓ⟩, fun iₓ hiₓ => absurd hiₓ (by show ¬ (iₓ : Int) < 0; omega), fun iₓ hiₓ => absurd hiₓ (by show ¬ (iₓ : Int) < 0; omega)⟩
  have hOₓ : OD (fun _ => 0) := ⟨by decide, by decide, by decide, by decide, fun kₓ hkₓ => absurd hkₓ (by show ¬ (kₓ : Int) < 0; omega)⟩
  obtain ⟨υ, p'ₓ, g'ₓ, φ, rfl, h2ₓ, h3ₓ⟩ := c_from28 (c0ₓ := (0, sk F N 0, 0, fun _ => 0)) nₓ 1 0 τ 0 0 0 hctₓ (Or.inl ⟨rfl, rfl, by decide, h0ₓ, by decide, by decide, _, hTₓ, hOₓ, SU_rf⟩) e1ₓ
  rw [mRd_e, tp_f, mWr_e] at eₓ
  have k2ₓ : ∀ qₓ kₓ : Nat, qₓ ≠ 1 → (qₓ < 29 ∨ 38 ≤ qₓ) → upS (tp υ p'ₓ g'ₓ φ) 1 2 0 qₓ kₓ = σ qₓ kₓ := fun qₓ kₓ a1ₓ a2ₓ => by
    rw [upS_q a1ₓ, tp_o a1ₓ, h2ₓ qₓ kₓ a2ₓ, hkₓ qₓ kₓ (by omega) (by omega)]
  rcases h3ₓ with ⟨hₓφ, stₓ⟩ | ⟨rfl, D, stₓ, hT2ₓ, hO2ₓ, hZₓ⟩
  · rw [mIf_neg hₓφ, mLet_e] at eₓ
    obtain ⟨rfl, rfl⟩ := some_el eₓ
    exact ⟨upS_s, fun kₓ => k2ₓ 0 kₓ (by decide) (by omega), φ, _, stₓ, Or.inl ⟨hₓφ, rfl, fun qₓ kₓ hₓ => k2ₓ qₓ kₓ (by omega) (by omega)⟩⟩
  · rw [mIf_pos rfl] at eₓ
    obtain ⟨r2ₓ, s2ₓ, e2ₓ, eₓ⟩ := mCall_el eₓ
    unfold m_X5_moveTo at e2ₓ
    obtain ⟨r3ₓ, s3ₓ, e3ₓ, e2ₓ⟩ := mCall_el e2ₓ
    obtain ⟨c1ₓ, c2ₓ, c3ₓ, c4ₓ, c5ₓ, c6ₓ⟩ := c_copy e3ₓ
    simp only [mWr_e, mRet_e] at e2ₓ
    obtain ⟨rfl, rfl⟩ := some_el e2ₓ
    obtain ⟨r4ₓ, s4ₓ, e4ₓ, eₓ⟩ := mCall_el eₓ
    have c7ₓ := c_forget nₓ 0 _ e4ₓ
    rw [mRd_e] at eₓ
    obtain ⟨rfl, rfl⟩ := some_el eₓ
    have k3ₓ : ∀ qₓ kₓ : Nat, qₓ ≠ 38 → qₓ ≠ 148 → σ' qₓ kₓ = s3ₓ qₓ kₓ := fun qₓ kₓ a1ₓ a2ₓ => by
      rw [c7ₓ qₓ kₓ a2ₓ, upS_q a1ₓ, upS_q a1ₓ, upS_q a1ₓ, upS_q a1ₓ, upS_q a1ₓ]
    have k4ₓ : ∀ qₓ kₓ : Nat, qₓ ≠ 1 → upS (tp υ p'ₓ g'ₓ 0) 1 2 0 qₓ kₓ = υ qₓ kₓ := fun qₓ kₓ a1ₓ => by rw [upS_q a1ₓ, tp_o a1ₓ]
    obtain ⟨⟨y8ₓ, y9ₓ, y10ₓ, y11ₓ⟩, yS, yZ⟩ := hT2ₓ
    obtain ⟨o0ₓ, o1ₓ, o2ₓ, o3ₓ, o4ₓ⟩ := id hO2ₓ
    refine ⟨?_, fun kₓ => ?_, 0, D, stₓ, Or.inr ⟨rfl, ?_, hO2ₓ, ⟨⟨?_, ?_, ?_, ?_⟩, fun iₓ hiₓ => ?_, fun kₓ hkₓ => ?_⟩, fun jₓ hjₓ => ?_, fun kₓ hkₓ => ?_, fun qₓ kₓ h1ₓ h2ₓ => ?_⟩⟩
    · rw [k3ₓ 1 2 (by decide) (by decide), c1ₓ 1 2 (by omega)]; exact upS_s
    · rw [k3ₓ 0 kₓ (by decide) (by decide), c1ₓ 0 kₓ (by omega)]; exact k2ₓ 0 kₓ (by decide) (by omega)
    · rw [k3ₓ 39 9 (by decide) (by decide), c6ₓ 9 (by omega), k4ₓ 29 9 (by decide)]; exact y9ₓ
    · rw [k3ₓ 39 8 (by decide) (by decide), c6ₓ 8 (by omega), k4ₓ 29 8 (by decide)]; exact y8ₓ
    · rw [k3ₓ 39 9 (by decide) (by decide), c6ₓ 9 (by omega), k4ₓ 29 9 (by decide)]; exact y9ₓ
    · rw [k3ₓ 39 10 (by decide) (by decide), c6ₓ 10 (by omega), k4ₓ 29 10 (by decide)]; exact y10ₓ
    · rw [k3ₓ 39 11 (by decide) (by decide), c6ₓ 11 (by omega), k4ₓ 29 11 (by decide)]; exact y11ₓ
    · obtain ⟨z1ₓ, z2ₓ, z3ₓ, z4ₓ, z5ₓ, z6ₓ, z7ₓ⟩ := yS iₓ hiₓ
      have hi2ₓ : iₓ < 12 := by omega
      refine ⟨?_, ?_, ?_, fun jₓ hjₓ => ?_, ?_, ?_, ?_⟩
      · rw [k3ₓ _ _ (by omega) (by omega), (c2ₓ _ (by omega)).1, k4ₓ _ _ (by decide)]; exact z1ₓ
      · rw [k3ₓ _ _ (by omega) (by omega), (c2ₓ _ (by omega)).1, k4ₓ _ _ (by decide)]; exact z2ₓ
      · rw [k3ₓ _ _ (by omega) (by omega), (c3ₓ _ (by omega)).1, k4ₓ _ _ (by decide)]; exact z3ₓ
      · rw [k3ₓ _ _ (by omega) (by omega), c4ₓ _ (by omega), k4ₓ _ _ (by decide)]; exact z4ₓ jₓ hjₓ
      · rw [k3ₓ _ _ (by omega) (by omega), (c3ₓ _ (by omega)).2.1, k4ₓ _ _ (by decide)]; exact z5ₓ
      · rw [k3ₓ _ _ (by omega) (by omega), (c2ₓ _ (by omega)).2, k4ₓ _ _ (by decide)]; exact z6ₓ
      · rw [k3ₓ _ _ (by omega) (by omega), (c2ₓ _ (by omega)).2, k4ₓ _ _ (by decide)]; exact z7ₓ
    · rw [k3ₓ _ _ (by omega) (by omega), k3ₓ _ _ (by omega) (by omega), (c5ₓ _ (by omega)).1, (c5ₓ _ (by omega)).2, k4ₓ _ _ (by decide), k4ₓ _ _ (by decide)]
      exact yZ kₓ hkₓ
    · rw [k3ₓ _ _ (by omega) (by omega), (c3ₓ _ (by omega)).2.2, k4ₓ _ _ (by decide)]; exact hZₓ jₓ hjₓ
    · rw [c7ₓ 38 kₓ (by decide)]
      rcases hkₓ with rfl | rfl | rfl | rfl
      · rw [upS_k (by decide), upS_k (by decide), upS_k (by decide), upS_k (by decide), upS_s]
      · rw [upS_k (by decide), upS_k (by decide), upS_s]
      · rw [upS_k (by decide), upS_s]
      · rw [upS_s]
    · rw [k3ₓ qₓ kₓ (by omega) h2ₓ, c1ₓ qₓ kₓ (by omega)]; exact k2ₓ qₓ kₓ (by omega) (by omega)
end
