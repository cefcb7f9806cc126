/-! what aₓ walker sees: open streets, the street by aₓ chart, the street aside, at both sides -/
def LBc (J : Nat → List Int → SS → RR) (nₓ : Nat) (v2ₓ cₓ : Int) (σ : SS) : RR := mRd σ 152 0 fun x2ₓ => mRd σ 152 1 fun x3ₓ => mCall (m_X0_streetBy nₓ 145 cₓ x2ₓ x3ₓ σ) fun x4ₓ s5ₓ => mWr s5ₓ 149 5 x4ₓ fun s6ₓ => mRd s6ₓ 149 5 fun x7ₓ => mIf (x7ₓ = (-1)) (mWr s6ₓ 149 6 0 fun s8ₓ => mRd s8ₓ 152 0 fun x9ₓ => mRd s8ₓ 152 1 fun x10ₓ => mCall (m_X0_hoursBy nₓ 145 cₓ x9ₓ x10ₓ s8ₓ) fun x11ₓ s12ₓ => mLet (mMax 0 x11ₓ) fun x13ₓ => mWr s12ₓ 149 8 x13ₓ fun s14ₓ => mWr s14ₓ 149 7 (-1) fun s15ₓ => J 110 [v2ₓ, 0] s15ₓ) (mRd s6ₓ 149 5 fun x16ₓ => mCall (m_X1_isOpenFor nₓ 149 152 x16ₓ s6ₓ) fun x17ₓ s18ₓ => mIf (x17ₓ = 0) (mWr s18ₓ 149 6 0 fun s19ₓ => mRd s19ₓ 152 0 fun x20ₓ => mRd s19ₓ 152 1 fun x21ₓ => mCall (m_X0_hoursBy nₓ 145 cₓ x20ₓ x21ₓ s19ₓ) fun x22ₓ s23ₓ => mLet (mMax 0 x22ₓ) fun x24ₓ => mWr s23ₓ 149 8 x24ₓ fun s25ₓ => mWr s25ₓ 149 7 (-1) fun s26ₓ => J 110 [v2ₓ, 0] s26ₓ) (mWr s18ₓ 149 6 1 fun s27ₓ => mRd s27ₓ 152 0 fun x28ₓ => mRd s27ₓ 152 1 fun x29ₓ => mCall (m_X0_hoursBy nₓ 145 cₓ x28ₓ x29ₓ s27ₓ) fun x30ₓ s31ₓ => mLet (mMax 0 x30ₓ) fun x32ₓ => mWr s31ₓ 149 8 x32ₓ fun s33ₓ => mWr s33ₓ 149 7 (-1) fun s34ₓ => J 110 [v2ₓ, 0] s34ₓ))
/-- aₓ street at aₓ corner, open from it at an hourₓ -/
def OPA (D : Nat → Int) (sₓ aₓ tₓ : Nat) : Prop := (D (10 + 10 * sₓ) = (aₓ : Int) ∨ D (11 + 10 * sₓ) = (aₓ : Int)) ∧ opD D sₓ (sdC D sₓ (aₓ : Int)) tₓ
def GOA (D : Nat → Int) (A : Int) (aₓ tₓ : Nat) : Prop := ∃ sₓ : Nat, A = (sₓ : Int) ∧ OPA D sₓ aₓ tₓ
section
variable {D E : Nat → Int} {σ σ' σ0 τ τ' τ0 : SS} {rₓ xₓ yₓ vₓ cₓ : Int} {nₓ sₓ aₓ gₓ tₓ N K dₓ : Nat}
theorem opD_c (hₓ : ∀ kₓ : Nat, kₓ < 216 → E kₓ = D kₓ) (h2ₓ : D 2 ≤ 8) (h3ₓ : D 3 ≤ 4) (hsₓ : sₓ < 12) {side : Nat} : opD E sₓ side tₓ ↔ opD D sₓ side tₓ := by
  have e1ₓ : sgP E sₓ side (tₓ / 24) = sgP D sₓ side (tₓ / 24) := by unfold sgP; rw [hₓ _ (by omega)]
  have e2ₓ : clD E sₓ (tₓ / 24) ↔ clD D sₓ (tₓ / 24) := by
    have keyₓ : ∀ kₓ : Nat, (kₓ : Int) < D 2 → (clP E sₓ (tₓ / 24) kₓ ↔ clP D sₓ (tₓ / 24) kₓ) := by
      intro kₓ hkₓ
      unfold clP
      rw [hₓ (140 + 2 * kₓ) (by omega), hₓ (10 + 10 * sₓ) (by omega), hₓ (11 + 10 * sₓ) (by omega), hₓ (141 + 2 * kₓ) (by omega)]
    unfold clD
    rw [hₓ 2 (by omega)]
    constructor
    · rintro ⟨kₓ, hkₓ, h5ₓ⟩; exact ⟨kₓ, hkₓ, (keyₓ kₓ hkₓ).mp h5ₓ⟩
    · rintro ⟨kₓ, hkₓ, h5ₓ⟩; exact ⟨kₓ, hkₓ, (keyₓ kₓ hkₓ).mpr h5ₓ⟩
  have e3ₓ : liD E sₓ (tₓ % 24) ↔ liD D sₓ (tₓ % 24) := by
    have keyₓ : ∀ kₓ : Nat, (kₓ : Int) < D 3 → (lfP E sₓ (tₓ % 24) kₓ ↔ lfP D sₓ (tₓ % 24) kₓ) := by
      intro kₓ hkₓ
      unfold lfP
      rw [hₓ (156 + 3 * kₓ) (by omega), hₓ (157 + 3 * kₓ) (by omega), hₓ (158 + 3 * kₓ) (by omega)]
    unfold liD
    rw [hₓ 3 (by omega)]
    constructor
    · rintro ⟨kₓ, hkₓ, h5ₓ⟩; exact ⟨kₓ, hkₓ, (keyₓ kₓ hkₓ).mp h5ₓ⟩
    · rintro ⟨kₓ, hkₓ, h5ₓ⟩; exact ⟨kₓ, hkₓ, (keyₓ kₓ hkₓ).mpr h5ₓ⟩
  unfold opD
  rw [e1ₓ, e2ₓ, e3ₓ]
theorem OPA_c (hₓ : ∀ kₓ : Nat, kₓ < 216 → E kₓ = D kₓ) (h2ₓ : D 2 ≤ 8) (h3ₓ : D 3 ≤ 4) (hsₓ : sₓ < 12) : OPA E sₓ aₓ tₓ ↔ OPA D sₓ aₓ tₓ := by
  have e1ₓ : sdC E sₓ (aₓ : Int) = sdC D sₓ (aₓ : Int) := by unfold sdC; rw [hₓ _ (by omega)]
  unfold OPA
  rw [e1ₓ, hₓ _ (by omega), hₓ (11 + 10 * sₓ) (by omega), opD_c hₓ h2ₓ h3ₓ hsₓ]
theorem c_isOpenD {side : Nat} (hₓ : COs D σ sₓ) (hsₓ : side < 2) (eₓ : m_X7_isOpen nₓ 39 (sₓ : Int) (side : Int) (tₓ : Int) 1 σ = some (rₓ, σ')) : σ' = σ ∧ ((rₓ = 1 ∧ opD D sₓ side tₓ) ∨ (rₓ = 0 ∧ ¬ opD D sₓ side tₓ)) := by
  unfold m_X7_isOpen at eₓ
  rw [mLet_e, show ((tₓ : Int)) / 24 = ((tₓ / 24 : Nat) : Int) by omega] at eₓ
  obtain ⟨r1ₓ, s1ₓ, e1ₓ, eₓ⟩ := mCall_el eₓ
  obtain ⟨e2ₓ, h1ₓ⟩ := c_openHours hₓ hsₓ e1ₓ
  rw [e2ₓ] at eₓ
  have h2ₓ := h1ₓ (tₓ % 24) (by omega)
  rw [show 24 * (tₓ / 24) + tₓ % 24 = tₓ by omega] at h2ₓ
  rw [mLet_e, mLet_e, mLet_e, mLet_e, show ((tₓ : Int)) % 24 = ((tₓ % 24 : Nat) : Int) by omega, bitQ (show tₓ % 24 < 32 by omega)] at eₓ
  by_cases c1ₓ : tb r1ₓ (tₓ % 24) = true
  · rw [if_pos c1ₓ, mIf_neg (by decide), mRet_e] at eₓ
    obtain ⟨rfl, rfl⟩ := some_el eₓ
    exact ⟨rfl, Or.inl ⟨rfl, h2ₓ.mp c1ₓ⟩⟩
  · rw [if_neg c1ₓ, mIf_pos rfl, mRet_e] at eₓ
    obtain ⟨rfl, rfl⟩ := some_el eₓ
    exact ⟨rfl, Or.inr ⟨rfl, fun qₓ => c1ₓ (h2ₓ.mpr qₓ)⟩⟩
theorem c_isOpenFor (hCₓ : COs D σ sₓ) (haₓ : σ 152 0 = (aₓ : Int)) (htₓ : σ 1152 4 = (tₓ : Int)) (h9ₓ : σ 149 9 = 0) (eₓ : m_X1_isOpenFor nₓ 149 152 (sₓ : Int) σ = some (rₓ, σ')) : σ' = σ ∧ ((rₓ = 1 ∧ OPA D sₓ aₓ tₓ) ∨ (rₓ = 0 ∧ ¬ OPA D sₓ aₓ tₓ)) := by
  unfold m_X1_isOpenFor b_X1_isOpenFor_56 at eₓ
  have h0ₓ : σ (39 + 1) (2 * sₓ) = D (10 + 10 * sₓ) := hCₓ.1.1
  have h1ₓ : σ (39 + 1) (2 * sₓ + 1) = D (11 + 10 * sₓ) := hCₓ.1.2.1
  have finₓ : ∀ sd : Nat, sd < 2 → (D (10 + 10 * sₓ) = (aₓ : Int) ∨ D (11 + 10 * sₓ) = (aₓ : Int)) → sdC D sₓ (aₓ : Int) = sd → (mCall (m_X7_isOpen nₓ 39 (sₓ : Int) (sd : Int) (tₓ : Int) 1 σ) fun x8ₓ s9ₓ => mIf (x8ₓ = 0) (mRet 0 s9ₓ) (mRet 1 s9ₓ)) = some (rₓ, σ') → σ' = σ ∧ ((rₓ = 1 ∧ OPA D sₓ aₓ tₓ) ∨ (rₓ = 0 ∧ ¬ OPA D sₓ aₓ tₓ)) := by
    intro sd hsdₓ hatₓ hscₓ eₓ
    obtain ⟨r1ₓ, s1ₓ, e1ₓ, eₓ⟩ := mCall_el eₓ
    obtain ⟨rfl, h2ₓ⟩ := c_isOpenD hCₓ hsdₓ e1ₓ
    rcases h2ₓ with ⟨rfl, h2ₓ⟩ | ⟨rfl, h2ₓ⟩
    · rw [mIf_neg (by decide), mRet_e] at eₓ
      obtain ⟨rfl, rfl⟩ := some_el eₓ
      exact ⟨rfl, Or.inl ⟨rfl, hatₓ, by rw [hscₓ]; exact h2ₓ⟩⟩
    · rw [mIf_pos rfl, mRet_e] at eₓ
      obtain ⟨rfl, rfl⟩ := some_el eₓ
      exact ⟨rfl, Or.inr ⟨rfl, fun qₓ => h2ₓ (by have := qₓ.2; rw [hscₓ] at this; exact this)⟩⟩
  rw [mRd_e, haₓ, c_sdOf, mCall_s, h0ₓ, h1ₓ] at eₓ
  by_cases c0ₓ : D (10 + 10 * sₓ) = (aₓ : Int)
  · rw [if_pos c0ₓ, mIf_neg (by decide), mRd_e, htₓ, mRd_e, h9ₓ, mIf_neg (fun qₓ => qₓ rfl)] at eₓ
    exact finₓ 0 (by decide) (Or.inl c0ₓ) (if_pos c0ₓ) eₓ
  · rw [if_neg c0ₓ] at eₓ
    by_cases c1ₓ : D (11 + 10 * sₓ) = (aₓ : Int)
    · rw [if_pos c1ₓ, mIf_neg (by decide), mRd_e, htₓ, mRd_e, h9ₓ, mIf_neg (fun qₓ => qₓ rfl)] at eₓ
      exact finₓ 1 (by decide) (Or.inr c1ₓ) (if_neg c0ₓ) eₓ
    · rw [if_neg c1ₓ, mIf_pos rfl, mRet_e] at eₓ
      obtain ⟨rfl, rfl⟩ := some_el eₓ
      exact ⟨rfl, Or.inr ⟨rfl, fun qₓ => by rcases qₓ.1 with qₓ | qₓ; exact c0ₓ qₓ; exact c1ₓ qₓ⟩⟩
theorem r_isOpenD (hsₓ : ¬ τ 0 27 = 0) (eₓ : m_X12_isOpen nₓ 0 (sₓ : Int) (aₓ : Int) (tₓ : Int) τ = some (rₓ, τ')) : τ' = τ ∧ ((rₓ = 1 ∧ OPA (τ 12) sₓ aₓ tₓ) ∨ (rₓ = 0 ∧ ¬ OPA (τ 12) sₓ aₓ tₓ)) := by
  unfold m_X12_isOpen b_X12_isOpen_35 at eₓ
  rw [r_isAt, mCall_s] at eₓ
  by_cases hatₓ : τ 12 (10 + 10 * sₓ) = (aₓ : Int) ∨ τ 12 (11 + 10 * sₓ) = (aₓ : Int)
  · rw [if_pos hatₓ, mIf_neg (by decide), mLet_e, show ((tₓ : Int)) / 24 = ((tₓ / 24 : Nat) : Int) by omega] at eₓ
    obtain ⟨r1ₓ, s1ₓ, e1ₓ, eₓ⟩ := mCall_el eₓ
    obtain ⟨rfl, h1ₓ⟩ := r_isDayFor hsₓ e1ₓ
    rcases h1ₓ with ⟨rfl, h1ₓ, h2ₓ⟩ | ⟨rfl, h1ₓ⟩
    · rw [mIf_neg (by decide)] at eₓ
      obtain ⟨r2ₓ, s2ₓ, e2ₓ, eₓ⟩ := mCall_el eₓ
      obtain ⟨rfl, h3ₓ⟩ := r_isLifted e2ₓ
      rcases h3ₓ with ⟨rfl, h3ₓ⟩ | ⟨rfl, h3ₓ⟩
      · rw [mIf_pos (by decide), mRet_e] at eₓ
        obtain ⟨rfl, rfl⟩ := some_el eₓ
        exact ⟨rfl, Or.inr ⟨rfl, fun qₓ => qₓ.2.2.2 h3ₓ⟩⟩
      · rw [mIf_neg (fun qₓ => qₓ rfl), mRet_e] at eₓ
        obtain ⟨rfl, rfl⟩ := some_el eₓ
        exact ⟨rfl, Or.inl ⟨rfl, hatₓ, h1ₓ, h2ₓ, h3ₓ⟩⟩
    · rw [mIf_pos rfl, mRet_e] at eₓ
      obtain ⟨rfl, rfl⟩ := some_el eₓ
      exact ⟨rfl, Or.inr ⟨rfl, fun qₓ => h1ₓ ⟨qₓ.2.1, qₓ.2.2.1⟩⟩⟩
  · rw [if_neg hatₓ, mIf_pos rfl, mRet_e] at eₓ
    obtain ⟨rfl, rfl⟩ := some_el eₓ
    exact ⟨rfl, Or.inr ⟨rfl, fun qₓ => hatₓ qₓ.1⟩⟩
/-! the street aside -/
theorem c_aside0 (hCOₓ : ∀ sₓ : Nat, sₓ < N → COs D σ0 sₓ) (h9ₓ : σ0 39 9 = (N : Int)) (haₓ : σ0 152 0 = (aₓ : Int)) (htₓ : σ0 1152 4 = (tₓ : Int)) (hcₓ : σ0 149 9 = 0) : ∀ (nₓ sₓ : Nat) (σ : SS), (∀ qₓ kₓ : Nat, ¬ (qₓ = 149 ∧ kₓ = 7) → σ qₓ kₓ = σ0 qₓ kₓ) → sₓ ≤ N → (∀ uₓ : Nat, uₓ < sₓ → ¬ OPA D uₓ aₓ tₓ) → σ 149 7 = -1 → j_X1_lookAround 149 152 nₓ 110 [1, (sₓ : Int)] σ = some (rₓ, σ') → (∀ qₓ kₓ : Nat, ¬ (qₓ = 149 ∧ kₓ = 7) → σ' qₓ kₓ = σ0 qₓ kₓ) ∧ LSS (fun uₓ => OPA D uₓ aₓ tₓ) N (σ' 149 7) := by
  intro nₓ
  induction nₓ with
  | zero => intro sₓ σ hFₓ hsₓ hNₓ h7ₓ eₓ; exact none_el eₓ
  | succ nₓ ihₓ =>
    intro sₓ σ hFₓ hsₓ hNₓ h7ₓ eₓ
    rw [e_X1_lookAround_110] at eₓ
    unfold b_X1_lookAround_110 b_X1_lookAround_159 b_X1_lookAround_153 at eₓ
    rw [mIf_neg (by decide), mRd_e, h7ₓ, mIf_neg (fun qₓ => qₓ rfl), mRd_e, show σ 39 9 = (N : Int) from (hFₓ _ _ (by decide)).trans h9ₓ] at eₓ
    by_cases c1ₓ : (N : Int) ≤ (sₓ : Int)
    · rw [mIf_pos c1ₓ, mRet_e] at eₓ
      obtain ⟨-, rfl⟩ := some_el eₓ
      exact ⟨hFₓ, Or.inl ⟨h7ₓ, fun uₓ huₓ => hNₓ uₓ (by omega)⟩⟩
    · rw [mIf_neg c1ₓ] at eₓ
      obtain ⟨r1ₓ, s1ₓ, e1ₓ, eₓ⟩ := mCall_el eₓ
      obtain ⟨rfl, h1ₓ⟩ := c_isOpenFor (COs_keep (hCOₓ sₓ (by omega)) (fun qₓ kₓ hqₓ => hFₓ qₓ kₓ (by omega))) ((hFₓ _ _ (by decide)).trans haₓ) ((hFₓ _ _ (by decide)).trans htₓ) ((hFₓ _ _ (by decide)).trans hcₓ) e1ₓ
      rcases h1ₓ with ⟨rfl, h1ₓ⟩ | ⟨rfl, h1ₓ⟩
      · rw [mIf_neg (by decide), mWr_e, mLet_e] at eₓ
        cases nₓ with
        | zero => exact none_el eₓ
        | succ nₓ =>
          rw [e_X1_lookAround_110] at eₓ
          unfold b_X1_lookAround_110 b_X1_lookAround_159 at eₓ
          rw [mIf_neg (by decide), mRd_e, upS_s, mIf_pos (show ¬ (sₓ : Int) = -1 by omega), mRet_e] at eₓ
          obtain ⟨-, rfl⟩ := some_el eₓ
          refine ⟨fun qₓ kₓ hqₓ => (upS_n hqₓ).trans (hFₓ qₓ kₓ hqₓ), Or.inr ⟨sₓ, upS_s, by omega, h1ₓ, hNₓ⟩⟩
      · rw [mIf_pos rfl, mLet_e, show (sₓ : Int) + 1 = ((sₓ + 1 : Nat) : Int) by omega] at eₓ
        exact ihₓ (sₓ + 1) _ hFₓ (by omega) (fun uₓ huₓ => by
          by_cases eu : uₓ = sₓ
          · subst eu; exact h1ₓ
          · exact hNₓ uₓ (by omega)) h7ₓ eₓ
theorem c_aside1 (eₓ : j_X1_lookAround 149 152 nₓ 110 [0, vₓ] σ = some (rₓ, σ')) : σ' = σ := by
  cases nₓ with
  | zero => exact none_el eₓ
  | succ nₓ =>
    rw [e_X1_lookAround_110] at eₓ
    unfold b_X1_lookAround_110 b_X1_lookAround_159 at eₓ
    rw [mIf_pos rfl, mRet_e] at eₓ
    exact (some_el eₓ).2
theorem r_wo0 : m_X12_walkerOf nₓ 0 0 0 τ = some (τ 12 216, τ) := rfl
theorem r_wo1 : m_X12_walkerOf nₓ 0 0 1 τ = some (τ 12 217, τ) := rfl
theorem r_wo2 : m_X12_walkerOf nₓ 0 0 2 τ = some (τ 12 218, τ) := rfl
theorem r_wo3 : m_X12_walkerOf nₓ 0 0 3 τ = some (τ 12 219, τ) := rfl
theorem r_wo4 : m_X12_walkerOf nₓ 0 0 4 τ = some (τ 12 220, τ) := rfl
theorem r_wo5 : m_X12_walkerOf nₓ 0 0 5 τ = some (τ 12 221, τ) := rfl
theorem r_wo6 : m_X12_walkerOf nₓ 0 0 6 τ = some (τ 12 222, τ) := rfl
theorem r_wo7 : m_X12_walkerOf nₓ 0 0 7 τ = some (τ 12 223, τ) := rfl
theorem r_wo8 : m_X12_walkerOf nₓ 0 0 8 τ = some (τ 12 224, τ) := rfl
theorem r_aside0 (hsₓ : ¬ τ 0 27 = 0) (h1ₓ : τ 12 1 = (N : Int)) (haₓ : τ 12 216 = (aₓ : Int)) (htₓ : τ 12 220 = (tₓ : Int)) : ∀ (nₓ sₓ : Nat), sₓ ≤ N → (∀ uₓ : Nat, uₓ < sₓ → ¬ OPA (τ 12) uₓ aₓ tₓ) → j_X12_asideOf 0 nₓ 2 [0, (sₓ : Int)] τ = some (rₓ, τ') → τ' = τ ∧ LSS (fun uₓ => OPA (τ 12) uₓ aₓ tₓ) N rₓ := by
  intro nₓ
  induction nₓ with
  | zero => intro sₓ hsₓ hNₓ eₓ; exact none_el eₓ
  | succ nₓ ihₓ =>
    intro sₓ hsNₓ hNₓ eₓ
    rw [e_X12_asideOf_2] at eₓ
    unfold b_X12_asideOf_2 at eₓ
    rw [mRd_e, show τ 12 (1 : Int).toNat = (N : Int) from h1ₓ] at eₓ
    by_cases c1ₓ : (N : Int) ≤ (sₓ : Int)
    · rw [mIf_pos c1ₓ, mRet_e] at eₓ
      obtain ⟨rfl, rfl⟩ := some_el eₓ
      exact ⟨rfl, Or.inl ⟨rfl, fun uₓ huₓ => hNₓ uₓ (by omega)⟩⟩
    · rw [mIf_neg c1ₓ, r_wo0, mCall_s, r_wo4, mCall_s, haₓ, htₓ] at eₓ
      obtain ⟨r1ₓ, s1ₓ, e1ₓ, eₓ⟩ := mCall_el eₓ
      obtain ⟨rfl, h2ₓ⟩ := r_isOpenD hsₓ e1ₓ
      rcases h2ₓ with ⟨rfl, h2ₓ⟩ | ⟨rfl, h2ₓ⟩
      · rw [mIf_neg (by decide), mRet_e] at eₓ
        obtain ⟨rfl, rfl⟩ := some_el eₓ
        exact ⟨rfl, Or.inr ⟨sₓ, rfl, by omega, h2ₓ, hNₓ⟩⟩
      · rw [mIf_pos rfl, mLet_e, show (sₓ : Int) + 1 = ((sₓ + 1 : Nat) : Int) by omega] at eₓ
        exact ihₓ (sₓ + 1) (by omega) (fun uₓ huₓ => by
          by_cases eu : uₓ = sₓ
          · subst eu; exact h2ₓ
          · exact hNₓ uₓ (by omega)) eₓ
theorem r_asideOf (hsₓ : ¬ τ 0 27 = 0) (h1ₓ : τ 12 1 = (N : Int)) (haₓ : τ 12 216 = (aₓ : Int)) (htₓ : τ 12 220 = (tₓ : Int)) (eₓ : m_X12_asideOf nₓ 0 0 τ = some (rₓ, τ')) : τ' = τ ∧ LSS (fun uₓ => OPA (τ 12) uₓ aₓ tₓ) N rₓ := r_aside0 hsₓ h1ₓ haₓ htₓ nₓ 0 (Nat.zero_le _) (fun uₓ huₓ => absurd huₓ (Nat.not_lt_zero _)) eₓ
theorem r_canGo (hsₓ : ¬ τ 0 27 = 0) (haₓ : τ 12 216 = (aₓ : Int)) (htₓ : τ 12 220 = (tₓ : Int)) (hAₓ : -1 ≤ τ 0 31) (eₓ : m_X12_canGo nₓ 0 0 τ = some (rₓ, τ')) : τ' = τ ∧ ((rₓ = 1 ∧ GOA (τ 12) (τ 0 31) aₓ tₓ) ∨ (rₓ = 0 ∧ ¬ GOA (τ 12) (τ 0 31) aₓ tₓ)) := by
  unfold m_X12_canGo b_X12_canGo_34 at eₓ
  rw [mRd_e] at eₓ
  by_cases c1ₓ : τ 0 31 < 0
  · rw [mIf_pos c1ₓ, mRet_e] at eₓ
    obtain ⟨rfl, rfl⟩ := some_el eₓ
    exact ⟨rfl, Or.inr ⟨rfl, fun ⟨sₓ, qₓ, _⟩ => by omega⟩⟩
  · obtain ⟨sₓ, h31ₓ⟩ : ∃ sₓ : Nat, τ 0 31 = (sₓ : Int) := ⟨(τ 0 31).toNat, by omega⟩
    rw [mIf_neg c1ₓ, mRd_e, h31ₓ, r_wo0, mCall_s, r_wo4, mCall_s, haₓ, htₓ] at eₓ
    obtain ⟨r1ₓ, s1ₓ, e1ₓ, eₓ⟩ := mCall_el eₓ
    obtain ⟨rfl, h2ₓ⟩ := r_isOpenD hsₓ e1ₓ
    rcases h2ₓ with ⟨rfl, h2ₓ⟩ | ⟨rfl, h2ₓ⟩
    · rw [mIf_neg (by decide), mRet_e] at eₓ
      obtain ⟨rfl, rfl⟩ := some_el eₓ
      exact ⟨rfl, Or.inl ⟨rfl, sₓ, h31ₓ, h2ₓ⟩⟩
    · rw [mIf_pos rfl, mRet_e] at eₓ
      obtain ⟨rfl, rfl⟩ := some_el eₓ
      exact ⟨rfl, Or.inr ⟨rfl, fun ⟨s'ₓ, q1ₓ, q2ₓ⟩ => h2ₓ (by rw [show s'ₓ = sₓ by omega] at q2ₓ; exact q2ₓ)⟩⟩
/-! looking around, of the class -/
def FCl (σ σ' : SS) : Prop := ∀ qₓ kₓ : Nat, ¬ (qₓ = 149 ∧ (kₓ = 5 ∨ kₓ = 6 ∨ kₓ = 7 ∨ kₓ = 8)) → σ' qₓ kₓ = σ qₓ kₓ
theorem c_lookB (hCOₓ : ∀ sₓ : Nat, sₓ < N → COs D σ sₓ) (h9ₓ : σ 39 9 = (N : Int)) (haₓ : σ 152 0 = (aₓ : Int)) (hgₓ : σ 152 1 = (gₓ : Int)) (htₓ : σ 1152 4 = (tₓ : Int)) (hcₓ : σ 149 9 = 0) (hAₓ : ∀ sₓ : Nat, σ 147 (100 * dₓ + 10 * aₓ + gₓ) = (sₓ : Int) → sₓ < N) (hA1ₓ : -1 ≤ σ 147 (100 * dₓ + 10 * aₓ + gₓ)) (hMₓ : 0 ≤ MX σ dₓ aₓ gₓ) (hv : vₓ = 0 ∨ vₓ = 1) (eₓ : LBc (j_X1_lookAround 149 152 nₓ) nₓ vₓ (dₓ : Int) σ = some (rₓ, σ')) : FCl σ σ' ∧ σ' 149 5 = σ 147 (100 * dₓ + 10 * aₓ + gₓ) ∧ ((σ' 149 6 = 1 ∧ GOA D (σ 147 (100 * dₓ + 10 * aₓ + gₓ)) aₓ tₓ) ∨ (σ' 149 6 = 0 ∧ ¬ GOA D (σ 147 (100 * dₓ + 10 * aₓ + gₓ)) aₓ tₓ)) ∧ σ' 149 8 = (if MX σ dₓ aₓ gₓ < 1000000 then MX σ dₓ aₓ gₓ else 0) ∧ (vₓ = 1 → LSS (fun uₓ => OPA D uₓ aₓ tₓ) N (σ' 149 7)) ∧ (vₓ = 0 → σ' 149 7 = -1) := by
  have kt : (((100 * dₓ + 10 * aₓ + gₓ : Nat) : Int)).toNat = 100 * dₓ + 10 * aₓ + gₓ := by omega
  unfold LBc m_X0_streetBy m_X0_hoursBy at eₓ
  rw [mRd_e, haₓ, mRd_e, hgₓ, c_spot, mCall_s, mRd_e, kt, mRet_e, mCall_s, mWr_e, mRd_e, upS_s] at eₓ
  -- behindₓ the look ahead: hoursₓ, aside
  have finₓ : ∀ (zₓ : Int) (σ1 : SS), (∀ qₓ kₓ : Nat, ¬ (qₓ = 149 ∧ (kₓ = 5 ∨ kₓ = 6)) → σ1 qₓ kₓ = σ qₓ kₓ) → σ1 149 5 = σ 147 (100 * dₓ + 10 * aₓ + gₓ) → σ1 149 6 = zₓ → (mRd σ1 152 0 fun x9ₓ => mRd σ1 152 1 fun x10ₓ => mCall (mCall (m_X0_spot nₓ (dₓ : Int) x9ₓ x10ₓ σ1) fun x1ₓ s2ₓ => mRd s2ₓ 146 (x1ₓ : Int).toNat fun x3ₓ => mIf (x3ₓ < 1000000) (mRet x3ₓ s2ₓ) (mRet (-1) s2ₓ)) fun x11ₓ s12ₓ => mLet (mMax 0 x11ₓ) fun x13ₓ => mWr s12ₓ 149 8 x13ₓ fun s14ₓ => mWr s14ₓ 149 7 (-1) fun s15ₓ => j_X1_lookAround 149 152 nₓ 110 [vₓ, 0] s15ₓ) = some (rₓ, σ') → FCl σ σ' ∧ σ' 149 5 = σ 147 (100 * dₓ + 10 * aₓ + gₓ) ∧ σ' 149 6 = zₓ ∧ σ' 149 8 = (if MX σ dₓ aₓ gₓ < 1000000 then MX σ dₓ aₓ gₓ else 0) ∧ (vₓ = 1 → LSS (fun uₓ => OPA D uₓ aₓ tₓ) N (σ' 149 7)) ∧ (vₓ = 0 → σ' 149 7 = -1) := by
    intro zₓ σ1 hFₓ h5ₓ h6ₓ eₓ
    have a0ₓ : σ1 152 0 = (aₓ : Int) := (hFₓ _ _ (by decide)).trans haₓ
    have g0ₓ : σ1 152 1 = (gₓ : Int) := (hFₓ _ _ (by decide)).trans hgₓ
    have m0ₓ : σ1 146 (100 * dₓ + 10 * aₓ + gₓ) = MX σ dₓ aₓ gₓ := hFₓ _ _ (by omega)
    rw [mRd_e, a0ₓ, mRd_e, g0ₓ, c_spot, mCall_s, mRd_e, kt, m0ₓ] at eₓ
    obtain ⟨wₓ, hwₓ, eₓ⟩ : ∃ wₓ : Int, wₓ = (if MX σ dₓ aₓ gₓ < 1000000 then MX σ dₓ aₓ gₓ else 0) ∧ (mWr σ1 149 8 wₓ fun s14ₓ => mWr s14ₓ 149 7 (-1) fun s15ₓ => j_X1_lookAround 149 152 nₓ 110 [vₓ, 0] s15ₓ) = some (rₓ, σ') := by
      by_cases c1ₓ : MX σ dₓ aₓ gₓ < 1000000
      · rw [mIf_pos c1ₓ, mRet_e, mCall_s, mLet_e] at eₓ
        exact ⟨_, by rw [if_pos c1ₓ]; unfold mMax; by_cases c2ₓ : MX σ dₓ aₓ gₓ ≤ 0; rw [if_pos c2ₓ]; omega; rw [if_neg c2ₓ], eₓ⟩
      · rw [mIf_neg c1ₓ, mRet_e, mCall_s, mLet_e] at eₓ
        exact ⟨_, by rw [if_neg c1ₓ]; decide, eₓ⟩
    rw [mWr_e, mWr_e] at eₓ
    have hF2ₓ : ∀ qₓ kₓ : Nat, ¬ (qₓ = 149 ∧ (kₓ = 5 ∨ kₓ = 6 ∨ kₓ = 7 ∨ kₓ = 8)) → upS (upS σ1 149 8 wₓ) 149 7 (-1) qₓ kₓ = σ qₓ kₓ := fun qₓ kₓ hqₓ => by rw [upS_n (by omega), upS_n (by omega)]; exact hFₓ qₓ kₓ (by omega)
    have k5ₓ : upS (upS σ1 149 8 wₓ) 149 7 (-1) 149 5 = σ 147 (100 * dₓ + 10 * aₓ + gₓ) := by rw [upS_k (by decide), upS_k (by decide)]; exact h5ₓ
    have k6ₓ : upS (upS σ1 149 8 wₓ) 149 7 (-1) 149 6 = zₓ := by rw [upS_k (by decide), upS_k (by decide)]; exact h6ₓ
    have k8ₓ : upS (upS σ1 149 8 wₓ) 149 7 (-1) 149 8 = wₓ := by rw [upS_k (by decide)]; exact upS_s
    rcases hv with rfl | rfl
    · have h1ₓ := c_aside1 eₓ
      rw [h1ₓ]
      exact ⟨hF2ₓ, k5ₓ, k6ₓ, k8ₓ.trans hwₓ, fun qₓ => absurd qₓ (by decide), fun _ => upS_s⟩
    · obtain ⟨h1ₓ, h2ₓ⟩ := c_aside0 (fun sₓ hsₓ => COs_keep (hCOₓ sₓ hsₓ) (fun qₓ kₓ hqₓ => hF2ₓ qₓ kₓ (by omega))) ((hF2ₓ _ _ (by decide)).trans h9ₓ) ((hF2ₓ _ _ (by decide)).trans haₓ) ((hF2ₓ _ _ (by decide)).trans htₓ) ((hF2ₓ _ _ (by decide)).trans hcₓ) nₓ 0 _ (fun _ _ _ => rfl) (Nat.zero_le _) (fun uₓ huₓ => absurd huₓ (Nat.not_lt_zero _)) upS_s eₓ
      refine ⟨fun qₓ kₓ hqₓ => (h1ₓ qₓ kₓ (by omega)).trans (hF2ₓ qₓ kₓ hqₓ), (h1ₓ _ _ (by decide)).trans k5ₓ, (h1ₓ _ _ (by decide)).trans k6ₓ, ((h1ₓ _ _ (by decide)).trans k8ₓ).trans hwₓ, fun _ => h2ₓ, fun qₓ => absurd qₓ (by decide)⟩
  by_cases cA : σ 147 (100 * dₓ + 10 * aₓ + gₓ) = -1
  · rw [mIf_pos cA, mWr_e] at eₓ
    obtain ⟨y1ₓ, y2ₓ, y3ₓ, y4ₓ, y5ₓ, y6ₓ⟩ := finₓ 0 _ (fun qₓ kₓ hqₓ => by rw [upS_n (by omega), upS_n (by omega)]) (by rw [upS_k (by decide)]; exact upS_s) upS_s eₓ
    exact ⟨y1ₓ, y2ₓ, Or.inr ⟨y3ₓ, fun ⟨sₓ, qₓ, _⟩ => by omega⟩, y4ₓ, y5ₓ, y6ₓ⟩
  · obtain ⟨sₓ, hsₓ⟩ : ∃ sₓ : Nat, σ 147 (100 * dₓ + 10 * aₓ + gₓ) = (sₓ : Int) := ⟨(σ 147 (100 * dₓ + 10 * aₓ + gₓ)).toNat, by omega⟩
    have hsNₓ := hAₓ sₓ hsₓ
    rw [mIf_neg cA, mRd_e, upS_s, hsₓ] at eₓ
    obtain ⟨r1ₓ, s1ₓ, e1ₓ, eₓ⟩ := mCall_el eₓ
    obtain ⟨rfl, h1ₓ⟩ := c_isOpenFor (D := D) (aₓ := aₓ) (tₓ := tₓ) (COs_keep (hCOₓ sₓ hsNₓ) (fun qₓ kₓ hqₓ => upS_q (by omega))) ((upS_q (by decide)).trans haₓ) ((upS_q (by decide)).trans htₓ) ((upS_k (by decide)).trans hcₓ) e1ₓ
    rw [hsₓ] at finₓ ⊢
    rcases h1ₓ with ⟨rfl, h1ₓ⟩ | ⟨rfl, h1ₓ⟩
    · rw [mIf_neg (by decide), mWr_e] at eₓ
      obtain ⟨y1ₓ, y2ₓ, y3ₓ, y4ₓ, y5ₓ, y6ₓ⟩ := finₓ 1 _ (fun qₓ kₓ hqₓ => by rw [upS_n (by omega), upS_n (by omega)]) (by rw [upS_k (by decide)]; exact upS_s) upS_s eₓ
      exact ⟨y1ₓ, y2ₓ, Or.inl ⟨y3ₓ, sₓ, rfl, h1ₓ⟩, y4ₓ, y5ₓ, y6ₓ⟩
    · rw [mIf_pos rfl, mWr_e] at eₓ
      obtain ⟨y1ₓ, y2ₓ, y3ₓ, y4ₓ, y5ₓ, y6ₓ⟩ := finₓ 0 _ (fun qₓ kₓ hqₓ => by rw [upS_n (by omega), upS_n (by omega)]) (by rw [upS_k (by decide)]; exact upS_s) upS_s eₓ
      exact ⟨y1ₓ, y2ₓ, Or.inr ⟨y3ₓ, fun ⟨s'ₓ, q1ₓ, q2ₓ⟩ => h1ₓ (by rw [show s'ₓ = sₓ by omega] at q2ₓ; exact q2ₓ)⟩, y4ₓ, y5ₓ, y6ₓ⟩
/-- the chart that aₓ walker goes by -/
def chD (ak tₓ mₓ : Int) : Int := if ak = tₓ / 24 then 4 + tₓ / 24 % 7 else mₓ
theorem c_lookW {mₓ : Nat} (hCOₓ : ∀ sₓ : Nat, sₓ < N → COs D σ sₓ) (h9ₓ : σ 39 9 = (N : Int)) (haₓ : σ 152 0 = (aₓ : Int)) (hgₓ : σ 152 1 = (gₓ : Int)) (htₓ : σ 1152 4 = (tₓ : Int)) (hcₓ : σ 149 9 = 0) (hdₓ : (dₓ : Int) = chD (σ 1152 8) (tₓ : Int) (σ 152 2)) (hAₓ : ∀ sₓ : Nat, σ 147 (100 * dₓ + 10 * aₓ + gₓ) = (sₓ : Int) → sₓ < N) (hA1ₓ : -1 ≤ σ 147 (100 * dₓ + 10 * aₓ + gₓ)) (hMₓ : 0 ≤ MX σ dₓ aₓ gₓ) (hv : vₓ = 0 ∨ vₓ = 1) (eₓ : m_X1_lookAround nₓ 149 152 vₓ σ = some (rₓ, σ')) : FCl σ σ' ∧ σ' 149 5 = σ 147 (100 * dₓ + 10 * aₓ + gₓ) ∧ ((σ' 149 6 = 1 ∧ GOA D (σ 147 (100 * dₓ + 10 * aₓ + gₓ)) aₓ tₓ) ∨ (σ' 149 6 = 0 ∧ ¬ GOA D (σ 147 (100 * dₓ + 10 * aₓ + gₓ)) aₓ tₓ)) ∧ σ' 149 8 = (if MX σ dₓ aₓ gₓ < 1000000 then MX σ dₓ aₓ gₓ else 0) ∧ (vₓ = 1 → LSS (fun uₓ => OPA D uₓ aₓ tₓ) N (σ' 149 7)) ∧ (vₓ = 0 → σ' 149 7 = -1) := by
  unfold m_X1_lookAround m_X9_askedToday m_X9_dayNow at eₓ
  rw [mRd_e, mRd_e, mLet_e, mRet_e, mCall_s, htₓ] at eₓ
  unfold chD at hdₓ
  by_cases c1ₓ : σ 1152 8 = (tₓ : Int) / 24
  · rw [mIf_neg (fun qₓ => qₓ c1ₓ), mRet_e, mCall_s, mIf_neg (by decide), mRd_e, hcₓ, mIf_neg (fun qₓ => qₓ rfl), mRd_e, mLet_e, mRet_e, mCall_s, htₓ] at eₓ
    unfold m_X0_ofWeekday at eₓ
    rw [mLet_e, mLet_e, mLet_e, mRet_e, mCall_s] at eₓ
    rw [if_pos c1ₓ] at hdₓ
    rw [← hdₓ] at eₓ
    exact c_lookB hCOₓ h9ₓ haₓ hgₓ htₓ hcₓ hAₓ hA1ₓ hMₓ hv eₓ
  · rw [mIf_pos c1ₓ, mRet_e, mCall_s, mIf_pos rfl] at eₓ
    rw [if_neg c1ₓ] at hdₓ
    have e'ₓ : LBc (j_X1_lookAround 149 152 nₓ) nₓ vₓ (σ 152 2) σ = some (rₓ, σ') := eₓ
    rw [← hdₓ] at e'ₓ
    exact c_lookB hCOₓ h9ₓ haₓ hgₓ htₓ hcₓ hAₓ hA1ₓ hMₓ hv e'ₓ
end
