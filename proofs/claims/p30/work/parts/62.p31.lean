/-! the atlas is right, whatever the town -/
def AIc (σ : SS) : Prop := ∀ (K N : Nat) (e0ₓ e1ₓ : Nat → Nat) (ln : Nat → Int), TKX σ K N e0ₓ e1ₓ ln → AId σ K N e0ₓ e1ₓ ln
section
variable {σ σ' τ τ' : SS} {rₓ r'ₓ xₓ yₓ zₓ vₓ : Int} {nₓ n'ₓ : Nat} {F : Int → Int} {N : Int}
theorem AIc_z (hₓ : ∀ cₓ : Nat, cₓ < 11 → σ 148 cₓ = 0) : AIc σ := fun _ _ _ _ _ _ => AI_none hₓ
theorem AIc_fr (hₓ : AIc σ) (h1ₓ : ∀ qₓ kₓ : Nat, qₓ = 39 ∨ qₓ = 40 ∨ qₓ = 41 ∨ qₓ = 42 ∨ qₓ = 48 ∨ qₓ = 146 ∨ qₓ = 147 ∨ qₓ = 148 → σ' qₓ kₓ = σ qₓ kₓ) : AIc σ' := fun K N e0ₓ e1ₓ ln hXₓ => by
  have hX0ₓ : TKX σ K N e0ₓ e1ₓ ln := TKX_k hXₓ (fun qₓ kₓ hqₓ => (h1ₓ qₓ kₓ (by omega)).symm)
  exact AId_fr hX0ₓ (hₓ K N e0ₓ e1ₓ ln hX0ₓ) (fun qₓ kₓ hqₓ => h1ₓ qₓ kₓ (by omega))
theorem AIc_map {mₓ : Nat} (hmₓ : mₓ < 4) (hₓ : AIc σ) (h1ₓ : ∀ qₓ kₓ : Nat, qₓ ≠ 48 → qₓ ≠ 38 → qₓ ≠ 148 → σ' qₓ kₓ = σ qₓ kₓ) (h2ₓ : ∀ kₓ : Nat, (kₓ < 12 * mₓ ∨ 12 * mₓ + 12 ≤ kₓ) → σ' 48 kₓ = σ 48 kₓ) (h3ₓ : σ' 148 mₓ = 0) (h4ₓ : ∀ kₓ : Nat, kₓ ≠ mₓ → σ' 148 kₓ = σ 148 kₓ) : AIc σ' := fun K N e0ₓ e1ₓ ln hXₓ => by
  have hX0ₓ : TKX σ K N e0ₓ e1ₓ ln := TKX_k hXₓ (fun qₓ kₓ hqₓ => (h1ₓ qₓ kₓ (by omega) (by omega) (by omega)).symm)
  refine AId_k hX0ₓ (hₓ K N e0ₓ e1ₓ ln hX0ₓ) (fun cₓ hcₓ hzₓ => ?_)
  have ec : cₓ ≠ mₓ := fun qₓ => hzₓ (by rw [qₓ]; exact h3ₓ)
  rw [h4ₓ cₓ ec] at hzₓ
  refine ⟨hzₓ, fun kₓ _ _ => ⟨h1ₓ 146 kₓ (by omega) (by omega) (by omega), h1ₓ 147 kₓ (by omega) (by omega) (by omega)⟩, fun sₓ hsₓ => ?_⟩
  have hNₓ := hXₓ.2.1
  unfold sgAt
  by_cases kₓ : cₓ < 4
  · rw [if_pos kₓ, if_pos kₓ]; exact h2ₓ _ (by omega)
  · rw [if_neg kₓ, if_neg kₓ]; exact h1ₓ 42 _ (by omega) (by omega) (by omega)
theorem c_printA {mₓ dₓ : Nat} (hN2ₓ : N ≤ 12) : ∀ (nₓ iₓ : Nat) (σ : SS), σ 39 9 = N → j_X11_print 0 nₓ 41 [(dₓ : Int), (mₓ : Int), (iₓ : Int)] σ = some (rₓ, σ') → (∀ kₓ : Nat, 12 * mₓ + 12 ≤ kₓ → σ' 48 kₓ = σ 48 kₓ) ∧ σ' 148 mₓ = 0 ∧ ∀ kₓ : Nat, kₓ ≠ mₓ → σ' 148 kₓ = σ 148 kₓ := by
  intro nₓ
  induction nₓ with
  | zero => intro iₓ σ _ eₓ; exact none_el eₓ
  | succ nₓ ihₓ =>
    intro iₓ σ hNₓ eₓ
    rw [e_X11_print_41] at eₓ
    unfold b_X11_print_41 at eₓ
    rw [mRd_e, hNₓ] at eₓ
    by_cases cₓ : N ≤ (iₓ : Int)
    · rw [mIf_pos cₓ, mRd_e, mLet_e, mWr_e] at eₓ
      unfold m_X0_forget at eₓ
      rw [mWr_e, mRet_e, mCall_s, mRet_e, show ((mₓ : Nat) : Int).toNat = mₓ by omega] at eₓ
      obtain ⟨-, rfl⟩ := some_el eₓ
      refine ⟨fun kₓ hₓ => ?_, upS_s, fun kₓ hₓ => ?_⟩
      · rw [upS_q (by decide), upS_q (by decide)]
      · rw [upS_k hₓ, upS_q (by decide)]
    · rw [mIf_neg cₓ, mLet_e, mLet_e] at eₓ
      unfold m_X7_signOn at eₓ
      rw [mLet_e, mLet_e, mRd_e, mRet_e, mCall_s, mWr_e, mLet_e, show ((mₓ : Int) * 12 + (iₓ : Int)).toNat = 12 * mₓ + iₓ by omega, show (iₓ : Int) + 1 = ((iₓ + 1 : Nat) : Int) by omega] at eₓ
      obtain ⟨g1ₓ, g2ₓ, g3ₓ⟩ := ihₓ (iₓ + 1) _ (by rw [upS_q (by decide)]; exact hNₓ) eₓ
      refine ⟨fun kₓ hₓ => ?_, g2ₓ, fun kₓ hₓ => ?_⟩
      · rw [g1ₓ kₓ hₓ, upS_k (by omega)]
      · rw [g3ₓ kₓ hₓ, upS_q (by decide)]
theorem A_print (hₓ : SI σ τ) (hAₓ : AIc σ) (eₓ : m_X11_print nₓ 0 xₓ σ = some (rₓ, σ')) : AIc σ' := by
  have hSₓ := hₓ.1
  obtain ⟨hOₓ, hTₓ, hZₓ, ⟨c4ₓ, c6ₓ, c7ₓ, c8ₓ⟩, ⟨r4ₓ, r6ₓ, r7ₓ, r8ₓ⟩, -⟩ := id hSₓ
  have t9ₓ : σ 39 9 = τ 12 1 := hTₓ.1.2.1
  have o1ₓ := hOₓ.2.1.2
  unfold m_X11_print b_X11_print_28 at eₓ
  rw [c_isWeekday, mCall_s] at eₓ
  by_cases cw : 0 ≤ xₓ ∧ xₓ < 7
  · rw [if_pos cw, mIf_neg (by decide), c_hasTown, mCall_s] at eₓ
    by_cases ct : 0 < σ 39 8
    · rw [if_pos ct, mIf_neg (by decide), mRd_e] at eₓ
      by_cases cm : σ 38 8 < 4
      · rw [mIf_pos cm, mRd_e] at eₓ
        obtain ⟨mₓ, hmₓ⟩ : ∃ mₓ : Nat, σ 38 8 = (mₓ : Int) := ⟨(σ 38 8).toNat, by omega⟩
        obtain ⟨dₓ, rfl⟩ : ∃ dₓ : Nat, xₓ = (dₓ : Int) := ⟨xₓ.toNat, by omega⟩
        rw [hmₓ] at eₓ
        obtain ⟨a0ₓ, a1ₓ, a2ₓ, a3ₓ, a4ₓ, a5ₓ⟩ := c_print0 nₓ 0 σ t9ₓ eₓ
        obtain ⟨b1ₓ, b2ₓ, b3ₓ⟩ := c_printA o1ₓ nₓ 0 σ t9ₓ eₓ
        refine AIc_map (mₓ := mₓ) (by omega) hAₓ a1ₓ (fun kₓ hkₓ => ?_) b2ₓ b3ₓ
        rcases hkₓ with hkₓ | hkₓ
        · exact a4ₓ kₓ (by omega)
        · exact b1ₓ kₓ hkₓ
      · rw [mIf_neg cm] at eₓ
        obtain ⟨-, rfl⟩ := some_el eₓ
        exact hAₓ
    · rw [if_neg ct, mIf_pos rfl] at eₓ
      obtain ⟨-, rfl⟩ := some_el eₓ
      exact hAₓ
  · rw [if_neg cw, mIf_pos rfl] at eₓ
    obtain ⟨-, rfl⟩ := some_el eₓ
    exact hAₓ
theorem A_misprint (hₓ : SI σ τ) (hAₓ : AIc σ) (eₓ : m_X11_misprint nₓ 0 xₓ yₓ zₓ σ = some (rₓ, σ')) : AIc σ' := by
  have hSₓ := hₓ.1
  obtain ⟨hOₓ, hTₓ, hZₓ, ⟨c4ₓ, c6ₓ, c7ₓ, c8ₓ⟩, ⟨r4ₓ, r6ₓ, r7ₓ, r8ₓ⟩, -⟩ := id hSₓ
  obtain ⟨o0ₓ, o1ₓ, -⟩ := id hOₓ
  unfold m_X11_misprint b_X11_misprint_29 at eₓ
  rw [c_hasMap hSₓ, mCall_s] at eₓ
  by_cases cm : 0 ≤ xₓ ∧ xₓ < τ 12 4
  · rw [if_pos cm, mIf_neg (by decide), c_hasStreet hSₓ, mCall_s] at eₓ
    by_cases cs : 0 ≤ yₓ ∧ yₓ < τ 12 1
    · rw [if_pos cs, mIf_neg (by decide), c_isSign, mCall_s] at eₓ
      by_cases cz : 0 ≤ zₓ ∧ zₓ ≤ 3
      · rw [if_pos cz, mIf_pos (by decide)] at eₓ
        obtain ⟨mₓ, rfl⟩ : ∃ mₓ : Nat, xₓ = (mₓ : Int) := ⟨xₓ.toNat, by omega⟩
        obtain ⟨sₓ, rfl⟩ : ∃ sₓ : Nat, yₓ = (sₓ : Int) := ⟨yₓ.toNat, by omega⟩
        unfold m_X0_forget at eₓ
        rw [mLet_e, mLet_e, mRd_e, mWr_e, mWr_e, mRet_e, mCall_s, mRet_e, show ((mₓ : Int) * 12 + (sₓ : Int)).toNat = 12 * mₓ + sₓ by omega, show ((mₓ : Nat) : Int).toNat = mₓ by omega] at eₓ
        obtain ⟨-, rfl⟩ := some_el eₓ
        refine AIc_map (mₓ := mₓ) (by omega) hAₓ (fun qₓ kₓ h1ₓ h2ₓ h3ₓ => ?_) (fun kₓ hkₓ => ?_) upS_s (fun kₓ hkₓ => ?_)
        · rw [upS_q h3ₓ, upS_q h1ₓ]
        · rw [upS_q (by decide), upS_k (by omega)]
        · rw [upS_k hkₓ, upS_q (by decide)]
      · rw [if_neg cz, mIf_neg (fun qₓ => qₓ rfl)] at eₓ
        obtain ⟨-, rfl⟩ := some_el eₓ
        exact hAₓ
    · rw [if_neg cs, mIf_pos rfl] at eₓ
      obtain ⟨-, rfl⟩ := some_el eₓ
      exact hAₓ
  · rw [if_neg cm, mIf_pos rfl] at eₓ
    obtain ⟨-, rfl⟩ := some_el eₓ
    exact hAₓ
theorem A_image (hAₓ : AIc σ) (eₓ : m_X11_image nₓ 0 xₓ σ = some (rₓ, σ')) : AIc σ' := by
  unfold m_X11_image b_X11_image_9 at eₓ
  by_cases cₓ : 0 ≤ xₓ ∧ xₓ ≤ 3
  · obtain ⟨aₓ, rfl⟩ : ∃ aₓ : Nat, xₓ = (aₓ : Int) := ⟨xₓ.toNat, by omega⟩
    have haₓ : aₓ < 4 := by omega
    have ea : ((aₓ : Nat) : Int).toNat = aₓ := by omega
    rw [mIf_neg (by omega), mIf_pos (by omega), mIx_e, ea, el40] at eₓ
    obtain ⟨r1ₓ, s1ₓ, d1ₓ, eₓ⟩ := mCall_el eₓ
    obtain ⟨g1ₓ, g2ₓ⟩ := c_state (by omega) d1ₓ
    rw [mWr_e, mRd_e] at eₓ
    obtain ⟨-, rfl⟩ := some_el eₓ
    exact AIc_fr hAₓ (fun qₓ kₓ hqₓ => by rw [upS_q (by omega), g2ₓ qₓ kₓ (by omega)])
  · by_cases c0ₓ : xₓ < 0
    · rw [mIf_pos c0ₓ] at eₓ
      obtain ⟨-, rfl⟩ := some_el eₓ
      exact hAₓ
    · rw [mIf_neg c0ₓ, mIf_neg (by omega)] at eₓ
      obtain ⟨-, rfl⟩ := some_el eₓ
      exact hAₓ
theorem A_back (hAₓ : AIc σ) (eₓ : m_X11_back nₓ 0 xₓ σ = some (rₓ, σ')) : AIc σ' := by
  unfold m_X11_back b_X11_back_18 at eₓ
  by_cases c0ₓ : xₓ < 0
  · rw [mIf_pos c0ₓ] at eₓ
    obtain ⟨-, rfl⟩ := some_el eₓ
    exact hAₓ
  · rw [mIf_neg c0ₓ] at eₓ
    by_cases c1ₓ : 4 ≤ xₓ
    · rw [mIf_pos c1ₓ] at eₓ
      obtain ⟨-, rfl⟩ := some_el eₓ
      exact hAₓ
    · rw [mIf_neg c1ₓ, mRd_e] at eₓ
      by_cases cm : σ 144 xₓ.toNat = 0
      · rw [mIf_neg (fun qₓ => qₓ cm)] at eₓ
        obtain ⟨-, rfl⟩ := some_el eₓ
        exact hAₓ
      · rw [mIf_pos cm, mIx_e] at eₓ
        obtain ⟨r1ₓ, s1ₓ, d1ₓ, eₓ⟩ := mCall_el eₓ
        obtain ⟨r2ₓ, s2ₓ, d2ₓ, eₓ⟩ := mCall_el eₓ
        rw [mRd_e] at eₓ
        obtain ⟨-, rfl⟩ := some_el eₓ
        unfold m_X0_forgetAll at d2ₓ
        exact AIc_z (c_forgetA nₓ 0 _ (fun cₓ hcₓ => absurd hcₓ (Nat.not_lt_zero _)) d2ₓ)
theorem A_built (hₓ : SI σ τ) (hAₓ : AIc σ) (eₓ : m_X11_built nₓ 0 xₓ yₓ zₓ σ = some (rₓ, σ')) : AIc σ' := by
  have o1ₓ := hₓ.1.1.2.1
  obtain ⟨N0, hNₓ⟩ : ∃ N : Nat, τ 12 1 = (N : Int) := ⟨(τ 12 1).toNat, by omega⟩
  have t9ₓ : σ 39 9 = τ 12 1 := hₓ.1.2.1.1.2.1
  have hkₓ := kb_built (t9ₓ.trans hNₓ) eₓ
  intro K N e0ₓ e1ₓ ln hXₓ
  have e9ₓ : σ' 39 9 = σ 39 9 := hkₓ 39 9 (by omega)
  have n9ₓ : σ' 39 9 = (N : Int) := hXₓ.2.2.2.2.1
  have n0ₓ : σ 39 9 = (N0 : Int) := t9ₓ.trans hNₓ
  obtain rfl : N = N0 := by omega
  have hX0ₓ : TKX σ K N e0ₓ e1ₓ ln := TKX_k hXₓ (fun qₓ kₓ hqₓ => (hkₓ qₓ kₓ (by omega)).symm)
  exact AId_fr hX0ₓ (hAₓ _ _ _ _ _ hX0ₓ) (fun qₓ kₓ hqₓ => hkₓ qₓ kₓ (by omega))
theorem A_by (hₓ : SI σ τ) (hAₓ : AIc σ) (hfₓ : ∀ qₓ kₓ : Nat, (qₓ = 39 ∨ qₓ = 40 ∨ qₓ = 41) → σ' qₓ kₓ = σ qₓ kₓ) (eₓ : m_X11_by nₓ 0 xₓ yₓ zₓ vₓ σ = some (rₓ, σ')) : AIc σ' := by
  have hSₓ := hₓ.1
  obtain ⟨-, -, -, -, ⟨r4ₓ, r6ₓ, r7ₓ, r8ₓ⟩, -⟩ := id hSₓ
  unfold m_X11_by b_X11_by_35 at eₓ
  rw [c_hasMap hSₓ, mCall_s] at eₓ
  have noₓ : mRet (-1) σ = some (rₓ, σ') → AIc σ' := fun qₓ => by
    obtain ⟨-, rfl⟩ := some_el qₓ
    exact hAₓ
  by_cases c1ₓ : 0 ≤ xₓ ∧ xₓ < τ 12 4
  · rw [if_pos c1ₓ, mIf_neg (by decide), c_hasCorner hSₓ, mCall_s] at eₓ
    by_cases c2ₓ : 0 ≤ yₓ ∧ yₓ < τ 12 0
    · rw [if_pos c2ₓ, mIf_neg (by decide), c_hasCorner hSₓ, mCall_s] at eₓ
      by_cases c3ₓ : 0 ≤ zₓ ∧ zₓ < τ 12 0
      · rw [if_pos c3ₓ, mIf_neg (by decide)] at eₓ
        by_cases c4ₓ : vₓ < 0
        · rw [mIf_pos c4ₓ] at eₓ; exact noₓ eₓ
        · rw [mIf_neg c4ₓ] at eₓ
          by_cases c5ₓ : vₓ ≤ 1
          · rw [mIf_pos c5ₓ] at eₓ
            obtain ⟨mₓ, rfl⟩ : ∃ mₓ : Nat, xₓ = (mₓ : Int) := ⟨xₓ.toNat, by omega⟩
            obtain ⟨x1ₓ, s7ₓ, d1ₓ, eₓ⟩ := mCall_el eₓ
            have esₓ : σ' = s7ₓ := by
              by_cases cv : vₓ = 0
              · rw [mIf_neg (fun qₓ => qₓ cv)] at eₓ
                obtain ⟨x2ₓ, s8ₓ, d2ₓ, eₓ⟩ := mCall_el eₓ
                have e8ₓ : s8ₓ = s7ₓ := by
                  unfold m_X0_hoursBy at d2ₓ
                  obtain ⟨x3ₓ, s9ₓ, d3ₓ, d2ₓ⟩ := mCall_el d2ₓ
                  have e9ₓ : s9ₓ = s7ₓ := by
                    unfold m_X0_spot at d3ₓ
                    rw [mLet_e, mLet_e, mLet_e, mLet_e, mRet_e] at d3ₓ
                    exact (some_el d3ₓ).2
                  rw [mRd_e] at d2ₓ
                  by_cases c6ₓ : s9ₓ 146 x3ₓ.toNat < 1000000
                  · rw [mIf_pos c6ₓ] at d2ₓ; exact (some_el d2ₓ).2.trans e9ₓ
                  · rw [mIf_neg c6ₓ] at d2ₓ; exact (some_el d2ₓ).2.trans e9ₓ
                by_cases c7ₓ : x2ₓ = -1
                · rw [mIf_neg (fun qₓ => qₓ c7ₓ)] at eₓ; exact (some_el eₓ).2.trans e8ₓ
                · rw [mIf_pos c7ₓ] at eₓ; exact (some_el eₓ).2.trans e8ₓ
              · rw [mIf_pos cv] at eₓ
                obtain ⟨x2ₓ, s8ₓ, d2ₓ, eₓ⟩ := mCall_el eₓ
                have e8ₓ : s8ₓ = s7ₓ := by
                  unfold m_X0_streetBy at d2ₓ
                  obtain ⟨x3ₓ, s9ₓ, d3ₓ, d2ₓ⟩ := mCall_el d2ₓ
                  have e9ₓ : s9ₓ = s7ₓ := by
                    unfold m_X0_spot at d3ₓ
                    rw [mLet_e, mLet_e, mLet_e, mLet_e, mRet_e] at d3ₓ
                    exact (some_el d3ₓ).2
                  rw [mRd_e] at d2ₓ
                  exact (some_el d2ₓ).2.trans e9ₓ
                by_cases c7ₓ : x2ₓ = -1
                · rw [mIf_neg (fun qₓ => qₓ c7ₓ)] at eₓ; exact (some_el eₓ).2.trans e8ₓ
                · rw [mIf_pos c7ₓ] at eₓ; exact (some_el eₓ).2.trans e8ₓ
            intro K N e0ₓ e1ₓ ln hXₓ
            have hX0ₓ : TKX σ K N e0ₓ e1ₓ ln := TKX_k hXₓ (fun qₓ kₓ hqₓ => (hfₓ qₓ kₓ (by omega)).symm)
            obtain ⟨-, g2ₓ, -⟩ := AI_refresh hX0ₓ (hAₓ _ _ _ _ _ hX0ₓ) (show mₓ < 11 by omega) d1ₓ
            rw [esₓ]; exact g2ₓ
          · rw [mIf_neg c5ₓ] at eₓ; exact noₓ eₓ
      · rw [if_neg c3ₓ, mIf_pos rfl] at eₓ; exact noₓ eₓ
    · rw [if_neg c2ₓ, mIf_pos rfl] at eₓ; exact noₓ eₓ
  · rw [if_neg c1ₓ, mIf_pos rfl] at eₓ; exact noₓ eₓ
theorem A_all (hAₓ : AIc σ) (hfₓ : ∀ qₓ kₓ : Nat, (qₓ = 39 ∨ qₓ = 40 ∨ qₓ = 41) → σ' qₓ kₓ = σ qₓ kₓ) (eₓ : m_X0_refreshAll nₓ 145 σ = some (rₓ, σ')) : AIc σ' := fun K N e0ₓ e1ₓ ln hXₓ => by
  have hX0ₓ : TKX σ K N e0ₓ e1ₓ ln := TKX_k hXₓ (fun qₓ kₓ hqₓ => (hfₓ qₓ kₓ (by omega)).symm)
  exact (AI_all hX0ₓ (hAₓ _ _ _ _ _ hX0ₓ) eₓ).2
theorem A_town (hcₓ : CV F N σ) (h0ₓ : 0 ≤ N) (hAₓ : AIc σ) (eₓ : m_X11_town nₓ 0 σ = some (rₓ, σ')) : AIc σ' := by
  unfold m_X11_town at eₓ
  obtain ⟨r1ₓ, s1ₓ, e1ₓ, eₓ⟩ := mCall_el eₓ
  unfold m_X7_readFrom m_X6_startReading at e1ₓ
  simp only [mWr_e, mRet_e, mCall_s] at e1ₓ
  obtain ⟨τ, hₓτ⟩ : ∃ τ, τ = upS (upS (upS (upS (upS (upS (upS σ 29 8 0) 29 9 0) 29 10 0) 29 11 0) 1 1 0) 1 3 0) 1 4 0 := ⟨_, rfl⟩
  rw [← hₓτ] at e1ₓ
  have hkₓ : ∀ qₓ kₓ : Nat, ¬ (qₓ = 29 ∧ 8 ≤ kₓ ∧ kₓ ≤ 11) → ¬ (qₓ = 1 ∧ (kₓ = 1 ∨ kₓ = 3 ∨ kₓ = 4)) → τ qₓ kₓ = σ qₓ kₓ := by
    intro qₓ kₓ a1ₓ a2ₓ
    rw [hₓτ, upS_n (by omega), upS_n (by omega), upS_n (by omega), upS_n (by omega), upS_n (by omega), upS_n (by omega), upS_n (by omega)]
  have t11ₓ : τ 1 1 = 0 := by rw [hₓτ, upS_k (by decide), upS_k (by decide)]; exact upS_s
  have t13ₓ : τ 1 3 = 0 := by rw [hₓτ, upS_k (by decide)]; exact upS_s
  have t14ₓ : τ 1 4 = 0 := by rw [hₓτ]; exact upS_s
  have t8ₓ : τ 29 8 = 0 := by rw [hₓτ, upS_q (by decide), upS_q (by decide), upS_q (by decide), upS_k (by decide), upS_k (by decide), upS_k (by decide)]; exact upS_s
  have t9ₓ : τ 29 9 = 0 := by rw [hₓτ, upS_q (by decide), upS_q (by decide), upS_q (by decide), upS_k (by decide), upS_k (by decide)]; exact upS_s
  have t10ₓ : τ 29 10 = 0 := by rw [hₓτ, upS_q (by decide), upS_q (by decide), upS_q (by decide), upS_k (by decide)]; exact upS_s
  have t12ₓ : τ 29 11 = 0 := by rw [hₓτ, upS_q (by decide), upS_q (by decide), upS_q (by decide)]; exact upS_s
  have hctₓ : CV F N τ := ⟨(hkₓ 1 2 (by omega) (by omega)).trans hcₓ.1, fun jₓ j0ₓ j1ₓ => (hkₓ 2 _ (by omega) (by omega)).trans (hcₓ.2.1 jₓ j0ₓ j1ₓ), hcₓ.2.2⟩
  have hsₓ : tp τ 0 0 0 = τ := by
    have := tp_self (σ := τ)
    rw [t11ₓ, t13ₓ, t14ₓ] at this; exact this
  rw [← hsₓ] at e1ₓ
  have hTₓ : CT 29 (fun _ => 0) τ := ⟨⟨t8ₓ, t9ₓ, t10ₓ, t12ₓ⟩, fun iₓ hiₓ => absurd hiₓ (by show ¬ (iₓ : Int) < 0; omega), fun iₓ hiₓ => absurd hiₓ (by show ¬ (iₓ : Int) < 0; omega)⟩
  have hOₓ : OD (fun _ => 0) := ⟨by decide, by decide, by decide, by decide, fun kₓ hkₓ => absurd hkₓ (by show ¬ (kₓ : Int) < 0; omega)⟩
  obtain ⟨υ, p'ₓ, g'ₓ, φ, rfl, h2ₓ, h3ₓ⟩ := c_from28 (c0ₓ := (0, sk F N 0, 0, fun _ => 0)) nₓ 1 0 τ 0 0 0 hctₓ (Or.inl ⟨rfl, rfl, by decide, h0ₓ, by decide, by decide, _, hTₓ, hOₓ, SU_rf⟩) e1ₓ
  rw [mRd_e, tp_f, mWr_e] at eₓ
  have k2ₓ : ∀ qₓ kₓ : Nat, qₓ ≠ 1 → (qₓ < 29 ∨ 38 ≤ qₓ) → upS (tp υ p'ₓ g'ₓ φ) 1 2 0 qₓ kₓ = σ qₓ kₓ := fun qₓ kₓ a1ₓ a2ₓ => by
    rw [upS_q a1ₓ, tp_o a1ₓ, h2ₓ qₓ kₓ a2ₓ, hkₓ qₓ kₓ (by omega) (by omega)]
  by_cases hₓφ : φ = 0
  · rw [mIf_pos hₓφ] at eₓ
    obtain ⟨r2ₓ, s2ₓ, e2ₓ, eₓ⟩ := mCall_el eₓ
    obtain ⟨r4ₓ, s4ₓ, e4ₓ, eₓ⟩ := mCall_el eₓ
    rw [mRd_e] at eₓ
    obtain ⟨-, rfl⟩ := some_el eₓ
    unfold m_X0_forgetAll at e4ₓ
    exact AIc_z (c_forgetA nₓ 0 _ (fun cₓ hcₓ => absurd hcₓ (Nat.not_lt_zero _)) e4ₓ)
  · rw [mIf_neg hₓφ, mLet_e] at eₓ
    obtain ⟨-, rfl⟩ := some_el eₓ
    exact AIc_fr hAₓ (fun qₓ kₓ hqₓ => k2ₓ qₓ kₓ (by omega) (by omega))
theorem A_townT (hₓ : TR σ τ) (hNₓ : σ 1 2 ≤ 400) (hb0ₓ : ∀ jₓ : Nat, jₓ < 400 → 0 ≤ σ 2 jₓ) (hAₓ : AIc σ) (eₓ : m_X11_town nₓ 0 σ = some (rₓ, σ')) : AIc σ' := by
  obtain ⟨⟨t1ₓ, t2ₓ, t3ₓ⟩, -⟩ := id hₓ
  have hcₓ : CV (fun jₓ => σ 2 jₓ.toNat) (σ 1 2) σ := ⟨rfl, fun _ _ _ => rfl, fun jₓ j0ₓ j1ₓ => hb0ₓ jₓ.toNat (by omega)⟩
  exact A_town hcₓ t2ₓ hAₓ eₓ
end
