section
variable {σ σ' τ τ' : SS} {rₓ r'ₓ xₓ yₓ zₓ : Int} {nₓ n'ₓ N : Nat} {P : Nat → Int}
/-- what the street that is tried leaves, of so many -/
def KB (N : Nat) (σ σ' : SS) : Prop := ∀ qₓ kₓ : Nat, (qₓ ≠ 156 ∧ qₓ ≠ 157 ∧ ¬ (qₓ = 40 ∧ 2 * N ≤ kₓ) ∧ ¬ (qₓ = 44 ∧ 2 * N ≤ kₓ) ∧ ¬ (qₓ = 41 ∧ N ≤ kₓ) ∧ ¬ (qₓ = 43 ∧ N ≤ kₓ) ∧ ¬ (qₓ = 47 ∧ N ≤ kₓ) ∧ ¬ (qₓ = 42 ∧ 7 * N ≤ kₓ)) → σ' qₓ kₓ = σ qₓ kₓ
theorem KB.rf : KB N σ σ := fun _ _ _ => rfl
theorem KB.tr {σ'' : SS} (hₓ : KB N σ σ') (gₓ : KB N σ' σ'') : KB N σ σ'' := fun qₓ kₓ eₓ => (gₓ qₓ kₓ eₓ).trans (hₓ qₓ kₓ eₓ)
theorem KB.pf {X : RR} (hₓ : PF 156 157 σ X) (eₓ : X = some (rₓ, σ')) : KB N σ σ' := fun qₓ kₓ cₓ => hₓ rₓ σ' eₓ qₓ kₓ cₓ.1 cₓ.2.1
theorem KB.n9 (hₓ : KB N σ σ') (hNₓ : σ 39 9 = (N : Int)) : σ' 39 9 = (N : Int) := (hₓ 39 9 (by omega)).trans hNₓ
theorem kb_place (eₓ : m_X7_placeStreet nₓ 39 (N : Int) xₓ yₓ zₓ σ = some (rₓ, σ')) : KB N σ σ' := by
  unfold m_X7_placeStreet at eₓ
  simp only [mLet_e, mWr_e, mRet_e] at eₓ
  obtain ⟨-, rfl⟩ := some_el eₓ
  intro qₓ kₓ cₓ
  rw [upS_n (by omega), upS_n (by omega), upS_n (by omega), upS_n (by omega), upS_n (by omega), upS_n (by omega)]
theorem kb_sign (hyₓ : 0 ≤ yₓ) (eₓ : m_X7_placeSign nₓ 39 (N : Int) yₓ zₓ σ = some (rₓ, σ')) : KB N σ σ' := by
  unfold m_X7_placeSign at eₓ
  simp only [mLet_e, mRd_e, mWr_e, mRet_e] at eₓ
  obtain ⟨-, rfl⟩ := some_el eₓ
  intro qₓ kₓ cₓ
  rw [upS_n (by omega), upS_n (by omega), upS_n (by omega)]
theorem kb_saint0 : ∀ (nₓ : Nat) (vₓ : Int) (σ : SS), j_X7_findSaints 39 nₓ 9 [(N : Int), vₓ] σ = some (rₓ, σ') → KB N σ σ' := by
  intro nₓ
  induction nₓ with
  | zero => intro vₓ σ eₓ; exact none_el eₓ
  | succ nₓ ihₓ =>
    intro vₓ σ eₓ
    rw [e_X7_findSaints_9] at eₓ
    unfold b_X7_findSaints_9 b_X7_findSaints_44 at eₓ
    rw [mRd_e] at eₓ
    by_cases cₓ : σ 39 10 ≤ vₓ
    · rw [mIf_pos cₓ, mRet_e] at eₓ
      obtain ⟨-, rfl⟩ := some_el eₓ
      exact KB.rf
    · rw [mIf_neg cₓ, mRd_e] at eₓ
      obtain ⟨x1ₓ, s1ₓ, d1ₓ, eₓ⟩ := mCall_el eₓ
      have k1ₓ : KB N σ s1ₓ := KB.pf pf_X7_sideOf d1ₓ
      by_cases c1ₓ : x1ₓ = -1
      · rw [mIf_pos c1ₓ, mLet_e] at eₓ
        exact k1ₓ.tr (ihₓ _ _ eₓ)
      · rw [mIf_neg c1ₓ, mRd_e, mLet_e, mLet_e, mWr_e, mLet_e] at eₓ
        refine k1ₓ.tr (KB.tr ?_ (ihₓ _ _ eₓ))
        intro qₓ kₓ cₓ
        rw [upS_n (by omega)]
theorem kb_saint (eₓ : m_X7_findSaints nₓ 39 (N : Int) σ = some (rₓ, σ')) : KB N σ σ' := by
  unfold m_X7_findSaints at eₓ
  rw [mWr_e] at eₓ
  refine KB.tr ?_ (kb_saint0 _ _ _ eₓ)
  intro qₓ kₓ cₓ
  rw [upS_n (by omega)]
theorem kb_try0 : ∀ (nₓ : Nat) (vₓ : Int) (σ : SS), 0 ≤ vₓ → σ 39 9 = (N : Int) → j_X7_tryStreet 39 nₓ 14 [vₓ] σ = some (rₓ, σ') → KB N σ σ' := by
  intro nₓ
  induction nₓ with
  | zero => intro vₓ σ _ _ eₓ; exact none_el eₓ
  | succ nₓ ihₓ =>
    intro vₓ σ hv hNₓ eₓ
    rw [e_X7_tryStreet_14] at eₓ
    unfold b_X7_tryStreet_14 at eₓ
    by_cases cₓ : 7 ≤ vₓ
    · rw [mIf_pos cₓ, mRd_e, hNₓ] at eₓ
      obtain ⟨x1ₓ, s1ₓ, d1ₓ, eₓ⟩ := mCall_el eₓ
      rw [mRet_e] at eₓ
      obtain ⟨-, rfl⟩ := some_el eₓ
      exact kb_saint d1ₓ
    · rw [mIf_neg cₓ, mRd_e, hNₓ] at eₓ
      obtain ⟨x1ₓ, s1ₓ, d1ₓ, eₓ⟩ := mCall_el eₓ
      have k1ₓ : KB N σ s1ₓ := kb_sign hv d1ₓ
      rw [mLet_e] at eₓ
      exact k1ₓ.tr (ihₓ _ _ (by omega) (k1ₓ.n9 hNₓ) eₓ)
theorem kb_try (hNₓ : σ 39 9 = (N : Int)) (eₓ : m_X7_tryStreet nₓ 39 xₓ yₓ zₓ σ = some (rₓ, σ')) : KB N σ σ' := by
  unfold m_X7_tryStreet at eₓ
  rw [mRd_e, hNₓ] at eₓ
  obtain ⟨x1ₓ, s1ₓ, d1ₓ, eₓ⟩ := mCall_el eₓ
  have k1ₓ : KB N σ s1ₓ := kb_place d1ₓ
  exact k1ₓ.tr (kb_try0 _ _ _ (by decide) (k1ₓ.n9 hNₓ) eₓ)
theorem kb_best0 : ∀ nₓ : Nat, (∀ (a1ₓ a2ₓ a3ₓ a4ₓ a5ₓ a6ₓ a7ₓ : Int) (σ : SS), σ 39 9 = (N : Int) → j_X4_tellBest 155 nₓ 14 [a1ₓ, a2ₓ, a3ₓ, a4ₓ, a5ₓ, a6ₓ, a7ₓ] σ = some (rₓ, σ') → KB N σ σ') ∧ ∀ (a1ₓ a2ₓ a3ₓ a4ₓ a5ₓ a6ₓ a7ₓ a8ₓ : Int) (σ : SS), σ 39 9 = (N : Int) → j_X4_tellBest 155 nₓ 32 [a1ₓ, a2ₓ, a3ₓ, a4ₓ, a5ₓ, a6ₓ, a7ₓ, a8ₓ] σ = some (rₓ, σ') → KB N σ σ' := by
  intro nₓ
  induction nₓ with
  | zero => exact ⟨fun _ _ _ _ _ _ _ _ _ eₓ => none_el eₓ, fun _ _ _ _ _ _ _ _ _ _ eₓ => none_el eₓ⟩
  | succ nₓ ihₓ =>
    refine ⟨fun a1ₓ a2ₓ a3ₓ a4ₓ a5ₓ a6ₓ a7ₓ σ hNₓ eₓ => ?_, fun a1ₓ a2ₓ a3ₓ a4ₓ a5ₓ a6ₓ a7ₓ a8ₓ σ hNₓ eₓ => ?_⟩
    · rw [e_X4_tellBest_14] at eₓ
      unfold b_X4_tellBest_14 at eₓ
      rw [mRd_e] at eₓ
      by_cases cₓ : σ 39 8 ≤ a7ₓ
      · rw [mIf_pos cₓ] at eₓ
        by_cases c1ₓ : a3ₓ = 2
        · rw [mIf_neg (fun qₓ => qₓ c1ₓ), mRet_e] at eₓ
          obtain ⟨-, rfl⟩ := some_el eₓ
          exact KB.rf
        · rw [mIf_pos c1ₓ] at eₓ
          by_cases c2ₓ : a3ₓ = 0
          · rw [mIf_neg (fun qₓ => qₓ c2ₓ), mRet_e] at eₓ
            obtain ⟨-, rfl⟩ := some_el eₓ
            exact KB.rf
          · rw [mIf_pos c2ₓ, mRet_e] at eₓ
            obtain ⟨-, rfl⟩ := some_el eₓ
            exact KB.rf
      · rw [mIf_neg cₓ, mLet_e] at eₓ
        exact ihₓ.2 _ _ _ _ _ _ _ _ _ hNₓ eₓ
    · rw [e_X4_tellBest_32] at eₓ
      unfold b_X4_tellBest_32 b_X4_tellBest_84 at eₓ
      rw [mRd_e] at eₓ
      by_cases cₓ : σ 39 8 ≤ a8ₓ
      · rw [mIf_pos cₓ, mLet_e] at eₓ
        exact ihₓ.1 _ _ _ _ _ _ _ _ hNₓ eₓ
      · rw [mIf_neg cₓ] at eₓ
        obtain ⟨x1ₓ, s1ₓ, d1ₓ, eₓ⟩ := mCall_el eₓ
        have k1ₓ : KB N σ s1ₓ := kb_try hNₓ d1ₓ
        obtain ⟨x2ₓ, s2ₓ, d2ₓ, eₓ⟩ := mCall_el eₓ
        have k2ₓ : KB N σ s2ₓ := k1ₓ.tr (KB.pf pf_X4_sumOfErrands d2ₓ)
        by_cases c1ₓ : a6ₓ ≤ x2ₓ
        · rw [mIf_pos c1ₓ, mLet_e] at eₓ
          exact k2ₓ.tr (ihₓ.2 _ _ _ _ _ _ _ _ _ (k2ₓ.n9 hNₓ) eₓ)
        · rw [mIf_neg c1ₓ, mLet_e] at eₓ
          exact k2ₓ.tr (ihₓ.2 _ _ _ _ _ _ _ _ _ (k2ₓ.n9 hNₓ) eₓ)
theorem kb_built (hNₓ : σ 39 9 = (N : Int)) (eₓ : m_X11_built nₓ 0 xₓ yₓ zₓ σ = some (rₓ, σ')) : KB N σ σ' := by
  unfold m_X11_built b_X11_built_28 b_X11_built_39 at eₓ
  rw [c_hasTown, mCall_s] at eₓ
  have rfl1 : ∀ {vₓ : Int}, mRet vₓ σ = some (rₓ, σ') → KB N σ σ' := fun qₓ => by
    obtain ⟨-, rfl⟩ := some_el qₓ
    exact KB.rf
  by_cases ct : 0 < σ 39 8
  · rw [if_pos ct, mIf_neg (by decide)] at eₓ
    by_cases c1ₓ : xₓ < 1
    · rw [mIf_pos c1ₓ] at eₓ; exact rfl1 eₓ
    · rw [mIf_neg c1ₓ] at eₓ
      by_cases c2ₓ : 9 < xₓ
      · rw [mIf_pos c2ₓ] at eₓ; exact rfl1 eₓ
      · rw [mIf_neg c2ₓ] at eₓ
        obtain ⟨x1ₓ, s1ₓ, d1ₓ, eₓ⟩ := mCall_el eₓ
        have gs1 : s1ₓ = σ := by
          unfold m_X11_isAskedHour b_X11_isAskedHour_15 at d1ₓ
          by_cases h1ₓ : yₓ < 0
          · rw [mIf_pos h1ₓ] at d1ₓ; exact (some_el d1ₓ).2
          · rw [mIf_neg h1ₓ] at d1ₓ
            by_cases h2ₓ : 99999 < yₓ
            · rw [mIf_pos h2ₓ] at d1ₓ; exact (some_el d1ₓ).2
            · rw [mIf_neg h2ₓ] at d1ₓ; exact (some_el d1ₓ).2
        rw [gs1] at eₓ
        by_cases c3ₓ : x1ₓ = 0
        · rw [mIf_neg (fun qₓ => qₓ c3ₓ)] at eₓ; exact rfl1 eₓ
        · rw [mIf_pos c3ₓ] at eₓ
          by_cases c4ₓ : zₓ < 0
          · rw [mIf_pos c4ₓ] at eₓ; exact rfl1 eₓ
          · rw [mIf_neg c4ₓ] at eₓ
            by_cases c5ₓ : zₓ ≤ 2
            · rw [mIf_pos c5ₓ] at eₓ
              obtain ⟨x2ₓ, s2ₓ, d2ₓ, eₓ⟩ := mCall_el eₓ
              rw [mRet_e] at eₓ
              obtain ⟨-, rfl⟩ := some_el eₓ
              exact (kb_best0 nₓ).1 _ _ _ _ _ _ _ _ hNₓ d2ₓ
            · rw [mIf_neg c5ₓ] at eₓ; exact rfl1 eₓ
  · rw [if_neg ct, mIf_pos rfl] at eₓ; exact rfl1 eₓ
theorem SRel_KB (hₓ : SRel 38 σ P) (hNₓ : P 1 = (N : Int)) (hkₓ : KB N σ σ') : SRel 38 σ' P := by
  obtain ⟨hOₓ, ⟨⟨t8ₓ, t9ₓ, t10ₓ, t11ₓ⟩, tS, tZ⟩, hZₓ, ⟨c4ₓ, c6ₓ, c7ₓ, c8ₓ⟩, hrₓ, m1ₓ, m2ₓ, m3ₓ, m4ₓ⟩ := hₓ
  refine ⟨hOₓ, ⟨⟨(hkₓ 39 8 (by omega)).trans t8ₓ, (hkₓ 39 9 (by omega)).trans t9ₓ, (hkₓ 39 10 (by omega)).trans t10ₓ, (hkₓ 39 11 (by omega)).trans t11ₓ⟩, fun iₓ hiₓ => ?_, fun kₓ hiₓ => ⟨(hkₓ 45 kₓ (by omega)).trans (tZ kₓ hiₓ).1, (hkₓ 46 kₓ (by omega)).trans (tZ kₓ hiₓ).2⟩⟩, fun jₓ hjₓ => (hkₓ 47 jₓ (by omega)).trans (hZₓ jₓ hjₓ), ⟨(hkₓ 38 8 (by omega)).trans c4ₓ, (hkₓ 38 10 (by omega)).trans c6ₓ, (hkₓ 38 11 (by omega)).trans c7ₓ, (hkₓ 38 12 (by omega)).trans c8ₓ⟩, hrₓ, fun mₓ iₓ hmₓ hiₓ => (hkₓ 48 _ (by omega)).trans (m1ₓ mₓ iₓ hmₓ hiₓ), fun kₓ hiₓ => ⟨(hkₓ 50 kₓ (by omega)).trans (m2ₓ kₓ hiₓ).1, (hkₓ 51 kₓ (by omega)).trans (m2ₓ kₓ hiₓ).2⟩, fun kₓ hiₓ => ⟨(hkₓ 52 kₓ (by omega)).trans (m3ₓ kₓ hiₓ).1, (hkₓ 53 kₓ (by omega)).trans (m3ₓ kₓ hiₓ).2⟩, fun kₓ hiₓ => (hkₓ 54 kₓ (by omega)).trans (m4ₓ kₓ hiₓ)⟩
  obtain ⟨z1ₓ, z2ₓ, z3ₓ, z4ₓ, z5ₓ, z6ₓ, z7ₓ⟩ := tS iₓ hiₓ
  exact ⟨(hkₓ 40 _ (by omega)).trans z1ₓ, (hkₓ 40 _ (by omega)).trans z2ₓ, (hkₓ 41 _ (by omega)).trans z3ₓ, fun jₓ hjₓ => (hkₓ 42 _ (by omega)).trans (z4ₓ jₓ hjₓ), (hkₓ 43 _ (by omega)).trans z5ₓ, (hkₓ 44 _ (by omega)).trans z6ₓ, (hkₓ 44 _ (by omega)).trans z7ₓ⟩
theorem SI_builtC (hₓ : SI σ τ) (eₓ : m_X11_built nₓ 0 xₓ yₓ zₓ σ = some (rₓ, σ')) : SI σ' τ := by
  have o1ₓ := hₓ.1.1.2.1
  obtain ⟨N, hNₓ⟩ : ∃ N : Nat, τ 12 1 = (N : Int) := ⟨(τ 12 1).toNat, by omega⟩
  have t9ₓ : σ 39 9 = τ 12 1 := hₓ.1.2.1.1.2.1
  have hkₓ := kb_built (t9ₓ.trans hNₓ) eₓ
  refine ⟨SRel_KB hₓ.1 hNₓ hkₓ, fun iₓ hiₓ => ?_, fun iₓ hiₓ hmₓ => ?_⟩
  · rw [hkₓ 144 iₓ (by omega)]; exact hₓ.2.1 iₓ hiₓ
  · rw [hkₓ 144 iₓ (by omega)] at hmₓ
    exact SRel_mv (hₓ.2.2 iₓ hiₓ hmₓ) (StE.fr (fun pₓ kₓ p1ₓ p2ₓ => hkₓ pₓ kₓ (by omega))) (fun kₓ _ => rfl)
/-- likewise of the reference -/
def RB (N : Nat) (τ τ' : SS) : Prop := ∀ qₓ kₓ : Nat, qₓ ≠ 18 → qₓ ≠ 19 → ¬ (qₓ = 12 ∧ (kₓ = 1 ∨ (10 + 10 * N ≤ kₓ ∧ kₓ < 20 + 10 * N))) → τ' qₓ kₓ = τ qₓ kₓ
theorem RB.rf : RB N τ τ := fun _ _ _ _ _ => rfl
theorem RB.tr {τ'' : SS} (hₓ : RB N τ τ') (gₓ : RB N τ' τ'') : RB N τ τ'' := fun qₓ kₓ aₓ bₓ cₓ => (gₓ qₓ kₓ aₓ bₓ cₓ).trans (hₓ qₓ kₓ aₓ bₓ cₓ)
theorem rb_built0 : ∀ nₓ : Nat, (∀ (a1ₓ a2ₓ a3ₓ a5ₓ a6ₓ a7ₓ a8ₓ : Int) (τ : SS), τ 12 1 = (N : Int) + 1 → j_X12_built 0 nₓ 76 [a1ₓ, a2ₓ, a3ₓ, 10 + 10 * (N : Int), a5ₓ, a6ₓ, a7ₓ, a8ₓ] τ = some (r'ₓ, τ') → RB N τ τ' ∧ τ' 12 1 = (N : Int)) ∧ (∀ (a1ₓ a2ₓ a3ₓ a5ₓ a6ₓ a7ₓ a8ₓ a9ₓ : Int) (τ : SS), τ 12 1 = (N : Int) + 1 → j_X12_built 0 nₓ 93 [a1ₓ, a2ₓ, a3ₓ, 10 + 10 * (N : Int), a5ₓ, a6ₓ, a7ₓ, a8ₓ, a9ₓ] τ = some (r'ₓ, τ') → RB N τ τ' ∧ τ' 12 1 = (N : Int)) ∧ ∀ (a1ₓ a2ₓ a3ₓ a5ₓ a6ₓ a7ₓ a8ₓ a9ₓ a10ₓ : Int) (τ : SS), 0 ≤ a10ₓ → τ 12 1 = (N : Int) + 1 → j_X12_built 0 nₓ 137 [a1ₓ, a2ₓ, a3ₓ, 10 + 10 * (N : Int), a5ₓ, a6ₓ, a7ₓ, a8ₓ, a9ₓ, a10ₓ] τ = some (r'ₓ, τ') → RB N τ τ' ∧ τ' 12 1 = (N : Int) := by
  intro nₓ
  induction nₓ with
  | zero => exact ⟨fun _ _ _ _ _ _ _ _ _ eₓ => none_el eₓ, fun _ _ _ _ _ _ _ _ _ _ eₓ => none_el eₓ, fun _ _ _ _ _ _ _ _ _ _ _ _ eₓ => none_el eₓ⟩
  | succ nₓ ihₓ =>
    obtain ⟨ih1ₓ, ih2ₓ, ih3ₓ⟩ := ihₓ
    refine ⟨fun a1ₓ a2ₓ a3ₓ a5ₓ a6ₓ a7ₓ a8ₓ τ h1ₓ eₓ => ?_, fun a1ₓ a2ₓ a3ₓ a5ₓ a6ₓ a7ₓ a8ₓ a9ₓ τ h1ₓ eₓ => ?_, fun a1ₓ a2ₓ a3ₓ a5ₓ a6ₓ a7ₓ a8ₓ a9ₓ a10ₓ τ h0ₓ h1ₓ eₓ => ?_⟩
    · rw [e_X12_built_76] at eₓ
      unfold b_X12_built_76 at eₓ
      rw [mRd_e, show (0 : Int).toNat = 0 from rfl] at eₓ
      by_cases cₓ : τ 12 0 ≤ a8ₓ
      · rw [mIf_pos cₓ, mRd_e, show (1 : Int).toNat = 1 from rfl, h1ₓ, mLet_e, mWr_e] at eₓ
        have finₓ : ∀ {vₓ : Int}, mRet vₓ (upS τ 12 1 ((N : Int) + 1 - 1)) = some (r'ₓ, τ') → RB N τ τ' ∧ τ' 12 1 = (N : Int) := fun qₓ => by
          obtain ⟨-, rfl⟩ := some_el qₓ
          exact ⟨fun qₓ kₓ _ _ cₓ => upS_n (by omega), by rw [upS_s]; omega⟩
        by_cases c1ₓ : a3ₓ = 0
        · rw [mIf_neg (fun qₓ => qₓ c1ₓ)] at eₓ; exact finₓ eₓ
        · rw [mIf_pos c1ₓ] at eₓ
          by_cases c2ₓ : a3ₓ = 1
          · rw [mIf_neg (fun qₓ => qₓ c2ₓ)] at eₓ; exact finₓ eₓ
          · rw [mIf_pos c2ₓ] at eₓ; exact finₓ eₓ
      · rw [mIf_neg cₓ, mLet_e] at eₓ
        exact ih2ₓ _ _ _ _ _ _ _ _ _ h1ₓ eₓ
    · rw [e_X12_built_93] at eₓ
      unfold b_X12_built_93 at eₓ
      rw [mRd_e, show (0 : Int).toNat = 0 from rfl] at eₓ
      by_cases cₓ : τ 12 0 ≤ a9ₓ
      · rw [mIf_pos cₓ, mLet_e] at eₓ
        exact ih1ₓ _ _ _ _ _ _ _ _ h1ₓ eₓ
      · rw [mIf_neg cₓ, mWr_e, mLet_e, mWr_e, mLet_e, mWr_e] at eₓ
        obtain ⟨g1ₓ, g2ₓ⟩ := ih3ₓ _ _ _ _ _ _ _ _ _ _ (by decide) (by rw [upS_n (by omega), upS_n (by omega), upS_n (by omega)]; exact h1ₓ) eₓ
        exact ⟨RB.tr (fun qₓ kₓ _ _ cₓ => by rw [upS_n (by omega), upS_n (by omega), upS_n (by omega)]) g1ₓ, g2ₓ⟩
    · rw [e_X12_built_137] at eₓ
      unfold b_X12_built_137 b_X12_built_185 b_X12_built_197 at eₓ
      by_cases cₓ : 7 ≤ a10ₓ
      · rw [mIf_pos cₓ] at eₓ
        obtain ⟨x1ₓ, s1ₓ, d1ₓ, eₓ⟩ := mCall_el eₓ
        have p1ₓ := pf_X12_sumOf _ _ d1ₓ
        have k1ₓ : RB N τ s1ₓ := fun qₓ kₓ aₓ bₓ _ => p1ₓ qₓ kₓ aₓ bₓ
        have n1ₓ : s1ₓ 12 1 = (N : Int) + 1 := (p1ₓ 12 1 (by decide) (by decide)).trans h1ₓ
        by_cases c1ₓ : a5ₓ < 0
        · rw [mIf_pos c1ₓ, mLet_e] at eₓ
          obtain ⟨g1ₓ, g2ₓ⟩ := ih2ₓ _ _ _ _ _ _ _ _ _ n1ₓ eₓ
          exact ⟨k1ₓ.tr g1ₓ, g2ₓ⟩
        · rw [mIf_neg c1ₓ] at eₓ
          by_cases c2ₓ : x1ₓ < a7ₓ
          · rw [mIf_pos c2ₓ, mLet_e] at eₓ
            obtain ⟨g1ₓ, g2ₓ⟩ := ih2ₓ _ _ _ _ _ _ _ _ _ n1ₓ eₓ
            exact ⟨k1ₓ.tr g1ₓ, g2ₓ⟩
          · rw [mIf_neg c2ₓ, mLet_e] at eₓ
            obtain ⟨g1ₓ, g2ₓ⟩ := ih2ₓ _ _ _ _ _ _ _ _ _ n1ₓ eₓ
            exact ⟨k1ₓ.tr g1ₓ, g2ₓ⟩
      · rw [mIf_neg cₓ, mLet_e, mLet_e, mWr_e, mLet_e] at eₓ
        obtain ⟨g1ₓ, g2ₓ⟩ := ih3ₓ _ _ _ _ _ _ _ _ _ _ (by omega) (by rw [upS_n (by omega)]; exact h1ₓ) eₓ
        exact ⟨RB.tr (fun qₓ kₓ _ _ cₓ => by rw [upS_n (by omega)]) g1ₓ, g2ₓ⟩
theorem rb_built (hNₓ : τ 12 1 = (N : Int)) (eₓ : m_X12_built nₓ 0 xₓ yₓ zₓ τ = some (r'ₓ, τ')) : RB N τ τ' ∧ τ' 12 1 = (N : Int) := by
  unfold m_X12_built b_X12_built_38 at eₓ
  have stop : ∀ {vₓ : Int}, mRet vₓ τ = some (r'ₓ, τ') → RB N τ τ' ∧ τ' 12 1 = (N : Int) := fun qₓ => by
    obtain ⟨-, rfl⟩ := some_el qₓ
    exact ⟨RB.rf, hNₓ⟩
  rw [r_isTown, mCall_s] at eₓ
  by_cases ct : 0 < τ 12 0
  · rw [if_pos ct, mIf_neg (by decide), mLet_e, r_in, mCall_s] at eₓ
    by_cases c1ₓ : 1 ≤ xₓ ∧ xₓ ≤ 9
    · rw [if_pos c1ₓ, mIf_neg (by decide)] at eₓ
      obtain ⟨x1ₓ, s1ₓ, d1ₓ, eₓ⟩ := mCall_el eₓ
      have gs1 : s1ₓ = τ := by
        unfold m_X12_isHour b_X12_isHour_14 at d1ₓ
        by_cases h1ₓ : yₓ < 0
        · rw [mIf_pos h1ₓ] at d1ₓ; exact (some_el d1ₓ).2
        · rw [mIf_neg h1ₓ] at d1ₓ
          by_cases h2ₓ : 99999 < yₓ
          · rw [mIf_pos h2ₓ] at d1ₓ; exact (some_el d1ₓ).2
          · rw [mIf_neg h2ₓ] at d1ₓ; exact (some_el d1ₓ).2
      rw [gs1] at eₓ
      by_cases c2ₓ : x1ₓ = 0
      · rw [mIf_pos c2ₓ] at eₓ; exact stop eₓ
      · rw [mIf_neg c2ₓ, mLet_e, r_in, mCall_s] at eₓ
        by_cases c3ₓ : 0 ≤ zₓ ∧ zₓ ≤ 2
        · rw [if_pos c3ₓ, mIf_pos (by decide), mRd_e, show (1 : Int).toNat = 1 from rfl, hNₓ, mLet_e, mLet_e, mRd_e, hNₓ, mLet_e, mWr_e] at eₓ
          obtain ⟨g1ₓ, g2ₓ⟩ := (rb_built0 nₓ).1 _ _ _ _ _ _ _ _ upS_s eₓ
          exact ⟨RB.tr (fun qₓ kₓ _ _ cₓ => by rw [upS_n (by omega)]) g1ₓ, g2ₓ⟩
        · rw [if_neg c3ₓ, mIf_neg (fun qₓ => qₓ rfl)] at eₓ; exact stop eₓ
    · rw [if_neg c1ₓ, mIf_pos rfl] at eₓ; exact stop eₓ
  · rw [if_neg ct, mIf_pos rfl] at eₓ; exact stop eₓ
theorem SI_builtM (hₓ : SI σ τ) (eₓ : m_X12_built nₓ 0 xₓ yₓ zₓ τ = some (r'ₓ, τ')) : SI σ τ' := by
  have o1ₓ := hₓ.1.1.2.1
  obtain ⟨N, hNₓ⟩ : ∃ N : Nat, τ 12 1 = (N : Int) := ⟨(τ 12 1).toNat, by omega⟩
  obtain ⟨hkₓ, h1ₓ⟩ := rb_built hNₓ eₓ
  refine ⟨SRel_mw hₓ.1 (StE.fr (fun _ _ _ _ => rfl)) (fun kₓ hk'ₓ => ?_), fun iₓ hiₓ => ?_, fun iₓ hiₓ hmₓ => SRel_mv (hₓ.2.2 iₓ hiₓ hmₓ) (StE.fr (fun _ _ _ _ => rfl)) (fun kₓ _ => hkₓ 21 _ (by decide) (by decide) (by omega))⟩
  · by_cases cₓ : kₓ = 1
    · subst cₓ; rw [h1ₓ, hNₓ]
    · exact hkₓ 12 kₓ (by decide) (by decide) (by omega)
  · rw [hkₓ 22 iₓ (by decide) (by decide) (by omega)]; exact hₓ.2.1 iₓ hiₓ
end
