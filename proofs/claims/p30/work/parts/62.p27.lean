/-! the class's atlas: aₓ chart that is drawn -/
def sgAt (σ : SS) (cₓ sₓ : Nat) : Int := if cₓ < 4 then σ 48 (12 * cₓ + sₓ) else σ 42 (7 * sₓ + (cₓ - 4))
def TKE (σ : SS) (K N : Nat) (e0ₓ e1ₓ : Nat → Nat) (ln : Nat → Int) : Prop := σ 39 8 = (K : Int) ∧ σ 39 9 = (N : Int) ∧ ∀ sₓ : Nat, sₓ < N → σ 40 (2 * sₓ) = ((e0ₓ sₓ : Nat) : Int) ∧ σ 40 (2 * sₓ + 1) = ((e1ₓ sₓ : Nat) : Int) ∧ σ 41 sₓ = ln sₓ
def MX (σ : SS) (cₓ iₓ jₓ : Nat) : Int := σ 146 (100 * cₓ + 10 * iₓ + jₓ)
def FRc (cₓ : Nat) (σ σ' : SS) : Prop := ∀ qₓ kₓ : Nat, ¬ ((qₓ = 146 ∨ qₓ = 147) ∧ 100 * cₓ ≤ kₓ ∧ kₓ < 100 * cₓ + 100) → σ' qₓ kₓ = σ qₓ kₓ
def DS0 (N : Nat) (e0ₓ e1ₓ : Nat → Nat) (ln sg : Nat → Int) (σ : SS) (cₓ sₓ sd : Nat) : Prop := (∀ iₓ jₓ : Nat, iₓ < 10 → jₓ < 10 → (0 ≤ MX σ cₓ iₓ jₓ ∧ MX σ cₓ iₓ jₓ ≤ 1000000) ∧ σ 147 (100 * cₓ + 10 * iₓ + jₓ) = -1) ∧ (∀ iₓ : Nat, iₓ < 10 → MX σ cₓ iₓ iₓ = 0) ∧ (∀ tₓ : Nat, (tₓ < sₓ ∨ (tₓ = sₓ ∧ 0 < sd)) → tb (sg tₓ) 0 = true → MX σ cₓ (e0ₓ tₓ) (e1ₓ tₓ) ≤ ln tₓ) ∧ (∀ tₓ : Nat, (tₓ < sₓ ∨ (tₓ = sₓ ∧ 1 < sd)) → tb (sg tₓ) 1 = true → MX σ cₓ (e1ₓ tₓ) (e0ₓ tₓ) ≤ ln tₓ) ∧ ∀ iₓ jₓ : Nat, iₓ < 10 → jₓ < 10 → iₓ ≠ jₓ → MX σ cₓ iₓ jₓ < 1000000 → ∃ tₓ : Nat, EDG N e0ₓ e1ₓ sg tₓ iₓ jₓ ∧ ln tₓ ≤ MX σ cₓ iₓ jₓ
section
variable {σ σ' σ0 : SS} {rₓ : Int} {ρ : Int × SS} {K N cₓ sₓ aₓ bₓ : Nat} {e0ₓ e1ₓ : Nat → Nat} {ln sg : Nat → Int} {nₓ : Nat}
theorem FRc.rf : FRc cₓ σ σ := fun _ _ _ => rfl
theorem FRc.tr {σ1 : SS} (hₓ : FRc cₓ σ σ1) (gₓ : FRc cₓ σ1 σ') : FRc cₓ σ σ' := fun qₓ kₓ hkₓ => (gₓ qₓ kₓ hkₓ).trans (hₓ qₓ kₓ hkₓ)
theorem FRc.up {kₓ : Nat} {vₓ : Int} (h1ₓ : 100 * cₓ ≤ kₓ) (h2ₓ : kₓ < 100 * cₓ + 100) {qₓ : Nat} (hqₓ : qₓ = 146 ∨ qₓ = 147) : FRc cₓ σ (upS σ qₓ kₓ vₓ) := fun q'ₓ k'ₓ hkₓ => upS_n (fun eₓ => hkₓ ⟨by rw [eₓ.1]; exact hqₓ, by omega, by omega⟩)
theorem TKE_f (hₓ : TKE σ K N e0ₓ e1ₓ ln) (hfₓ : FRc cₓ σ σ') : TKE σ' K N e0ₓ e1ₓ ln := by
  obtain ⟨h1ₓ, h2ₓ, h3ₓ⟩ := hₓ
  exact ⟨(hfₓ _ _ (by omega)).trans h1ₓ, (hfₓ _ _ (by omega)).trans h2ₓ, fun sₓ hsₓ => ⟨(hfₓ _ _ (by omega)).trans (h3ₓ sₓ hsₓ).1, (hfₓ _ _ (by omega)).trans (h3ₓ sₓ hsₓ).2.1, (hfₓ _ _ (by omega)).trans (h3ₓ sₓ hsₓ).2.2⟩⟩
theorem sgK_f (hfₓ : FRc cₓ σ σ') {c'ₓ : Nat} : sgAt σ' c'ₓ sₓ = sgAt σ c'ₓ sₓ := by
  unfold sgAt
  rw [hfₓ 48 _ (by omega), hfₓ 42 _ (by omega)]
theorem c_spot : m_X0_spot nₓ (cₓ : Int) (aₓ : Int) (bₓ : Int) σ = some (((100 * cₓ + 10 * aₓ + bₓ : Nat) : Int), σ) := by
  unfold m_X0_spot
  rw [mLet_e, mLet_e, mLet_e, mLet_e, mRet_e, show (cₓ : Int) * 100 + (aₓ : Int) * 10 + (bₓ : Int) = ((100 * cₓ + 10 * aₓ + bₓ : Nat) : Int) by omega]
theorem c_signOf : m_X0_signOf nₓ 145 (cₓ : Int) (sₓ : Int) σ = some (sgAt σ cₓ sₓ, σ) := by
  unfold m_X0_signOf sgAt
  by_cases hₓ : cₓ < 4
  · rw [mIf_neg (show ¬ (4 : Int) ≤ (cₓ : Int) by omega), if_pos hₓ, mLet_e, mLet_e, mRd_e, mRet_e, show ((cₓ : Int) * 12 + (sₓ : Int)).toNat = 12 * cₓ + sₓ by omega]
  · unfold m_X7_signOn
    rw [mIf_pos (show (4 : Int) ≤ (cₓ : Int) by omega), if_neg hₓ, mLet_e, mLet_e, mLet_e, mRd_e, mRet_e, mCall_s, show (7 * (sₓ : Int) + ((cₓ : Int) - 4)).toNat = 7 * sₓ + (cₓ - 4) by omega]; rfl
theorem c_acr (hₓ : TKE σ K N e0ₓ e1ₓ ln) (hsₓ : sₓ < N) : m_X7_cornerAcross nₓ 39 (sₓ : Int) 0 σ = some (((e1ₓ sₓ : Nat) : Int), σ) ∧ m_X7_cornerAcross nₓ 39 (sₓ : Int) 1 σ = some (((e0ₓ sₓ : Nat) : Int), σ) := by
  obtain ⟨h1ₓ, h2ₓ, -⟩ := hₓ.2.2 sₓ hsₓ
  constructor
  · unfold m_X7_cornerAcross
    rw [mLet_e, mLet_e, mLet_e, mRd_e, mRet_e, show (2 * (sₓ : Int) + 1 - 0).toNat = 2 * sₓ + 1 by omega]
    show some (σ 40 (2 * sₓ + 1), σ) = _
    rw [h2ₓ]
  · unfold m_X7_cornerAcross
    rw [mLet_e, mLet_e, mLet_e, mRd_e, mRet_e, show (2 * (sₓ : Int) + 1 - 1).toNat = 2 * sₓ by omega]
    show some (σ 40 (2 * sₓ), σ) = _
    rw [h1ₓ]
theorem mx_up {iₓ jₓ : Nat} {vₓ : Int} (hiₓ : iₓ < 10) (hjₓ : jₓ < 10) (haₓ : aₓ < 10) (hbₓ : bₓ < 10) : MX (upS σ 146 (100 * cₓ + 10 * aₓ + bₓ) vₓ) cₓ iₓ jₓ = if iₓ = aₓ ∧ jₓ = bₓ then vₓ else MX σ cₓ iₓ jₓ := by
  unfold MX
  by_cases eₓ : iₓ = aₓ ∧ jₓ = bₓ
  · rw [if_pos eₓ, eₓ.1, eₓ.2]; exact upS_s
  · rw [if_neg eₓ]; exact upS_k (by omega)
/-- all empty -/
theorem c_empty : ∀ nₓ : Nat, (∀ (fₓ : Nat) (σ : SS), fₓ ≤ 10 → (∀ iₓ jₓ : Nat, iₓ < 10 → jₓ < 10 → iₓ < fₓ → MX σ cₓ iₓ jₓ = (if iₓ = jₓ then 0 else 1000000) ∧ σ 147 (100 * cₓ + 10 * iₓ + jₓ) = -1) → j_X0_drawStreets 145 nₓ 2 [(cₓ : Int), (fₓ : Int)] σ = some ρ → ∃ (n1ₓ : Nat) (σ1 : SS), FRc cₓ σ σ1 ∧ (∀ iₓ jₓ : Nat, iₓ < 10 → jₓ < 10 → MX σ1 cₓ iₓ jₓ = (if iₓ = jₓ then 0 else 1000000) ∧ σ1 147 (100 * cₓ + 10 * iₓ + jₓ) = -1) ∧ j_X0_drawStreets 145 n1ₓ 72 [(cₓ : Int), ((0 : Nat) : Int)] σ1 = some ρ) ∧ ∀ (fₓ tₓ : Nat) (σ : SS), fₓ < 10 → tₓ ≤ 10 → (∀ iₓ jₓ : Nat, iₓ < 10 → jₓ < 10 → 10 * iₓ + jₓ < 10 * fₓ + tₓ → MX σ cₓ iₓ jₓ = (if iₓ = jₓ then 0 else 1000000) ∧ σ 147 (100 * cₓ + 10 * iₓ + jₓ) = -1) → j_X0_drawStreets 145 nₓ 10 [(cₓ : Int), (fₓ : Int), (tₓ : Int)] σ = some ρ → ∃ (n1ₓ : Nat) (σ1 : SS), FRc cₓ σ σ1 ∧ (∀ iₓ jₓ : Nat, iₓ < 10 → jₓ < 10 → MX σ1 cₓ iₓ jₓ = (if iₓ = jₓ then 0 else 1000000) ∧ σ1 147 (100 * cₓ + 10 * iₓ + jₓ) = -1) ∧ j_X0_drawStreets 145 n1ₓ 72 [(cₓ : Int), ((0 : Nat) : Int)] σ1 = some ρ := by
  intro nₓ
  induction nₓ with
  | zero => exact ⟨fun _ _ _ _ eₓ => none_el eₓ, fun _ _ _ _ _ _ eₓ => none_el eₓ⟩
  | succ nₓ ihₓ =>
    refine ⟨fun fₓ σ hfₓ hIₓ eₓ => ?_, fun fₓ tₓ σ hfₓ htₓ hIₓ eₓ => ?_⟩
    · rw [e_X0_drawStreets_2] at eₓ
      unfold b_X0_drawStreets_2 at eₓ
      by_cases kₓ : (10 : Int) ≤ (fₓ : Int)
      · rw [mIf_pos kₓ] at eₓ
        exact ⟨nₓ, σ, FRc.rf, fun iₓ jₓ hiₓ hjₓ => hIₓ iₓ jₓ hiₓ hjₓ (by omega), eₓ⟩
      · rw [mIf_neg kₓ] at eₓ
        exact ihₓ.2 fₓ 0 σ (by omega) (Nat.zero_le _) (fun iₓ jₓ hiₓ hjₓ hₓ => hIₓ iₓ jₓ hiₓ hjₓ (by omega)) eₓ
    · rw [e_X0_drawStreets_10] at eₓ
      unfold b_X0_drawStreets_10 at eₓ
      by_cases kₓ : (10 : Int) ≤ (tₓ : Int)
      · rw [mIf_pos kₓ, mLet_e, show (fₓ : Int) + 1 = ((fₓ + 1 : Nat) : Int) by omega] at eₓ
        exact ihₓ.1 (fₓ + 1) σ (by omega) (fun iₓ jₓ hiₓ hjₓ hₓ => hIₓ iₓ jₓ hiₓ hjₓ (by omega)) eₓ
      · have etₓ : (tₓ : Int) + 1 = ((tₓ + 1 : Nat) : Int) := by omega
        have ek : (((100 * cₓ + 10 * fₓ + tₓ : Nat) : Int)).toNat = 100 * cₓ + 10 * fₓ + tₓ := by omega
        have ht10ₓ : tₓ < 10 := by omega
        have goₓ : ∀ vₓ : Int, vₓ = (if fₓ = tₓ then 0 else 1000000) → j_X0_drawStreets 145 nₓ 10 [(cₓ : Int), (fₓ : Int), ((tₓ + 1 : Nat) : Int)] (upS (upS σ 146 (100 * cₓ + 10 * fₓ + tₓ) vₓ) 147 (100 * cₓ + 10 * fₓ + tₓ) (-1)) = some ρ → ∃ (n1ₓ : Nat) (σ1 : SS), FRc cₓ σ σ1 ∧ (∀ iₓ jₓ : Nat, iₓ < 10 → jₓ < 10 → MX σ1 cₓ iₓ jₓ = (if iₓ = jₓ then 0 else 1000000) ∧ σ1 147 (100 * cₓ + 10 * iₓ + jₓ) = -1) ∧ j_X0_drawStreets 145 n1ₓ 72 [(cₓ : Int), ((0 : Nat) : Int)] σ1 = some ρ := fun vₓ hv qₓ => by
          obtain ⟨n1ₓ, σ1, w1ₓ, w2ₓ, w3ₓ⟩ := ihₓ.2 fₓ (tₓ + 1) _ hfₓ (by omega) (fun iₓ jₓ hiₓ hjₓ hₓ => by
            by_cases e'ₓ : iₓ = fₓ ∧ jₓ = tₓ
            · obtain ⟨rfl, rfl⟩ := e'ₓ
              refine ⟨?_, upS_s⟩
              show upS (upS σ 146 (100 * cₓ + 10 * iₓ + jₓ) vₓ) 147 (100 * cₓ + 10 * iₓ + jₓ) (-1) 146 (100 * cₓ + 10 * iₓ + jₓ) = _
              rw [upS_q (by decide), upS_s]; exact hv
            · obtain ⟨g1ₓ, g2ₓ⟩ := hIₓ iₓ jₓ hiₓ hjₓ (by omega)
              refine ⟨?_, ?_⟩
              · show upS (upS σ 146 (100 * cₓ + 10 * fₓ + tₓ) vₓ) 147 (100 * cₓ + 10 * fₓ + tₓ) (-1) 146 (100 * cₓ + 10 * iₓ + jₓ) = _
                rw [upS_q (by decide), upS_k (by omega)]; exact g1ₓ
              · rw [upS_k (by omega), upS_q (by decide)]; exact g2ₓ) qₓ
          exact ⟨n1ₓ, σ1, (FRc.tr (FRc.up (by omega) (by omega) (Or.inl rfl)) (FRc.up (by omega) (by omega) (Or.inr rfl))).tr w1ₓ, w2ₓ, w3ₓ⟩
        rw [mIf_neg kₓ, c_spot, mCall_s, ek] at eₓ
        by_cases cf : (fₓ : Int) = (tₓ : Int)
        · rw [mIf_neg (fun qₓ => qₓ cf), mWr_e, c_spot, mCall_s, ek, mWr_e, mLet_e, etₓ] at eₓ
          exact goₓ 0 (by rw [if_pos (by omega)]) eₓ
        · rw [mIf_pos cf, mWr_e, c_spot, mCall_s, ek, mWr_e, mLet_e, etₓ] at eₓ
          exact goₓ 1000000 (by rw [if_neg (by omega)]) eₓ
/-- aₓ street one way -/
theorem DS_no {sd : Nat} (hₓ : DS0 N e0ₓ e1ₓ ln sg σ cₓ sₓ sd) (hnₓ : ∀ xₓ : Nat, xₓ = sd → (sd = 0 → tb (sg sₓ) 0 = true → MX σ cₓ (e0ₓ sₓ) (e1ₓ sₓ) ≤ ln sₓ) ∧ (sd = 1 → tb (sg sₓ) 1 = true → MX σ cₓ (e1ₓ sₓ) (e0ₓ sₓ) ≤ ln sₓ)) : DS0 N e0ₓ e1ₓ ln sg σ cₓ sₓ (sd + 1) := by
  obtain ⟨h1ₓ, h2ₓ, h3ₓ, h4ₓ, h5ₓ⟩ := hₓ
  obtain ⟨n0ₓ, n1ₓ⟩ := hnₓ sd rfl
  refine ⟨h1ₓ, h2ₓ, fun tₓ htₓ hbₓ => ?_, fun tₓ htₓ hbₓ => ?_, h5ₓ⟩
  · by_cases kₓ : tₓ < sₓ ∨ (tₓ = sₓ ∧ 0 < sd)
    · exact h3ₓ tₓ kₓ hbₓ
    · have eₓ : tₓ = sₓ := by omega
      subst eₓ
      exact n0ₓ (by omega) hbₓ
  · by_cases kₓ : tₓ < sₓ ∨ (tₓ = sₓ ∧ 1 < sd)
    · exact h4ₓ tₓ kₓ hbₓ
    · have eₓ : tₓ = sₓ := by omega
      subst eₓ
      exact n1ₓ (by omega) hbₓ
theorem DS_set {sd : Nat} (hKₓ : K ≤ 10) (hSₓ : STR N K e0ₓ e1ₓ ln) (hsₓ : sₓ < N) (hₓ : DS0 N e0ₓ e1ₓ ln sg σ cₓ sₓ sd) (heₓ : EDG N e0ₓ e1ₓ sg sₓ aₓ bₓ) (habₓ : (sd = 0 ∧ e0ₓ sₓ = aₓ ∧ e1ₓ sₓ = bₓ) ∨ (sd = 1 ∧ e1ₓ sₓ = aₓ ∧ e0ₓ sₓ = bₓ)) (hlₓ : ln sₓ < MX σ cₓ aₓ bₓ) : DS0 N e0ₓ e1ₓ ln sg (upS σ 146 (100 * cₓ + 10 * aₓ + bₓ) (ln sₓ)) cₓ sₓ (sd + 1) := by
  obtain ⟨q1ₓ, q2ₓ, q3ₓ, q4ₓ, q5ₓ⟩ := EDG_K hSₓ heₓ
  obtain ⟨h1ₓ, h2ₓ, h3ₓ, h4ₓ, h5ₓ⟩ := hₓ
  have mx : ∀ iₓ jₓ : Nat, iₓ < 10 → jₓ < 10 → MX (upS σ 146 (100 * cₓ + 10 * aₓ + bₓ) (ln sₓ)) cₓ iₓ jₓ = if iₓ = aₓ ∧ jₓ = bₓ then ln sₓ else MX σ cₓ iₓ jₓ := fun iₓ jₓ hiₓ hjₓ => mx_up hiₓ hjₓ (by omega) (by omega)
  have le : ∀ iₓ jₓ : Nat, iₓ < 10 → jₓ < 10 → MX (upS σ 146 (100 * cₓ + 10 * aₓ + bₓ) (ln sₓ)) cₓ iₓ jₓ ≤ MX σ cₓ iₓ jₓ := fun iₓ jₓ hiₓ hjₓ => by
    rw [mx iₓ jₓ hiₓ hjₓ]
    by_cases eₓ : iₓ = aₓ ∧ jₓ = bₓ
    · rw [if_pos eₓ, eₓ.1, eₓ.2]; omega
    · rw [if_neg eₓ]; exact Int.le_refl _
  have at_ : MX (upS σ 146 (100 * cₓ + 10 * aₓ + bₓ) (ln sₓ)) cₓ aₓ bₓ = ln sₓ := by rw [mx aₓ bₓ (by omega) (by omega), if_pos ⟨rfl, rfl⟩]
  have hwₓ := h1ₓ aₓ bₓ (by omega) (by omega)
  refine ⟨fun iₓ jₓ hiₓ hjₓ => ⟨?_, ?_⟩, fun iₓ hiₓ => ?_, fun tₓ htₓ hbₓ => ?_, fun tₓ htₓ hbₓ => ?_, fun iₓ jₓ hiₓ hjₓ hijₓ hxₓ => ?_⟩
  · have gₓ := h1ₓ iₓ jₓ hiₓ hjₓ
    rw [mx iₓ jₓ hiₓ hjₓ]
    by_cases eₓ : iₓ = aₓ ∧ jₓ = bₓ
    · rw [if_pos eₓ]; omega
    · rw [if_neg eₓ]; exact gₓ.1
  · rw [upS_q (by decide)]; exact (h1ₓ iₓ jₓ hiₓ hjₓ).2
  · rw [mx iₓ iₓ hiₓ hiₓ, if_neg (fun eₓ => q3ₓ (eₓ.1.symm.trans eₓ.2))]; exact h2ₓ iₓ hiₓ
  · by_cases kₓ : tₓ < sₓ ∨ (tₓ = sₓ ∧ 0 < sd)
    · have gₓ := hSₓ tₓ (by omega)
      exact Int.le_trans (le _ _ (by omega) (by omega)) (h3ₓ tₓ kₓ hbₓ)
    · have eₓ : tₓ = sₓ := by omega
      subst eₓ
      rcases habₓ with ⟨w1ₓ, w2ₓ, w3ₓ⟩ | ⟨w1ₓ, w2ₓ, w3ₓ⟩
      · rw [w2ₓ, w3ₓ, at_]; exact Int.le_refl _
      · exfalso; omega
  · by_cases kₓ : tₓ < sₓ ∨ (tₓ = sₓ ∧ 1 < sd)
    · have gₓ := hSₓ tₓ (by omega)
      exact Int.le_trans (le _ _ (by omega) (by omega)) (h4ₓ tₓ kₓ hbₓ)
    · have eₓ : tₓ = sₓ := by omega
      subst eₓ
      rcases habₓ with ⟨w1ₓ, w2ₓ, w3ₓ⟩ | ⟨w1ₓ, w2ₓ, w3ₓ⟩
      · exfalso; omega
      · rw [w2ₓ, w3ₓ, at_]; exact Int.le_refl _
  · rw [mx iₓ jₓ hiₓ hjₓ] at hxₓ ⊢
    by_cases eₓ : iₓ = aₓ ∧ jₓ = bₓ
    · rw [if_pos eₓ]
      obtain ⟨rfl, rfl⟩ := eₓ
      exact ⟨sₓ, heₓ, Int.le_refl _⟩
    · rw [if_neg eₓ] at hxₓ ⊢
      exact h5ₓ iₓ jₓ hiₓ hjₓ hijₓ hxₓ
theorem c_streets0 (hKₓ : K ≤ 10) (hSₓ : STR N K e0ₓ e1ₓ ln) (hsgₓ : ∀ sₓ : Nat, sₓ < N → sgAt σ0 cₓ sₓ = sg sₓ) : ∀ nₓ : Nat, (∀ (sₓ : Nat) (σ : SS), sₓ ≤ N → FRc cₓ σ0 σ → TKE σ K N e0ₓ e1ₓ ln → DS0 N e0ₓ e1ₓ ln sg σ cₓ sₓ 0 → j_X0_drawStreets 145 nₓ 72 [(cₓ : Int), (sₓ : Int)] σ = some (rₓ, σ') → FRc cₓ σ0 σ' ∧ TKE σ' K N e0ₓ e1ₓ ln ∧ DS0 N e0ₓ e1ₓ ln sg σ' cₓ N 0) ∧ ∀ (sₓ sd : Nat) (σ : SS), sₓ < N → sd ≤ 2 → FRc cₓ σ0 σ → TKE σ K N e0ₓ e1ₓ ln → DS0 N e0ₓ e1ₓ ln sg σ cₓ sₓ sd → j_X0_drawStreets 145 nₓ 91 [(cₓ : Int), (sₓ : Int), sg sₓ, (sd : Int)] σ = some (rₓ, σ') → FRc cₓ σ0 σ' ∧ TKE σ' K N e0ₓ e1ₓ ln ∧ DS0 N e0ₓ e1ₓ ln sg σ' cₓ N 0 := by
  intro nₓ
  induction nₓ with
  | zero => exact ⟨fun _ _ _ _ _ _ eₓ => none_el eₓ, fun _ _ _ _ _ _ _ _ eₓ => none_el eₓ⟩
  | succ nₓ ihₓ =>
    refine ⟨fun sₓ σ hsₓ hFₓ hTₓ hDₓ eₓ => ?_, fun sₓ sd σ hsₓ hsdₓ hFₓ hTₓ hDₓ eₓ => ?_⟩
    · rw [e_X0_drawStreets_72] at eₓ
      unfold b_X0_drawStreets_72 at eₓ
      rw [mRd_e, hTₓ.2.1] at eₓ
      by_cases kₓ : (N : Int) ≤ (sₓ : Int)
      · rw [mIf_pos kₓ, mRet_e] at eₓ
        obtain ⟨-, rfl⟩ := some_el eₓ
        have esₓ : sₓ = N := by omega
        rw [esₓ] at hDₓ
        exact ⟨hFₓ, hTₓ, hDₓ⟩
      · rw [mIf_neg kₓ, c_signOf, mCall_s, sgK_f hFₓ, hsgₓ sₓ (by omega)] at eₓ
        exact ihₓ.2 sₓ 0 σ (by omega) (by decide) hFₓ hTₓ hDₓ eₓ
    · obtain ⟨q1ₓ, q2ₓ, q3ₓ, q4ₓ, q5ₓ⟩ := hSₓ sₓ hsₓ
      obtain ⟨-, -, t3ₓ⟩ := hTₓ.2.2 sₓ hsₓ
      rw [e_X0_drawStreets_91] at eₓ
      unfold b_X0_drawStreets_91 b_X0_drawStreets_158 at eₓ
      by_cases kₓ : (2 : Int) ≤ (sd : Int)
      · rw [mIf_pos kₓ, mLet_e, show (sₓ : Int) + 1 = ((sₓ + 1 : Nat) : Int) by omega] at eₓ
        have ed : sd = 2 := by omega
        subst ed
        obtain ⟨h1ₓ, h2ₓ, h3ₓ, h4ₓ, h5ₓ⟩ := hDₓ
        exact ihₓ.1 (sₓ + 1) σ (by omega) hFₓ hTₓ ⟨h1ₓ, h2ₓ, fun tₓ htₓ hbₓ => h3ₓ tₓ (by omega) hbₓ, fun tₓ htₓ hbₓ => h4ₓ tₓ (by omega) hbₓ, h5ₓ⟩ eₓ
      · have esd : (sd : Int) + 1 = ((sd + 1 : Nat) : Int) := by omega
        have core : ∀ aₓ bₓ : Nat, ((sd = 0 ∧ e0ₓ sₓ = aₓ ∧ e1ₓ sₓ = bₓ) ∨ (sd = 1 ∧ e1ₓ sₓ = aₓ ∧ e0ₓ sₓ = bₓ)) → (mLet (mShr (sg sₓ) (sd : Int)) fun x9ₓ => mLet (mAnd x9ₓ 1) fun x10ₓ => mIf (x10ₓ = 0) (mLet ((sd : Int) + 1) fun x1ₓ => j_X0_drawStreets 145 nₓ 91 [(cₓ : Int), (sₓ : Int), sg sₓ, x1ₓ] σ) (mRd σ 41 ((sₓ : Nat) : Int).toNat fun x11ₓ => mRd σ 146 (((100 * cₓ + 10 * aₓ + bₓ : Nat) : Int)).toNat fun x12ₓ => mIf (x12ₓ ≤ x11ₓ) (mLet ((sd : Int) + 1) fun x1ₓ => j_X0_drawStreets 145 nₓ 91 [(cₓ : Int), (sₓ : Int), sg sₓ, x1ₓ] σ) (mRd σ 41 ((sₓ : Nat) : Int).toNat fun x13ₓ => mWr σ 146 (((100 * cₓ + 10 * aₓ + bₓ : Nat) : Int)).toNat x13ₓ fun s14ₓ => mLet ((sd : Int) + 1) fun x1ₓ => j_X0_drawStreets 145 nₓ 91 [(cₓ : Int), (sₓ : Int), sg sₓ, x1ₓ] s14ₓ))) = some (rₓ, σ') → FRc cₓ σ0 σ' ∧ TKE σ' K N e0ₓ e1ₓ ln ∧ DS0 N e0ₓ e1ₓ ln sg σ' cₓ N 0 := fun aₓ bₓ habₓ qₓ => by
          have ea : aₓ < K ∧ bₓ < K := by omega
          rw [mLet_e, mLet_e] at qₓ
          by_cases cb : mAnd (mShr (sg sₓ) (sd : Int)) 1 = 0
          · have hbₓ := (bitQ0 (by omega)).mp cb
            rw [mIf_pos cb, mLet_e, esd] at qₓ
            refine ihₓ.2 sₓ (sd + 1) σ hsₓ (by omega) hFₓ hTₓ (DS_no hDₓ (fun xₓ _ => ⟨fun e1ₓ e2ₓ => ?_, fun e1ₓ e2ₓ => ?_⟩)) qₓ
            · rw [e1ₓ, e2ₓ] at hbₓ; cases hbₓ
            · rw [e1ₓ, e2ₓ] at hbₓ; cases hbₓ
          · have hbₓ : tb (sg sₓ) sd = true := by
              cases hₓ : tb (sg sₓ) sd with
              | true => rfl
              | false => exact absurd ((bitQ0 (by omega)).mpr hₓ) cb
            have heₓ : EDG N e0ₓ e1ₓ sg sₓ aₓ bₓ := by
              rcases habₓ with ⟨w1ₓ, w2ₓ, w3ₓ⟩ | ⟨w1ₓ, w2ₓ, w3ₓ⟩
              · rw [w1ₓ] at hbₓ; exact ⟨hsₓ, Or.inl ⟨hbₓ, w2ₓ, w3ₓ⟩⟩
              · rw [w1ₓ] at hbₓ; exact ⟨hsₓ, Or.inr ⟨hbₓ, w2ₓ, w3ₓ⟩⟩
            rw [mIf_neg cb, mRd_e, show ((sₓ : Nat) : Int).toNat = sₓ by omega, t3ₓ, mRd_e, show (((100 * cₓ + 10 * aₓ + bₓ : Nat) : Int)).toNat = 100 * cₓ + 10 * aₓ + bₓ by omega] at qₓ
            by_cases cl : σ 146 (100 * cₓ + 10 * aₓ + bₓ) ≤ ln sₓ
            · rw [mIf_pos cl, mLet_e, esd] at qₓ
              refine ihₓ.2 sₓ (sd + 1) σ hsₓ (by omega) hFₓ hTₓ (DS_no hDₓ (fun xₓ _ => ⟨fun e1ₓ _ => ?_, fun e1ₓ _ => ?_⟩)) qₓ
              · rcases habₓ with ⟨w1ₓ, w2ₓ, w3ₓ⟩ | ⟨w1ₓ, w2ₓ, w3ₓ⟩
                · rw [w2ₓ, w3ₓ]; exact cl
                · exfalso; omega
              · rcases habₓ with ⟨w1ₓ, w2ₓ, w3ₓ⟩ | ⟨w1ₓ, w2ₓ, w3ₓ⟩
                · exfalso; omega
                · rw [w2ₓ, w3ₓ]; exact cl
            · rw [mIf_neg cl, mRd_e, t3ₓ, mWr_e, mLet_e, esd] at qₓ
              have huₓ : FRc cₓ σ (upS σ 146 (100 * cₓ + 10 * aₓ + bₓ) (ln sₓ)) := FRc.up (by omega) (by omega) (Or.inl rfl)
              exact ihₓ.2 sₓ (sd + 1) _ hsₓ (by omega) (hFₓ.tr huₓ) (TKE_f hTₓ huₓ) (DS_set hKₓ hSₓ hsₓ hDₓ heₓ habₓ (show ln sₓ < σ 146 (100 * cₓ + 10 * aₓ + bₓ) by omega)) qₓ
        rw [mIf_neg kₓ, mLet_e] at eₓ
        rcases (show sd = 0 ∨ sd = 1 by omega) with h0ₓ | h0ₓ
        · subst h0ₓ
          rw [show (1 : Int) - ((0 : Nat) : Int) = 1 by decide, (c_acr hTₓ hsₓ).2, mCall_s, show m_X7_cornerAcross nₓ 39 (sₓ : Int) ((0 : Nat) : Int) σ = some (((e1ₓ sₓ : Nat) : Int), σ) from (c_acr hTₓ hsₓ).1, mCall_s, c_spot, mCall_s] at eₓ
          exact core (e0ₓ sₓ) (e1ₓ sₓ) (Or.inl ⟨rfl, rfl, rfl⟩) eₓ
        · subst h0ₓ
          rw [show (1 : Int) - ((1 : Nat) : Int) = 0 by decide, (c_acr hTₓ hsₓ).1, mCall_s, show m_X7_cornerAcross nₓ 39 (sₓ : Int) ((1 : Nat) : Int) σ = some (((e0ₓ sₓ : Nat) : Int), σ) from (c_acr hTₓ hsₓ).2, mCall_s, c_spot, mCall_s] at eₓ
          exact core (e1ₓ sₓ) (e0ₓ sₓ) (Or.inr ⟨rfl, rfl, rfl⟩) eₓ
theorem c_drawStreets (hKₓ : K ≤ 10) (hSₓ : STR N K e0ₓ e1ₓ ln) (hTₓ : TKE σ K N e0ₓ e1ₓ ln) (hcₓ : cₓ < 11) (eₓ : m_X0_drawStreets nₓ 145 (cₓ : Int) σ = some (rₓ, σ')) : FRc cₓ σ σ' ∧ FWI N K e0ₓ e1ₓ ln (sgAt σ cₓ) 0 1 (MX σ' cₓ) ∧ ∀ iₓ jₓ : Nat, iₓ < 10 → jₓ < 10 → σ' 147 (100 * cₓ + 10 * iₓ + jₓ) = -1 := by
  unfold m_X0_drawStreets at eₓ
  obtain ⟨n1ₓ, σ1, w1ₓ, w2ₓ, w3ₓ⟩ := (c_empty (cₓ := cₓ) nₓ).1 0 σ (by decide) (fun iₓ jₓ _ _ hₓ => absurd hₓ (Nat.not_lt_zero _)) eₓ
  have hDₓ : DS0 N e0ₓ e1ₓ ln (sgAt σ cₓ) σ1 cₓ 0 0 := by
    refine ⟨fun iₓ jₓ hiₓ hjₓ => ⟨?_, (w2ₓ iₓ jₓ hiₓ hjₓ).2⟩, fun iₓ hiₓ => ?_, fun tₓ htₓ => absurd htₓ (by omega), fun tₓ htₓ => absurd htₓ (by omega), fun iₓ jₓ hiₓ hjₓ hijₓ hxₓ => ?_⟩
    · rw [(w2ₓ iₓ jₓ hiₓ hjₓ).1]
      by_cases kₓ : iₓ = jₓ
      · rw [if_pos kₓ]; decide
      · rw [if_neg kₓ]; decide
    · rw [(w2ₓ iₓ iₓ hiₓ hiₓ).1, if_pos rfl]
    · rw [(w2ₓ iₓ jₓ hiₓ hjₓ).1, if_neg hijₓ] at hxₓ
      exact absurd hxₓ (by decide)
  obtain ⟨v1ₓ, v2ₓ, h1ₓ, h2ₓ, h3ₓ, h4ₓ, h5ₓ⟩ := (c_streets0 (sg := sgAt σ cₓ) (σ0 := σ) hKₓ hSₓ (fun _ _ => rfl) n1ₓ).1 0 σ1 (Nat.zero_le _) w1ₓ (TKE_f hTₓ w1ₓ) hDₓ w3ₓ
  refine ⟨v1ₓ, ⟨fun iₓ jₓ hiₓ hjₓ => (h1ₓ iₓ jₓ (by omega) (by omega)).1, fun iₓ hiₓ => h2ₓ iₓ (by omega), fun kₓ iₓ jₓ hkₓ => absurd hkₓ (Nat.not_lt_zero _), fun sₓ aₓ bₓ heₓ => ?_, fun iₓ jₓ hiₓ hjₓ hijₓ hxₓ => ?_, fun iₓ jₓ hiₓ hjₓ hxₓ => ?_⟩, fun iₓ jₓ hiₓ hjₓ => (h1ₓ iₓ jₓ hiₓ hjₓ).2⟩
  · obtain ⟨hsₓ, qₓ⟩ := heₓ
    rcases qₓ with ⟨q1ₓ, q2ₓ, q3ₓ⟩ | ⟨q1ₓ, q2ₓ, q3ₓ⟩
    · rw [← q2ₓ, ← q3ₓ]; exact h3ₓ sₓ (Or.inl hsₓ) q1ₓ
    · rw [← q2ₓ, ← q3ₓ]; exact h4ₓ sₓ (Or.inl hsₓ) q1ₓ
  · obtain ⟨tₓ, t1ₓ, t2ₓ⟩ := h5ₓ iₓ jₓ (by omega) (by omega) hijₓ hxₓ
    exact ⟨tₓ, jₓ, t1ₓ, by rw [h2ₓ jₓ (by omega)]; omega⟩
  · by_cases kₓ : iₓ = jₓ
    · subst kₓ
      rw [h2ₓ iₓ (by omega)]; decide
    · obtain ⟨tₓ, t1ₓ, t2ₓ⟩ := h5ₓ iₓ jₓ (by omega) (by omega) kₓ hxₓ
      have q5ₓ := (EDG_K hSₓ t1ₓ).2.2.2
      have h3'ₓ := h3ₓ tₓ
      have h4'ₓ := h4ₓ tₓ
      obtain ⟨htₓ, qₓ⟩ := t1ₓ
      have q9ₓ := (hSₓ tₓ htₓ).2.2.2
      have hleₓ : MX σ' cₓ iₓ jₓ ≤ ln tₓ := by
        rcases qₓ with ⟨w1ₓ, w2ₓ, w3ₓ⟩ | ⟨w1ₓ, w2ₓ, w3ₓ⟩
        · rw [← w2ₓ, ← w3ₓ]; exact h3ₓ tₓ (Or.inl htₓ) w1ₓ
        · rw [← w2ₓ, ← w3ₓ]; exact h4ₓ tₓ (Or.inl htₓ) w1ₓ
      omega
end
