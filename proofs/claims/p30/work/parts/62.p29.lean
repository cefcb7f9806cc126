/-! the atlas keeps what it drew -/
def AId (σ : SS) (K N : Nat) (e0ₓ e1ₓ : Nat → Nat) (ln : Nat → Int) : Prop := ∀ cₓ : Nat, cₓ < 11 → σ 148 cₓ ≠ 0 → CHT σ K N e0ₓ e1ₓ ln cₓ
/-- aₓ town that is in its ranges, told of the class -/
def TKX (σ : SS) (K N : Nat) (e0ₓ e1ₓ : Nat → Nat) (ln : Nat → Int) : Prop := K ≤ 10 ∧ N ≤ 12 ∧ STR N K e0ₓ e1ₓ ln ∧ TKE σ K N e0ₓ e1ₓ ln
section
variable {σ σ' τ τ' : SS} {rₓ r'ₓ xₓ yₓ zₓ vₓ : Int} {K N cₓ sₓ aₓ bₓ gₓ : Nat} {e0ₓ e1ₓ : Nat → Nat} {ln : Nat → Int} {nₓ n'ₓ : Nat} {P : Nat → Int}
theorem TKX_k (hₓ : TKX σ K N e0ₓ e1ₓ ln) (h1ₓ : ∀ qₓ kₓ : Nat, (qₓ = 39 ∧ (kₓ = 8 ∨ kₓ = 9)) ∨ (qₓ = 40 ∧ kₓ < 2 * N) ∨ (qₓ = 41 ∧ kₓ < N) → σ' qₓ kₓ = σ qₓ kₓ) : TKX σ' K N e0ₓ e1ₓ ln := by
  obtain ⟨g1ₓ, g2ₓ, g3ₓ, t1ₓ, t2ₓ, t3ₓ⟩ := hₓ
  exact ⟨g1ₓ, g2ₓ, g3ₓ, (h1ₓ _ _ (by omega)).trans t1ₓ, (h1ₓ _ _ (by omega)).trans t2ₓ, fun sₓ hsₓ => ⟨(h1ₓ _ _ (by omega)).trans (t3ₓ sₓ hsₓ).1, (h1ₓ _ _ (by omega)).trans (t3ₓ sₓ hsₓ).2.1, (h1ₓ _ _ (by omega)).trans (t3ₓ sₓ hsₓ).2.2⟩⟩
/-- the streets as the class's state hasₓ them -/
theorem TKX_S (hₓ : SRel 38 σ P) (hGₓ : GD P) : TKX σ (P 0).toNat (P 1).toNat (fun sₓ => (P (10 + 10 * sₓ)).toNat) (fun sₓ => (P (11 + 10 * sₓ)).toNat) (fun sₓ => P (12 + 10 * sₓ)) := by
  obtain ⟨-, ⟨⟨t8ₓ, t9ₓ, -, -⟩, tS, -⟩, -⟩ := id hₓ
  obtain ⟨⟨o0ₓ, o1ₓ, o2ₓ, o3ₓ⟩, gS, -, -⟩ := id hGₓ
  refine ⟨by omega, by omega, fun sₓ hsₓ => ?_, ?_, ?_, fun sₓ hsₓ => ?_⟩
  · obtain ⟨⟨a1ₓ, a2ₓ, a3ₓ, a4ₓ, a5ₓ⟩, ⟨b1ₓ, b2ₓ⟩, -⟩ := gS sₓ (by omega)
    show (P (10 + 10 * sₓ)).toNat < (P 0).toNat ∧ (P (11 + 10 * sₓ)).toNat < (P 0).toNat ∧ (P (10 + 10 * sₓ)).toNat ≠ (P (11 + 10 * sₓ)).toNat ∧ 1 ≤ P (12 + 10 * sₓ) ∧ P (12 + 10 * sₓ) ≤ 9
    omega
  · rw [show σ 39 8 = P 0 from t8ₓ]; omega
  · rw [show σ 39 9 = P 1 from t9ₓ]; omega
  · obtain ⟨⟨a1ₓ, a2ₓ, a3ₓ, a4ₓ, a5ₓ⟩, ⟨b1ₓ, b2ₓ⟩, -⟩ := gS sₓ (by omega)
    obtain ⟨z1ₓ, z2ₓ, z3ₓ, -⟩ := tS sₓ (by omega)
    show σ 40 (2 * sₓ) = (((P (10 + 10 * sₓ)).toNat : Nat) : Int) ∧ σ 40 (2 * sₓ + 1) = (((P (11 + 10 * sₓ)).toNat : Nat) : Int) ∧ σ 41 sₓ = P (12 + 10 * sₓ)
    rw [show σ 40 (2 * sₓ) = P (10 + 10 * sₓ) from z1ₓ, show σ 40 (2 * sₓ + 1) = P (11 + 10 * sₓ) from z2ₓ, show σ 41 sₓ = P (12 + 10 * sₓ) from z3ₓ]
    exact ⟨by omega, by omega, rfl⟩
theorem AId_k (hXₓ : TKX σ K N e0ₓ e1ₓ ln) (hₓ : AId σ K N e0ₓ e1ₓ ln) (h1ₓ : ∀ cₓ : Nat, cₓ < 11 → σ' 148 cₓ ≠ 0 → σ 148 cₓ ≠ 0 ∧ (∀ kₓ : Nat, 100 * cₓ ≤ kₓ → kₓ < 100 * cₓ + 100 → σ' 146 kₓ = σ 146 kₓ ∧ σ' 147 kₓ = σ 147 kₓ) ∧ ∀ sₓ : Nat, sₓ < N → sgAt σ' cₓ sₓ = sgAt σ cₓ sₓ) : AId σ' K N e0ₓ e1ₓ ln := fun cₓ hcₓ hmₓ => by
  obtain ⟨g1ₓ, g2ₓ, g3ₓ⟩ := h1ₓ cₓ hcₓ hmₓ
  exact CHT_k hXₓ.1 hXₓ.2.2.1 (hₓ cₓ hcₓ g1ₓ) g2ₓ g3ₓ
theorem AId_fr (hXₓ : TKX σ K N e0ₓ e1ₓ ln) (hₓ : AId σ K N e0ₓ e1ₓ ln) (h1ₓ : ∀ qₓ kₓ : Nat, (qₓ = 42 ∧ kₓ < 7 * N) ∨ qₓ = 48 ∨ qₓ = 146 ∨ qₓ = 147 ∨ qₓ = 148 → σ' qₓ kₓ = σ qₓ kₓ) : AId σ' K N e0ₓ e1ₓ ln := by
  refine AId_k hXₓ hₓ (fun cₓ hcₓ hmₓ => ?_)
  rw [h1ₓ 148 cₓ (by omega)] at hmₓ
  refine ⟨hmₓ, fun kₓ _ _ => ⟨h1ₓ 146 kₓ (by omega), h1ₓ 147 kₓ (by omega)⟩, fun sₓ hsₓ => ?_⟩
  unfold sgAt
  by_cases kₓ : cₓ < 4
  · rw [if_pos kₓ, if_pos kₓ]; exact h1ₓ 48 _ (by omega)
  · rw [if_neg kₓ, if_neg kₓ]; exact h1ₓ 42 _ (by omega)
theorem AI_refresh (hXₓ : TKX σ K N e0ₓ e1ₓ ln) (hₓ : AId σ K N e0ₓ e1ₓ ln) (hcₓ : cₓ < 11) (eₓ : m_X0_refresh nₓ 145 (cₓ : Int) σ = some (rₓ, σ')) : TKX σ' K N e0ₓ e1ₓ ln ∧ AId σ' K N e0ₓ e1ₓ ln ∧ CHT σ' K N e0ₓ e1ₓ ln cₓ ∧ (∀ c'ₓ : Nat, c'ₓ < 11 → σ 148 c'ₓ ≠ 0 → σ' 148 c'ₓ ≠ 0) ∧ ∀ qₓ kₓ : Nat, qₓ ≠ 146 → qₓ ≠ 147 → qₓ ≠ 148 → σ' qₓ kₓ = σ qₓ kₓ := by
  obtain ⟨h1ₓ, h2ₓ, h3ₓ⟩ := c_refresh hXₓ.1 hXₓ.2.2.1 hXₓ.2.2.2 hcₓ (hₓ cₓ hcₓ) eₓ
  refine ⟨TKX_k hXₓ (fun qₓ kₓ hqₓ => h1ₓ qₓ kₓ (by omega) (by omega)), fun c'ₓ hc'ₓ hmₓ => ?_, h2ₓ, fun c'ₓ hc'ₓ hmₓ => ?_, fun qₓ kₓ q1ₓ q2ₓ q3ₓ => h1ₓ qₓ kₓ (by omega) (by omega)⟩
  · by_cases ec : c'ₓ = cₓ
    · subst ec; exact h2ₓ
    · rw [h1ₓ 148 c'ₓ (by omega) (by omega)] at hmₓ
      refine CHT_k hXₓ.1 hXₓ.2.2.1 (hₓ c'ₓ hc'ₓ hmₓ) (fun kₓ k1ₓ k2ₓ => ⟨h1ₓ 146 kₓ (by omega) (by omega), h1ₓ 147 kₓ (by omega) (by omega)⟩) (fun sₓ _ => ?_)
      unfold sgAt
      rw [h1ₓ 48 _ (by omega) (by omega), h1ₓ 42 _ (by omega) (by omega)]
  · by_cases ec : c'ₓ = cₓ
    · subst ec; exact h3ₓ
    · rw [h1ₓ 148 c'ₓ (by omega) (by omega)]; exact hmₓ
theorem AI_all0 : ∀ (nₓ iₓ : Nat) (σ : SS), TKX σ K N e0ₓ e1ₓ ln → AId σ K N e0ₓ e1ₓ ln → j_X0_refreshAll 145 nₓ 2 [(iₓ : Int)] σ = some (rₓ, σ') → TKX σ' K N e0ₓ e1ₓ ln ∧ AId σ' K N e0ₓ e1ₓ ln := by
  intro nₓ
  induction nₓ with
  | zero => intro iₓ σ _ _ eₓ; exact none_el eₓ
  | succ nₓ ihₓ =>
    intro iₓ σ hXₓ hAₓ eₓ
    rw [e_X0_refreshAll_2] at eₓ
    unfold b_X0_refreshAll_2 b_X0_refreshAll_24 b_X0_refreshAll_29 at eₓ
    have ei : (iₓ : Int) + 1 = ((iₓ + 1 : Nat) : Int) := by omega
    by_cases kₓ : (11 : Int) ≤ (iₓ : Int)
    · rw [mIf_pos kₓ, mRet_e] at eₓ
      obtain ⟨-, rfl⟩ := some_el eₓ
      exact ⟨hXₓ, hAₓ⟩
    · have goₓ : (mCall (m_X0_refresh nₓ 145 (iₓ : Int) σ) fun _ s1ₓ => mLet ((iₓ : Int) + 1) fun x1ₓ => j_X0_refreshAll 145 nₓ 2 [x1ₓ] s1ₓ) = some (rₓ, σ') → TKX σ' K N e0ₓ e1ₓ ln ∧ AId σ' K N e0ₓ e1ₓ ln := fun qₓ => by
        obtain ⟨x1ₓ, s1ₓ, d1ₓ, qₓ⟩ := mCall_el qₓ
        obtain ⟨g1ₓ, g2ₓ, -⟩ := AI_refresh hXₓ hAₓ (by omega) d1ₓ
        rw [mLet_e, ei] at qₓ
        exact ihₓ (iₓ + 1) s1ₓ g1ₓ g2ₓ qₓ
      rw [mIf_neg kₓ, mRd_e] at eₓ
      by_cases k1ₓ : (iₓ : Int) < σ 38 8
      · rw [mIf_pos k1ₓ] at eₓ; exact goₓ eₓ
      · rw [mIf_neg k1ₓ] at eₓ
        by_cases k2ₓ : (iₓ : Int) < 4
        · rw [mIf_pos k2ₓ, mLet_e, ei] at eₓ; exact ihₓ (iₓ + 1) σ hXₓ hAₓ eₓ
        · rw [mIf_neg k2ₓ] at eₓ; exact goₓ eₓ
theorem AI_all (hXₓ : TKX σ K N e0ₓ e1ₓ ln) (hAₓ : AId σ K N e0ₓ e1ₓ ln) (eₓ : m_X0_refreshAll nₓ 145 σ = some (rₓ, σ')) : TKX σ' K N e0ₓ e1ₓ ln ∧ AId σ' K N e0ₓ e1ₓ ln := by
  unfold m_X0_refreshAll at eₓ
  exact AI_all0 nₓ 0 σ hXₓ hAₓ eₓ
theorem AI_none (hₓ : ∀ cₓ : Nat, cₓ < 11 → σ 148 cₓ = 0) : AId σ K N e0ₓ e1ₓ ln := fun cₓ hcₓ hmₓ => absurd (hₓ cₓ hcₓ) hmₓ
theorem c_forgetA : ∀ (nₓ iₓ : Nat) (σ : SS), (∀ cₓ : Nat, cₓ < iₓ → σ 148 cₓ = 0) → j_X0_forgetAll 145 nₓ 2 [(iₓ : Int)] σ = some (rₓ, σ') → ∀ cₓ : Nat, cₓ < 11 → σ' 148 cₓ = 0 := by
  intro nₓ
  induction nₓ with
  | zero => intro iₓ σ _ eₓ; exact none_el eₓ
  | succ nₓ ihₓ =>
    intro iₓ σ hIₓ eₓ
    rw [e_X0_forgetAll_2] at eₓ
    unfold b_X0_forgetAll_2 at eₓ
    by_cases kₓ : (11 : Int) ≤ (iₓ : Int)
    · rw [mIf_pos kₓ, mRet_e] at eₓ
      obtain ⟨-, rfl⟩ := some_el eₓ
      exact fun cₓ hcₓ => hIₓ cₓ (by omega)
    · rw [mIf_neg kₓ, mWr_e, mLet_e, show ((iₓ : Nat) : Int).toNat = iₓ by omega, show (iₓ : Int) + 1 = ((iₓ + 1 : Nat) : Int) by omega] at eₓ
      exact ihₓ (iₓ + 1) _ (fun cₓ hcₓ => by
        by_cases ec : cₓ = iₓ
        · subst ec; exact upS_s
        · rw [upS_k ec]; exact hIₓ cₓ (by omega)) eₓ
end
