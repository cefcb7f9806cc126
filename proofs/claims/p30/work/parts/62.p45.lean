/-! strangers, both sides -/
section
variable {σ σ' τ τ' : SS} {rₓ r'ₓ xₓ yₓ zₓ vₓ : Int} {nₓ n'ₓ K N M : Nat} {e0ₓ e1ₓ : Nat → Nat} {ln : Nat → Int}
theorem AI_draw0 : ∀ (nₓ iₓ : Nat) (σ : SS), TKX σ K N e0ₓ e1ₓ ln → AId σ K N e0ₓ e1ₓ ln → σ 38 8 = (M : Int) → (∀ cₓ : Nat, cₓ < iₓ → cₓ < 11 → (cₓ < M ∨ 4 ≤ cₓ) → σ 148 cₓ ≠ 0) → j_X0_refreshAll 145 nₓ 2 [(iₓ : Int)] σ = some (rₓ, σ') → AId σ' K N e0ₓ e1ₓ ln ∧ (∀ cₓ : Nat, cₓ < 11 → (cₓ < M ∨ 4 ≤ cₓ) → σ' 148 cₓ ≠ 0) ∧ ∀ qₓ kₓ : Nat, qₓ ≠ 146 → qₓ ≠ 147 → qₓ ≠ 148 → σ' qₓ kₓ = σ qₓ kₓ := by
  intro nₓ
  induction nₓ with
  | zero => intro iₓ σ _ _ _ _ eₓ; exact none_el eₓ
  | succ nₓ ihₓ =>
    intro iₓ σ hXₓ hAₓ hMₓ hIₓ eₓ
    rw [e_X0_refreshAll_2] at eₓ
    unfold b_X0_refreshAll_2 b_X0_refreshAll_24 b_X0_refreshAll_29 at eₓ
    have ei : (iₓ : Int) + 1 = ((iₓ + 1 : Nat) : Int) := by omega
    by_cases kₓ : (11 : Int) ≤ (iₓ : Int)
    · rw [mIf_pos kₓ, mRet_e] at eₓ
      have hsₓ := (some_el eₓ).2
      rw [hsₓ]
      exact ⟨hAₓ, fun cₓ hcₓ hmₓ => hIₓ cₓ (by omega) hcₓ hmₓ, fun _ _ _ _ _ => rfl⟩
    · have goₓ : (mCall (m_X0_refresh nₓ 145 (iₓ : Int) σ) fun _ s1ₓ => mLet ((iₓ : Int) + 1) fun x1ₓ => j_X0_refreshAll 145 nₓ 2 [x1ₓ] s1ₓ) = some (rₓ, σ') → AId σ' K N e0ₓ e1ₓ ln ∧ (∀ cₓ : Nat, cₓ < 11 → (cₓ < M ∨ 4 ≤ cₓ) → σ' 148 cₓ ≠ 0) ∧ ∀ qₓ kₓ : Nat, qₓ ≠ 146 → qₓ ≠ 147 → qₓ ≠ 148 → σ' qₓ kₓ = σ qₓ kₓ := fun qₓ => by
        obtain ⟨x1ₓ, s1ₓ, d1ₓ, qₓ⟩ := mCall_el qₓ
        obtain ⟨g1ₓ, g2ₓ, -, g4ₓ, g5ₓ⟩ := AI_refresh hXₓ hAₓ (by omega) d1ₓ
        obtain ⟨-, -, g6ₓ⟩ := c_refresh hXₓ.1 hXₓ.2.2.1 hXₓ.2.2.2 (show iₓ < 11 by omega) (hAₓ iₓ (by omega)) d1ₓ
        rw [mLet_e, ei] at qₓ
        obtain ⟨j1ₓ, j2ₓ, j3ₓ⟩ := ihₓ (iₓ + 1) s1ₓ g1ₓ g2ₓ ((g5ₓ 38 8 (by decide) (by decide) (by decide)).trans hMₓ) (fun cₓ hcₓ hc2ₓ hmₓ => by
          by_cases ec : cₓ = iₓ
          · rw [ec]; exact g6ₓ
          · exact g4ₓ cₓ hc2ₓ (hIₓ cₓ (by omega) hc2ₓ hmₓ)) qₓ
        exact ⟨j1ₓ, j2ₓ, fun qₓ kₓ h1ₓ h2ₓ h3ₓ => (j3ₓ qₓ kₓ h1ₓ h2ₓ h3ₓ).trans (g5ₓ qₓ kₓ h1ₓ h2ₓ h3ₓ)⟩
      rw [mIf_neg kₓ, mRd_e, hMₓ] at eₓ
      by_cases k1ₓ : (iₓ : Int) < (M : Int)
      · rw [mIf_pos k1ₓ] at eₓ; exact goₓ eₓ
      · rw [mIf_neg k1ₓ] at eₓ
        by_cases k2ₓ : (iₓ : Int) < 4
        · rw [mIf_pos k2ₓ, mLet_e, ei] at eₓ
          exact ihₓ (iₓ + 1) σ hXₓ hAₓ hMₓ (fun cₓ hcₓ hc2ₓ hmₓ => hIₓ cₓ (by omega) hc2ₓ hmₓ) eₓ
        · rw [mIf_neg k2ₓ] at eₓ; exact goₓ eₓ
def OKw3 (yₓ zₓ vₓ : Int) : Prop := (1 ≤ yₓ ∧ yₓ ≤ 30) ∧ (1 ≤ zₓ ∧ zₓ ≤ 200) ∧ 0 ≤ vₓ ∧ vₓ ≤ 1
theorem c_strG (eₓ : m_X11_strangers nₓ 0 xₓ yₓ zₓ vₓ σ = some (rₓ, σ')) : (((-1 ≤ xₓ ∧ xₓ < σ 0 12) ∧ σ 38 8 ≠ 0 ∧ OKw3 yₓ zₓ vₓ) ∧ ∃ (s4ₓ : SS) (z0ₓ : Int), m_X0_refreshAll nₓ 145 σ = some (z0ₓ, s4ₓ) ∧ m_X8_tellStrangers nₓ 151 xₓ yₓ zₓ vₓ s4ₓ = some (rₓ, σ')) ∨ (¬ ((-1 ≤ xₓ ∧ xₓ < σ 0 12) ∧ σ 38 8 ≠ 0 ∧ OKw3 yₓ zₓ vₓ) ∧ rₓ = -1 ∧ σ' = σ) := by
  unfold m_X11_strangers b_X11_strangers_29 b_X11_strangers_54 m_X11_hasRuleOrNone b_X11_hasRuleOrNone_17 at eₓ
  by_cases c1ₓ : xₓ < -1
  · rw [mIf_pos c1ₓ, mRet_e, mCall_s, mIf_pos rfl, mRet_e] at eₓ
    exact Or.inr ⟨fun qₓ => by have := qₓ.1.1; omega, some_el eₓ⟩
  rw [mIf_neg c1ₓ, mRd_e] at eₓ
  by_cases c2ₓ : σ 0 12 ≤ xₓ
  · rw [mIf_pos c2ₓ, mRet_e, mCall_s, mIf_pos rfl, mRet_e] at eₓ
    exact Or.inr ⟨fun qₓ => by have := qₓ.1.2; omega, some_el eₓ⟩
  rw [mIf_neg c2ₓ, mRet_e, mCall_s, mIf_neg (by decide), mRd_e] at eₓ
  by_cases c3ₓ : σ 38 8 = 0
  · rw [mIf_pos c3ₓ, mRet_e] at eₓ
    exact Or.inr ⟨fun qₓ => qₓ.2.1 c3ₓ, some_el eₓ⟩
  rw [mIf_neg c3ₓ] at eₓ
  by_cases c4ₓ : yₓ < 1
  · rw [mIf_pos c4ₓ, mRet_e] at eₓ
    exact Or.inr ⟨fun qₓ => by have := qₓ.2.2.1.1; omega, some_el eₓ⟩
  rw [mIf_neg c4ₓ] at eₓ
  by_cases c5ₓ : yₓ ≤ 30
  · rw [mIf_pos c5ₓ] at eₓ
    by_cases c6ₓ : zₓ < 1
    · rw [mIf_pos c6ₓ, mRet_e] at eₓ
      exact Or.inr ⟨fun qₓ => by have := qₓ.2.2.2.1.1; omega, some_el eₓ⟩
    rw [mIf_neg c6ₓ] at eₓ
    by_cases c7ₓ : 200 < zₓ
    · rw [mIf_pos c7ₓ, mRet_e] at eₓ
      exact Or.inr ⟨fun qₓ => by have := qₓ.2.2.2.1.2; omega, some_el eₓ⟩
    rw [mIf_neg c7ₓ] at eₓ
    by_cases c8ₓ : vₓ < 0
    · rw [mIf_pos c8ₓ, mRet_e] at eₓ
      exact Or.inr ⟨fun qₓ => by have := qₓ.2.2.2.2.1; omega, some_el eₓ⟩
    rw [mIf_neg c8ₓ] at eₓ
    by_cases c9ₓ : vₓ ≤ 1
    · rw [mIf_pos c9ₓ] at eₓ
      obtain ⟨x1ₓ, s4ₓ, d1ₓ, eₓ⟩ := mCall_el eₓ
      obtain ⟨x2ₓ, s6ₓ, d2ₓ, eₓ⟩ := mCall_el eₓ
      rw [mRet_e] at eₓ
      obtain ⟨a1ₓ, a2ₓ⟩ := some_el eₓ
      exact Or.inl ⟨⟨⟨by omega, by omega⟩, c3ₓ, ⟨by omega, c5ₓ⟩, ⟨by omega, by omega⟩, by omega, c9ₓ⟩, s4ₓ, x1ₓ, d1ₓ, by rw [a1ₓ, a2ₓ]; exact d2ₓ⟩
    · rw [mIf_neg c9ₓ, mRet_e] at eₓ
      exact Or.inr ⟨fun qₓ => c9ₓ qₓ.2.2.2.2.2, some_el eₓ⟩
  · rw [mIf_neg c5ₓ, mRet_e] at eₓ
    exact Or.inr ⟨fun qₓ => c5ₓ qₓ.2.2.1.2, some_el eₓ⟩
theorem r_strH (eₓ : b_X12_strangers_29 (j_X12_strangers 0 nₓ) nₓ 0 xₓ yₓ zₓ vₓ τ = some (rₓ, τ')) : (OKw3 yₓ zₓ vₓ ∧ ∃ (sₓ : SS) (z0ₓ : Int), m_X12_keeps nₓ 0 (upS τ 1000 39 (τ 12 9)) = some (z0ₓ, sₓ) ∧ j_X12_strangers 0 nₓ 88 [xₓ, yₓ, zₓ, vₓ, 0, 0] sₓ = some (rₓ, τ')) ∨ (¬ OKw3 yₓ zₓ vₓ ∧ rₓ = -1 ∧ τ' = τ) := by
  unfold b_X12_strangers_29 b_X12_strangers_64 at eₓ
  rw [mLet_e, r_in, mCall_s] at eₓ
  by_cases c1ₓ : 1 ≤ yₓ ∧ yₓ ≤ 30
  · rw [if_pos c1ₓ, mIf_neg (by decide), mLet_e, r_in, mCall_s] at eₓ
    by_cases c2ₓ : 1 ≤ zₓ ∧ zₓ ≤ 200
    · rw [if_pos c2ₓ, mIf_neg (by decide), mLet_e, r_in, mCall_s] at eₓ
      by_cases c3ₓ : 0 ≤ vₓ ∧ vₓ ≤ 1
      · rw [if_pos c3ₓ, mIf_pos (by decide), mRd_e, mLet_e, mWr_e] at eₓ
        obtain ⟨z0ₓ, sₓ, d1ₓ, eₓ⟩ := mCall_el eₓ
        exact Or.inl ⟨⟨c1ₓ, c2ₓ, c3ₓ⟩, sₓ, z0ₓ, d1ₓ, eₓ⟩
      · rw [if_neg c3ₓ, mIf_neg (fun qₓ => qₓ rfl), mRet_e] at eₓ
        exact Or.inr ⟨fun qₓ => c3ₓ qₓ.2.2, some_el eₓ⟩
    · rw [if_neg c2ₓ, mIf_pos rfl, mRet_e] at eₓ
      exact Or.inr ⟨fun qₓ => c2ₓ qₓ.2.1, some_el eₓ⟩
  · rw [if_neg c1ₓ, mIf_pos rfl, mRet_e] at eₓ
    exact Or.inr ⟨fun qₓ => c1ₓ qₓ.1, some_el eₓ⟩
theorem r_strG (eₓ : m_X12_strangers nₓ 0 xₓ yₓ zₓ vₓ τ = some (rₓ, τ')) : ((0 < τ 12 0 ∧ τ 12 4 ≠ 0 ∧ (xₓ = -1 ∨ (0 ≤ xₓ ∧ xₓ < τ 0 2)) ∧ OKw3 yₓ zₓ vₓ) ∧ ∃ (sₓ : SS) (z0ₓ : Int), m_X12_keeps nₓ 0 (upS τ 1000 39 (τ 12 9)) = some (z0ₓ, sₓ) ∧ j_X12_strangers 0 nₓ 88 [xₓ, yₓ, zₓ, vₓ, 0, 0] sₓ = some (rₓ, τ')) ∨ (¬ (0 < τ 12 0 ∧ τ 12 4 ≠ 0 ∧ (xₓ = -1 ∨ (0 ≤ xₓ ∧ xₓ < τ 0 2)) ∧ OKw3 yₓ zₓ vₓ) ∧ rₓ = -1 ∧ τ' = τ) := by
  unfold m_X12_strangers m_X12_isRule b_X12_isRule_16 b_X12_strangers_64 at eₓ
  rw [r_isTown, mCall_s] at eₓ
  by_cases c1ₓ : 0 < τ 12 0
  · rw [if_pos c1ₓ, mIf_neg (by decide), mRd_e, show τ 12 (4 : Int).toNat = τ 12 4 from rfl] at eₓ
    by_cases c2ₓ : τ 12 4 = 0
    · rw [mIf_pos c2ₓ, mRet_e] at eₓ
      exact Or.inr ⟨fun qₓ => qₓ.2.1 c2ₓ, some_el eₓ⟩
    · rw [mIf_neg c2ₓ] at eₓ
      by_cases c3ₓ : xₓ = -1
      · rw [mIf_pos c3ₓ] at eₓ
        rcases r_strH eₓ with ⟨h1ₓ, h2ₓ⟩ | ⟨h1ₓ, h2ₓ⟩
        · exact Or.inl ⟨⟨c1ₓ, c2ₓ, Or.inl c3ₓ, h1ₓ⟩, h2ₓ⟩
        · exact Or.inr ⟨fun qₓ => h1ₓ qₓ.2.2.2, h2ₓ⟩
      · rw [mIf_neg c3ₓ] at eₓ
        by_cases c4ₓ : xₓ < 0
        · rw [mIf_pos c4ₓ, mRet_e, mCall_s, mIf_pos rfl, mRet_e] at eₓ
          exact Or.inr ⟨fun qₓ => by
            rcases qₓ.2.2.1 with qₓ | qₓ
            · exact c3ₓ qₓ
            · omega, some_el eₓ⟩
        · rw [mIf_neg c4ₓ, mRd_e] at eₓ
          by_cases c5ₓ : τ 0 2 ≤ xₓ
          · rw [mIf_pos c5ₓ, mRet_e, mCall_s, mIf_pos rfl, mRet_e] at eₓ
            exact Or.inr ⟨fun qₓ => by
              rcases qₓ.2.2.1 with qₓ | qₓ
              · exact c3ₓ qₓ
              · omega, some_el eₓ⟩
          · rw [mIf_neg c5ₓ, mRet_e, mCall_s, mIf_neg (by decide)] at eₓ
            rcases r_strH eₓ with ⟨h1ₓ, h2ₓ⟩ | ⟨h1ₓ, h2ₓ⟩
            · exact Or.inl ⟨⟨c1ₓ, c2ₓ, Or.inr ⟨by omega, by omega⟩, h1ₓ⟩, h2ₓ⟩
            · exact Or.inr ⟨fun qₓ => h1ₓ qₓ.2.2.2, h2ₓ⟩
  · rw [if_neg c1ₓ, mIf_pos rfl, mRet_e] at eₓ
    exact Or.inr ⟨fun qₓ => c1ₓ qₓ.1, some_el eₓ⟩
theorem f_strangers (hSₓ : SRel 38 σ (τ 12)) (hGₓ : GD (τ 12)) (hAₓ : AIc σ) (hRₓ : RRs σ τ) (hPₓ : DPs τ) (hWₓ : τ 12 0 = 0 → τ 12 4 = 0) (h27ₓ : ¬ τ 0 27 = 0) (h30ₓ : τ 0 30 = 0) (h9ₓ : σ 149 9 = 0) (hxₓ : σ 38 13 = τ 12 9) (hx0ₓ : 0 ≤ τ 12 9) (hx1ₓ : τ 12 9 ≤ 2147483647) (hcₓ : σ 0 12 = τ 0 2) (hc0ₓ : 0 ≤ τ 0 2) (hc6ₓ : τ 0 2 ≤ 6) (e1'ₓ : m_X11_strangers nₓ 0 xₓ yₓ zₓ vₓ σ = some (rₓ, σ')) (e2'ₓ : m_X12_strangers n'ₓ 0 xₓ yₓ zₓ vₓ τ = some (r'ₓ, τ')) : rₓ = r'ₓ ∧ (∀ kₓ : Nat, kₓ < 296 → τ' 12 kₓ = τ 12 kₓ) ∧ AIc σ' := by
  obtain ⟨⟨g0ₓ, g1ₓ, -⟩, -⟩ := id hGₓ
  have c8ₓ : σ 38 8 = τ 12 4 := hSₓ.2.2.2.1.1
  have r4ₓ := hSₓ.2.2.2.2.1.1
  rcases c_strG e1'ₓ with ⟨⟨⟨a1ₓ, a2ₓ⟩, a3ₓ, a4ₓ⟩, s4ₓ, z1ₓ, d1ₓ, d2ₓ⟩ | ⟨a1ₓ, a2ₓ, a3ₓ⟩
  · rcases r_strG e2'ₓ with ⟨⟨b1ₓ, b2ₓ, b3ₓ, -⟩, sₓ, z2ₓ, p1ₓ, p2ₓ⟩ | ⟨b1ₓ, -⟩
    · obtain ⟨⟨y0ₓ, y1ₓ⟩, ⟨y2ₓ, y3ₓ⟩, y4ₓ, y5ₓ⟩ := a4ₓ
      obtain ⟨K, hKₓ⟩ : ∃ K : Nat, τ 12 0 = (K : Int) := ⟨(τ 12 0).toNat, by omega⟩
      obtain ⟨N, hNₓ⟩ : ∃ N : Nat, τ 12 1 = (N : Int) := ⟨(τ 12 1).toNat, by omega⟩
      obtain ⟨M, hMₓ⟩ : ∃ M : Nat, τ 12 4 = (M : Int) := ⟨(τ 12 4).toNat, by omega⟩
      obtain ⟨Q, hQₓ⟩ : ∃ Q : Nat, yₓ = (Q : Int) := ⟨yₓ.toNat, by omega⟩
      obtain ⟨L, hLₓ⟩ : ∃ L : Nat, zₓ = (L : Int) := ⟨zₓ.toNat, by omega⟩
      have hDₓ : DOK (τ 12) K N M := ⟨hGₓ, hKₓ, hNₓ, hMₓ, by omega⟩
      have hXₓ := TKX_S hSₓ hGₓ
      have hAdₓ := hAₓ _ _ _ _ _ hXₓ
      have eK : (τ 12 0).toNat = K := by omega
      have eN : (τ 12 1).toNat = N := by omega
      rw [eK, eN] at hXₓ hAdₓ
      rw [hQₓ, hLₓ] at d2ₓ p2ₓ
      have d1'ₓ := d1ₓ
      unfold m_X0_refreshAll at d1ₓ
      obtain ⟨j1ₓ, j2ₓ, j3ₓ⟩ := AI_draw0 (M := M) nₓ 0 σ hXₓ hAdₓ (c8ₓ.trans hMₓ) (fun cₓ hcₓ => absurd hcₓ (Nat.not_lt_zero _)) d1ₓ
      have hA4ₓ : AIc s4ₓ := A_all hAₓ (fun qₓ kₓ hqₓ => j3ₓ qₓ kₓ (by omega) (by omega) (by omega)) d1'ₓ
      unfold m_X8_tellStrangers at d2ₓ
      rw [mRd_e, mWr_e] at d2ₓ
      obtain ⟨s5ₓ, hs5ₓ⟩ : ∃ s5ₓ : SS, s5ₓ = upS s4ₓ 151 7 (s4ₓ 38 13) := ⟨_, rfl⟩
      rw [← hs5ₓ] at d2ₓ
      have x4ₓ : s4ₓ 38 13 = τ 12 9 := (j3ₓ 38 13 (by decide) (by decide) (by decide)).trans hxₓ
      have o5ₓ : FCo s4ₓ s5ₓ := fun qₓ kₓ q1ₓ _ _ _ _ => by rw [hs5ₓ, upS_q q1ₓ]
      have fₓ : ∀ qₓ kₓ : Nat, qₓ < 146 → s4ₓ qₓ kₓ = σ qₓ kₓ := fun qₓ kₓ hqₓ => j3ₓ qₓ kₓ (by omega) (by omega) (by omega)
      have hC4ₓ : ENVc (τ 12) K N M s4ₓ := ⟨SRel_mv hSₓ ⟨fun kₓ _ => fₓ _ _ (by decide), fun kₓ _ => fₓ _ _ (by decide), fun kₓ _ => ⟨fₓ _ _ (by decide), fₓ _ _ (by decide)⟩, fun kₓ _ => ⟨fₓ _ _ (by decide), fₓ _ _ (by decide), fₓ _ _ (by decide)⟩, fun kₓ _ => fₓ _ _ (by decide), fun kₓ _ => ⟨fₓ _ _ (by decide), fₓ _ _ (by decide), fₓ _ _ (by decide)⟩, fun kₓ _ => fₓ _ _ (by decide), fun kₓ _ => ⟨fₓ _ _ (by decide), fₓ _ _ (by decide)⟩, fun kₓ _ => ⟨fₓ _ _ (by decide), fₓ _ _ (by decide)⟩⟩ (fun kₓ _ => rfl), fun cₓ hcₓ hmₓ => j1ₓ cₓ hcₓ (j2ₓ cₓ hcₓ hmₓ), (j3ₓ 149 9 (by decide) (by decide) (by decide)).trans h9ₓ⟩
      unfold m_X12_keeps at p1ₓ
      obtain ⟨k1ₓ, k2ₓ⟩ := r_keeps0 (τ0 := upS τ 1000 39 (τ 12 9)) n'ₓ 0 _ (fun _ _ _ => rfl) (fun kₓ hkₓ => absurd hkₓ (Nat.not_lt_zero _)) (by decide) p1ₓ
      have t12ₓ : ∀ kₓ : Nat, kₓ < 296 → sₓ 12 kₓ = τ 12 kₓ := fun kₓ _ => (k1ₓ 12 kₓ (by decide)).trans (upS_q (by decide))
      have t15ₓ : ∀ kₓ : Nat, kₓ < 296 → sₓ 15 kₓ = τ 12 kₓ := fun kₓ hkₓ => (k2ₓ kₓ hkₓ).trans (upS_q (by decide))
      have tq : ∀ qₓ kₓ : Nat, qₓ ≠ 15 → qₓ ≠ 1000 → sₓ qₓ kₓ = τ qₓ kₓ := fun qₓ kₓ q1ₓ q2ₓ => (k1ₓ qₓ kₓ q1ₓ).trans (upS_q q2ₓ)
      have tx : sₓ 1000 39 = τ 12 9 := (k1ₓ 1000 39 (by decide)).trans upS_s
      have rk : RK τ sₓ := ⟨tq 0 2 (by decide) (by decide), fun qₓ kₓ hqₓ => tq qₓ kₓ (by omega) (by omega)⟩
      have hErₓ : ENVr (τ 12) sₓ := ⟨fun kₓ hkₓ => t12ₓ kₓ (by omega), by rw [tq 0 27 (by decide) (by decide)]; exact h27ₓ, (tq 0 30 (by decide) (by decide)).trans h30ₓ⟩
      have hRsₓ : RRs s5ₓ sₓ := RRs_k hRₓ (fun qₓ kₓ q5ₓ hqₓ => (o5ₓ.lt qₓ kₓ q5ₓ hqₓ).trans (fₓ qₓ kₓ (by omega))) rk
      obtain ⟨l1ₓ, l2ₓ, l3ₓ⟩ := f_loop (L := L) (Q := Q) (v1ₓ := xₓ) (yₓ := vₓ) hDₓ (by omega) (by omega) (by omega) (by omega) (by omega) nₓ n'ₓ 0 0 0 0 (τ 12 9) s5ₓ sₓ (ENVc_k hDₓ hC4ₓ o5ₓ) hErₓ hRsₓ (DPs_k hPₓ rk) t12ₓ t15ₓ ⟨a1ₓ, by rw [rk.1]; omega, by omega⟩ (by rw [hs5ₓ, x4ₓ]; exact upS_s) tx hx0ₓ hx1ₓ (Nat.zero_le _) (Int.le_refl _) (Int.le_refl _) (Int.le_refl _) (Int.le_refl _) (by split <;> rfl) d2ₓ p2ₓ
      exact ⟨l1ₓ, l3ₓ, AIc_fr hA4ₓ (fun qₓ kₓ hqₓ => (o5ₓ.tr l2ₓ) qₓ kₓ (by omega) (by omega) (by omega) (by omega) (by omega))⟩
    · have h0ₓ : ¬ τ 12 0 = 0 := fun qₓ => a3ₓ (c8ₓ.trans (hWₓ qₓ))
      exact absurd ⟨by omega, by rw [← c8ₓ]; exact a3ₓ, by omega, a4ₓ⟩ b1ₓ
  · rcases r_strG e2'ₓ with ⟨⟨b1ₓ, b2ₓ, b3ₓ, b4ₓ⟩, -⟩ | ⟨b1ₓ, b2ₓ, b3ₓ⟩
    · exact absurd ⟨⟨by omega, by omega⟩, by rw [c8ₓ]; exact b2ₓ, b4ₓ⟩ a1ₓ
    · exact ⟨by rw [a2ₓ, b2ₓ], fun kₓ _ => by rw [b3ₓ], by rw [a3ₓ]; exact hAₓ⟩
end
