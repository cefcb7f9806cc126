/-! the class's atlas: all hoursₓ, then the first streets -/
def FRd (cₓ : Nat) (σ σ' : SS) : Prop := ∀ qₓ kₓ : Nat, ¬ (qₓ = 146 ∧ 100 * cₓ ≤ kₓ ∧ kₓ < 100 * cₓ + 100) → σ' qₓ kₓ = σ qₓ kₓ
def FRf (cₓ : Nat) (σ σ' : SS) : Prop := ∀ qₓ kₓ : Nat, ¬ (qₓ = 147 ∧ 100 * cₓ ≤ kₓ ∧ kₓ < 100 * cₓ + 100) → σ' qₓ kₓ = σ qₓ kₓ
def PRC (K cₓ mₓ fr to : Nat) (dO : Nat → Nat → Int) (σ : SS) : Prop := ∀ iₓ jₓ : Nat, iₓ < K → jₓ < K → ((iₓ < fr ∨ (iₓ = fr ∧ jₓ < to)) → MX σ cₓ iₓ jₓ ≤ dO iₓ jₓ ∧ MX σ cₓ iₓ jₓ ≤ dO iₓ mₓ + dO mₓ jₓ ∧ (MX σ cₓ iₓ jₓ = dO iₓ jₓ ∨ MX σ cₓ iₓ jₓ = dO iₓ mₓ + dO mₓ jₓ)) ∧ (¬ (iₓ < fr ∨ (iₓ = fr ∧ jₓ < to)) → MX σ cₓ iₓ jₓ = dO iₓ jₓ)
/-- aₓ chart as it is drawn -/
def CHT (σ : SS) (K N : Nat) (e0ₓ e1ₓ : Nat → Nat) (ln : Nat → Int) (cₓ : Nat) : Prop := (∀ gₓ : Nat, gₓ < K → HRS N K e0ₓ e1ₓ ln (sgAt σ cₓ) gₓ 1000000 (fun aₓ => MX σ cₓ aₓ gₓ) ∧ ∀ aₓ : Nat, aₓ < K → MX σ cₓ aₓ gₓ < 1000000 → MX σ cₓ aₓ gₓ ≤ 9216) ∧ ∀ aₓ gₓ : Nat, aₓ < K → gₓ < K → LSS (PFS N e0ₓ e1ₓ ln (sgAt σ cₓ) 1000000 (fun aₓ => MX σ cₓ aₓ gₓ) aₓ) N (σ 147 (100 * cₓ + 10 * aₓ + gₓ))
def FRS (N K : Nat) (e0ₓ e1ₓ : Nat → Nat) (ln sg : Nat → Int) (cₓ s1ₓ : Nat) (dₓ : Nat → Nat → Int) (σ : SS) : Prop := ∀ iₓ jₓ : Nat, iₓ < K → jₓ < K → (σ 147 (100 * cₓ + 10 * iₓ + jₓ) = -1 ∧ ∀ tₓ : Nat, s1ₓ ≤ tₓ → tₓ < N → ¬ PFS N e0ₓ e1ₓ ln sg 1000000 (fun aₓ => dₓ aₓ jₓ) iₓ tₓ) ∨ ∃ tₓ : Nat, σ 147 (100 * cₓ + 10 * iₓ + jₓ) = (tₓ : Int) ∧ s1ₓ ≤ tₓ ∧ tₓ < N ∧ PFS N e0ₓ e1ₓ ln sg 1000000 (fun aₓ => dₓ aₓ jₓ) iₓ tₓ ∧ ∀ t'ₓ : Nat, s1ₓ ≤ t'ₓ → t'ₓ < tₓ → ¬ PFS N e0ₓ e1ₓ ln sg 1000000 (fun aₓ => dₓ aₓ jₓ) iₓ t'ₓ
/-- aₓ street one way, as it is first -/
def QSD (e0ₓ e1ₓ : Nat → Nat) (ln sg : Nat → Int) (dₓ : Nat → Nat → Int) (sₓ sd iₓ jₓ : Nat) : Prop := tb (sg sₓ) sd = true ∧ ∃ bₓ : Nat, ((sd = 0 ∧ e0ₓ sₓ = iₓ ∧ e1ₓ sₓ = bₓ) ∨ (sd = 1 ∧ e1ₓ sₓ = iₓ ∧ e0ₓ sₓ = bₓ)) ∧ dₓ bₓ jₓ < 1000000 ∧ ln sₓ + dₓ bₓ jₓ = dₓ iₓ jₓ
def MID (N K : Nat) (e0ₓ e1ₓ : Nat → Nat) (ln sg : Nat → Int) (cₓ sₓ sd : Nat) (dₓ : Nat → Nat → Int) (σo σ : SS) : Prop := ∀ iₓ jₓ : Nat, iₓ < K → jₓ < K → (σ 147 (100 * cₓ + 10 * iₓ + jₓ) = (sₓ : Int) ∧ PFS N e0ₓ e1ₓ ln sg 1000000 (fun aₓ => dₓ aₓ jₓ) iₓ sₓ) ∨ (σ 147 (100 * cₓ + 10 * iₓ + jₓ) = σo 147 (100 * cₓ + 10 * iₓ + jₓ) ∧ ∀ xₓ : Nat, xₓ < sd → ¬ QSD e0ₓ e1ₓ ln sg dₓ sₓ xₓ iₓ jₓ)
section
variable {σ σ' σ0 σ1 : SS} {rₓ : Int} {ρ : Int × SS} {K N cₓ sₓ aₓ bₓ : Nat} {e0ₓ e1ₓ : Nat → Nat} {ln sg : Nat → Int} {dₓ : Nat → Nat → Int} {nₓ : Nat}
theorem FRd.c (hₓ : FRd cₓ σ σ') : FRc cₓ σ σ' := fun qₓ kₓ hkₓ => hₓ qₓ kₓ (fun eₓ => hkₓ ⟨Or.inl eₓ.1, eₓ.2⟩)
theorem FRf.c (hₓ : FRf cₓ σ σ') : FRc cₓ σ σ' := fun qₓ kₓ hkₓ => hₓ qₓ kₓ (fun eₓ => hkₓ ⟨Or.inr eₓ.1, eₓ.2⟩)
theorem c_hours (hKₓ : K ≤ 10) (hSₓ : STR N K e0ₓ e1ₓ ln) : ∀ nₓ : Nat, (∀ (mₓ : Nat) (σ : SS), mₓ ≤ K → FRd cₓ σ0 σ → FWI N K e0ₓ e1ₓ ln sg mₓ (2 ^ mₓ) (MX σ cₓ) → j_X0_drawHours 145 nₓ 13 [(cₓ : Int), (K : Int), (mₓ : Int)] σ = some (rₓ, σ') → FRd cₓ σ0 σ' ∧ FWI N K e0ₓ e1ₓ ln sg K (2 ^ K) (MX σ' cₓ)) ∧ (∀ (mₓ fr : Nat) (dO : Nat → Nat → Int) (σ : SS), mₓ < K → fr ≤ K → FRd cₓ σ0 σ → FWI N K e0ₓ e1ₓ ln sg mₓ (2 ^ mₓ) dO → PRC K cₓ mₓ fr 0 dO σ → j_X0_drawHours 145 nₓ 21 [(cₓ : Int), (K : Int), (mₓ : Int), (fr : Int)] σ = some (rₓ, σ') → FRd cₓ σ0 σ' ∧ FWI N K e0ₓ e1ₓ ln sg K (2 ^ K) (MX σ' cₓ)) ∧ ∀ (mₓ fr to : Nat) (dO : Nat → Nat → Int) (σ : SS), mₓ < K → fr < K → to ≤ K → FRd cₓ σ0 σ → FWI N K e0ₓ e1ₓ ln sg mₓ (2 ^ mₓ) dO → PRC K cₓ mₓ fr to dO σ → j_X0_drawHours 145 nₓ 44 [(cₓ : Int), (K : Int), (mₓ : Int), (fr : Int), dO fr mₓ, (to : Int)] σ = some (rₓ, σ') → FRd cₓ σ0 σ' ∧ FWI N K e0ₓ e1ₓ ln sg K (2 ^ K) (MX σ' cₓ) := by
  intro nₓ
  induction nₓ with
  | zero => exact ⟨fun _ _ _ _ _ eₓ => none_el eₓ, fun _ _ _ _ _ _ _ _ _ eₓ => none_el eₓ, fun _ _ _ _ _ _ _ _ _ _ _ eₓ => none_el eₓ⟩
  | succ nₓ ihₓ =>
    refine ⟨fun mₓ σ hmₓ hFₓ hIₓ eₓ => ?_, fun mₓ fr dO σ hmₓ hfrₓ hFₓ hIₓ hPₓ eₓ => ?_, fun mₓ fr to dO σ hmₓ hfrₓ htoₓ hFₓ hIₓ hPₓ eₓ => ?_⟩
    · rw [e_X0_drawHours_13] at eₓ
      unfold b_X0_drawHours_13 at eₓ
      by_cases kₓ : (K : Int) ≤ (mₓ : Int)
      · rw [mIf_pos kₓ, mRet_e] at eₓ
        obtain ⟨-, rfl⟩ := some_el eₓ
        have em : mₓ = K := by omega
        subst em
        exact ⟨hFₓ, hIₓ⟩
      · rw [mIf_neg kₓ] at eₓ
        exact ihₓ.2.1 mₓ 0 (MX σ cₓ) σ (by omega) (Nat.zero_le _) hFₓ hIₓ (fun iₓ jₓ _ _ => ⟨fun qₓ => absurd qₓ (by omega), fun _ => rfl⟩) eₓ
    · rw [e_X0_drawHours_21] at eₓ
      unfold b_X0_drawHours_21 at eₓ
      by_cases kₓ : (K : Int) ≤ (fr : Int)
      · rw [mIf_pos kₓ, mLet_e, show (mₓ : Int) + 1 = ((mₓ + 1 : Nat) : Int) by omega] at eₓ
        have hsₓ : FWS K mₓ dO (MX σ cₓ) := fun iₓ jₓ hiₓ hjₓ => (hPₓ iₓ jₓ hiₓ hjₓ).1 (by omega)
        have hNₓ := FW_step hSₓ hIₓ hsₓ hmₓ
        rw [show 2 * 2 ^ mₓ = 2 ^ (mₓ + 1) by rw [Nat.pow_succ, Nat.mul_comm]] at hNₓ
        exact ihₓ.1 (mₓ + 1) σ (by omega) hFₓ hNₓ eₓ
      · rw [mIf_neg kₓ, c_spot, mCall_s, mRd_e, show (((100 * cₓ + 10 * fr + mₓ : Nat) : Int)).toNat = 100 * cₓ + 10 * fr + mₓ by omega, show σ 146 (100 * cₓ + 10 * fr + mₓ) = dO fr mₓ from (hPₓ fr mₓ (by omega) hmₓ).2 (by omega)] at eₓ
        exact ihₓ.2.2 mₓ fr 0 dO σ hmₓ (by omega) (Nat.zero_le _) hFₓ hIₓ hPₓ eₓ
    · obtain ⟨h0ₓ, h1ₓ, -⟩ := id hIₓ
      rw [e_X0_drawHours_44] at eₓ
      unfold b_X0_drawHours_44 b_X0_drawHours_111 b_X0_drawHours_105 at eₓ
      have efr : (fr : Int) + 1 = ((fr + 1 : Nat) : Int) := by omega
      have eto : (to : Int) + 1 = ((to + 1 : Nat) : Int) := by omega
      by_cases kh : (1000000 : Int) ≤ dO fr mₓ
      · rw [mIf_pos kh, mLet_e, efr] at eₓ
        refine ihₓ.2.1 mₓ (fr + 1) dO σ hmₓ (by omega) hFₓ hIₓ (fun iₓ jₓ hiₓ hjₓ => ⟨fun qₓ => ?_, fun qₓ => (hPₓ iₓ jₓ hiₓ hjₓ).2 (by omega)⟩) eₓ
        by_cases pₓ : iₓ < fr ∨ (iₓ = fr ∧ jₓ < to)
        · exact (hPₓ iₓ jₓ hiₓ hjₓ).1 pₓ
        · have ei : iₓ = fr := by omega
          subst ei
          have gₓ := (hPₓ iₓ jₓ hiₓ hjₓ).2 pₓ
          have g1ₓ := h0ₓ iₓ jₓ hiₓ hjₓ
          have g2ₓ := h0ₓ mₓ jₓ hmₓ hjₓ
          exact ⟨by omega, by omega, Or.inl gₓ⟩
      · rw [mIf_neg kh] at eₓ
        by_cases kt : (K : Int) ≤ (to : Int)
        · rw [mIf_pos kt, mLet_e, efr] at eₓ
          exact ihₓ.2.1 mₓ (fr + 1) dO σ hmₓ (by omega) hFₓ hIₓ (fun iₓ jₓ hiₓ hjₓ => ⟨fun qₓ => (hPₓ iₓ jₓ hiₓ hjₓ).1 (by omega), fun qₓ => (hPₓ iₓ jₓ hiₓ hjₓ).2 (by omega)⟩) eₓ
        · have hto2ₓ : to < K := by omega
          have rd1 : σ 146 (100 * cₓ + 10 * mₓ + to) = dO mₓ to := by
            by_cases pₓ : mₓ < fr ∨ (mₓ = fr ∧ to < to)
            · obtain ⟨-, -, gₓ⟩ := (hPₓ mₓ to hmₓ hto2ₓ).1 pₓ
              rw [h1ₓ mₓ hmₓ] at gₓ
              show MX σ cₓ mₓ to = _
              omega
            · exact (hPₓ mₓ to hmₓ hto2ₓ).2 pₓ
          have rd2 : σ 146 (100 * cₓ + 10 * fr + to) = dO fr to := (hPₓ fr to hfrₓ hto2ₓ).2 (by omega)
          rw [mIf_neg kt, c_spot, mCall_s, mRd_e, show (((100 * cₓ + 10 * mₓ + to : Nat) : Int)).toNat = 100 * cₓ + 10 * mₓ + to by omega, rd1, mLet_e, c_spot, mCall_s, mRd_e, show (((100 * cₓ + 10 * fr + to : Nat) : Int)).toNat = 100 * cₓ + 10 * fr + to by omega, rd2] at eₓ
          by_cases kl : dO fr to ≤ dO fr mₓ + dO mₓ to
          · rw [mIf_pos kl, mLet_e, eto] at eₓ
            refine ihₓ.2.2 mₓ fr (to + 1) dO σ hmₓ hfrₓ (by omega) hFₓ hIₓ (fun iₓ jₓ hiₓ hjₓ => ⟨fun qₓ => ?_, fun qₓ => (hPₓ iₓ jₓ hiₓ hjₓ).2 (by omega)⟩) eₓ
            by_cases pₓ : iₓ < fr ∨ (iₓ = fr ∧ jₓ < to)
            · exact (hPₓ iₓ jₓ hiₓ hjₓ).1 pₓ
            · have ei : iₓ = fr := by omega
              have ej : jₓ = to := by omega
              subst ei; subst ej
              have gₓ : MX σ cₓ iₓ jₓ = dO iₓ jₓ := rd2
              exact ⟨by omega, by omega, Or.inl gₓ⟩
          · rw [mIf_neg kl, mWr_e, mLet_e, eto] at eₓ
            have huₓ : FRd cₓ σ (upS σ 146 (100 * cₓ + 10 * fr + to) (dO fr mₓ + dO mₓ to)) := fun qₓ kₓ hkₓ => upS_n (by omega)
            refine ihₓ.2.2 mₓ fr (to + 1) dO _ hmₓ hfrₓ (by omega) (fun qₓ kₓ hkₓ => (huₓ qₓ kₓ hkₓ).trans (hFₓ qₓ kₓ hkₓ)) hIₓ (fun iₓ jₓ hiₓ hjₓ => ?_) eₓ
            rw [mx_up (show iₓ < 10 by omega) (show jₓ < 10 by omega) (show fr < 10 by omega) (show to < 10 by omega)]
            by_cases pₓ : iₓ = fr ∧ jₓ = to
            · rw [if_pos pₓ]
              obtain ⟨rfl, rfl⟩ := pₓ
              exact ⟨fun _ => ⟨by omega, Int.le_refl _, Or.inr rfl⟩, fun qₓ => absurd (Or.inr ⟨rfl, Nat.lt_succ_self jₓ⟩) qₓ⟩
            · rw [if_neg pₓ]
              exact ⟨fun qₓ => (hPₓ iₓ jₓ hiₓ hjₓ).1 (by omega), fun qₓ => (hPₓ iₓ jₓ hiₓ hjₓ).2 (by omega)⟩
theorem c_drawHours (hKₓ : K ≤ 10) (hSₓ : STR N K e0ₓ e1ₓ ln) (h8ₓ : σ 39 8 = (K : Int)) (hIₓ : FWI N K e0ₓ e1ₓ ln sg 0 1 (MX σ cₓ)) (eₓ : m_X0_drawHours nₓ 145 (cₓ : Int) σ = some (rₓ, σ')) : FRd cₓ σ σ' ∧ FWI N K e0ₓ e1ₓ ln sg K (2 ^ K) (MX σ' cₓ) := by
  unfold m_X0_drawHours at eₓ
  rw [mRd_e, h8ₓ] at eₓ
  exact (c_hours hKₓ hSₓ nₓ).1 0 σ (Nat.zero_le _) (fun _ _ _ => rfl) hIₓ eₓ
/-- one street, one way: all goals -/
theorem c_fby0 (hKₓ : K ≤ 10) (h8ₓ : σ0 39 8 = (K : Int)) (hlₓ : σ0 41 sₓ = ln sₓ) (haₓ : aₓ < K) (hbₓ : bₓ < K) : ∀ (nₓ tₓ : Nat) (σ : SS), tₓ ≤ K → FRf cₓ σ0 σ → (∀ iₓ jₓ : Nat, iₓ < K → jₓ < K → (jₓ < tₓ → iₓ = aₓ → MX σ0 cₓ bₓ jₓ < 1000000 → ln sₓ + MX σ0 cₓ bₓ jₓ = MX σ0 cₓ aₓ jₓ → σ 147 (100 * cₓ + 10 * iₓ + jₓ) = (sₓ : Int)) ∧ (¬ (jₓ < tₓ ∧ iₓ = aₓ ∧ MX σ0 cₓ bₓ jₓ < 1000000 ∧ ln sₓ + MX σ0 cₓ bₓ jₓ = MX σ0 cₓ aₓ jₓ) → σ 147 (100 * cₓ + 10 * iₓ + jₓ) = σ0 147 (100 * cₓ + 10 * iₓ + jₓ))) → j_X0_drawFirstBy 145 nₓ 32 [(cₓ : Int), (sₓ : Int), (aₓ : Int), (bₓ : Int), (tₓ : Int)] σ = some (rₓ, σ') → FRf cₓ σ0 σ' ∧ ∀ iₓ jₓ : Nat, iₓ < K → jₓ < K → (iₓ = aₓ → MX σ0 cₓ bₓ jₓ < 1000000 → ln sₓ + MX σ0 cₓ bₓ jₓ = MX σ0 cₓ aₓ jₓ → σ' 147 (100 * cₓ + 10 * iₓ + jₓ) = (sₓ : Int)) ∧ (¬ (iₓ = aₓ ∧ MX σ0 cₓ bₓ jₓ < 1000000 ∧ ln sₓ + MX σ0 cₓ bₓ jₓ = MX σ0 cₓ aₓ jₓ) → σ' 147 (100 * cₓ + 10 * iₓ + jₓ) = σ0 147 (100 * cₓ + 10 * iₓ + jₓ)) := by
  intro nₓ
  induction nₓ with
  | zero => intro tₓ σ _ _ _ eₓ; exact none_el eₓ
  | succ nₓ ihₓ =>
    intro tₓ σ htₓ hFₓ hIₓ eₓ
    rw [e_X0_drawFirstBy_32] at eₓ
    unfold b_X0_drawFirstBy_32 b_X0_drawFirstBy_102 at eₓ
    rw [mRd_e, (hFₓ 39 8 (by omega)).trans h8ₓ] at eₓ
    by_cases kₓ : (K : Int) ≤ (tₓ : Int)
    · rw [mIf_pos kₓ, mRet_e] at eₓ
      obtain ⟨-, rfl⟩ := some_el eₓ
      exact ⟨hFₓ, fun iₓ jₓ hiₓ hjₓ => ⟨(hIₓ iₓ jₓ hiₓ hjₓ).1 (by omega), fun qₓ => (hIₓ iₓ jₓ hiₓ hjₓ).2 (fun wₓ => qₓ wₓ.2)⟩⟩
    · have etₓ : (tₓ : Int) + 1 = ((tₓ + 1 : Nat) : Int) := by omega
      have eb : σ 146 (100 * cₓ + 10 * bₓ + tₓ) = MX σ0 cₓ bₓ tₓ := hFₓ 146 _ (by omega)
      have ea : σ 146 (100 * cₓ + 10 * aₓ + tₓ) = MX σ0 cₓ aₓ tₓ := hFₓ 146 _ (by omega)
      rw [mIf_neg kₓ, c_spot, mCall_s, mRd_e, show (((100 * cₓ + 10 * bₓ + tₓ : Nat) : Int)).toNat = 100 * cₓ + 10 * bₓ + tₓ by omega, eb, c_spot, mCall_s] at eₓ
      have keep : ¬ (MX σ0 cₓ bₓ tₓ < 1000000 ∧ ln sₓ + MX σ0 cₓ bₓ tₓ = MX σ0 cₓ aₓ tₓ) → j_X0_drawFirstBy 145 nₓ 32 [(cₓ : Int), (sₓ : Int), (aₓ : Int), (bₓ : Int), ((tₓ + 1 : Nat) : Int)] σ = some (rₓ, σ') → FRf cₓ σ0 σ' ∧ ∀ iₓ jₓ : Nat, iₓ < K → jₓ < K → (iₓ = aₓ → MX σ0 cₓ bₓ jₓ < 1000000 → ln sₓ + MX σ0 cₓ bₓ jₓ = MX σ0 cₓ aₓ jₓ → σ' 147 (100 * cₓ + 10 * iₓ + jₓ) = (sₓ : Int)) ∧ (¬ (iₓ = aₓ ∧ MX σ0 cₓ bₓ jₓ < 1000000 ∧ ln sₓ + MX σ0 cₓ bₓ jₓ = MX σ0 cₓ aₓ jₓ) → σ' 147 (100 * cₓ + 10 * iₓ + jₓ) = σ0 147 (100 * cₓ + 10 * iₓ + jₓ)) := fun qₓ q2ₓ => by
        refine ihₓ (tₓ + 1) σ (by omega) hFₓ (fun iₓ jₓ hiₓ hjₓ => ⟨fun h1ₓ h2ₓ h3ₓ h4ₓ => ?_, fun hₓ => (hIₓ iₓ jₓ hiₓ hjₓ).2 (fun wₓ => hₓ ⟨by omega, wₓ.2⟩)⟩) q2ₓ
        by_cases ej : jₓ = tₓ
        · subst ej; exact absurd ⟨h3ₓ, h4ₓ⟩ qₓ
        · exact (hIₓ iₓ jₓ hiₓ hjₓ).1 (by omega) h2ₓ h3ₓ h4ₓ
      by_cases k1ₓ : (1000000 : Int) ≤ MX σ0 cₓ bₓ tₓ
      · rw [mIf_pos k1ₓ, mLet_e, etₓ] at eₓ
        exact keep (fun wₓ => by omega) eₓ
      · rw [mIf_neg k1ₓ, mRd_e, show ((sₓ : Nat) : Int).toNat = sₓ by omega, (hFₓ 41 sₓ (by omega)).trans hlₓ, mLet_e, mRd_e, show (((100 * cₓ + 10 * aₓ + tₓ : Nat) : Int)).toNat = 100 * cₓ + 10 * aₓ + tₓ by omega, ea] at eₓ
        by_cases k2ₓ : ln sₓ + MX σ0 cₓ bₓ tₓ = MX σ0 cₓ aₓ tₓ
        · rw [mIf_neg (fun qₓ => qₓ k2ₓ), mWr_e, mLet_e, etₓ] at eₓ
          refine ihₓ (tₓ + 1) _ (by omega) (fun qₓ kₓ hkₓ => (upS_n (by omega)).trans (hFₓ qₓ kₓ hkₓ)) (fun iₓ jₓ hiₓ hjₓ => ?_) eₓ
          by_cases pₓ : iₓ = aₓ ∧ jₓ = tₓ
          · obtain ⟨rfl, rfl⟩ := pₓ
            exact ⟨fun _ _ _ _ => upS_s, fun hₓ => absurd ⟨Nat.lt_succ_self jₓ, rfl, by omega, k2ₓ⟩ hₓ⟩
          · rw [upS_k (by omega)]
            refine ⟨fun h1ₓ h2ₓ h3ₓ h4ₓ => (hIₓ iₓ jₓ hiₓ hjₓ).1 (by omega) h2ₓ h3ₓ h4ₓ, fun hₓ => (hIₓ iₓ jₓ hiₓ hjₓ).2 (fun wₓ => hₓ ⟨by omega, wₓ.2⟩)⟩
        · rw [mIf_pos k2ₓ, mLet_e, etₓ] at eₓ
          exact keep (fun wₓ => k2ₓ wₓ.2) eₓ
theorem c_fstA0 (hKₓ : K ≤ 10) (hSₓ : STR N K e0ₓ e1ₓ ln) (hsgₓ : ∀ sₓ : Nat, sₓ < N → sgAt σ0 cₓ sₓ = sg sₓ) (hTₓ : TKE σ0 K N e0ₓ e1ₓ ln) (hdₓ : dₓ = MX σ0 cₓ) : ∀ nₓ : Nat, (∀ (s1ₓ : Nat) (σ : SS), s1ₓ ≤ N → FRf cₓ σ0 σ → FRS N K e0ₓ e1ₓ ln sg cₓ s1ₓ dₓ σ → j_X0_drawFirst 145 nₓ 15 [(cₓ : Int), (s1ₓ : Int) - 1] σ = some (rₓ, σ') → FRf cₓ σ0 σ' ∧ FRS N K e0ₓ e1ₓ ln sg cₓ 0 dₓ σ') ∧ ∀ (sₓ sd : Nat) (σo σ : SS), sₓ < N → sd ≤ 2 → FRf cₓ σ0 σ → FRS N K e0ₓ e1ₓ ln sg cₓ (sₓ + 1) dₓ σo → MID N K e0ₓ e1ₓ ln sg cₓ sₓ sd dₓ σo σ → j_X0_drawFirst 145 nₓ 30 [(cₓ : Int), (sₓ : Int), sg sₓ, (sd : Int)] σ = some (rₓ, σ') → FRf cₓ σ0 σ' ∧ FRS N K e0ₓ e1ₓ ln sg cₓ 0 dₓ σ' := by
  intro nₓ
  induction nₓ with
  | zero => exact ⟨fun _ _ _ _ _ eₓ => none_el eₓ, fun _ _ _ _ _ _ _ _ _ eₓ => none_el eₓ⟩
  | succ nₓ ihₓ =>
    refine ⟨fun s1ₓ σ hsₓ hFₓ hIₓ eₓ => ?_, fun sₓ sd σo σ hsₓ hsdₓ hFₓ hIₓ hMₓ eₓ => ?_⟩
    · rw [e_X0_drawFirst_15] at eₓ
      unfold b_X0_drawFirst_15 at eₓ
      by_cases kₓ : (s1ₓ : Int) - 1 < 0
      · rw [mIf_pos kₓ, mRet_e] at eₓ
        obtain ⟨-, rfl⟩ := some_el eₓ
        have esₓ : s1ₓ = 0 := by omega
        subst esₓ
        exact ⟨hFₓ, hIₓ⟩
      · obtain ⟨sₓ, rfl⟩ : ∃ sₓ : Nat, s1ₓ = sₓ + 1 := ⟨s1ₓ - 1, by omega⟩
        rw [mIf_neg kₓ, show ((sₓ + 1 : Nat) : Int) - 1 = (sₓ : Int) by omega, c_signOf, mCall_s, sgK_f hFₓ.c, hsgₓ sₓ (by omega)] at eₓ
        exact ihₓ.2 sₓ 0 σ σ (by omega) (by decide) hFₓ hIₓ (fun iₓ jₓ _ _ => Or.inr ⟨rfl, fun xₓ hxₓ => absurd hxₓ (Nat.not_lt_zero _)⟩) eₓ
    · obtain ⟨q1ₓ, q2ₓ, q3ₓ, q4ₓ, q5ₓ⟩ := hSₓ sₓ hsₓ
      rw [e_X0_drawFirst_30] at eₓ
      unfold b_X0_drawFirst_30 b_X0_drawFirst_54 at eₓ
      by_cases kₓ : (2 : Int) ≤ (sd : Int)
      · rw [mIf_pos kₓ, mLet_e, show (sₓ : Int) + -1 = (sₓ : Int) - 1 by omega] at eₓ
        refine ihₓ.1 sₓ σ (by omega) hFₓ (fun iₓ jₓ hiₓ hjₓ => ?_) eₓ
        rcases hMₓ iₓ jₓ hiₓ hjₓ with ⟨m1ₓ, m2ₓ⟩ | ⟨m1ₓ, m2ₓ⟩
        · exact Or.inr ⟨sₓ, m1ₓ, Nat.le_refl _, hsₓ, m2ₓ, fun t'ₓ h1ₓ h2ₓ => absurd h2ₓ (by omega)⟩
        · have noₓ : ¬ PFS N e0ₓ e1ₓ ln sg 1000000 (fun aₓ => dₓ aₓ jₓ) iₓ sₓ := fun ⟨bₓ, b1ₓ, b2ₓ, b3ₓ⟩ => by
            rcases b1ₓ.2 with ⟨w1ₓ, w2ₓ, w3ₓ⟩ | ⟨w1ₓ, w2ₓ, w3ₓ⟩
            · exact m2ₓ 0 (by omega) ⟨w1ₓ, bₓ, Or.inl ⟨rfl, w2ₓ, w3ₓ⟩, b2ₓ, b3ₓ⟩
            · exact m2ₓ 1 (by omega) ⟨w1ₓ, bₓ, Or.inr ⟨rfl, w2ₓ, w3ₓ⟩, b2ₓ, b3ₓ⟩
          rw [m1ₓ]
          rcases hIₓ iₓ jₓ hiₓ hjₓ with ⟨g1ₓ, g2ₓ⟩ | ⟨tₓ, g1ₓ, g2ₓ, g3ₓ, g4ₓ, g5ₓ⟩
          · refine Or.inl ⟨g1ₓ, fun tₓ h1ₓ h2ₓ => ?_⟩
            by_cases etₓ : tₓ = sₓ
            · subst etₓ; exact noₓ
            · exact g2ₓ tₓ (by omega) h2ₓ
          · refine Or.inr ⟨tₓ, g1ₓ, by omega, g3ₓ, g4ₓ, fun t'ₓ h1ₓ h2ₓ => ?_⟩
            by_cases etₓ : t'ₓ = sₓ
            · subst etₓ; exact noₓ
            · exact g5ₓ t'ₓ (by omega) h2ₓ
      · have esd : (sd : Int) + 1 = ((sd + 1 : Nat) : Int) := by omega
        rw [mIf_neg kₓ, mLet_e, mLet_e] at eₓ
        by_cases cb : mAnd (mShr (sg sₓ) (sd : Int)) 1 = 0
        · have hbₓ := (bitQ0 (by omega)).mp cb
          rw [mIf_pos cb, mLet_e, esd] at eₓ
          refine ihₓ.2 sₓ (sd + 1) σo σ hsₓ (by omega) hFₓ hIₓ (fun iₓ jₓ hiₓ hjₓ => ?_) eₓ
          rcases hMₓ iₓ jₓ hiₓ hjₓ with mₓ | ⟨m1ₓ, m2ₓ⟩
          · exact Or.inl mₓ
          · refine Or.inr ⟨m1ₓ, fun xₓ hxₓ => ?_⟩
            by_cases ex : xₓ = sd
            · subst ex
              intro wₓ
              have := wₓ.1
              rw [hbₓ] at this; cases this
            · exact m2ₓ xₓ (by omega)
        · have hbₓ : tb (sg sₓ) sd = true := by
            cases hₓ : tb (sg sₓ) sd with
            | true => rfl
            | false => exact absurd ((bitQ0 (by omega)).mpr hₓ) cb
          have hT1ₓ : TKE σ K N e0ₓ e1ₓ ln := TKE_f hTₓ hFₓ.c
          rw [mIf_neg cb] at eₓ
          obtain ⟨x1ₓ, s4ₓ, d1ₓ, eₓ⟩ := mCall_el eₓ
          rw [mLet_e, esd] at eₓ
          have goₓ : ∀ aₓ bₓ : Nat, ((sd = 0 ∧ e0ₓ sₓ = aₓ ∧ e1ₓ sₓ = bₓ) ∨ (sd = 1 ∧ e1ₓ sₓ = aₓ ∧ e0ₓ sₓ = bₓ)) → j_X0_drawFirstBy 145 nₓ 32 [(cₓ : Int), (sₓ : Int), (aₓ : Int), (bₓ : Int), ((0 : Nat) : Int)] σ = some (x1ₓ, s4ₓ) → FRf cₓ σ0 σ' ∧ FRS N K e0ₓ e1ₓ ln sg cₓ 0 dₓ σ' := fun aₓ bₓ habₓ qₓ => by
            have hab2ₓ : aₓ < K ∧ bₓ < K := by omega
            obtain ⟨w1ₓ, w2ₓ⟩ := c_fby0 (ln := ln) hKₓ hT1ₓ.1 (hT1ₓ.2.2 sₓ hsₓ).2.2 hab2ₓ.1 hab2ₓ.2 nₓ 0 σ (Nat.zero_le _) (fun _ _ _ => rfl) (fun iₓ jₓ _ _ => ⟨fun hₓ => absurd hₓ (Nat.not_lt_zero _), fun _ => rfl⟩) qₓ
            have hMXₓ : ∀ iₓ jₓ : Nat, MX σ cₓ iₓ jₓ = dₓ iₓ jₓ := fun iₓ jₓ => by rw [hdₓ]; exact hFₓ 146 _ (by omega)
            refine ihₓ.2 sₓ (sd + 1) σo s4ₓ hsₓ (by omega) (fun qₓ kₓ hkₓ => (w1ₓ qₓ kₓ hkₓ).trans (hFₓ qₓ kₓ hkₓ)) hIₓ (fun iₓ jₓ hiₓ hjₓ => ?_) eₓ
            obtain ⟨v1ₓ, v2ₓ⟩ := w2ₓ iₓ jₓ hiₓ hjₓ
            rw [hMXₓ, hMXₓ] at v1ₓ v2ₓ
            by_cases pₓ : iₓ = aₓ ∧ dₓ bₓ jₓ < 1000000 ∧ ln sₓ + dₓ bₓ jₓ = dₓ aₓ jₓ
            · refine Or.inl ⟨v1ₓ pₓ.1 pₓ.2.1 pₓ.2.2, bₓ, ⟨hsₓ, ?_⟩, pₓ.2.1, ?_⟩
              · rw [pₓ.1]
                rcases habₓ with ⟨z1ₓ, z2ₓ, z3ₓ⟩ | ⟨z1ₓ, z2ₓ, z3ₓ⟩
                · rw [z1ₓ] at hbₓ; exact Or.inl ⟨hbₓ, z2ₓ, z3ₓ⟩
                · rw [z1ₓ] at hbₓ; exact Or.inr ⟨hbₓ, z2ₓ, z3ₓ⟩
              · show ln sₓ + dₓ bₓ jₓ = dₓ iₓ jₓ
                rw [pₓ.1]; exact pₓ.2.2
            · rw [v2ₓ pₓ]
              rcases hMₓ iₓ jₓ hiₓ hjₓ with mₓ | ⟨m1ₓ, m2ₓ⟩
              · exact Or.inl mₓ
              · refine Or.inr ⟨m1ₓ, fun xₓ hxₓ => ?_⟩
                by_cases ex : xₓ = sd
                · subst ex
                  rintro ⟨-, b'ₓ, h1ₓ, h2ₓ, h3ₓ⟩
                  have e1'ₓ : iₓ = aₓ ∧ b'ₓ = bₓ := by omega
                  obtain ⟨y1ₓ, y2ₓ⟩ := e1'ₓ
                  subst y1ₓ; subst y2ₓ
                  exact pₓ ⟨rfl, h2ₓ, h3ₓ⟩
                · exact m2ₓ xₓ (by omega)
          unfold m_X0_drawFirstBy at d1ₓ
          rw [mLet_e] at d1ₓ
          rcases (show sd = 0 ∨ sd = 1 by omega) with h0ₓ | h0ₓ
          · subst h0ₓ
            rw [show (1 : Int) - ((0 : Nat) : Int) = 1 by decide, (c_acr hT1ₓ hsₓ).2, mCall_s, show m_X7_cornerAcross nₓ 39 (sₓ : Int) ((0 : Nat) : Int) σ = some (((e1ₓ sₓ : Nat) : Int), σ) from (c_acr hT1ₓ hsₓ).1, mCall_s] at d1ₓ
            exact goₓ (e0ₓ sₓ) (e1ₓ sₓ) (Or.inl ⟨rfl, rfl, rfl⟩) d1ₓ
          · subst h0ₓ
            rw [show (1 : Int) - ((1 : Nat) : Int) = 0 by decide, (c_acr hT1ₓ hsₓ).1, mCall_s, show m_X7_cornerAcross nₓ 39 (sₓ : Int) ((1 : Nat) : Int) σ = some (((e0ₓ sₓ : Nat) : Int), σ) from (c_acr hT1ₓ hsₓ).2, mCall_s] at d1ₓ
            exact goₓ (e1ₓ sₓ) (e0ₓ sₓ) (Or.inr ⟨rfl, rfl, rfl⟩) d1ₓ
theorem EDG_c {sg' : Nat → Int} (hₓ : EDG N e0ₓ e1ₓ sg sₓ aₓ bₓ) (hsₓ : ∀ sₓ : Nat, sₓ < N → sg' sₓ = sg sₓ) : EDG N e0ₓ e1ₓ sg' sₓ aₓ bₓ := by
  obtain ⟨h1ₓ, h2ₓ⟩ := hₓ
  refine ⟨h1ₓ, ?_⟩
  rw [hsₓ sₓ h1ₓ]; exact h2ₓ
theorem HRS_c {sg' : Nat → Int} {gₓ : Nat} {X : Int} {fₓ : Nat → Int} (hₓ : HRS N K e0ₓ e1ₓ ln sg gₓ X fₓ) (hsₓ : ∀ sₓ : Nat, sₓ < N → sg' sₓ = sg sₓ) : HRS N K e0ₓ e1ₓ ln sg' gₓ X fₓ := by
  obtain ⟨h1ₓ, h2ₓ, h3ₓ, h4ₓ⟩ := hₓ
  refine ⟨h1ₓ, h2ₓ, fun sₓ aₓ bₓ heₓ => h3ₓ sₓ aₓ bₓ (EDG_c heₓ (fun sₓ hs2ₓ => (hsₓ sₓ hs2ₓ).symm)), fun aₓ haₓ hgₓ hxₓ => ?_⟩
  obtain ⟨sₓ, bₓ, k1ₓ, k2ₓ⟩ := h4ₓ aₓ haₓ hgₓ hxₓ
  exact ⟨sₓ, bₓ, EDG_c k1ₓ hsₓ, k2ₓ⟩
theorem PFS_c {sg' : Nat → Int} {X : Int} {fₓ : Nat → Int} (hsₓ : ∀ sₓ : Nat, sₓ < N → sg' sₓ = sg sₓ) : PFS N e0ₓ e1ₓ ln sg' X fₓ aₓ sₓ ↔ PFS N e0ₓ e1ₓ ln sg X fₓ aₓ sₓ :=
  ⟨fun ⟨bₓ, b1ₓ, b2ₓ⟩ => ⟨bₓ, EDG_c b1ₓ (fun sₓ hs2ₓ => (hsₓ sₓ hs2ₓ).symm), b2ₓ⟩, fun ⟨bₓ, b1ₓ, b2ₓ⟩ => ⟨bₓ, EDG_c b1ₓ hsₓ, b2ₓ⟩⟩
theorem LSS_c {P Q : Nat → Prop} (hₓ : LSS P N rₓ) (hqₓ : ∀ sₓ : Nat, sₓ < N → (Q sₓ ↔ P sₓ)) : LSS Q N rₓ := by
  rcases hₓ with ⟨h1ₓ, h2ₓ⟩ | ⟨sₓ, h1ₓ, h2ₓ, h3ₓ, h4ₓ⟩
  · exact Or.inl ⟨h1ₓ, fun sₓ hsₓ qₓ => h2ₓ sₓ hsₓ ((hqₓ sₓ hsₓ).mp qₓ)⟩
  · exact Or.inr ⟨sₓ, h1ₓ, h2ₓ, (hqₓ sₓ h2ₓ).mpr h3ₓ, fun s'ₓ hs'ₓ qₓ => h4ₓ s'ₓ hs'ₓ ((hqₓ s'ₓ (by omega)).mp qₓ)⟩
theorem HRS_f {gₓ : Nat} {X : Int} {fₓ f'ₓ : Nat → Int} (hSₓ : STR N K e0ₓ e1ₓ ln) (hₓ : HRS N K e0ₓ e1ₓ ln sg gₓ X fₓ) (hgₓ : gₓ < K) (hfₓ : ∀ aₓ : Nat, aₓ < K → f'ₓ aₓ = fₓ aₓ) : HRS N K e0ₓ e1ₓ ln sg gₓ X f'ₓ := by
  obtain ⟨h1ₓ, h2ₓ, h3ₓ, h4ₓ⟩ := hₓ
  refine ⟨(hfₓ gₓ hgₓ).trans h1ₓ, fun aₓ haₓ => by rw [hfₓ aₓ haₓ]; exact h2ₓ aₓ haₓ, fun sₓ aₓ bₓ heₓ => ?_, fun aₓ haₓ hagₓ hxₓ => ?_⟩
  · obtain ⟨q1ₓ, q2ₓ, -⟩ := EDG_K hSₓ heₓ
    rw [hfₓ aₓ q1ₓ, hfₓ bₓ q2ₓ]; exact h3ₓ sₓ aₓ bₓ heₓ
  · rw [hfₓ aₓ haₓ] at hxₓ ⊢
    obtain ⟨sₓ, bₓ, k1ₓ, k2ₓ⟩ := h4ₓ aₓ haₓ hagₓ hxₓ
    exact ⟨sₓ, bₓ, k1ₓ, by rw [hfₓ bₓ (EDG_K hSₓ k1ₓ).2.1]; exact k2ₓ⟩
theorem PFS_f {X : Int} {fₓ f'ₓ : Nat → Int} (hSₓ : STR N K e0ₓ e1ₓ ln) (haₓ : aₓ < K) (hfₓ : ∀ aₓ : Nat, aₓ < K → f'ₓ aₓ = fₓ aₓ) : PFS N e0ₓ e1ₓ ln sg X f'ₓ aₓ sₓ ↔ PFS N e0ₓ e1ₓ ln sg X fₓ aₓ sₓ := by
  constructor
  · rintro ⟨bₓ, b1ₓ, b2ₓ, b3ₓ⟩
    rw [hfₓ bₓ (EDG_K hSₓ b1ₓ).2.1] at b2ₓ b3ₓ
    rw [hfₓ aₓ haₓ] at b3ₓ
    exact ⟨bₓ, b1ₓ, b2ₓ, b3ₓ⟩
  · rintro ⟨bₓ, b1ₓ, b2ₓ, b3ₓ⟩
    exact ⟨bₓ, b1ₓ, by rw [hfₓ bₓ (EDG_K hSₓ b1ₓ).2.1]; exact b2ₓ, by rw [hfₓ bₓ (EDG_K hSₓ b1ₓ).2.1, hfₓ aₓ haₓ]; exact b3ₓ⟩
/-- aₓ chart is kept where what it rests on is -/
theorem CHT_k (hKₓ : K ≤ 10) (hSₓ : STR N K e0ₓ e1ₓ ln) (hₓ : CHT σ K N e0ₓ e1ₓ ln cₓ) (h1ₓ : ∀ kₓ : Nat, 100 * cₓ ≤ kₓ → kₓ < 100 * cₓ + 100 → σ' 146 kₓ = σ 146 kₓ ∧ σ' 147 kₓ = σ 147 kₓ) (hsₓ : ∀ sₓ : Nat, sₓ < N → sgAt σ' cₓ sₓ = sgAt σ cₓ sₓ) : CHT σ' K N e0ₓ e1ₓ ln cₓ := by
  obtain ⟨g1ₓ, g2ₓ⟩ := hₓ
  have mx : ∀ iₓ jₓ : Nat, iₓ < K → jₓ < K → MX σ' cₓ iₓ jₓ = MX σ cₓ iₓ jₓ := fun iₓ jₓ hiₓ hjₓ => (h1ₓ _ (by omega) (by omega)).1
  refine ⟨fun gₓ hgₓ => ⟨HRS_f hSₓ (HRS_c (g1ₓ gₓ hgₓ).1 hsₓ) hgₓ (fun aₓ haₓ => mx aₓ gₓ haₓ hgₓ), fun aₓ haₓ hxₓ => ?_⟩, fun aₓ gₓ haₓ hgₓ => ?_⟩
  · rw [mx aₓ gₓ haₓ hgₓ] at hxₓ ⊢
    exact (g1ₓ gₓ hgₓ).2 aₓ haₓ hxₓ
  · rw [(h1ₓ (100 * cₓ + 10 * aₓ + gₓ) (by omega) (by omega)).2]
    exact LSS_c (g2ₓ aₓ gₓ haₓ hgₓ) (fun sₓ _ => Iff.trans (PFS_f (sg := sgAt σ' cₓ) hSₓ haₓ (fun aₓ haₓ => mx aₓ gₓ haₓ hgₓ)) (PFS_c hsₓ))
theorem CHT_of (hKₓ : K ≤ 10) (hSₓ : STR N K e0ₓ e1ₓ ln) (h1ₓ : FWI N K e0ₓ e1ₓ ln (sgAt σ cₓ) K (2 ^ K) (MX σ cₓ)) (h2ₓ : FRS N K e0ₓ e1ₓ ln (sgAt σ cₓ) cₓ 0 (MX σ cₓ) σ) : CHT σ K N e0ₓ e1ₓ ln cₓ := by
  have hpₓ : 2 ^ K ≤ 1024 := by
    have := Nat.pow_le_pow_right (show 0 < 2 by decide) hKₓ
    omega
  refine ⟨fun gₓ hgₓ => FW_end hSₓ h1ₓ hpₓ hgₓ, fun aₓ gₓ haₓ hgₓ => ?_⟩
  rcases h2ₓ aₓ gₓ haₓ hgₓ with ⟨q1ₓ, q2ₓ⟩ | ⟨tₓ, q1ₓ, q2ₓ, q3ₓ, q4ₓ, q5ₓ⟩
  · exact Or.inl ⟨q1ₓ, fun sₓ hsₓ => q2ₓ sₓ (Nat.zero_le _) hsₓ⟩
  · exact Or.inr ⟨tₓ, q1ₓ, q3ₓ, q4ₓ, fun s'ₓ hs'ₓ => q5ₓ s'ₓ (Nat.zero_le _) hs'ₓ⟩
theorem c_refresh (hKₓ : K ≤ 10) (hSₓ : STR N K e0ₓ e1ₓ ln) (hTₓ : TKE σ K N e0ₓ e1ₓ ln) (hcₓ : cₓ < 11) (hAₓ : σ 148 cₓ ≠ 0 → CHT σ K N e0ₓ e1ₓ ln cₓ) (eₓ : m_X0_refresh nₓ 145 (cₓ : Int) σ = some (rₓ, σ')) : (∀ qₓ kₓ : Nat, ¬ ((qₓ = 146 ∨ qₓ = 147) ∧ 100 * cₓ ≤ kₓ ∧ kₓ < 100 * cₓ + 100) → ¬ (qₓ = 148 ∧ kₓ = cₓ) → σ' qₓ kₓ = σ qₓ kₓ) ∧ CHT σ' K N e0ₓ e1ₓ ln cₓ ∧ σ' 148 cₓ ≠ 0 := by
  unfold m_X0_refresh b_X0_refresh_31 at eₓ
  rw [mRd_e, show ((cₓ : Nat) : Int).toNat = cₓ by omega] at eₓ
  by_cases kₓ : σ 148 cₓ = 0
  · rw [mIf_neg (fun qₓ => qₓ kₓ)] at eₓ
    obtain ⟨x2ₓ, s2ₓ, d2ₓ, eₓ⟩ := mCall_el eₓ
    obtain ⟨x3ₓ, s3ₓ, d3ₓ, eₓ⟩ := mCall_el eₓ
    obtain ⟨x4ₓ, s4ₓ, d4ₓ, eₓ⟩ := mCall_el eₓ
    rw [mWr_e, mRet_e] at eₓ
    obtain ⟨-, rfl⟩ := some_el eₓ
    obtain ⟨u1ₓ, u2ₓ, u3ₓ⟩ := c_drawStreets hKₓ hSₓ hTₓ hcₓ d2ₓ
    have hT2ₓ := TKE_f hTₓ u1ₓ
    obtain ⟨v1ₓ, v2ₓ⟩ := c_drawHours hKₓ hSₓ hT2ₓ.1 u2ₓ d3ₓ
    have hT3ₓ := TKE_f hT2ₓ v1ₓ.c
    have hs3ₓ : ∀ sₓ : Nat, sₓ < N → sgAt s3ₓ cₓ sₓ = sgAt σ cₓ sₓ := fun sₓ _ => (sgK_f v1ₓ.c).trans (sgK_f u1ₓ)
    unfold m_X0_drawFirst at d4ₓ
    rw [mRd_e, hT3ₓ.2.1, mLet_e] at d4ₓ
    have hF0ₓ : FRS N K e0ₓ e1ₓ ln (sgAt σ cₓ) cₓ N (MX s3ₓ cₓ) s3ₓ := fun iₓ jₓ hiₓ hjₓ => Or.inl ⟨(v1ₓ 147 _ (by omega)).trans (u3ₓ iₓ jₓ (by omega) (by omega)), fun tₓ t1ₓ t2ₓ => absurd t2ₓ (by omega)⟩
    obtain ⟨w1ₓ, w2ₓ⟩ := (c_fstA0 (dₓ := MX s3ₓ cₓ) (sg := sgAt σ cₓ) hKₓ hSₓ hs3ₓ hT3ₓ rfl nₓ).1 N s3ₓ (Nat.le_refl _) (fun _ _ _ => rfl) hF0ₓ d4ₓ
    have fr : ∀ qₓ kₓ : Nat, ¬ ((qₓ = 146 ∨ qₓ = 147) ∧ 100 * cₓ ≤ kₓ ∧ kₓ < 100 * cₓ + 100) → s4ₓ qₓ kₓ = σ qₓ kₓ := fun qₓ kₓ hkₓ => (w1ₓ.c qₓ kₓ hkₓ).trans ((v1ₓ.c qₓ kₓ hkₓ).trans (u1ₓ qₓ kₓ hkₓ))
    have mx : MX s4ₓ cₓ = MX s3ₓ cₓ := by
      funext iₓ jₓ
      exact w1ₓ 146 _ (by omega)
    have hs4ₓ : ∀ sₓ : Nat, sₓ < N → sgAt σ cₓ sₓ = sgAt s4ₓ cₓ sₓ := fun sₓ _ => ((sgK_f w1ₓ.c).trans ((sgK_f v1ₓ.c).trans (sgK_f u1ₓ))).symm
    have hC4ₓ : CHT s4ₓ K N e0ₓ e1ₓ ln cₓ := by
      have hpₓ : 2 ^ K ≤ 1024 := by
        have := Nat.pow_le_pow_right (show 0 < 2 by decide) hKₓ
        omega
      refine ⟨fun gₓ hgₓ => ?_, fun aₓ gₓ haₓ hgₓ => ?_⟩
      · rw [mx]
        obtain ⟨z1ₓ, z2ₓ⟩ := FW_end hSₓ v2ₓ hpₓ hgₓ
        exact ⟨HRS_c z1ₓ (fun sₓ hsₓ => (hs4ₓ sₓ hsₓ).symm), z2ₓ⟩
      · rw [mx]
        have hlₓ : LSS (PFS N e0ₓ e1ₓ ln (sgAt σ cₓ) 1000000 (fun aₓ => MX s3ₓ cₓ aₓ gₓ) aₓ) N (s4ₓ 147 (100 * cₓ + 10 * aₓ + gₓ)) := by
          rcases w2ₓ aₓ gₓ haₓ hgₓ with ⟨q1ₓ, q2ₓ⟩ | ⟨tₓ, q1ₓ, q2ₓ, q3ₓ, q4ₓ, q5ₓ⟩
          · exact Or.inl ⟨q1ₓ, fun sₓ hsₓ => q2ₓ sₓ (Nat.zero_le _) hsₓ⟩
          · exact Or.inr ⟨tₓ, q1ₓ, q3ₓ, q4ₓ, fun s'ₓ hs'ₓ => q5ₓ s'ₓ (Nat.zero_le _) hs'ₓ⟩
        exact LSS_c hlₓ (fun sₓ _ => PFS_c (fun sₓ hsₓ => (hs4ₓ sₓ hsₓ).symm))
    refine ⟨fun qₓ kₓ h1ₓ h2ₓ => (upS_n h2ₓ).trans (fr qₓ kₓ h1ₓ), CHT_k hKₓ hSₓ hC4ₓ (fun kₓ k1ₓ k2ₓ => ⟨upS_q (by decide), upS_q (by decide)⟩) (fun sₓ hsₓ => ?_), by rw [upS_s]; decide⟩
    unfold sgAt
    rw [upS_q (by decide), upS_q (by decide)]
  · rw [mIf_pos kₓ, mRet_e] at eₓ
    obtain ⟨-, rfl⟩ := some_el eₓ
    exact ⟨fun _ _ _ _ => rfl, hAₓ kₓ, kₓ⟩
end
