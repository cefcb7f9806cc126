/-! aₓ street of the state, as it is asked -/
section
variable {σ : SS} {P : Nat → Int} {sₓ K : Nat}
theorem COs_S (hₓ : SRel 38 σ P) (hGₓ : GD P) (hsₓ : (sₓ : Int) < P 1) : COs P σ sₓ := by
  obtain ⟨hOₓ, ⟨hT0ₓ, hTSₓ, hTZₓ⟩, hZₓ, -⟩ := hₓ
  obtain ⟨⟨g0ₓ, g1ₓ, g2ₓ, g3ₓ⟩, gS, gZ, gL⟩ := hGₓ
  exact ⟨hTSₓ sₓ hsₓ, hZₓ sₓ hsₓ, fun kₓ hkₓ => (hTZₓ kₓ hkₓ).2, g2ₓ, g3ₓ, fun jₓ hjₓ => (gS sₓ hsₓ).2.2 jₓ hjₓ, fun kₓ hkₓ => (gL kₓ hkₓ).2.2⟩
theorem StR_G (hGₓ : GD P) (hKₓ : P 0 = (K : Int)) (hsₓ : (sₓ : Int) < P 1) : StR P K sₓ := by
  obtain ⟨⟨g0ₓ, g1ₓ, g2ₓ, g3ₓ⟩, gS, gZ, gL⟩ := hGₓ
  obtain ⟨⟨a1ₓ, a2ₓ, a3ₓ, a4ₓ, a5ₓ⟩, ⟨b1ₓ, b2ₓ⟩, -⟩ := gS sₓ hsₓ
  exact ⟨a1ₓ, by omega, a3ₓ, by omega, a5ₓ, by omega⟩
end
section
variable {σ τ : SS} {zₓ : Int} {nₓ : Nat}
theorem c_askedH : m_X11_isAskedHour nₓ zₓ σ = some (if 0 ≤ zₓ ∧ zₓ ≤ 99999 then 1 else 0, σ) := by
  unfold m_X11_isAskedHour b_X11_isAskedHour_15
  by_cases c1ₓ : zₓ < 0
  · rw [mIf_pos c1ₓ, if_neg (by omega)]; rfl
  · rw [mIf_neg c1ₓ]
    by_cases c2ₓ : 99999 < zₓ
    · rw [mIf_pos c2ₓ, if_neg (by omega)]; rfl
    · rw [mIf_neg c2ₓ, if_pos (by omega)]; rfl
theorem r_isHourE : m_X12_isHour nₓ zₓ τ = some (if 0 ≤ zₓ ∧ zₓ ≤ 99999 then 1 else 0, τ) := by
  unfold m_X12_isHour b_X12_isHour_14
  by_cases c1ₓ : zₓ < 0
  · rw [mIf_pos c1ₓ, if_neg (by omega)]; rfl
  · rw [mIf_neg c1ₓ]
    by_cases c2ₓ : 99999 < zₓ
    · rw [mIf_pos c2ₓ, if_neg (by omega)]; rfl
    · rw [mIf_neg c2ₓ, if_pos (by omega)]; rfl
end
/-! what may be asked of ways, the reference -/
section
variable {τ : SS} {xₓ yₓ zₓ : Int} {nₓ : Nat}
theorem r_canLook : m_X12_canLook nₓ 0 xₓ yₓ zₓ τ = some (if (0 ≤ xₓ ∧ xₓ < τ 12 0) ∧ (0 ≤ yₓ ∧ yₓ < τ 12 0) ∧ 0 ≤ zₓ ∧ zₓ ≤ 99999 then 1 else 0, τ) := by
  unfold m_X12_canLook b_X12_canLook_27
  rw [r_isCorner, mCall_s]
  by_cases c1ₓ : 0 ≤ xₓ ∧ xₓ < τ 12 0
  · rw [if_pos c1ₓ, mIf_neg (by decide), r_isCorner, mCall_s]
    by_cases c2ₓ : 0 ≤ yₓ ∧ yₓ < τ 12 0
    · rw [if_pos c2ₓ, mIf_neg (by decide), r_isHourE, mCall_s]
      by_cases c3ₓ : 0 ≤ zₓ ∧ zₓ ≤ 99999
      · rw [if_pos c3ₓ, mIf_neg (by decide), if_pos ⟨c1ₓ, c2ₓ, c3ₓ⟩]; rfl
      · rw [if_neg c3ₓ, mIf_pos rfl, if_neg (fun qₓ => c3ₓ qₓ.2.2)]; rfl
    · rw [if_neg c2ₓ, mIf_pos rfl, if_neg (fun qₓ => c2ₓ qₓ.2.1)]; rfl
  · rw [if_neg c1ₓ, mIf_pos rfl, if_neg (fun qₓ => c1ₓ qₓ.1)]; rfl
end
/-! soonest compared -/
section
variable {σ σ' τ τ' : SS} {rₓ r'ₓ xₓ yₓ zₓ : Int} {P : Nat → Int} {nₓ n'ₓ sₓ K : Nat}
/-- the same answer; what is written lies in the search's own places -/
theorem f_soonest (hₓ : SRel 38 σ (τ 12)) (hGₓ : GD (τ 12)) (hsₓ : ¬ τ 0 27 = 0) (e1ₓ : m_X11_soonest nₓ 0 xₓ yₓ zₓ σ = some (rₓ, σ')) (e2ₓ : m_X12_soonest n'ₓ 0 xₓ yₓ zₓ τ = some (r'ₓ, τ')) : rₓ = r'ₓ ∧ (∀ qₓ kₓ : Nat, qₓ ≠ 156 → qₓ ≠ 157 → σ' qₓ kₓ = σ qₓ kₓ) ∧ ∀ qₓ kₓ : Nat, qₓ ≠ 18 → qₓ ≠ 19 → τ' qₓ kₓ = τ qₓ kₓ := by
  have g0ₓ := hGₓ.1.1
  have g1ₓ := hGₓ.1.2.1
  have rf1 : ∀ qₓ kₓ : Nat, qₓ ≠ 156 → qₓ ≠ 157 → σ qₓ kₓ = σ qₓ kₓ := fun _ _ _ _ => rfl
  have rf2 : ∀ qₓ kₓ : Nat, qₓ ≠ 18 → qₓ ≠ 19 → τ qₓ kₓ = τ qₓ kₓ := fun _ _ _ _ => rfl
  unfold m_X11_soonest b_X11_soonest_23 at e1ₓ
  unfold m_X12_soonest at e2ₓ
  rw [c_hasCorner hₓ, mCall_s] at e1ₓ
  rw [r_canLook, mCall_s] at e2ₓ
  by_cases c1ₓ : 0 ≤ xₓ ∧ xₓ < τ 12 0
  · rw [if_pos c1ₓ, mIf_neg (by decide), c_hasCorner hₓ, mCall_s] at e1ₓ
    by_cases c2ₓ : 0 ≤ yₓ ∧ yₓ < τ 12 0
    · rw [if_pos c2ₓ, mIf_neg (by decide), c_askedH, mCall_s] at e1ₓ
      by_cases c3ₓ : 0 ≤ zₓ ∧ zₓ ≤ 99999
      · obtain ⟨bₓ, hbₓ⟩ : ∃ bₓ : Nat, xₓ = (bₓ : Int) := ⟨xₓ.toNat, by omega⟩
        obtain ⟨to, htoₓ⟩ : ∃ to : Nat, yₓ = (to : Int) := ⟨yₓ.toNat, by omega⟩
        obtain ⟨K, hKₓ⟩ : ∃ K : Nat, τ 12 0 = (K : Int) := ⟨(τ 12 0).toNat, by omega⟩
        obtain ⟨N, hNₓ⟩ : ∃ N : Nat, τ 12 1 = (N : Int) := ⟨(τ 12 1).toNat, by omega⟩
        subst hbₓ; subst htoₓ
        have t8ₓ : σ 39 8 = (K : Int) := (show σ 39 8 = τ 12 0 from hₓ.2.1.1.1).trans hKₓ
        have t9ₓ : σ 39 9 = (N : Int) := (show σ 39 9 = τ 12 1 from hₓ.2.1.1.2.1).trans hNₓ
        have hRaₓ : ∀ sₓ : Nat, sₓ < N → StR (τ 12) K sₓ := fun sₓ hs2ₓ => StR_G hGₓ hKₓ (by omega)
        rw [if_pos c3ₓ, mIf_pos (by decide), mRd_e, t9ₓ] at e1ₓ
        rw [if_pos ⟨c1ₓ, c2ₓ, c3ₓ⟩, mIf_pos (by decide), mLet_e] at e2ₓ
        obtain ⟨x1ₓ, s1ₓ, d1ₓ, e1ₓ⟩ := mCall_el e1ₓ
        obtain ⟨x2ₓ, s2ₓ, d2ₓ, e2ₓ⟩ := mCall_el e2ₓ
        obtain ⟨⟨k1ₓ, w1ₓ⟩, f1ₓ⟩ := c_firstArrival hRaₓ (by omega) (by omega) (by omega) c3ₓ.1 c3ₓ.2 (fun sₓ hs2ₓ => COs_S hₓ hGₓ (by omega)) t8ₓ d1ₓ
        obtain ⟨⟨k2ₓ, r2ₓ, w2ₓ, w3ₓ, w4ₓ⟩, f2ₓ⟩ := r_reaches hKₓ hNₓ hRaₓ (by omega) (by omega) (by omega) c3ₓ.1 (by omega) (fun _ => rfl) hsₓ d2ₓ
        have er := DJ_det k1ₓ k2ₓ _ _ _ _ w1ₓ w2ₓ
        rw [w3ₓ] at e2ₓ
        by_cases cm : r2ₓ = -1
        · rw [mIf_neg (fun qₓ => qₓ (er.trans cm)), mRet_e] at e1ₓ
          rw [cm, encN_0, mIf_neg (fun qₓ => qₓ rfl), mRet_e] at e2ₓ
          obtain ⟨rfl, rfl⟩ := some_el e1ₓ
          obtain ⟨rfl, rfl⟩ := some_el e2ₓ
          exact ⟨rfl, f1ₓ, f2ₓ⟩
        · have ne : ¬ r2ₓ = 100000000 := by omega
          rw [mIf_pos (show ¬ x1ₓ = -1 from fun qₓ => cm (er.symm.trans qₓ)), mRet_e] at e1ₓ
          rw [encN_1 cm, mIf_pos ne, mRet_e] at e2ₓ
          obtain ⟨rfl, rfl⟩ := some_el e1ₓ
          obtain ⟨rfl, rfl⟩ := some_el e2ₓ
          exact ⟨er, f1ₓ, f2ₓ⟩
      · rw [if_neg c3ₓ, mIf_neg (fun qₓ => qₓ rfl), mRet_e] at e1ₓ
        rw [if_neg (fun qₓ => c3ₓ qₓ.2.2), mIf_neg (fun qₓ => qₓ rfl), mRet_e] at e2ₓ
        obtain ⟨rfl, rfl⟩ := some_el e1ₓ
        obtain ⟨rfl, rfl⟩ := some_el e2ₓ
        exact ⟨rfl, rf1, rf2⟩
    · rw [if_neg c2ₓ, mIf_pos rfl, mRet_e] at e1ₓ
      rw [if_neg (fun qₓ => c2ₓ qₓ.2.1), mIf_neg (fun qₓ => qₓ rfl), mRet_e] at e2ₓ
      obtain ⟨rfl, rfl⟩ := some_el e1ₓ
      obtain ⟨rfl, rfl⟩ := some_el e2ₓ
      exact ⟨rfl, rf1, rf2⟩
  · rw [if_neg c1ₓ, mIf_pos rfl, mRet_e] at e1ₓ
    rw [if_neg (fun qₓ => c1ₓ qₓ.1), mIf_neg (fun qₓ => qₓ rfl), mRet_e] at e2ₓ
    obtain ⟨rfl, rfl⟩ := some_el e1ₓ
    obtain ⟨rfl, rfl⟩ := some_el e2ₓ
    exact ⟨rfl, rf1, rf2⟩
end
