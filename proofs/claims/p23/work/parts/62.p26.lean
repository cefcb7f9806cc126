/-! aₓ street of the state, as it is asked -/
section
variable {σ : SS} {P : Nat → Int} {sₓ K : Nat}
theorem COs_S (hₓ : SRel 38 σ P) (hGₓ : GD P) (hsₓ : (sₓ : Int) < P 1) : COs P σ sₓ := by
  obtain ⟨hOₓ, ⟨hT0ₓ, hTSₓ, hTZₓ⟩, hZₓ, -⟩ := hₓ
  obtain ⟨⟨g0ₓ, g1ₓ, g2ₓ, g3ₓ⟩, gS, gZ, gL⟩ := hGₓ
  exact ⟨hTSₓ sₓ hsₓ, hZₓ sₓ hsₓ, fun kₓ hkₓ => (hTZₓ kₓ hkₓ).2, g2ₓ, g3ₓ, fun jₓ hjₓ => (gS sₓ hsₓ).2.2 jₓ hjₓ, fun kₓ hkₓ => (gL kₓ hkₓ).2.2⟩
theorem StR_G (hGₓ : GD P) (hKₓ : P 0 = (K : Int)) (hsₓ : (sₓ : Int) < P 1) : StR P K sₓ := by
  obtain ⟨⟨g0ₓ, g1ₓ, g2ₓ, g3ₓ⟩, gS, gZ, gL⟩ := hGₓ
  obtain ⟨⟨a1ₓ, a2ₓ, a3ₓ, a4ₓ, a5ₓ⟩, ⟨b1ₓ, b2ₓ⟩, -⟩ := gS sₓ hsₓ
  exact ⟨a1ₓ, by omega, a3ₓ, by omega, a5ₓ, by omega⟩
end
section
variable {σ τ : SS} {zₓ : Int} {nₓ : Nat}
theorem c_askedH : m_X11_isAskedHour nₓ zₓ σ = some (if 0 ≤ zₓ ∧ zₓ ≤ 99999 then 1 else 0, σ) := by
  unfold m_X11_isAskedHour b_X11_isAskedHour_15
  by_cases c1ₓ : zₓ < 0
  · rw [mIf_pos c1ₓ, if_neg (by omega)]; rfl
  · rw [mIf_neg c1ₓ]
    by_cases c2ₓ : 99999 < zₓ
    · rw [mIf_pos c2ₓ, if_neg (by omega)]; rfl
    · rw [mIf_neg c2ₓ, if_pos (by omega)]; rfl
theorem r_isHourE : m_X12_isHour nₓ zₓ τ = some (if 0 ≤ zₓ ∧ zₓ ≤ 99999 then 1 else 0, τ) := by
  unfold m_X12_isHour b_X12_isHour_14
  by_cases c1ₓ : zₓ < 0
  · rw [mIf_pos c1ₓ, if_neg (by omega)]; rfl
  · rw [mIf_neg c1ₓ]
    by_cases c2ₓ : 99999 < zₓ
    · rw [mIf_pos c2ₓ, if_neg (by omega)]; rfl
    · rw [mIf_neg c2ₓ, if_pos (by omega)]; rfl
end
