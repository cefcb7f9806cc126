/-! the state of the class at qₓ against what said (or an image) holdsₓ -/
theorem CS_c {q0ₓ iₓ : Nat} {D E : Nat → Int} {σ : SS} (hₓ : CS q0ₓ D σ iₓ) (hDₓ : ∀ kₓ : Nat, 10 + 10 * iₓ ≤ kₓ → kₓ < 20 + 10 * iₓ → E kₓ = D kₓ) (hlₓ : lf E iₓ = lf D iₓ) : CS q0ₓ E σ iₓ := CS_keep hₓ hDₓ hlₓ (fun _ _ _ => rfl) (by rw [hlₓ]; exact hₓ.2.2.2.2.1)
theorem szN_c {D E : Nat → Int} {iₓ : Nat} (h1ₓ : E (10 + 10 * iₓ) = D (10 + 10 * iₓ)) (h2ₓ : E (11 + 10 * iₓ) = D (11 + 10 * iₓ)) : ∀ kₓ : Nat, (∀ jₓ : Nat, jₓ < kₓ → E (140 + 2 * jₓ) = D (140 + 2 * jₓ)) → szN E iₓ kₓ = szN D iₓ kₓ
  | 0, _ => rfl
  | kₓ + 1, hₓ => by
    show (if E (140 + 2 * kₓ) = E (10 + 10 * iₓ) ∨ E (140 + 2 * kₓ) = E (11 + 10 * iₓ) then mOr (szN E iₓ kₓ) (mShl 1 (kₓ : Int)) else szN E iₓ kₓ) = (if D (140 + 2 * kₓ) = D (10 + 10 * iₓ) ∨ D (140 + 2 * kₓ) = D (11 + 10 * iₓ) then mOr (szN D iₓ kₓ) (mShl 1 (kₓ : Int)) else szN D iₓ kₓ)
    rw [szN_c h1ₓ h2ₓ kₓ (fun jₓ hjₓ => hₓ jₓ (by omega)), h1ₓ, h2ₓ, hₓ kₓ (by omega)]
/-- the same town, told in range -/
def EqT (D E : Nat → Int) : Prop := (E 0 = D 0 ∧ E 1 = D 1 ∧ E 2 = D 2 ∧ E 3 = D 3) ∧ (∀ kₓ : Nat, (kₓ : Int) < 10 * D 1 → E (10 + kₓ) = D (10 + kₓ)) ∧ (∀ kₓ : Nat, (kₓ : Int) < 2 * D 2 → E (140 + kₓ) = D (140 + kₓ)) ∧ ∀ kₓ : Nat, (kₓ : Int) < 3 * D 3 → E (156 + kₓ) = D (156 + kₓ)
theorem OD_c {D E : Nat → Int} (hₓ : EqT D E) (hOₓ : OD D) : OD E := by
  obtain ⟨⟨a0ₓ, a1ₓ, a2ₓ, a3ₓ⟩, b1ₓ, b2ₓ, b3ₓ⟩ := hₓ
  obtain ⟨o0ₓ, o1ₓ, o2ₓ, o3ₓ, o4ₓ⟩ := hOₓ
  refine ⟨by rw [a0ₓ]; exact o0ₓ, by rw [a1ₓ]; exact o1ₓ, by rw [a2ₓ]; exact o2ₓ, by rw [a3ₓ]; exact o3ₓ, fun kₓ hkₓ => ?_⟩
  rw [a3ₓ] at hkₓ
  rw [b3ₓ (3 * kₓ) (by omega), a1ₓ]; exact o4ₓ kₓ hkₓ
theorem lf_c {D E : Nat → Int} {iₓ : Nat} (hₓ : EqT D E) (hOₓ : OD D) : lf E iₓ = lf D iₓ := by
  unfold lf; rw [hₓ.1.2.2.2]
  refine lfN_c _ (fun jₓ h1ₓ h2ₓ => ?_)
  have := hₓ.2.2.2 (jₓ - 156) (by have := hOₓ.2.2.2.1; omega)
  rw [show 156 + (jₓ - 156) = jₓ by omega] at this; exact this
theorem CT_c {q0ₓ : Nat} {D E : Nat → Int} {σ : SS} (hₓ : EqT D E) (hOₓ : OD D) (hTₓ : CT q0ₓ D σ) : CT q0ₓ E σ := by
  obtain ⟨⟨a0ₓ, a1ₓ, a2ₓ, a3ₓ⟩, b1ₓ, b2ₓ, b3ₓ⟩ := id hₓ
  obtain ⟨⟨t8ₓ, t9ₓ, t10ₓ, t11ₓ⟩, tS, tZ⟩ := hTₓ
  refine ⟨⟨by rw [a0ₓ]; exact t8ₓ, by rw [a1ₓ]; exact t9ₓ, by rw [a2ₓ]; exact t10ₓ, by rw [a3ₓ]; exact t11ₓ⟩, fun iₓ hiₓ => ?_, fun kₓ hkₓ => ?_⟩
  · rw [a1ₓ] at hiₓ
    refine CS_c (tS iₓ hiₓ) (fun kₓ k1ₓ k2ₓ => ?_) (lf_c hₓ hOₓ)
    have := b1ₓ (kₓ - 10) (by omega)
    rw [show 10 + (kₓ - 10) = kₓ by omega] at this; exact this
  · rw [a2ₓ] at hkₓ
    have c1ₓ := b2ₓ (2 * kₓ) (by omega)
    have c2ₓ := b2ₓ (2 * kₓ + 1) (by omega)
    rw [show 140 + (2 * kₓ + 1) = 141 + 2 * kₓ by omega] at c2ₓ
    rw [c1ₓ, c2ₓ]; exact tZ kₓ hkₓ
def SRel (qₓ : Nat) (σ : SS) (P : Nat → Int) : Prop := OD P ∧ CT (qₓ + 1) P σ ∧ (∀ jₓ : Nat, (jₓ : Int) < P 1 → σ (qₓ + 9) jₓ = szN P jₓ (P 2).toNat) ∧ (σ qₓ 8 = P 4 ∧ σ qₓ 10 = P 6 ∧ σ qₓ 11 = P 7 ∧ σ qₓ 12 = P 8) ∧ ((0 ≤ P 4 ∧ P 4 ≤ 4) ∧ (0 ≤ P 6 ∧ P 6 ≤ 6) ∧ (0 ≤ P 7 ∧ P 7 ≤ 12) ∧ 0 ≤ P 8 ∧ P 8 ≤ 8) ∧ (∀ mₓ iₓ : Nat, (mₓ : Int) < P 4 → (iₓ : Int) < P 1 → σ (qₓ + 10) (12 * mₓ + iₓ) = P (168 + 12 * mₓ + iₓ)) ∧ (∀ kₓ : Nat, (kₓ : Int) < P 6 → σ (qₓ + 12) kₓ = P (252 + 2 * kₓ) ∧ σ (qₓ + 13) kₓ = P (253 + 2 * kₓ)) ∧ (∀ kₓ : Nat, (kₓ : Int) < P 7 → σ (qₓ + 14) kₓ = P (264 + 2 * kₓ) ∧ σ (qₓ + 15) kₓ = P (265 + 2 * kₓ)) ∧ ∀ kₓ : Nat, (kₓ : Int) < P 8 → σ (qₓ + 16) kₓ = P (288 + kₓ)
/-- what aₓ state reads of the class -/
def StE (qₓ q'ₓ : Nat) (σ σ' : SS) : Prop := (∀ kₓ : Nat, (kₓ = 8 ∨ kₓ = 10 ∨ kₓ = 11 ∨ kₓ = 12) → σ' q'ₓ kₓ = σ qₓ kₓ) ∧ (∀ kₓ : Nat, (kₓ = 8 ∨ kₓ = 9 ∨ kₓ = 10 ∨ kₓ = 11) → σ' (q'ₓ + 1) kₓ = σ (qₓ + 1) kₓ) ∧ (∀ kₓ : Nat, kₓ < 26 → σ' (q'ₓ + 2) kₓ = σ (qₓ + 2) kₓ ∧ σ' (q'ₓ + 6) kₓ = σ (qₓ + 6) kₓ) ∧ (∀ kₓ : Nat, kₓ < 13 → σ' (q'ₓ + 3) kₓ = σ (qₓ + 3) kₓ ∧ σ' (q'ₓ + 5) kₓ = σ (qₓ + 5) kₓ ∧ σ' (q'ₓ + 9) kₓ = σ (qₓ + 9) kₓ) ∧ (∀ kₓ : Nat, kₓ < 91 → σ' (q'ₓ + 4) kₓ = σ (qₓ + 4) kₓ) ∧ (∀ kₓ : Nat, kₓ < 8 → σ' (q'ₓ + 7) kₓ = σ (qₓ + 7) kₓ ∧ σ' (q'ₓ + 8) kₓ = σ (qₓ + 8) kₓ ∧ σ' (q'ₓ + 16) kₓ = σ (qₓ + 16) kₓ) ∧ (∀ kₓ : Nat, kₓ < 48 → σ' (q'ₓ + 10) kₓ = σ (qₓ + 10) kₓ) ∧ (∀ kₓ : Nat, kₓ < 6 → σ' (q'ₓ + 12) kₓ = σ (qₓ + 12) kₓ ∧ σ' (q'ₓ + 13) kₓ = σ (qₓ + 13) kₓ) ∧ ∀ kₓ : Nat, kₓ < 12 → σ' (q'ₓ + 14) kₓ = σ (qₓ + 14) kₓ ∧ σ' (q'ₓ + 15) kₓ = σ (qₓ + 15) kₓ
theorem SRel_mw {qₓ q'ₓ : Nat} {σ σ' : SS} {P Q : Nat → Int} (hₓ : SRel qₓ σ P) (hₓσ : StE qₓ q'ₓ σ σ') (hPₓ : ∀ kₓ : Nat, (kₓ < 5 ∨ (5 < kₓ ∧ kₓ < 9) ∨ (9 < kₓ ∧ (kₓ : Int) < 10 + 10 * P 1) ∨ (139 < kₓ ∧ kₓ < 216) ∨ (252 ≤ kₓ ∧ kₓ < 296)) → Q kₓ = P kₓ) : SRel q'ₓ σ' Q := by
  obtain ⟨hOₓ, hTₓ, hZₓ, ⟨c4ₓ, c6ₓ, c7ₓ, c8ₓ⟩, ⟨r4ₓ, r6ₓ, r7ₓ, r8ₓ⟩, m1ₓ, m2ₓ, m3ₓ, m4ₓ⟩ := hₓ
  obtain ⟨s1ₓ, s2ₓ, s3ₓ, s4ₓ, s5ₓ, s6ₓ, s7ₓ, s8ₓ, s9ₓ⟩ := hₓσ
  obtain ⟨o0ₓ, o1ₓ, o2ₓ, o3ₓ, o4ₓ⟩ := id hOₓ
  have heₓ : EqT P Q := ⟨⟨hPₓ 0 (by omega), hPₓ 1 (by omega), hPₓ 2 (by omega), hPₓ 3 (by omega)⟩, fun kₓ hkₓ => hPₓ _ (by omega), fun kₓ hkₓ => hPₓ _ (by omega), fun kₓ hkₓ => hPₓ _ (by omega)⟩
  have hT'ₓ : CT (q'ₓ + 1) P σ' := by
    obtain ⟨⟨t8ₓ, t9ₓ, t10ₓ, t11ₓ⟩, tS, tZ⟩ := hTₓ
    refine ⟨⟨by rw [s2ₓ 8 (by omega)]; exact t8ₓ, by rw [s2ₓ 9 (by omega)]; exact t9ₓ, by rw [s2ₓ 10 (by omega)]; exact t10ₓ, by rw [s2ₓ 11 (by omega)]; exact t11ₓ⟩, fun iₓ hiₓ => ?_, fun kₓ hkₓ => ?_⟩
    · obtain ⟨z1ₓ, z2ₓ, z3ₓ, z4ₓ, z5ₓ, z6ₓ, z7ₓ⟩ := tS iₓ hiₓ
      refine ⟨?_, ?_, ?_, fun jₓ hjₓ => ?_, ?_, ?_, ?_⟩
      · exact ((s3ₓ _ (by omega)).1).trans z1ₓ
      · exact ((s3ₓ _ (by omega)).1).trans z2ₓ
      · exact ((s4ₓ _ (by omega)).1).trans z3ₓ
      · exact (s5ₓ _ (by omega)).trans (z4ₓ jₓ hjₓ)
      · exact ((s4ₓ _ (by omega)).2.1).trans z5ₓ
      · exact ((s3ₓ _ (by omega)).2).trans z6ₓ
      · exact ((s3ₓ _ (by omega)).2).trans z7ₓ
    · exact ⟨((s6ₓ _ (by omega)).1).trans (tZ kₓ hkₓ).1, ((s6ₓ _ (by omega)).2.1).trans (tZ kₓ hkₓ).2⟩
  refine ⟨OD_c heₓ hOₓ, CT_c heₓ hOₓ hT'ₓ, fun jₓ hjₓ => ?_, ⟨?_, ?_, ?_, ?_⟩, ⟨?_, ?_, ?_, ?_⟩, fun mₓ iₓ hmₓ hiₓ => ?_, fun kₓ hkₓ => ?_, fun kₓ hkₓ => ?_, fun kₓ hkₓ => ?_⟩
  · rw [hPₓ 1 (by omega)] at hjₓ
    rw [(s4ₓ _ (by omega)).2.2, hZₓ jₓ hjₓ, hPₓ 2 (by omega)]
    exact (szN_c (hPₓ _ (by omega)) (hPₓ _ (by omega)) _ (fun kₓ hkₓ => hPₓ _ (by omega))).symm
  · rw [s1ₓ 8 (by omega), c4ₓ, hPₓ 4 (by omega)]
  · rw [s1ₓ 10 (by omega), c6ₓ, hPₓ 6 (by omega)]
  · rw [s1ₓ 11 (by omega), c7ₓ, hPₓ 7 (by omega)]
  · rw [s1ₓ 12 (by omega), c8ₓ, hPₓ 8 (by omega)]
  · rw [hPₓ 4 (by omega)]; exact r4ₓ
  · rw [hPₓ 6 (by omega)]; exact r6ₓ
  · rw [hPₓ 7 (by omega)]; exact r7ₓ
  · rw [hPₓ 8 (by omega)]; exact r8ₓ
  · rw [hPₓ 4 (by omega)] at hmₓ
    rw [hPₓ 1 (by omega)] at hiₓ
    rw [s7ₓ _ (by omega), m1ₓ mₓ iₓ hmₓ hiₓ, hPₓ _ (by omega)]
  · rw [hPₓ 6 (by omega)] at hkₓ
    rw [(s8ₓ _ (by omega)).1, (s8ₓ _ (by omega)).2, (m2ₓ kₓ hkₓ).1, (m2ₓ kₓ hkₓ).2, hPₓ _ (by omega), hPₓ _ (by omega)]; exact ⟨rfl, rfl⟩
  · rw [hPₓ 7 (by omega)] at hkₓ
    rw [(s9ₓ _ (by omega)).1, (s9ₓ _ (by omega)).2, (m3ₓ kₓ hkₓ).1, (m3ₓ kₓ hkₓ).2, hPₓ _ (by omega), hPₓ _ (by omega)]; exact ⟨rfl, rfl⟩
  · rw [hPₓ 8 (by omega)] at hkₓ
    rw [(s6ₓ _ (by omega)).2.2, m4ₓ kₓ hkₓ, hPₓ _ (by omega)]
theorem SRel_mv {qₓ q'ₓ : Nat} {σ σ' : SS} {P Q : Nat → Int} (hₓ : SRel qₓ σ P) (hₓσ : StE qₓ q'ₓ σ σ') (hPₓ : ∀ kₓ : Nat, (kₓ < 5 ∨ (5 < kₓ ∧ kₓ < 9) ∨ (9 < kₓ ∧ kₓ < 216) ∨ (252 ≤ kₓ ∧ kₓ < 296)) → Q kₓ = P kₓ) : SRel q'ₓ σ' Q :=
  SRel_mw hₓ hₓσ (fun kₓ hkₓ => hPₓ kₓ (by have o1ₓ := hₓ.1.2.1.2; omega))
section
variable {σ σ' : SS} {rₓ : Int} {nₓ : Nat} {aₓ bₓ : Nat}
theorem c_copyG (hₓ : aₓ + 8 < bₓ ∨ bₓ + 8 < aₓ) (eₓ : m_X7_copyFrom nₓ aₓ bₓ σ = some (rₓ, σ')) : (∀ qₓ kₓ : Nat, (qₓ < aₓ ∨ aₓ + 8 < qₓ) → σ' qₓ kₓ = σ qₓ kₓ) ∧ (∀ kₓ : Nat, kₓ < 26 → σ' (aₓ + 1) kₓ = σ (bₓ + 1) kₓ ∧ σ' (aₓ + 5) kₓ = σ (bₓ + 5) kₓ) ∧ (∀ kₓ : Nat, kₓ < 13 → σ' (aₓ + 2) kₓ = σ (bₓ + 2) kₓ ∧ σ' (aₓ + 4) kₓ = σ (bₓ + 4) kₓ ∧ σ' (aₓ + 8) kₓ = σ (bₓ + 8) kₓ) ∧ (∀ kₓ : Nat, kₓ < 91 → σ' (aₓ + 3) kₓ = σ (bₓ + 3) kₓ) ∧ (∀ kₓ : Nat, kₓ < 8 → σ' (aₓ + 6) kₓ = σ (bₓ + 6) kₓ ∧ σ' (aₓ + 7) kₓ = σ (bₓ + 7) kₓ) ∧ ∀ kₓ : Nat, (kₓ = 8 ∨ kₓ = 9 ∨ kₓ = 10 ∨ kₓ = 11) → σ' aₓ kₓ = σ bₓ kₓ := by
  unfold m_X7_copyFrom at eₓ
  simp only [mCp_e, mRd_e, mWr_e, mRet_e] at eₓ
  obtain ⟨-, rfl⟩ := some_el eₓ
  refine ⟨fun qₓ kₓ hₓ => ?_, fun kₓ hₓ => ⟨?_, ?_⟩, fun kₓ hₓ => ⟨?_, ?_, ?_⟩, fun kₓ hₓ => ?_, fun kₓ hₓ => ⟨?_, ?_⟩, fun kₓ hₓ => ?_⟩
  · rw [upS_q (by omega), upS_q (by omega), upS_q (by omega), upS_q (by omega), cp_m (by omega), cp_m (by omega), cp_m (by omega), cp_m (by omega), cp_m (by omega), cp_m (by omega), cp_m (by omega), cp_m (by omega)]
  · rw [upS_q (by omega), upS_q (by omega), upS_q (by omega), upS_q (by omega), cp_m (by omega), cp_m (by omega), cp_m (by omega), cp_m (by omega), cp_m (by omega), cp_m (by omega), cp_m (by omega)]
    exact cp_h hₓ
  · rw [upS_q (by omega), upS_q (by omega), upS_q (by omega), upS_q (by omega), cp_m (by omega), cp_m (by omega), cp_m (by omega)]
    refine (cp_h hₓ).trans ?_
    rw [cp_m (by omega), cp_m (by omega), cp_m (by omega), cp_m (by omega)]
  · rw [upS_q (by omega), upS_q (by omega), upS_q (by omega), upS_q (by omega), cp_m (by omega), cp_m (by omega), cp_m (by omega), cp_m (by omega), cp_m (by omega), cp_m (by omega)]
    refine (cp_h hₓ).trans ?_
    rw [cp_m (by omega)]
  · rw [upS_q (by omega), upS_q (by omega), upS_q (by omega), upS_q (by omega), cp_m (by omega), cp_m (by omega), cp_m (by omega), cp_m (by omega)]
    refine (cp_h hₓ).trans ?_
    rw [cp_m (by omega), cp_m (by omega), cp_m (by omega)]
  · rw [upS_q (by omega), upS_q (by omega), upS_q (by omega), upS_q (by omega)]
    refine (cp_h hₓ).trans ?_
    rw [cp_m (by omega), cp_m (by omega), cp_m (by omega), cp_m (by omega), cp_m (by omega), cp_m (by omega), cp_m (by omega)]
  · rw [upS_q (by omega), upS_q (by omega), upS_q (by omega), upS_q (by omega), cp_m (by omega), cp_m (by omega), cp_m (by omega), cp_m (by omega), cp_m (by omega)]
    refine (cp_h hₓ).trans ?_
    rw [cp_m (by omega), cp_m (by omega)]
  · rw [upS_q (by omega), upS_q (by omega), upS_q (by omega), upS_q (by omega), cp_m (by omega), cp_m (by omega)]
    refine (cp_h hₓ).trans ?_
    rw [cp_m (by omega), cp_m (by omega), cp_m (by omega), cp_m (by omega), cp_m (by omega)]
  · rw [upS_q (by omega), upS_q (by omega), upS_q (by omega), upS_q (by omega), cp_m (by omega)]
    refine (cp_h hₓ).trans ?_
    rw [cp_m (by omega), cp_m (by omega), cp_m (by omega), cp_m (by omega), cp_m (by omega), cp_m (by omega)]
  · have e0ₓ : ∀ jₓ : Nat, cpS (cpS (cpS (cpS (cpS (cpS (cpS (cpS σ (bₓ + 1) (aₓ + 1) 26) (bₓ + 2) (aₓ + 2) 13) (bₓ + 3) (aₓ + 3) 91) (bₓ + 4) (aₓ + 4) 13) (bₓ + 5) (aₓ + 5) 26) (bₓ + 6) (aₓ + 6) 8) (bₓ + 7) (aₓ + 7) 8) (bₓ + 8) (aₓ + 8) 13 bₓ jₓ = σ bₓ jₓ := fun jₓ => by
      rw [cp_m (by omega), cp_m (by omega), cp_m (by omega), cp_m (by omega), cp_m (by omega), cp_m (by omega), cp_m (by omega), cp_m (by omega)]
    rcases hₓ with rfl | rfl | rfl | rfl
    · rw [upS_k (by decide), upS_k (by decide), upS_k (by decide), upS_s, e0ₓ]
    · rw [upS_k (by decide), upS_k (by decide), upS_s, upS_q (by omega), e0ₓ]
    · rw [upS_k (by decide), upS_s, upS_q (by omega), upS_q (by omega), e0ₓ]
    · rw [upS_s, upS_q (by omega), upS_q (by omega), upS_q (by omega), e0ₓ]
theorem c_walkCopy (eₓ : m_X9_copyFrom nₓ aₓ bₓ σ = some (rₓ, σ')) : ∀ qₓ kₓ : Nat, qₓ ≠ aₓ → σ' qₓ kₓ = σ qₓ kₓ := by
  unfold m_X9_copyFrom m_X9_setOut at eₓ
  simp only [mRd_e, mWr_e, mRet_e, mSt_e, mCall_s] at eₓ
  obtain ⟨-, rfl⟩ := some_el eₓ
  intro qₓ kₓ hₓ
  simp only [upS_q hₓ]
theorem c_state0 (hdₓ : aₓ + 20 < bₓ ∨ bₓ + 20 < aₓ) : ∀ (nₓ : Nat) (iₓ : Int) (σ : SS), 0 ≤ iₓ → j_X5_copyFrom aₓ bₓ nₓ 28 [iₓ] σ = some (rₓ, σ') → (∀ qₓ kₓ : Nat, (qₓ < aₓ ∨ aₓ + 20 < qₓ ∨ (aₓ < qₓ ∧ qₓ < aₓ + 12)) → σ' qₓ kₓ = σ qₓ kₓ) ∧ (∀ kₓ : Nat, (kₓ = 8 ∨ kₓ = 10 ∨ kₓ = 11 ∨ kₓ = 12) → σ' aₓ kₓ = σ bₓ kₓ) ∧ (∀ kₓ : Nat, kₓ < 6 → σ' (aₓ + 12) kₓ = σ (bₓ + 12) kₓ ∧ σ' (aₓ + 13) kₓ = σ (bₓ + 13) kₓ) ∧ (∀ kₓ : Nat, kₓ < 12 → σ' (aₓ + 14) kₓ = σ (bₓ + 14) kₓ ∧ σ' (aₓ + 15) kₓ = σ (bₓ + 15) kₓ) ∧ ∀ kₓ : Nat, kₓ < 8 → σ' (aₓ + 16) kₓ = σ (bₓ + 16) kₓ := by
  intro nₓ
  induction nₓ with
  | zero => intro iₓ σ _ eₓ; exact none_el eₓ
  | succ nₓ ihₓ =>
    intro iₓ σ hiₓ eₓ
    rw [e_X5_copyFrom_28] at eₓ
    unfold b_X5_copyFrom_28 at eₓ
    by_cases cₓ : 4 ≤ iₓ
    · rw [mIf_pos cₓ] at eₓ
      simp only [mCp_e, mRd_e, mWr_e, mRet_e] at eₓ
      obtain ⟨-, rfl⟩ := some_el eₓ
      refine ⟨fun qₓ kₓ hₓ => ?_, fun kₓ hₓ => ?_, fun kₓ hₓ => ⟨?_, ?_⟩, fun kₓ hₓ => ⟨?_, ?_⟩, fun kₓ hₓ => ?_⟩
      · rw [upS_q (by omega), upS_q (by omega), upS_q (by omega), upS_q (by omega), upS_q (by omega), upS_q (by omega), cp_m (by omega), cp_m (by omega), cp_m (by omega), cp_m (by omega), cp_m (by omega)]
      · have e0ₓ : ∀ jₓ : Nat, cpS (cpS (cpS (cpS (cpS σ (bₓ + 12) (aₓ + 12) 6) (bₓ + 13) (aₓ + 13) 6) (bₓ + 14) (aₓ + 14) 12) (bₓ + 15) (aₓ + 15) 12) (bₓ + 16) (aₓ + 16) 8 bₓ jₓ = σ bₓ jₓ := fun jₓ => by
          rw [cp_m (by omega), cp_m (by omega), cp_m (by omega), cp_m (by omega), cp_m (by omega)]
        rcases hₓ with rfl | rfl | rfl | rfl
        · rw [upS_k (by decide), upS_k (by decide), upS_k (by decide), upS_k (by decide), upS_k (by decide), upS_s, e0ₓ]
        · rw [upS_k (by decide), upS_k (by decide), upS_k (by decide), upS_s, upS_q (by omega), upS_q (by omega), e0ₓ]
        · rw [upS_k (by decide), upS_k (by decide), upS_s, upS_q (by omega), upS_q (by omega), upS_q (by omega), e0ₓ]
        · rw [upS_k (by decide), upS_s, upS_q (by omega), upS_q (by omega), upS_q (by omega), upS_q (by omega), e0ₓ]
      · rw [upS_q (by omega), upS_q (by omega), upS_q (by omega), upS_q (by omega), upS_q (by omega), upS_q (by omega), cp_m (by omega), cp_m (by omega), cp_m (by omega), cp_m (by omega)]
        exact cp_h hₓ
      · rw [upS_q (by omega), upS_q (by omega), upS_q (by omega), upS_q (by omega), upS_q (by omega), upS_q (by omega), cp_m (by omega), cp_m (by omega), cp_m (by omega)]
        refine (cp_h hₓ).trans ?_
        rw [cp_m (by omega)]
      · rw [upS_q (by omega), upS_q (by omega), upS_q (by omega), upS_q (by omega), upS_q (by omega), upS_q (by omega), cp_m (by omega), cp_m (by omega)]
        refine (cp_h hₓ).trans ?_
        rw [cp_m (by omega), cp_m (by omega)]
      · rw [upS_q (by omega), upS_q (by omega), upS_q (by omega), upS_q (by omega), upS_q (by omega), upS_q (by omega), cp_m (by omega)]
        refine (cp_h hₓ).trans ?_
        rw [cp_m (by omega), cp_m (by omega), cp_m (by omega)]
      · rw [upS_q (by omega), upS_q (by omega), upS_q (by omega), upS_q (by omega), upS_q (by omega), upS_q (by omega)]
        refine (cp_h hₓ).trans ?_
        rw [cp_m (by omega), cp_m (by omega), cp_m (by omega), cp_m (by omega)]
    · rw [mIf_neg cₓ, mIx_e, mIx_e] at eₓ
      obtain ⟨r1ₓ, s1ₓ, e1ₓ, eₓ⟩ := mCall_el eₓ
      have el33 : ∀ qₓ iₓ : Nat, el 33 qₓ iₓ = qₓ + 6 + iₓ := fun qₓ iₓ => if_pos rfl
      rw [el33, el33] at e1ₓ
      have h1ₓ := c_walkCopy e1ₓ
      rw [mLet_e] at eₓ
      obtain ⟨g1ₓ, g2ₓ, g3ₓ, g4ₓ, g5ₓ⟩ := ihₓ _ _ (by omega) eₓ
      refine ⟨fun qₓ kₓ hₓ => (g1ₓ qₓ kₓ hₓ).trans (h1ₓ qₓ kₓ (by omega)), fun kₓ hₓ => (g2ₓ kₓ hₓ).trans (h1ₓ _ _ (by omega)), fun kₓ hₓ => ⟨((g3ₓ kₓ hₓ).1).trans (h1ₓ _ _ (by omega)), ((g3ₓ kₓ hₓ).2).trans (h1ₓ _ _ (by omega))⟩, fun kₓ hₓ => ⟨((g4ₓ kₓ hₓ).1).trans (h1ₓ _ _ (by omega)), ((g4ₓ kₓ hₓ).2).trans (h1ₓ _ _ (by omega))⟩, fun kₓ hₓ => (g5ₓ kₓ hₓ).trans (h1ₓ _ _ (by omega))⟩
/-- aₓ state copied -/
theorem c_state (hdₓ : aₓ + 20 < bₓ ∨ bₓ + 20 < aₓ) (eₓ : m_X5_copyFrom nₓ aₓ bₓ σ = some (rₓ, σ')) : StE bₓ aₓ σ σ' ∧ ∀ qₓ kₓ : Nat, (qₓ < aₓ ∨ aₓ + 20 < qₓ) → σ' qₓ kₓ = σ qₓ kₓ := by
  unfold m_X5_copyFrom m_X5_moveTo at eₓ
  obtain ⟨r1ₓ, s1ₓ, e1ₓ, eₓ⟩ := mCall_el eₓ
  obtain ⟨r2ₓ, s2ₓ, e2ₓ, e1ₓ⟩ := mCall_el e1ₓ
  obtain ⟨c1ₓ, c2ₓ, c3ₓ, c4ₓ, c5ₓ, c6ₓ⟩ := c_copyG (by omega) e2ₓ
  simp only [mWr_e, mRet_e] at e1ₓ
  obtain ⟨-, rfl⟩ := some_el e1ₓ
  rw [mCp_e] at eₓ
  obtain ⟨g1ₓ, g2ₓ, g3ₓ, g4ₓ, g5ₓ⟩ := c_state0 hdₓ nₓ 0 _ (by decide) eₓ
  have k1ₓ : ∀ qₓ kₓ : Nat, qₓ ≠ aₓ → upS (upS (upS (upS (upS s2ₓ aₓ 8 0) aₓ 9 0) aₓ 10 0) aₓ 11 0) aₓ 12 0 qₓ kₓ = s2ₓ qₓ kₓ := fun qₓ kₓ hₓ => by rw [upS_q hₓ, upS_q hₓ, upS_q hₓ, upS_q hₓ, upS_q hₓ]
  have kb : ∀ qₓ kₓ : Nat, (qₓ < aₓ ∨ aₓ + 20 < qₓ) → cpS (upS (upS (upS (upS (upS s2ₓ aₓ 8 0) aₓ 9 0) aₓ 10 0) aₓ 11 0) aₓ 12 0) (bₓ + 10) (aₓ + 10) 48 qₓ kₓ = σ qₓ kₓ := fun qₓ kₓ hₓ => by
    rw [cp_m (by omega), k1ₓ qₓ kₓ (by omega), c1ₓ qₓ kₓ (by omega)]
  have ka : ∀ qₓ kₓ : Nat, (aₓ < qₓ ∧ qₓ < aₓ + 10) → σ' qₓ kₓ = s2ₓ qₓ kₓ := fun qₓ kₓ hₓ => by
    rw [g1ₓ qₓ kₓ (by omega), cp_m (by omega), k1ₓ qₓ kₓ (by omega)]
  refine ⟨⟨fun kₓ hₓ => ?_, fun kₓ hₓ => ?_, fun kₓ hₓ => ⟨?_, ?_⟩, fun kₓ hₓ => ⟨?_, ?_, ?_⟩, fun kₓ hₓ => ?_, fun kₓ hₓ => ⟨?_, ?_, ?_⟩, fun kₓ hₓ => ?_, fun kₓ hₓ => ⟨?_, ?_⟩, fun kₓ hₓ => ⟨?_, ?_⟩⟩, fun qₓ kₓ hₓ => (g1ₓ qₓ kₓ (by omega)).trans (kb qₓ kₓ hₓ)⟩
  · rw [g2ₓ kₓ hₓ, kb _ _ (by omega)]
  · rw [ka _ _ (by omega), c6ₓ kₓ hₓ]
  · rw [ka _ _ (by omega)]; exact (c2ₓ kₓ hₓ).1
  · rw [ka _ _ (by omega)]; exact (c2ₓ kₓ hₓ).2
  · rw [ka _ _ (by omega)]; exact (c3ₓ kₓ hₓ).1
  · rw [ka _ _ (by omega)]; exact (c3ₓ kₓ hₓ).2.1
  · rw [ka _ _ (by omega)]; exact (c3ₓ kₓ hₓ).2.2
  · rw [ka _ _ (by omega)]; exact c4ₓ kₓ hₓ
  · rw [ka _ _ (by omega)]; exact (c5ₓ kₓ hₓ).1
  · rw [ka _ _ (by omega)]; exact (c5ₓ kₓ hₓ).2
  · rw [(g5ₓ kₓ hₓ), kb _ _ (by omega)]
  · rw [g1ₓ _ _ (by omega)]
    refine (cp_h hₓ).trans ?_
    rw [k1ₓ _ _ (by omega), c1ₓ _ _ (by omega)]
  · rw [(g3ₓ kₓ hₓ).1, kb _ _ (by omega)]
  · rw [(g3ₓ kₓ hₓ).2, kb _ _ (by omega)]
  · rw [(g4ₓ kₓ hₓ).1, kb _ _ (by omega)]
  · rw [(g4ₓ kₓ hₓ).2, kb _ _ (by omega)]
end
