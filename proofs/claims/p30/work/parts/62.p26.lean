/-! the least that hasₓ aₓ property -/
def LSS (P : Nat → Prop) (N : Nat) (rₓ : Int) : Prop := (rₓ = -1 ∧ ∀ sₓ : Nat, sₓ < N → ¬ P sₓ) ∨ ∃ sₓ : Nat, rₓ = (sₓ : Int) ∧ sₓ < N ∧ P sₓ ∧ ∀ s'ₓ : Nat, s'ₓ < sₓ → ¬ P s'ₓ
theorem LSS_det {P : Nat → Prop} {N : Nat} {rₓ r'ₓ : Int} (hₓ : LSS P N rₓ) (gₓ : LSS P N r'ₓ) : rₓ = r'ₓ := by
  rcases hₓ with ⟨h1ₓ, h2ₓ⟩ | ⟨sₓ, h1ₓ, h2ₓ, h3ₓ, h4ₓ⟩
  · rcases gₓ with ⟨g1ₓ, g2ₓ⟩ | ⟨s'ₓ, g1ₓ, g2ₓ, g3ₓ, g4ₓ⟩
    · rw [h1ₓ, g1ₓ]
    · exact absurd g3ₓ (h2ₓ s'ₓ g2ₓ)
  · rcases gₓ with ⟨g1ₓ, g2ₓ⟩ | ⟨s'ₓ, g1ₓ, g2ₓ, g3ₓ, g4ₓ⟩
    · exact absurd h3ₓ (g2ₓ sₓ h2ₓ)
    · rcases Nat.lt_trichotomy sₓ s'ₓ with cₓ | cₓ | cₓ
      · exact absurd h3ₓ (g4ₓ sₓ cₓ)
      · rw [h1ₓ, g1ₓ, cₓ]
      · exact absurd g3ₓ (h4ₓ s'ₓ cₓ)
/-! hoursₓ by aₓ chart: what keeps two laws is told by them -/
def EDG (N : Nat) (e0ₓ e1ₓ : Nat → Nat) (sg : Nat → Int) (sₓ aₓ bₓ : Nat) : Prop := sₓ < N ∧ ((tb (sg sₓ) 0 = true ∧ e0ₓ sₓ = aₓ ∧ e1ₓ sₓ = bₓ) ∨ (tb (sg sₓ) 1 = true ∧ e1ₓ sₓ = aₓ ∧ e0ₓ sₓ = bₓ))
/-- the streets of aₓ town: their corners are corners -/
def STR (N K : Nat) (e0ₓ e1ₓ : Nat → Nat) (ln : Nat → Int) : Prop := ∀ sₓ : Nat, sₓ < N → e0ₓ sₓ < K ∧ e1ₓ sₓ < K ∧ e0ₓ sₓ ≠ e1ₓ sₓ ∧ 1 ≤ ln sₓ ∧ ln sₓ ≤ 9
/-- hoursₓ to aₓ corner; X: there is noₓ way -/
def HRS (N K : Nat) (e0ₓ e1ₓ : Nat → Nat) (ln sg : Nat → Int) (gₓ : Nat) (X : Int) (fₓ : Nat → Int) : Prop := fₓ gₓ = 0 ∧ (∀ aₓ : Nat, aₓ < K → 0 ≤ fₓ aₓ ∧ fₓ aₓ ≤ X) ∧ (∀ sₓ aₓ bₓ : Nat, EDG N e0ₓ e1ₓ sg sₓ aₓ bₓ → fₓ aₓ ≤ ln sₓ + fₓ bₓ) ∧ ∀ aₓ : Nat, aₓ < K → aₓ ≠ gₓ → fₓ aₓ < X → ∃ sₓ bₓ : Nat, EDG N e0ₓ e1ₓ sg sₓ aₓ bₓ ∧ ln sₓ + fₓ bₓ ≤ fₓ aₓ
section
variable {N K : Nat} {e0ₓ e1ₓ : Nat → Nat} {ln sg : Nat → Int} {gₓ aₓ bₓ sₓ : Nat} {fₓ f'ₓ : Nat → Int} {X : Int}
theorem EDG_K (hSₓ : STR N K e0ₓ e1ₓ ln) (hₓ : EDG N e0ₓ e1ₓ sg sₓ aₓ bₓ) : aₓ < K ∧ bₓ < K ∧ aₓ ≠ bₓ ∧ 1 ≤ ln sₓ ∧ ln sₓ ≤ 9 := by
  obtain ⟨h1ₓ, h2ₓ⟩ := hₓ
  obtain ⟨q1ₓ, q2ₓ, q3ₓ, q4ₓ, q5ₓ⟩ := hSₓ sₓ h1ₓ
  rcases h2ₓ with ⟨-, w1ₓ, w2ₓ⟩ | ⟨-, w1ₓ, w2ₓ⟩
  · subst w1ₓ; subst w2ₓ; exact ⟨q1ₓ, q2ₓ, q3ₓ, q4ₓ, q5ₓ⟩
  · subst w1ₓ; subst w2ₓ; exact ⟨q2ₓ, q1ₓ, fun qₓ => q3ₓ qₓ.symm, q4ₓ, q5ₓ⟩
theorem HRS_le (hSₓ : STR N K e0ₓ e1ₓ ln) (hₓ : HRS N K e0ₓ e1ₓ ln sg gₓ 1000000 fₓ) (hbₓ : ∀ aₓ : Nat, aₓ < K → fₓ aₓ < 1000000 → fₓ aₓ ≤ 9216) (h'ₓ : HRS N K e0ₓ e1ₓ ln sg gₓ X f'ₓ) : ∀ (nₓ aₓ : Nat), aₓ < K → f'ₓ aₓ < X → f'ₓ aₓ ≤ (nₓ : Int) → fₓ aₓ ≤ f'ₓ aₓ ∧ fₓ aₓ < 1000000 := by
  have stₓ : ∀ aₓ : Nat, aₓ = gₓ → fₓ aₓ ≤ f'ₓ aₓ ∧ fₓ aₓ < 1000000 := fun aₓ eₓ => by
    rw [eₓ, hₓ.1, h'ₓ.1]; exact ⟨Int.le_refl _, by decide⟩
  intro nₓ
  induction nₓ with
  | zero =>
    intro aₓ haₓ hxₓ hnₓ
    by_cases eg : aₓ = gₓ
    · exact stₓ aₓ eg
    · exfalso
      obtain ⟨sₓ, bₓ, k1ₓ, k2ₓ⟩ := h'ₓ.2.2.2 aₓ haₓ eg hxₓ
      obtain ⟨-, q2ₓ, -, q4ₓ, q5ₓ⟩ := EDG_K hSₓ k1ₓ
      have q6ₓ := (h'ₓ.2.1 bₓ q2ₓ).1
      omega
  | succ nₓ ihₓ =>
    intro aₓ haₓ hxₓ hnₓ
    by_cases eg : aₓ = gₓ
    · exact stₓ aₓ eg
    · obtain ⟨sₓ, bₓ, k1ₓ, k2ₓ⟩ := h'ₓ.2.2.2 aₓ haₓ eg hxₓ
      obtain ⟨-, q2ₓ, -, q4ₓ, q5ₓ⟩ := EDG_K hSₓ k1ₓ
      have q6ₓ := (h'ₓ.2.1 bₓ q2ₓ).1
      obtain ⟨r1ₓ, r2ₓ⟩ := ihₓ bₓ q2ₓ (by omega) (by omega)
      have r3ₓ := hₓ.2.2.1 sₓ aₓ bₓ k1ₓ
      have r4ₓ := hbₓ bₓ q2ₓ r2ₓ
      exact ⟨by omega, by omega⟩
theorem HRS_ge (hSₓ : STR N K e0ₓ e1ₓ ln) (hₓ : HRS N K e0ₓ e1ₓ ln sg gₓ 1000000 fₓ) (h'ₓ : HRS N K e0ₓ e1ₓ ln sg gₓ X f'ₓ) : ∀ (nₓ aₓ : Nat), aₓ < K → fₓ aₓ < 1000000 → fₓ aₓ ≤ (nₓ : Int) → f'ₓ aₓ ≤ fₓ aₓ := by
  have stₓ : ∀ aₓ : Nat, aₓ = gₓ → f'ₓ aₓ ≤ fₓ aₓ := fun aₓ eₓ => by
    rw [eₓ, hₓ.1, h'ₓ.1]; exact Int.le_refl _
  intro nₓ
  induction nₓ with
  | zero =>
    intro aₓ haₓ hxₓ hnₓ
    by_cases eg : aₓ = gₓ
    · exact stₓ aₓ eg
    · exfalso
      obtain ⟨sₓ, bₓ, k1ₓ, k2ₓ⟩ := hₓ.2.2.2 aₓ haₓ eg hxₓ
      obtain ⟨-, q2ₓ, -, q4ₓ, q5ₓ⟩ := EDG_K hSₓ k1ₓ
      have q6ₓ := (hₓ.2.1 bₓ q2ₓ).1
      omega
  | succ nₓ ihₓ =>
    intro aₓ haₓ hxₓ hnₓ
    by_cases eg : aₓ = gₓ
    · exact stₓ aₓ eg
    · obtain ⟨sₓ, bₓ, k1ₓ, k2ₓ⟩ := hₓ.2.2.2 aₓ haₓ eg hxₓ
      obtain ⟨-, q2ₓ, -, q4ₓ, q5ₓ⟩ := EDG_K hSₓ k1ₓ
      have q6ₓ := (hₓ.2.1 bₓ q2ₓ).1
      have r1ₓ := ihₓ bₓ q2ₓ (by omega) (by omega)
      have r3ₓ := h'ₓ.2.2.1 sₓ aₓ bₓ k1ₓ
      omega
theorem HRS_eq (hSₓ : STR N K e0ₓ e1ₓ ln) (hₓ : HRS N K e0ₓ e1ₓ ln sg gₓ 1000000 fₓ) (hbₓ : ∀ aₓ : Nat, aₓ < K → fₓ aₓ < 1000000 → fₓ aₓ ≤ 9216) (h'ₓ : HRS N K e0ₓ e1ₓ ln sg gₓ 100000000 f'ₓ) (haₓ : aₓ < K) : (fₓ aₓ ≤ 9216 ∧ f'ₓ aₓ = fₓ aₓ) ∨ (fₓ aₓ = 1000000 ∧ f'ₓ aₓ = 100000000) := by
  obtain ⟨p1ₓ, p2ₓ⟩ := hₓ.2.1 aₓ haₓ
  obtain ⟨p3ₓ, p4ₓ⟩ := h'ₓ.2.1 aₓ haₓ
  by_cases cₓ : f'ₓ aₓ < 100000000
  · obtain ⟨q1ₓ, q2ₓ⟩ := HRS_le hSₓ hₓ hbₓ h'ₓ (f'ₓ aₓ).toNat aₓ haₓ cₓ (by omega)
    have q3ₓ := HRS_ge hSₓ hₓ h'ₓ (fₓ aₓ).toNat aₓ haₓ q2ₓ (by omega)
    exact Or.inl ⟨hbₓ aₓ haₓ q2ₓ, by omega⟩
  · by_cases c2ₓ : fₓ aₓ < 1000000
    · have q3ₓ := HRS_ge hSₓ hₓ h'ₓ (fₓ aₓ).toNat aₓ haₓ c2ₓ (by omega)
      exfalso; omega
    · exact Or.inr ⟨by omega, by omega⟩
end
/-! all hoursₓ at once: corner by corner between -/
def FWI (N K : Nat) (e0ₓ e1ₓ : Nat → Nat) (ln sg : Nat → Int) (mₓ pₓ : Nat) (dₓ : Nat → Nat → Int) : Prop := (∀ iₓ jₓ : Nat, iₓ < K → jₓ < K → 0 ≤ dₓ iₓ jₓ ∧ dₓ iₓ jₓ ≤ 1000000) ∧ (∀ iₓ : Nat, iₓ < K → dₓ iₓ iₓ = 0) ∧ (∀ kₓ iₓ jₓ : Nat, kₓ < mₓ → iₓ < K → jₓ < K → dₓ iₓ jₓ ≤ dₓ iₓ kₓ + dₓ kₓ jₓ) ∧ (∀ sₓ aₓ bₓ : Nat, EDG N e0ₓ e1ₓ sg sₓ aₓ bₓ → dₓ aₓ bₓ ≤ ln sₓ) ∧ (∀ iₓ jₓ : Nat, iₓ < K → jₓ < K → iₓ ≠ jₓ → dₓ iₓ jₓ < 1000000 → ∃ sₓ bₓ : Nat, EDG N e0ₓ e1ₓ sg sₓ iₓ bₓ ∧ ln sₓ + dₓ bₓ jₓ ≤ dₓ iₓ jₓ) ∧ ∀ iₓ jₓ : Nat, iₓ < K → jₓ < K → dₓ iₓ jₓ < 1000000 → dₓ iₓ jₓ ≤ 9 * (pₓ : Int)
def FWS (K mₓ : Nat) (dₓ d'ₓ : Nat → Nat → Int) : Prop := ∀ iₓ jₓ : Nat, iₓ < K → jₓ < K → d'ₓ iₓ jₓ ≤ dₓ iₓ jₓ ∧ d'ₓ iₓ jₓ ≤ dₓ iₓ mₓ + dₓ mₓ jₓ ∧ (d'ₓ iₓ jₓ = dₓ iₓ jₓ ∨ d'ₓ iₓ jₓ = dₓ iₓ mₓ + dₓ mₓ jₓ)
section
variable {N K mₓ pₓ : Nat} {e0ₓ e1ₓ : Nat → Nat} {ln sg : Nat → Int} {dₓ d'ₓ : Nat → Nat → Int}
theorem FW_step (hSₓ : STR N K e0ₓ e1ₓ ln) (hₓ : FWI N K e0ₓ e1ₓ ln sg mₓ pₓ dₓ) (hsₓ : FWS K mₓ dₓ d'ₓ) (hmₓ : mₓ < K) : FWI N K e0ₓ e1ₓ ln sg (mₓ + 1) (2 * pₓ) d'ₓ := by
  obtain ⟨h0ₓ, h1ₓ, h2ₓ, h3ₓ, h4ₓ, h5ₓ⟩ := hₓ
  have col : ∀ iₓ : Nat, iₓ < K → d'ₓ iₓ mₓ = dₓ iₓ mₓ := fun iₓ hiₓ => by
    obtain ⟨a1ₓ, a2ₓ, a3ₓ⟩ := hsₓ iₓ mₓ hiₓ hmₓ
    rw [h1ₓ mₓ hmₓ] at a3ₓ
    omega
  have row : ∀ jₓ : Nat, jₓ < K → d'ₓ mₓ jₓ = dₓ mₓ jₓ := fun jₓ hjₓ => by
    obtain ⟨a1ₓ, a2ₓ, a3ₓ⟩ := hsₓ mₓ jₓ hmₓ hjₓ
    rw [h1ₓ mₓ hmₓ] at a3ₓ
    omega
  refine ⟨fun iₓ jₓ hiₓ hjₓ => ?_, fun iₓ hiₓ => ?_, fun kₓ iₓ jₓ hkₓ hiₓ hjₓ => ?_, fun sₓ aₓ bₓ heₓ => ?_, fun iₓ jₓ hiₓ hjₓ hijₓ hxₓ => ?_, fun iₓ jₓ hiₓ hjₓ hxₓ => ?_⟩
  · obtain ⟨a1ₓ, a2ₓ, a3ₓ⟩ := hsₓ iₓ jₓ hiₓ hjₓ
    have b1ₓ := h0ₓ iₓ jₓ hiₓ hjₓ
    have b2ₓ := h0ₓ iₓ mₓ hiₓ hmₓ
    have b3ₓ := h0ₓ mₓ jₓ hmₓ hjₓ
    omega
  · obtain ⟨a1ₓ, a2ₓ, a3ₓ⟩ := hsₓ iₓ iₓ hiₓ hiₓ
    have b1ₓ := h1ₓ iₓ hiₓ
    have b2ₓ := h0ₓ iₓ mₓ hiₓ hmₓ
    have b3ₓ := h0ₓ mₓ iₓ hmₓ hiₓ
    omega
  · by_cases ek : kₓ = mₓ
    · subst ek
      rw [col iₓ hiₓ, row jₓ hjₓ]
      exact (hsₓ iₓ jₓ hiₓ hjₓ).2.1
    · have hkmₓ : kₓ < mₓ := by omega
      have hkKₓ : kₓ < K := by omega
      obtain ⟨a1ₓ, a2ₓ, a3ₓ⟩ := hsₓ iₓ jₓ hiₓ hjₓ
      obtain ⟨-, -, b3ₓ⟩ := hsₓ iₓ kₓ hiₓ hkKₓ
      obtain ⟨-, -, c3ₓ⟩ := hsₓ kₓ jₓ hkKₓ hjₓ
      have q1ₓ := h2ₓ kₓ iₓ jₓ hkmₓ hiₓ hjₓ
      have q2ₓ := h2ₓ kₓ mₓ jₓ hkmₓ hmₓ hjₓ
      have q3ₓ := h2ₓ kₓ iₓ mₓ hkmₓ hiₓ hmₓ
      have q4ₓ := (h0ₓ kₓ mₓ hkKₓ hmₓ).1
      have q5ₓ := (h0ₓ mₓ kₓ hmₓ hkKₓ).1
      rcases b3ₓ with b3ₓ | b3ₓ
      · rcases c3ₓ with c3ₓ | c3ₓ
        · rw [b3ₓ, c3ₓ]; omega
        · rw [b3ₓ, c3ₓ]; omega
      · rcases c3ₓ with c3ₓ | c3ₓ
        · rw [b3ₓ, c3ₓ]; omega
        · rw [b3ₓ, c3ₓ]; omega
  · obtain ⟨q1ₓ, q2ₓ, -⟩ := EDG_K hSₓ heₓ
    exact Int.le_trans (hsₓ aₓ bₓ q1ₓ q2ₓ).1 (h3ₓ sₓ aₓ bₓ heₓ)
  · obtain ⟨a1ₓ, a2ₓ, a3ₓ⟩ := hsₓ iₓ jₓ hiₓ hjₓ
    have low : ∀ sₓ bₓ : Nat, EDG N e0ₓ e1ₓ sg sₓ iₓ bₓ → ln sₓ + dₓ bₓ jₓ ≤ d'ₓ iₓ jₓ → ∃ sₓ bₓ : Nat, EDG N e0ₓ e1ₓ sg sₓ iₓ bₓ ∧ ln sₓ + d'ₓ bₓ jₓ ≤ d'ₓ iₓ jₓ := fun sₓ bₓ heₓ hlₓ => by
      have := (hsₓ bₓ jₓ (EDG_K hSₓ heₓ).2.1 hjₓ).1
      exact ⟨sₓ, bₓ, heₓ, by omega⟩
    rcases a3ₓ with a3ₓ | a3ₓ
    · obtain ⟨sₓ, bₓ, k1ₓ, k2ₓ⟩ := h4ₓ iₓ jₓ hiₓ hjₓ hijₓ (by omega)
      exact low sₓ bₓ k1ₓ (by omega)
    · by_cases em : iₓ = mₓ
      · subst em
        rw [h1ₓ iₓ hiₓ] at a3ₓ
        obtain ⟨sₓ, bₓ, k1ₓ, k2ₓ⟩ := h4ₓ iₓ jₓ hiₓ hjₓ hijₓ (by omega)
        exact low sₓ bₓ k1ₓ (by omega)
      · have b3ₓ := (h0ₓ mₓ jₓ hmₓ hjₓ).1
        obtain ⟨sₓ, bₓ, k1ₓ, k2ₓ⟩ := h4ₓ iₓ mₓ hiₓ hmₓ em (by omega)
        have qₓ := (hsₓ bₓ jₓ (EDG_K hSₓ k1ₓ).2.1 hjₓ).2.1
        exact ⟨sₓ, bₓ, k1ₓ, by omega⟩
  · obtain ⟨a1ₓ, a2ₓ, a3ₓ⟩ := hsₓ iₓ jₓ hiₓ hjₓ
    have b2ₓ := (h0ₓ iₓ mₓ hiₓ hmₓ).1
    have b3ₓ := (h0ₓ mₓ jₓ hmₓ hjₓ).1
    rcases a3ₓ with a3ₓ | a3ₓ
    · have := h5ₓ iₓ jₓ hiₓ hjₓ (by omega)
      omega
    · have q1ₓ := h5ₓ iₓ mₓ hiₓ hmₓ (by omega)
      have q2ₓ := h5ₓ mₓ jₓ hmₓ hjₓ (by omega)
      omega
theorem FW_end (hSₓ : STR N K e0ₓ e1ₓ ln) (hₓ : FWI N K e0ₓ e1ₓ ln sg K pₓ dₓ) (hpₓ : pₓ ≤ 1024) {gₓ : Nat} (hgₓ : gₓ < K) : HRS N K e0ₓ e1ₓ ln sg gₓ 1000000 (fun aₓ => dₓ aₓ gₓ) ∧ ∀ aₓ : Nat, aₓ < K → dₓ aₓ gₓ < 1000000 → dₓ aₓ gₓ ≤ 9216 := by
  obtain ⟨h0ₓ, h1ₓ, h2ₓ, h3ₓ, h4ₓ, h5ₓ⟩ := hₓ
  refine ⟨⟨h1ₓ gₓ hgₓ, fun aₓ haₓ => h0ₓ aₓ gₓ haₓ hgₓ, fun sₓ aₓ bₓ heₓ => ?_, fun aₓ haₓ hagₓ hxₓ => h4ₓ aₓ gₓ haₓ hgₓ hagₓ hxₓ⟩, fun aₓ haₓ hxₓ => ?_⟩
  · obtain ⟨q1ₓ, q2ₓ, -⟩ := EDG_K hSₓ heₓ
    have r1ₓ := h2ₓ bₓ aₓ gₓ q2ₓ q1ₓ hgₓ
    have r2ₓ := h3ₓ sₓ aₓ bₓ heₓ
    show dₓ aₓ gₓ ≤ ln sₓ + dₓ bₓ gₓ
    omega
  · have := h5ₓ aₓ gₓ haₓ hgₓ hxₓ
    omega
end
/-- the least street by which it is still so few -/
def PFS (N : Nat) (e0ₓ e1ₓ : Nat → Nat) (ln sg : Nat → Int) (X : Int) (fₓ : Nat → Int) (aₓ sₓ : Nat) : Prop := ∃ bₓ : Nat, EDG N e0ₓ e1ₓ sg sₓ aₓ bₓ ∧ fₓ bₓ < X ∧ ln sₓ + fₓ bₓ = fₓ aₓ
theorem PFS_eq {N K : Nat} {e0ₓ e1ₓ : Nat → Nat} {ln sg : Nat → Int} {fₓ f'ₓ : Nat → Int} {aₓ sₓ : Nat} (hSₓ : STR N K e0ₓ e1ₓ ln) (heₓ : ∀ aₓ : Nat, aₓ < K → (fₓ aₓ ≤ 9216 ∧ f'ₓ aₓ = fₓ aₓ) ∨ (fₓ aₓ = 1000000 ∧ f'ₓ aₓ = 100000000)) (h0ₓ : ∀ aₓ : Nat, aₓ < K → 0 ≤ fₓ aₓ) (haₓ : aₓ < K) : PFS N e0ₓ e1ₓ ln sg 1000000 fₓ aₓ sₓ ↔ PFS N e0ₓ e1ₓ ln sg 100000000 f'ₓ aₓ sₓ := by
  constructor
  · rintro ⟨bₓ, b1ₓ, b2ₓ, b3ₓ⟩
    obtain ⟨q1ₓ, q2ₓ, q3ₓ, q4ₓ, q5ₓ⟩ := EDG_K hSₓ b1ₓ
    have w1ₓ := heₓ aₓ haₓ
    have w2ₓ := heₓ bₓ q2ₓ
    have w3ₓ := h0ₓ bₓ q2ₓ
    exact ⟨bₓ, b1ₓ, by omega, by omega⟩
  · rintro ⟨bₓ, b1ₓ, b2ₓ, b3ₓ⟩
    obtain ⟨q1ₓ, q2ₓ, q3ₓ, q4ₓ, q5ₓ⟩ := EDG_K hSₓ b1ₓ
    have w1ₓ := heₓ aₓ haₓ
    have w2ₓ := heₓ bₓ q2ₓ
    have w3ₓ := h0ₓ bₓ q2ₓ
    exact ⟨bₓ, b1ₓ, by omega, by omega⟩
