/-! the first hourₓ at aₓ corner: one machine for both sides -/
def upA (A : Nat → Int) (cₓ : Nat) (vₓ : Int) : Nat → Int := fun kₓ => if kₓ = cₓ then vₓ else A kₓ
theorem upA_at {A : Nat → Int} {cₓ : Nat} {vₓ : Int} : upA A cₓ vₓ cₓ = vₓ := if_pos rfl
theorem upA_ne {A : Nat → Int} {cₓ kₓ : Nat} {vₓ : Int} (hₓ : kₓ ≠ cₓ) : upA A cₓ vₓ kₓ = A kₓ := if_neg hₓ
def Bst (A S : Nat → Int) (kₓ : Nat) (bₓ : Int) : Prop := (bₓ = -1 ∧ ∀ cₓ : Nat, cₓ < kₓ → S cₓ = 0 → A cₓ = -1) ∨ ∃ mₓ : Nat, bₓ = (mₓ : Int) ∧ mₓ < kₓ ∧ S mₓ = 0 ∧ A mₓ ≠ -1 ∧ (∀ cₓ : Nat, cₓ < kₓ → S cₓ = 0 → A cₓ ≠ -1 → A mₓ ≤ A cₓ) ∧ ∀ cₓ : Nat, cₓ < mₓ → S cₓ = 0 → A cₓ ≠ -1 → A mₓ < A cₓ
section
variable {A S : Nat → Int} {kₓ mₓ : Nat} {bₓ b'ₓ : Int}
theorem Bst_0 : Bst A S 0 (-1) := Or.inl ⟨rfl, fun cₓ hcₓ => absurd hcₓ (Nat.not_lt_zero _)⟩
theorem Bst_skip (hₓ : Bst A S kₓ bₓ) (hkₓ : S kₓ = 0 → A kₓ = -1) : Bst A S (kₓ + 1) bₓ := by
  rcases hₓ with ⟨rfl, hₓ⟩ | ⟨mₓ, rfl, h1ₓ, h2ₓ, h3ₓ, h4ₓ, h5ₓ⟩
  · refine Or.inl ⟨rfl, fun cₓ hcₓ hsₓ => ?_⟩
    by_cases eₓ : cₓ = kₓ
    · subst eₓ; exact hkₓ hsₓ
    · exact hₓ cₓ (by omega) hsₓ
  · refine Or.inr ⟨mₓ, rfl, by omega, h2ₓ, h3ₓ, fun cₓ hcₓ hsₓ haₓ => ?_, h5ₓ⟩
    by_cases eₓ : cₓ = kₓ
    · subst eₓ; exact absurd (hkₓ hsₓ) haₓ
    · exact h4ₓ cₓ (by omega) hsₓ haₓ
theorem Bst_first (hₓ : Bst A S kₓ (-1)) (hsₓ : S kₓ = 0) (haₓ : A kₓ ≠ -1) : Bst A S (kₓ + 1) (kₓ : Int) := by
  rcases hₓ with ⟨-, hₓ⟩ | ⟨mₓ, hmₓ, -⟩
  · refine Or.inr ⟨kₓ, rfl, by omega, hsₓ, haₓ, fun cₓ hcₓ hs2ₓ ha2ₓ => ?_, fun cₓ hcₓ hs2ₓ ha2ₓ => absurd (hₓ cₓ hcₓ hs2ₓ) ha2ₓ⟩
    by_cases eₓ : cₓ = kₓ
    · subst eₓ; exact Int.le_refl _
    · exact absurd (hₓ cₓ (by omega) hs2ₓ) ha2ₓ
  · exact absurd hmₓ (by omega)
theorem Bst_keep (hₓ : Bst A S kₓ (mₓ : Int)) (hleₓ : A mₓ ≤ A kₓ) : Bst A S (kₓ + 1) (mₓ : Int) := by
  rcases hₓ with ⟨hmₓ, -⟩ | ⟨m'ₓ, hmₓ, h1ₓ, h2ₓ, h3ₓ, h4ₓ, h5ₓ⟩
  · exact absurd hmₓ (by omega)
  · have em : m'ₓ = mₓ := by omega
    subst em
    refine Or.inr ⟨m'ₓ, rfl, by omega, h2ₓ, h3ₓ, fun cₓ hcₓ hsₓ haₓ => ?_, h5ₓ⟩
    by_cases eₓ : cₓ = kₓ
    · subst eₓ; exact hleₓ
    · exact h4ₓ cₓ (by omega) hsₓ haₓ
theorem Bst_new (hₓ : Bst A S kₓ (mₓ : Int)) (hsₓ : S kₓ = 0) (haₓ : A kₓ ≠ -1) (hltₓ : A kₓ < A mₓ) : Bst A S (kₓ + 1) (kₓ : Int) := by
  rcases hₓ with ⟨hmₓ, -⟩ | ⟨m'ₓ, hmₓ, h1ₓ, h2ₓ, h3ₓ, h4ₓ, h5ₓ⟩
  · exact absurd hmₓ (by omega)
  · have em : m'ₓ = mₓ := by omega
    subst em
    refine Or.inr ⟨kₓ, rfl, by omega, hsₓ, haₓ, fun cₓ hcₓ hs2ₓ ha2ₓ => ?_, fun cₓ hcₓ hs2ₓ ha2ₓ => ?_⟩
    · by_cases eₓ : cₓ = kₓ
      · subst eₓ; exact Int.le_refl _
      · exact Int.le_of_lt (Int.lt_of_lt_of_le hltₓ (h4ₓ cₓ (by omega) hs2ₓ ha2ₓ))
    · exact Int.lt_of_lt_of_le hltₓ (h4ₓ cₓ hcₓ hs2ₓ ha2ₓ)
theorem Bst_det (hₓ : Bst A S kₓ bₓ) (gₓ : Bst A S kₓ b'ₓ) : bₓ = b'ₓ := by
  rcases hₓ with ⟨rfl, hₓ⟩ | ⟨mₓ, rfl, h1ₓ, h2ₓ, h3ₓ, h4ₓ, h5ₓ⟩
  · rcases gₓ with ⟨rfl, gₓ⟩ | ⟨m'ₓ, rfl, g1ₓ, g2ₓ, g3ₓ, g4ₓ, g5ₓ⟩
    · rfl
    · exact absurd (hₓ m'ₓ g1ₓ g2ₓ) g3ₓ
  · rcases gₓ with ⟨rfl, gₓ⟩ | ⟨m'ₓ, rfl, g1ₓ, g2ₓ, g3ₓ, g4ₓ, g5ₓ⟩
    · exact absurd (gₓ mₓ h1ₓ h2ₓ) h3ₓ
    · rcases Nat.lt_trichotomy mₓ m'ₓ with cₓ | cₓ | cₓ
      · have q1ₓ := g5ₓ mₓ cₓ h2ₓ h3ₓ
        have q2ₓ := h4ₓ m'ₓ g1ₓ g2ₓ g3ₓ
        omega
      · rw [cₓ]
      · have q1ₓ := h5ₓ m'ₓ cₓ g2ₓ g3ₓ
        have q2ₓ := g4ₓ mₓ h1ₓ h2ₓ h3ₓ
        omega
end
/-- aₓ street makes one come sooner -/
def IM (D A : Nat → Int) (L : Int) (jₓ bₓ c2ₓ : Nat) (vₓ : Int) : Prop := ((D (10 + 10 * jₓ) = (bₓ : Int) ∧ D (11 + 10 * jₓ) = (c2ₓ : Int)) ∨ (D (10 + 10 * jₓ) ≠ (bₓ : Int) ∧ D (11 + 10 * jₓ) = (bₓ : Int) ∧ D (10 + 10 * jₓ) = (c2ₓ : Int))) ∧ (∃ tₓ : Nat, A bₓ ≤ (tₓ : Int) ∧ vₓ = (tₓ : Int) + D (12 + 10 * jₓ) ∧ vₓ ≤ L ∧ opD D jₓ (sdC D jₓ (bₓ : Int)) tₓ ∧ ∀ uₓ : Nat, A bₓ ≤ (uₓ : Int) → uₓ < tₓ → ¬ opD D jₓ (sdC D jₓ (bₓ : Int)) uₓ) ∧ (A c2ₓ = -1 ∨ vₓ < A c2ₓ)
def rlxO (D : Nat → Int) (L : Int) (bₓ jₓ : Nat) (A A' : Nat → Int) : Prop := (A' = A ∧ ∀ (cₓ : Nat) (vₓ : Int), ¬ IM D A L jₓ bₓ cₓ vₓ) ∨ ∃ (cₓ : Nat) (vₓ : Int), IM D A L jₓ bₓ cₓ vₓ ∧ A' = upA A cₓ vₓ
def rlxA (D : Nat → Int) (L : Int) (bₓ : Nat) : Nat → Nat → (Nat → Int) → (Nat → Int) → Prop
  | 0, _, A, A' => A' = A
  | kₓ + 1, jₓ, A, A' => ∃ A1 : Nat → Int, rlxO D L bₓ jₓ A A1 ∧ rlxA D L bₓ kₓ (jₓ + 1) A1 A'
/-- all of it: kₓ rounds at most -/
def DJ (D : Nat → Int) (K N : Nat) (L : Int) (to : Nat) : Nat → (Nat → Int) → (Nat → Int) → Int → Prop
  | 0, _, _, _ => False
  | kₓ + 1, A, S, rₓ => ∃ bₓ : Int, Bst A S K bₓ ∧ ((bₓ = -1 ∧ rₓ = -1) ∨ (bₓ = (to : Int) ∧ rₓ = A to) ∨ ∃ mₓ : Nat, bₓ = (mₓ : Int) ∧ mₓ ≠ to ∧ ∃ A1 : Nat → Int, rlxA D L mₓ N 0 A A1 ∧ DJ D K N L to kₓ A1 (upA S mₓ 1) rₓ)
def StR (D : Nat → Int) (K sₓ : Nat) : Prop := 0 ≤ D (10 + 10 * sₓ) ∧ D (10 + 10 * sₓ) < (K : Int) ∧ 0 ≤ D (11 + 10 * sₓ) ∧ D (11 + 10 * sₓ) < (K : Int) ∧ D (11 + 10 * sₓ) ≠ D (10 + 10 * sₓ) ∧ 0 ≤ D (12 + 10 * sₓ)
def IO (A S : Nat → Int) (K : Nat) (L mₓ : Int) : Prop := (∀ cₓ : Nat, A cₓ = -1 ∨ (0 ≤ A cₓ ∧ A cₓ ≤ L)) ∧ (∀ cₓ : Nat, cₓ < K → S cₓ ≠ 0 → A cₓ ≠ -1 ∧ A cₓ ≤ mₓ) ∧ ∀ cₓ : Nat, cₓ < K → S cₓ = 0 → A cₓ ≠ -1 → mₓ ≤ A cₓ
section
variable {D A A' A1 A2 S : Nat → Int} {L vₓ v'ₓ : Int} {bₓ cₓ c'ₓ jₓ kₓ K N to : Nat}
theorem IM_det (hₓ : IM D A L jₓ bₓ cₓ vₓ) (gₓ : IM D A L jₓ bₓ c'ₓ v'ₓ) : cₓ = c'ₓ ∧ vₓ = v'ₓ := by
  obtain ⟨h1ₓ, ⟨tₓ, t1ₓ, t2ₓ, t3ₓ, t4ₓ, t5ₓ⟩, -⟩ := hₓ
  obtain ⟨g1ₓ, ⟨uₓ, u1ₓ, u2ₓ, u3ₓ, u4ₓ, u5ₓ⟩, -⟩ := gₓ
  have eₓ : tₓ = uₓ := by
    rcases Nat.lt_trichotomy tₓ uₓ with qₓ | qₓ | qₓ
    · exact absurd t4ₓ (u5ₓ tₓ t1ₓ qₓ)
    · exact qₓ
    · exact absurd u4ₓ (t5ₓ uₓ u1ₓ qₓ)
  subst eₓ
  refine ⟨?_, by rw [t2ₓ, u2ₓ]⟩
  rcases h1ₓ with ⟨p1ₓ, p2ₓ⟩ | ⟨p1ₓ, p2ₓ, p3ₓ⟩
  · rcases g1ₓ with ⟨w1ₓ, w2ₓ⟩ | ⟨w1ₓ, w2ₓ, w3ₓ⟩
    · omega
    · exact absurd p1ₓ w1ₓ
  · rcases g1ₓ with ⟨w1ₓ, w2ₓ⟩ | ⟨w1ₓ, w2ₓ, w3ₓ⟩
    · exact absurd w1ₓ p1ₓ
    · omega
theorem rlxO_det (hₓ : rlxO D L bₓ jₓ A A1) (gₓ : rlxO D L bₓ jₓ A A2) : A1 = A2 := by
  rcases hₓ with ⟨h1ₓ, h2ₓ⟩ | ⟨cₓ, vₓ, h1ₓ, h2ₓ⟩
  · rcases gₓ with ⟨g1ₓ, g2ₓ⟩ | ⟨c'ₓ, v'ₓ, g1ₓ, g2ₓ⟩
    · rw [h1ₓ, g1ₓ]
    · exact absurd g1ₓ (h2ₓ c'ₓ v'ₓ)
  · rcases gₓ with ⟨g1ₓ, g2ₓ⟩ | ⟨c'ₓ, v'ₓ, g1ₓ, g2ₓ⟩
    · exact absurd h1ₓ (g2ₓ cₓ vₓ)
    · obtain ⟨e1ₓ, e2ₓ⟩ := IM_det h1ₓ g1ₓ
      rw [h2ₓ, g2ₓ, e1ₓ, e2ₓ]
theorem rlxA_det : ∀ (kₓ jₓ : Nat) (A A1 A2 : Nat → Int), rlxA D L bₓ kₓ jₓ A A1 → rlxA D L bₓ kₓ jₓ A A2 → A1 = A2
  | 0, _, _, _, _, hₓ, gₓ => Eq.trans hₓ (Eq.symm gₓ)
  | kₓ + 1, jₓ, A, A1, A2, ⟨X, h1ₓ, h2ₓ⟩, ⟨Y, g1ₓ, g2ₓ⟩ => by
    have eₓ := rlxO_det h1ₓ g1ₓ
    subst eₓ
    exact rlxA_det kₓ (jₓ + 1) X A1 A2 h2ₓ g2ₓ
theorem DJ_det : ∀ (kₓ k'ₓ : Nat) (A S : Nat → Int) (rₓ r'ₓ : Int), DJ D K N L to kₓ A S rₓ → DJ D K N L to k'ₓ A S r'ₓ → rₓ = r'ₓ
  | 0, _, _, _, _, _, hₓ, _ => hₓ.elim
  | _ + 1, 0, _, _, _, _, _, gₓ => gₓ.elim
  | kₓ + 1, k'ₓ + 1, A, S, rₓ, r'ₓ, ⟨bₓ, hbₓ, hₓ⟩, ⟨b'ₓ, gb, gₓ⟩ => by
    have eₓ := Bst_det hbₓ gb
    subst eₓ
    rcases hₓ with ⟨h1ₓ, h2ₓ⟩ | ⟨h1ₓ, h2ₓ⟩ | ⟨mₓ, h1ₓ, h2ₓ, A1, h3ₓ, h4ₓ⟩
    · rcases gₓ with ⟨g1ₓ, g2ₓ⟩ | ⟨g1ₓ, g2ₓ⟩ | ⟨m'ₓ, g1ₓ, -⟩
      · rw [h2ₓ, g2ₓ]
      · exact absurd g1ₓ (by omega)
      · exact absurd g1ₓ (by omega)
    · rcases gₓ with ⟨g1ₓ, g2ₓ⟩ | ⟨g1ₓ, g2ₓ⟩ | ⟨m'ₓ, g1ₓ, g3ₓ, -⟩
      · exact absurd h1ₓ (by omega)
      · rw [h2ₓ, g2ₓ]
      · exact absurd (show m'ₓ = to by omega) g3ₓ
    · rcases gₓ with ⟨g1ₓ, g2ₓ⟩ | ⟨g1ₓ, g2ₓ⟩ | ⟨m'ₓ, g1ₓ, g2ₓ, A2, g3ₓ, g4ₓ⟩
      · exact absurd h1ₓ (by omega)
      · exact absurd (show mₓ = to by omega) h2ₓ
      · have em : m'ₓ = mₓ := by omega
        subst em
        have ea := rlxA_det N 0 A A1 A2 h3ₓ g3ₓ
        subst ea
        exact DJ_det kₓ k'ₓ A1 _ rₓ r'ₓ h4ₓ g4ₓ
theorem IO_rx1 (hRₓ : StR D K jₓ) (hIₓ : IO A S K L (A bₓ)) (hbₓ : bₓ < K) (hSₓ : S bₓ ≠ 0) (hₓ : rlxO D L bₓ jₓ A A') : IO A' S K L (A bₓ) ∧ ∀ cₓ : Nat, cₓ < K → S cₓ ≠ 0 → A' cₓ = A cₓ := by
  rcases hₓ with ⟨rfl, -⟩ | ⟨c2ₓ, vₓ, ⟨h1ₓ, ⟨tₓ, t1ₓ, t2ₓ, t3ₓ, -, -⟩, h2ₓ⟩, rfl⟩
  · exact ⟨hIₓ, fun _ _ _ => rfl⟩
  · obtain ⟨r1ₓ, r2ₓ, r3ₓ, r4ₓ, r5ₓ, r6ₓ⟩ := hRₓ
    obtain ⟨i1ₓ, i2ₓ, i3ₓ⟩ := hIₓ
    have hc2ₓ : c2ₓ < K := by rcases h1ₓ with ⟨p1ₓ, p2ₓ⟩ | ⟨p1ₓ, p2ₓ, p3ₓ⟩ <;> omega
    have hAbₓ := i2ₓ bₓ hbₓ hSₓ
    have hbrₓ := i1ₓ bₓ
    have huₓ : S c2ₓ = 0 := by
      by_cases qₓ : S c2ₓ = 0
      · exact qₓ
      · have q2ₓ := i2ₓ c2ₓ hc2ₓ qₓ
        exfalso
        rcases h2ₓ with h2ₓ | h2ₓ
        · exact q2ₓ.1 h2ₓ
        · omega
    refine ⟨⟨fun cₓ => ?_, fun cₓ hcₓ hsₓ => ?_, fun cₓ hcₓ hsₓ haₓ => ?_⟩, fun cₓ hcₓ hsₓ => ?_⟩
    · by_cases eₓ : cₓ = c2ₓ
      · subst eₓ; rw [upA_at]; refine Or.inr ⟨?_, t3ₓ⟩
        rcases hbrₓ with hbrₓ | hbrₓ
        · exact absurd hbrₓ hAbₓ.1
        · omega
      · rw [upA_ne eₓ]; exact i1ₓ cₓ
    · by_cases eₓ : cₓ = c2ₓ
      · subst eₓ; exact absurd huₓ hsₓ
      · rw [upA_ne eₓ]; exact i2ₓ cₓ hcₓ hsₓ
    · by_cases eₓ : cₓ = c2ₓ
      · subst eₓ; rw [upA_at]; omega
      · rw [upA_ne eₓ] at haₓ ⊢; exact i3ₓ cₓ hcₓ hsₓ haₓ
    · by_cases eₓ : cₓ = c2ₓ
      · subst eₓ; exact absurd huₓ hsₓ
      · rw [upA_ne eₓ]
theorem IO_rx (hRₓ : ∀ sₓ : Nat, sₓ < N → StR D K sₓ) (hbₓ : bₓ < K) (hSₓ : S bₓ ≠ 0) : ∀ (kₓ jₓ : Nat) (A A' : Nat → Int), jₓ + kₓ = N → IO A S K L (A bₓ) → rlxA D L bₓ kₓ jₓ A A' → IO A' S K L (A bₓ) ∧ ∀ cₓ : Nat, cₓ < K → S cₓ ≠ 0 → A' cₓ = A cₓ
  | 0, _, A, A', _, hIₓ, hₓ => by
    have eₓ : A' = A := hₓ
    subst eₓ
    exact ⟨hIₓ, fun _ _ _ => rfl⟩
  | kₓ + 1, jₓ, A, A', hkₓ, hIₓ, ⟨X, h1ₓ, h2ₓ⟩ => by
    obtain ⟨q1ₓ, q2ₓ⟩ := IO_rx1 (hRₓ jₓ (by omega)) hIₓ hbₓ hSₓ h1ₓ
    have eb : X bₓ = A bₓ := q2ₓ bₓ hbₓ hSₓ
    rw [← eb] at q1ₓ
    obtain ⟨q3ₓ, q4ₓ⟩ := IO_rx hRₓ hbₓ hSₓ kₓ (jₓ + 1) X A' (by omega) q1ₓ h2ₓ
    rw [eb] at q3ₓ
    exact ⟨q3ₓ, fun cₓ hcₓ hsₓ => (q4ₓ cₓ hcₓ hsₓ).trans (q2ₓ cₓ hcₓ hsₓ)⟩
/-- the best is done with: what it was compared with holdsₓ on -/
theorem IO_take {mₓ : Int} {xₓ : Nat} (hIₓ : IO A S K L mₓ) (hₓ : Bst A S K (xₓ : Int)) : IO A (upA S xₓ 1) K L (A xₓ) ∧ xₓ < K ∧ upA S xₓ 1 xₓ ≠ 0 ∧ A xₓ ≠ -1 ∧ S xₓ = 0 := by
  obtain ⟨i1ₓ, i2ₓ, i3ₓ⟩ := hIₓ
  rcases hₓ with ⟨h0ₓ, -⟩ | ⟨m'ₓ, h0ₓ, h1ₓ, h2ₓ, h3ₓ, h4ₓ, h5ₓ⟩
  · exact absurd h0ₓ (by omega)
  · have eₓ : m'ₓ = xₓ := by omega
    subst eₓ
    refine ⟨⟨i1ₓ, fun cₓ hcₓ hsₓ => ?_, fun cₓ hcₓ hsₓ haₓ => ?_⟩, h1ₓ, by rw [upA_at]; decide, h3ₓ, h2ₓ⟩
    · by_cases eₓ : cₓ = m'ₓ
      · subst eₓ; exact ⟨h3ₓ, Int.le_refl _⟩
      · rw [upA_ne eₓ] at hsₓ
        exact ⟨(i2ₓ cₓ hcₓ hsₓ).1, Int.le_trans (i2ₓ cₓ hcₓ hsₓ).2 (i3ₓ m'ₓ h1ₓ h2ₓ h3ₓ)⟩
    · by_cases eₓ : cₓ = m'ₓ
      · subst eₓ; rw [upA_at] at hsₓ; exact absurd hsₓ (by decide)
      · rw [upA_ne eₓ] at hsₓ; exact h4ₓ cₓ hcₓ hsₓ haₓ
theorem DJ_rg (hRₓ : ∀ sₓ : Nat, sₓ < N → StR D K sₓ) : ∀ (kₓ : Nat) (A S : Nat → Int) (m0ₓ rₓ : Int), IO A S K L m0ₓ → DJ D K N L to kₓ A S rₓ → rₓ = -1 ∨ (m0ₓ ≤ rₓ ∧ rₓ ≤ L)
  | 0, _, _, _, _, _, hₓ => hₓ.elim
  | kₓ + 1, A, S, m0ₓ, rₓ, hIₓ, ⟨bₓ, hbₓ, hₓ⟩ => by
    rcases hₓ with ⟨h1ₓ, h2ₓ⟩ | ⟨h1ₓ, h2ₓ⟩ | ⟨mₓ, h1ₓ, h2ₓ, A1, h3ₓ, h4ₓ⟩
    · exact Or.inl h2ₓ
    · rw [h1ₓ] at hbₓ
      obtain ⟨j1ₓ, j2ₓ, j3ₓ, j4ₓ, j5ₓ⟩ := IO_take hIₓ hbₓ
      rw [h2ₓ]; exact Or.inr ⟨hIₓ.2.2 to j2ₓ j5ₓ j4ₓ, ((hIₓ.1 to).resolve_left j4ₓ).2⟩
    · rw [h1ₓ] at hbₓ
      obtain ⟨j1ₓ, j2ₓ, j3ₓ, j4ₓ, j5ₓ⟩ := IO_take hIₓ hbₓ
      obtain ⟨g1ₓ, g2ₓ⟩ := IO_rx hRₓ j2ₓ j3ₓ N 0 A A1 (Nat.zero_add N) j1ₓ h3ₓ
      rcases DJ_rg hRₓ kₓ A1 _ _ rₓ g1ₓ h4ₓ with qₓ | qₓ
      · exact Or.inl qₓ
      · exact Or.inr ⟨Int.le_trans (hIₓ.2.2 mₓ j2ₓ j5ₓ j4ₓ) qₓ.1, qₓ.2⟩
/-- howₓ many are done with -/
def dnC (S : Nat → Int) : Nat → Nat
  | 0 => 0
  | kₓ + 1 => dnC S kₓ + if S kₓ = 0 then 0 else 1
theorem dn_le : ∀ kₓ : Nat, dnC S kₓ ≤ kₓ
  | 0 => Nat.le_refl _
  | kₓ + 1 => by
    have hₓ := dn_le kₓ
    show dnC S kₓ + (if S kₓ = 0 then 0 else 1) ≤ kₓ + 1
    by_cases cₓ : S kₓ = 0
    · rw [if_pos cₓ]; omega
    · rw [if_neg cₓ]; omega
theorem dn_all : ∀ kₓ : Nat, kₓ ≤ dnC S kₓ → ∀ cₓ : Nat, cₓ < kₓ → S cₓ ≠ 0
  | 0, _, cₓ, hcₓ => absurd hcₓ (Nat.not_lt_zero _)
  | kₓ + 1, hₓ, cₓ, hcₓ => by
    have h'ₓ : kₓ + 1 ≤ dnC S kₓ + (if S kₓ = 0 then 0 else 1) := hₓ
    have hlₓ := dn_le (S := S) kₓ
    by_cases qₓ : S kₓ = 0
    · rw [if_pos qₓ] at h'ₓ; omega
    · rw [if_neg qₓ] at h'ₓ
      by_cases eₓ : cₓ = kₓ
      · subst eₓ; exact qₓ
      · exact dn_all kₓ (by omega) cₓ (by omega)
theorem dn_ge : ∀ kₓ : Nat, kₓ ≤ bₓ → dnC (upA S bₓ 1) kₓ = dnC S kₓ
  | 0, _ => rfl
  | kₓ + 1, hₓ => by
    show dnC (upA S bₓ 1) kₓ + (if upA S bₓ 1 kₓ = 0 then 0 else 1) = dnC S kₓ + if S kₓ = 0 then 0 else 1
    rw [dn_ge kₓ (by omega), upA_ne (by omega)]
theorem dn_set (h0ₓ : S bₓ = 0) : ∀ kₓ : Nat, bₓ < kₓ → dnC (upA S bₓ 1) kₓ = dnC S kₓ + 1
  | 0, hₓ => absurd hₓ (Nat.not_lt_zero _)
  | kₓ + 1, hₓ => by
    show dnC (upA S bₓ 1) kₓ + (if upA S bₓ 1 kₓ = 0 then 0 else 1) = dnC S kₓ + (if S kₓ = 0 then 0 else 1) + 1
    by_cases eₓ : kₓ = bₓ
    · subst eₓ
      rw [dn_ge kₓ (Nat.le_refl _), upA_at, h0ₓ, if_neg (by decide), if_pos rfl]
    · rw [dn_set h0ₓ kₓ (by omega), upA_ne eₓ]; omega
end
