/-! streets made one way (Robbins, Boesch and Tindell): what can be reached, told by what is closed -/
/-- from xₓ one comes to yₓ: by the roads below M, forth where F, back where B -/
def RC (M : Nat) (ea eb : Nat → Nat) (F B : Nat → Prop) (xₓ yₓ : Nat) : Prop := ∀ P : Nat → Prop, (∀ iₓ : Nat, iₓ < M → (F iₓ → P (ea iₓ) → P (eb iₓ)) ∧ (B iₓ → P (eb iₓ) → P (ea iₓ))) → P xₓ → P yₓ
section
variable {M : Nat} {ea eb : Nat → Nat} {F B F' B' : Nat → Prop} {xₓ yₓ zₓ rₓ iₓ : Nat}
theorem RC_rf : RC M ea eb F B xₓ xₓ := fun _ _ hₓ => hₓ
theorem RC_tr (hₓ : RC M ea eb F B xₓ yₓ) (gₓ : RC M ea eb F B yₓ zₓ) : RC M ea eb F B xₓ zₓ := fun P hPₓ hxₓ => gₓ P hPₓ (hₓ P hPₓ hxₓ)
theorem RC_f (hiₓ : iₓ < M) (hₓ : F iₓ) : RC M ea eb F B (ea iₓ) (eb iₓ) := fun _ hPₓ hxₓ => (hPₓ iₓ hiₓ).1 hₓ hxₓ
theorem RC_b (hiₓ : iₓ < M) (hₓ : B iₓ) : RC M ea eb F B (eb iₓ) (ea iₓ) := fun _ hPₓ hxₓ => (hPₓ iₓ hiₓ).2 hₓ hxₓ
/-- all that one road leads to can be come to by others -/
theorem RC_by (hₓ : RC M ea eb F B xₓ yₓ) (hFₓ : ∀ iₓ : Nat, iₓ < M → F iₓ → RC M ea eb F' B' (ea iₓ) (eb iₓ)) (hBₓ : ∀ iₓ : Nat, iₓ < M → B iₓ → RC M ea eb F' B' (eb iₓ) (ea iₓ)) : RC M ea eb F' B' xₓ yₓ :=
  hₓ (fun vₓ => RC M ea eb F' B' xₓ vₓ) (fun iₓ hiₓ => ⟨fun qₓ q2ₓ => RC_tr q2ₓ (hFₓ iₓ hiₓ qₓ), fun qₓ q2ₓ => RC_tr q2ₓ (hBₓ iₓ hiₓ qₓ)⟩) RC_rf
theorem RC_mn (hₓ : RC M ea eb F B xₓ yₓ) (hFₓ : ∀ iₓ : Nat, iₓ < M → F iₓ → F' iₓ) (hBₓ : ∀ iₓ : Nat, iₓ < M → B iₓ → B' iₓ) : RC M ea eb F' B' xₓ yₓ :=
  RC_by hₓ (fun iₓ hiₓ qₓ => RC_f hiₓ (hFₓ iₓ hiₓ qₓ)) (fun iₓ hiₓ qₓ => RC_b hiₓ (hBₓ iₓ hiₓ qₓ))
/-- without one road, or once over it -/
theorem RC_cut (hₓ : RC M ea eb F B xₓ yₓ) (rₓ : Nat) : RC M ea eb (fun iₓ => iₓ ≠ rₓ ∧ F iₓ) (fun iₓ => iₓ ≠ rₓ ∧ B iₓ) xₓ yₓ ∨ (F rₓ ∧ RC M ea eb (fun iₓ => iₓ ≠ rₓ ∧ F iₓ) (fun iₓ => iₓ ≠ rₓ ∧ B iₓ) xₓ (ea rₓ) ∧ RC M ea eb (fun iₓ => iₓ ≠ rₓ ∧ F iₓ) (fun iₓ => iₓ ≠ rₓ ∧ B iₓ) (eb rₓ) yₓ) ∨ (B rₓ ∧ RC M ea eb (fun iₓ => iₓ ≠ rₓ ∧ F iₓ) (fun iₓ => iₓ ≠ rₓ ∧ B iₓ) xₓ (eb rₓ) ∧ RC M ea eb (fun iₓ => iₓ ≠ rₓ ∧ F iₓ) (fun iₓ => iₓ ≠ rₓ ∧ B iₓ) (ea rₓ) yₓ) := by
  refine hₓ (fun vₓ => RC M ea eb (fun iₓ => iₓ ≠ rₓ ∧ F iₓ) (fun iₓ => iₓ ≠ rₓ ∧ B iₓ) xₓ vₓ ∨ (F rₓ ∧ RC M ea eb (fun iₓ => iₓ ≠ rₓ ∧ F iₓ) (fun iₓ => iₓ ≠ rₓ ∧ B iₓ) xₓ (ea rₓ) ∧ RC M ea eb (fun iₓ => iₓ ≠ rₓ ∧ F iₓ) (fun iₓ => iₓ ≠ rₓ ∧ B iₓ) (eb rₓ) vₓ) ∨ (B rₓ ∧ RC M ea eb (fun iₓ => iₓ ≠ rₓ ∧ F iₓ) (fun iₓ => iₓ ≠ rₓ ∧ B iₓ) xₓ (eb rₓ) ∧ RC M ea eb (fun iₓ => iₓ ≠ rₓ ∧ F iₓ) (fun iₓ => iₓ ≠ rₓ ∧ B iₓ) (ea rₓ) vₓ)) (fun iₓ hiₓ => ⟨fun hfₓ qₓ => ?_, fun hbₓ qₓ => ?_⟩) (Or.inl RC_rf)
  · by_cases er : iₓ = rₓ
    · subst er
      rcases qₓ with qₓ | ⟨q1ₓ, q2ₓ, q3ₓ⟩ | ⟨q1ₓ, q2ₓ, q3ₓ⟩
      · exact Or.inr (Or.inl ⟨hfₓ, qₓ, RC_rf⟩)
      · exact Or.inr (Or.inl ⟨hfₓ, q2ₓ, RC_rf⟩)
      · exact Or.inl q2ₓ
    · have stₓ : RC M ea eb (fun iₓ => iₓ ≠ rₓ ∧ F iₓ) (fun iₓ => iₓ ≠ rₓ ∧ B iₓ) (ea iₓ) (eb iₓ) := RC_f (F := fun iₓ => iₓ ≠ rₓ ∧ F iₓ) hiₓ ⟨er, hfₓ⟩
      rcases qₓ with qₓ | ⟨q1ₓ, q2ₓ, q3ₓ⟩ | ⟨q1ₓ, q2ₓ, q3ₓ⟩
      · exact Or.inl (RC_tr qₓ stₓ)
      · exact Or.inr (Or.inl ⟨q1ₓ, q2ₓ, RC_tr q3ₓ stₓ⟩)
      · exact Or.inr (Or.inr ⟨q1ₓ, q2ₓ, RC_tr q3ₓ stₓ⟩)
  · by_cases er : iₓ = rₓ
    · subst er
      rcases qₓ with qₓ | ⟨q1ₓ, q2ₓ, q3ₓ⟩ | ⟨q1ₓ, q2ₓ, q3ₓ⟩
      · exact Or.inr (Or.inr ⟨hbₓ, qₓ, RC_rf⟩)
      · exact Or.inl q2ₓ
      · exact Or.inr (Or.inr ⟨hbₓ, q2ₓ, RC_rf⟩)
    · have stₓ : RC M ea eb (fun iₓ => iₓ ≠ rₓ ∧ F iₓ) (fun iₓ => iₓ ≠ rₓ ∧ B iₓ) (eb iₓ) (ea iₓ) := RC_b (B := fun iₓ => iₓ ≠ rₓ ∧ B iₓ) hiₓ ⟨er, hbₓ⟩
      rcases qₓ with qₓ | ⟨q1ₓ, q2ₓ, q3ₓ⟩ | ⟨q1ₓ, q2ₓ, q3ₓ⟩
      · exact Or.inl (RC_tr qₓ stₓ)
      · exact Or.inr (Or.inl ⟨q1ₓ, q2ₓ, RC_tr q3ₓ stₓ⟩)
      · exact Or.inr (Or.inr ⟨q1ₓ, q2ₓ, RC_tr q3ₓ stₓ⟩)
/-- aₓ road that is noₓ bridge can be laid one way or the other: its ends are come to without it -/
theorem RC_ring (hJₓ : ∀ iₓ : Nat, iₓ < M → RC M ea eb F B (ea iₓ) (eb iₓ) ∧ RC M ea eb F B (eb iₓ) (ea iₓ)) (hfbₓ : ∀ iₓ : Nat, iₓ < M → F iₓ ∨ B iₓ) (hnₓ : RC M ea eb (fun iₓ => iₓ ≠ rₓ) (fun iₓ => iₓ ≠ rₓ) (ea rₓ) (eb rₓ)) : RC M ea eb (fun iₓ => iₓ ≠ rₓ ∧ F iₓ) (fun iₓ => iₓ ≠ rₓ ∧ B iₓ) (ea rₓ) (eb rₓ) ∨ RC M ea eb (fun iₓ => iₓ ≠ rₓ ∧ F iₓ) (fun iₓ => iₓ ≠ rₓ ∧ B iₓ) (eb rₓ) (ea rₓ) := by
  by_cases cₓ : RC M ea eb (fun iₓ => iₓ ≠ rₓ ∧ F iₓ) (fun iₓ => iₓ ≠ rₓ ∧ B iₓ) (ea rₓ) (eb rₓ)
  · exact Or.inl cₓ
  · refine Or.inr ?_
    -- aₓ road that leads into what can be come to, and not out of it
    have hsₓ : ∃ uₓ vₓ iₓ : Nat, iₓ < M ∧ iₓ ≠ rₓ ∧ RC M ea eb (fun iₓ => iₓ ≠ rₓ ∧ F iₓ) (fun iₓ => iₓ ≠ rₓ ∧ B iₓ) (ea rₓ) uₓ ∧ ¬ RC M ea eb (fun iₓ => iₓ ≠ rₓ ∧ F iₓ) (fun iₓ => iₓ ≠ rₓ ∧ B iₓ) (ea rₓ) vₓ ∧ RC M ea eb F B uₓ vₓ ∧ RC M ea eb (fun iₓ => iₓ ≠ rₓ ∧ F iₓ) (fun iₓ => iₓ ≠ rₓ ∧ B iₓ) vₓ uₓ := by
      by_cases hₓ : ∃ uₓ vₓ iₓ : Nat, iₓ < M ∧ iₓ ≠ rₓ ∧ RC M ea eb (fun iₓ => iₓ ≠ rₓ ∧ F iₓ) (fun iₓ => iₓ ≠ rₓ ∧ B iₓ) (ea rₓ) uₓ ∧ ¬ RC M ea eb (fun iₓ => iₓ ≠ rₓ ∧ F iₓ) (fun iₓ => iₓ ≠ rₓ ∧ B iₓ) (ea rₓ) vₓ ∧ RC M ea eb F B uₓ vₓ ∧ RC M ea eb (fun iₓ => iₓ ≠ rₓ ∧ F iₓ) (fun iₓ => iₓ ≠ rₓ ∧ B iₓ) vₓ uₓ
      · exact hₓ
      · exfalso
        refine cₓ (hnₓ (fun vₓ => RC M ea eb (fun iₓ => iₓ ≠ rₓ ∧ F iₓ) (fun iₓ => iₓ ≠ rₓ ∧ B iₓ) (ea rₓ) vₓ) (fun iₓ hiₓ => ⟨fun hrₓ qₓ => ?_, fun hrₓ qₓ => ?_⟩) RC_rf)
        · by_cases gₓ : RC M ea eb (fun iₓ => iₓ ≠ rₓ ∧ F iₓ) (fun iₓ => iₓ ≠ rₓ ∧ B iₓ) (ea rₓ) (eb iₓ)
          · exact gₓ
          · exfalso
            have nf : ¬ F iₓ := fun hfₓ => gₓ (RC_tr qₓ (RC_f (F := fun iₓ => iₓ ≠ rₓ ∧ F iₓ) hiₓ ⟨hrₓ, hfₓ⟩))
            exact hₓ ⟨ea iₓ, eb iₓ, iₓ, hiₓ, hrₓ, qₓ, gₓ, (hJₓ iₓ hiₓ).1, RC_b (B := fun iₓ => iₓ ≠ rₓ ∧ B iₓ) hiₓ ⟨hrₓ, (hfbₓ iₓ hiₓ).resolve_left nf⟩⟩
        · by_cases gₓ : RC M ea eb (fun iₓ => iₓ ≠ rₓ ∧ F iₓ) (fun iₓ => iₓ ≠ rₓ ∧ B iₓ) (ea rₓ) (ea iₓ)
          · exact gₓ
          · exfalso
            have nb : ¬ B iₓ := fun hbₓ => gₓ (RC_tr qₓ (RC_b (B := fun iₓ => iₓ ≠ rₓ ∧ B iₓ) hiₓ ⟨hrₓ, hbₓ⟩))
            exact hₓ ⟨eb iₓ, ea iₓ, iₓ, hiₓ, hrₓ, qₓ, gₓ, (hJₓ iₓ hiₓ).2, RC_f (F := fun iₓ => iₓ ≠ rₓ ∧ F iₓ) hiₓ ⟨hrₓ, (hfbₓ iₓ hiₓ).resolve_right nb⟩⟩
    obtain ⟨uₓ, vₓ, iₓ, hiₓ, hrₓ, h1ₓ, h2ₓ, h3ₓ, h4ₓ⟩ := hsₓ
    rcases RC_cut h3ₓ rₓ with qₓ | ⟨-, q1ₓ, q2ₓ⟩ | ⟨-, q1ₓ, q2ₓ⟩
    · exact absurd (RC_tr h1ₓ qₓ) h2ₓ
    · exact RC_tr q2ₓ (RC_tr h4ₓ q1ₓ)
    · exact absurd q2ₓ h2ₓ
/-- howₓ roads are laid: 0 both ways, 1 forth, 2 back -/
def Fo (sₓ : Nat → Nat) (iₓ : Nat) : Prop := sₓ iₓ = 0 ∨ sₓ iₓ = 1
def Ba (sₓ : Nat → Nat) (iₓ : Nat) : Prop := sₓ iₓ = 0 ∨ sₓ iₓ = 2
def upN (sₓ : Nat → Nat) (rₓ vₓ : Nat) : Nat → Nat := fun iₓ => if iₓ = rₓ then vₓ else sₓ iₓ
theorem upN_s {sₓ : Nat → Nat} {vₓ : Nat} : upN sₓ rₓ vₓ rₓ = vₓ := if_pos rfl
theorem upN_n {sₓ : Nat → Nat} {vₓ : Nat} (hₓ : iₓ ≠ rₓ) : upN sₓ rₓ vₓ iₓ = sₓ iₓ := if_neg hₓ
/-- all ends that were come to both ways still are -/
def JJ (M : Nat) (ea eb : Nat → Nat) (sₓ : Nat → Nat) : Prop := (∀ iₓ : Nat, iₓ < M → sₓ iₓ ≤ 2) ∧ ∀ iₓ : Nat, iₓ < M → RC M ea eb (Fo sₓ) (Ba sₓ) (ea iₓ) (eb iₓ) ∧ RC M ea eb (Fo sₓ) (Ba sₓ) (eb iₓ) (ea iₓ)
theorem Fo_Ba {sₓ : Nat → Nat} (hₓ : sₓ iₓ ≤ 2) : Fo sₓ iₓ ∨ Ba sₓ iₓ := by
  unfold Fo Ba
  omega
theorem JJ_ring {sₓ : Nat → Nat} (hₓ : JJ M ea eb sₓ) (hrₓ : rₓ < M) (h0ₓ : sₓ rₓ = 0) (hnₓ : RC M ea eb (fun iₓ => iₓ ≠ rₓ) (fun iₓ => iₓ ≠ rₓ) (ea rₓ) (eb rₓ)) : ∃ vₓ : Nat, (vₓ = 1 ∨ vₓ = 2) ∧ JJ M ea eb (upN sₓ rₓ vₓ) := by
  have goₓ : ∀ vₓ : Nat, vₓ ≤ 2 → (∀ xₓ yₓ : Nat, RC M ea eb (Fo sₓ) (Ba sₓ) xₓ yₓ → RC M ea eb (Fo (upN sₓ rₓ vₓ)) (Ba (upN sₓ rₓ vₓ)) xₓ yₓ) → JJ M ea eb (upN sₓ rₓ vₓ) := fun vₓ hv gₓ => by
    refine ⟨fun iₓ hiₓ => ?_, fun iₓ hiₓ => ⟨gₓ _ _ (hₓ.2 iₓ hiₓ).1, gₓ _ _ (hₓ.2 iₓ hiₓ).2⟩⟩
    by_cases eₓ : iₓ = rₓ
    · subst eₓ; rw [upN_s]; exact hv
    · rw [upN_n eₓ]; exact hₓ.1 iₓ hiₓ
  have cutF : ∀ vₓ iₓ : Nat, (iₓ ≠ rₓ ∧ Fo sₓ iₓ) → Fo (upN sₓ rₓ vₓ) iₓ := fun vₓ iₓ qₓ => by
    unfold Fo; rw [upN_n qₓ.1]; exact qₓ.2
  have cutB : ∀ vₓ iₓ : Nat, (iₓ ≠ rₓ ∧ Ba sₓ iₓ) → Ba (upN sₓ rₓ vₓ) iₓ := fun vₓ iₓ qₓ => by
    unfold Ba; rw [upN_n qₓ.1]; exact qₓ.2
  rcases RC_ring (rₓ := rₓ) hₓ.2 (fun iₓ hiₓ => Fo_Ba (hₓ.1 iₓ hiₓ)) hnₓ with qₓ | qₓ
  · refine ⟨2, Or.inr rfl, goₓ 2 (Nat.le_refl _) (fun xₓ yₓ hxyₓ => RC_by hxyₓ (fun iₓ hiₓ hfₓ => ?_) (fun iₓ hiₓ hbₓ => ?_))⟩
    · by_cases eₓ : iₓ = rₓ
      · subst eₓ
        exact RC_mn qₓ (fun jₓ _ => cutF 2 jₓ) (fun jₓ _ => cutB 2 jₓ)
      · exact RC_f hiₓ (cutF 2 iₓ ⟨eₓ, hfₓ⟩)
    · by_cases eₓ : iₓ = rₓ
      · subst eₓ
        exact RC_b hiₓ (Or.inr upN_s)
      · exact RC_b hiₓ (cutB 2 iₓ ⟨eₓ, hbₓ⟩)
  · refine ⟨1, Or.inl rfl, goₓ 1 (by decide) (fun xₓ yₓ hxyₓ => RC_by hxyₓ (fun iₓ hiₓ hfₓ => ?_) (fun iₓ hiₓ hbₓ => ?_))⟩
    · by_cases eₓ : iₓ = rₓ
      · subst eₓ
        exact RC_f hiₓ (Or.inr upN_s)
      · exact RC_f hiₓ (cutF 1 iₓ ⟨eₓ, hfₓ⟩)
    · by_cases eₓ : iₓ = rₓ
      · subst eₓ
        exact RC_mn qₓ (fun jₓ _ => cutF 1 jₓ) (fun jₓ _ => cutB 1 jₓ)
      · exact RC_b hiₓ (cutB 1 iₓ ⟨eₓ, hbₓ⟩)
/-- all roads that are noₓ bridges are laid -/
theorem JJ_rings (M' : Nat) : ∀ kₓ : Nat, kₓ ≤ M → ∃ sₓ : Nat → Nat, JJ M ea eb sₓ ∧ (∀ iₓ : Nat, kₓ ≤ iₓ → sₓ iₓ = 0) ∧ ∀ iₓ : Nat, iₓ < kₓ → sₓ iₓ = 0 → ¬ RC M ea eb (fun jₓ => jₓ ≠ iₓ) (fun jₓ => jₓ ≠ iₓ) (ea iₓ) (eb iₓ)
  | 0, _ => ⟨fun _ => 0, ⟨fun _ _ => Nat.zero_le _, fun iₓ hiₓ => ⟨RC_f hiₓ (Or.inl rfl), RC_b hiₓ (Or.inl rfl)⟩⟩, fun _ _ => rfl, fun iₓ hiₓ => absurd hiₓ (Nat.not_lt_zero _)⟩
  | kₓ + 1, hkₓ => by
    obtain ⟨sₓ, h1ₓ, h2ₓ, h3ₓ⟩ := JJ_rings M' kₓ (by omega)
    by_cases cₓ : RC M ea eb (fun jₓ => jₓ ≠ kₓ) (fun jₓ => jₓ ≠ kₓ) (ea kₓ) (eb kₓ)
    · obtain ⟨vₓ, hv, gₓ⟩ := JJ_ring h1ₓ (by omega) (h2ₓ kₓ (Nat.le_refl _)) cₓ
      refine ⟨upN sₓ kₓ vₓ, gₓ, fun iₓ hiₓ => ?_, fun iₓ hiₓ hzₓ => ?_⟩
      · rw [upN_n (by omega)]; exact h2ₓ iₓ (by omega)
      · by_cases eₓ : iₓ = kₓ
        · subst eₓ; rw [upN_s] at hzₓ; exfalso; omega
        · rw [upN_n eₓ] at hzₓ; exact h3ₓ iₓ (by omega) hzₓ
    · refine ⟨sₓ, h1ₓ, fun iₓ hiₓ => h2ₓ iₓ (by omega), fun iₓ hiₓ hzₓ => ?_⟩
      by_cases eₓ : iₓ = kₓ
      · subst eₓ; exact cₓ
      · exact h3ₓ iₓ (by omega) hzₓ
/-- the errands goₓ over noₓ bridge both ways; then all can be done by roads that are one way each -/
theorem one_ways {E : Nat} {ef etₓ : Nat → Nat} {A : Nat → Prop} (huₓ : ∀ eₓ : Nat, eₓ < E → A eₓ → RC M ea eb (fun _ => True) (fun _ => True) (ef eₓ) (etₓ eₓ)) (hoₓ : ∀ rₓ eₓ e'ₓ : Nat, rₓ < M → eₓ < E → e'ₓ < E → A eₓ → A e'ₓ → ¬ ((RC M ea eb (fun jₓ => jₓ ≠ rₓ) (fun jₓ => jₓ ≠ rₓ) (ea rₓ) (ef eₓ) ∧ ¬ RC M ea eb (fun jₓ => jₓ ≠ rₓ) (fun jₓ => jₓ ≠ rₓ) (ea rₓ) (etₓ eₓ)) ∧ ¬ RC M ea eb (fun jₓ => jₓ ≠ rₓ) (fun jₓ => jₓ ≠ rₓ) (ea rₓ) (ef e'ₓ) ∧ RC M ea eb (fun jₓ => jₓ ≠ rₓ) (fun jₓ => jₓ ≠ rₓ) (ea rₓ) (etₓ e'ₓ))) : ∃ sₓ : Nat → Nat, (∀ iₓ : Nat, iₓ < M → sₓ iₓ = 1 ∨ sₓ iₓ = 2) ∧ ∀ eₓ : Nat, eₓ < E → A eₓ → RC M ea eb (Fo sₓ) (Ba sₓ) (ef eₓ) (etₓ eₓ) := by
  -- undirected ways without aₓ road goₓ both ways
  have sym : ∀ rₓ xₓ yₓ : Nat, RC M ea eb (fun jₓ => jₓ ≠ rₓ) (fun jₓ => jₓ ≠ rₓ) xₓ yₓ → RC M ea eb (fun jₓ => jₓ ≠ rₓ) (fun jₓ => jₓ ≠ rₓ) yₓ xₓ := fun rₓ xₓ yₓ hₓ => hₓ (fun vₓ => RC M ea eb (fun jₓ => jₓ ≠ rₓ) (fun jₓ => jₓ ≠ rₓ) vₓ xₓ) (fun iₓ hiₓ => ⟨fun qₓ q2ₓ => RC_tr (RC_b (B := fun jₓ => jₓ ≠ rₓ) hiₓ qₓ) q2ₓ, fun qₓ q2ₓ => RC_tr (RC_f (F := fun jₓ => jₓ ≠ rₓ) hiₓ qₓ) q2ₓ⟩) RC_rf
  have all : ∀ kₓ : Nat, kₓ ≤ M → ∃ sₓ : Nat → Nat, (∀ iₓ : Nat, iₓ < M → sₓ iₓ ≤ 2) ∧ (∀ iₓ : Nat, iₓ < kₓ → sₓ iₓ ≠ 0) ∧ (∀ iₓ : Nat, iₓ < M → sₓ iₓ = 0 → ¬ RC M ea eb (fun jₓ => jₓ ≠ iₓ) (fun jₓ => jₓ ≠ iₓ) (ea iₓ) (eb iₓ)) ∧ ∀ eₓ : Nat, eₓ < E → A eₓ → RC M ea eb (Fo sₓ) (Ba sₓ) (ef eₓ) (etₓ eₓ) := by
    intro kₓ
    induction kₓ with
    | zero =>
      intro _
      obtain ⟨sₓ, h1ₓ, h2ₓ, h3ₓ⟩ := JJ_rings (ea := ea) (eb := eb) M M (Nat.le_refl _)
      exact ⟨sₓ, h1ₓ.1, fun iₓ hiₓ => absurd hiₓ (Nat.not_lt_zero _), h3ₓ, fun eₓ heₓ haₓ => RC_by (huₓ eₓ heₓ haₓ) (fun iₓ hiₓ _ => (h1ₓ.2 iₓ hiₓ).1) (fun iₓ hiₓ _ => (h1ₓ.2 iₓ hiₓ).2)⟩
    | succ kₓ ihₓ =>
      intro hkₓ
      obtain ⟨sₓ, h1ₓ, h2ₓ, h3ₓ, h4ₓ⟩ := ihₓ (by omega)
      by_cases cₓ : sₓ kₓ = 0
      · have hbrₓ := h3ₓ kₓ (by omega) cₓ
        -- to lay the bridge
        have lay : ∀ vₓ : Nat, (vₓ = 1 ∨ vₓ = 2) → (∀ eₓ : Nat, eₓ < E → A eₓ → RC M ea eb (Fo (upN sₓ kₓ vₓ)) (Ba (upN sₓ kₓ vₓ)) (ef eₓ) (etₓ eₓ)) → ∃ sₓ : Nat → Nat, (∀ iₓ : Nat, iₓ < M → sₓ iₓ ≤ 2) ∧ (∀ iₓ : Nat, iₓ < kₓ + 1 → sₓ iₓ ≠ 0) ∧ (∀ iₓ : Nat, iₓ < M → sₓ iₓ = 0 → ¬ RC M ea eb (fun jₓ => jₓ ≠ iₓ) (fun jₓ => jₓ ≠ iₓ) (ea iₓ) (eb iₓ)) ∧ ∀ eₓ : Nat, eₓ < E → A eₓ → RC M ea eb (Fo sₓ) (Ba sₓ) (ef eₓ) (etₓ eₓ) := fun vₓ hv gₓ => by
          refine ⟨upN sₓ kₓ vₓ, fun iₓ hiₓ => ?_, fun iₓ hiₓ => ?_, fun iₓ hiₓ hzₓ => ?_, gₓ⟩
          · by_cases eₓ : iₓ = kₓ
            · subst eₓ; rw [upN_s]; omega
            · rw [upN_n eₓ]; exact h1ₓ iₓ hiₓ
          · by_cases eₓ : iₓ = kₓ
            · subst eₓ; rw [upN_s]; omega
            · rw [upN_n eₓ]; exact h2ₓ iₓ (by omega)
          · by_cases eₓ : iₓ = kₓ
            · subst eₓ; rw [upN_s] at hzₓ; exfalso; omega
            · rw [upN_n eₓ] at hzₓ; exact h3ₓ iₓ hiₓ hzₓ
        have cutF : ∀ vₓ iₓ : Nat, (iₓ ≠ kₓ ∧ Fo sₓ iₓ) → Fo (upN sₓ kₓ vₓ) iₓ := fun vₓ iₓ qₓ => by
          unfold Fo; rw [upN_n qₓ.1]; exact qₓ.2
        have cutB : ∀ vₓ iₓ : Nat, (iₓ ≠ kₓ ∧ Ba sₓ iₓ) → Ba (upN sₓ kₓ vₓ) iₓ := fun vₓ iₓ qₓ => by
          unfold Ba; rw [upN_n qₓ.1]; exact qₓ.2
        have wide : ∀ vₓ xₓ yₓ : Nat, RC M ea eb (fun iₓ => iₓ ≠ kₓ ∧ Fo sₓ iₓ) (fun iₓ => iₓ ≠ kₓ ∧ Ba sₓ iₓ) xₓ yₓ → RC M ea eb (Fo (upN sₓ kₓ vₓ)) (Ba (upN sₓ kₓ vₓ)) xₓ yₓ := fun vₓ xₓ yₓ hₓ => RC_mn hₓ (fun jₓ _ => cutF vₓ jₓ) (fun jₓ _ => cutB vₓ jₓ)
        have und : ∀ xₓ yₓ : Nat, RC M ea eb (fun iₓ => iₓ ≠ kₓ ∧ Fo sₓ iₓ) (fun iₓ => iₓ ≠ kₓ ∧ Ba sₓ iₓ) xₓ yₓ → RC M ea eb (fun jₓ => jₓ ≠ kₓ) (fun jₓ => jₓ ≠ kₓ) xₓ yₓ := fun xₓ yₓ hₓ => RC_mn hₓ (fun jₓ _ qₓ => qₓ.1) (fun jₓ _ qₓ => qₓ.1)
        by_cases ce : ∃ eₓ : Nat, eₓ < E ∧ A eₓ ∧ RC M ea eb (fun jₓ => jₓ ≠ kₓ) (fun jₓ => jₓ ≠ kₓ) (ea kₓ) (ef eₓ) ∧ ¬ RC M ea eb (fun jₓ => jₓ ≠ kₓ) (fun jₓ => jₓ ≠ kₓ) (ea kₓ) (etₓ eₓ)
        · obtain ⟨e0ₓ, e1ₓ, e2ₓ, e3ₓ, e4ₓ⟩ := ce
          refine lay 1 (Or.inl rfl) (fun eₓ heₓ haₓ => ?_)
          rcases RC_cut (h4ₓ eₓ heₓ haₓ) kₓ with qₓ | ⟨-, q1ₓ, q2ₓ⟩ | ⟨-, q1ₓ, q2ₓ⟩
          · exact wide 1 _ _ qₓ
          · exact RC_tr (wide 1 _ _ q1ₓ) (RC_tr (RC_f (show kₓ < M by omega) (Or.inr upN_s)) (wide 1 _ _ q2ₓ))
          · exfalso
            refine hoₓ kₓ e0ₓ eₓ (by omega) e1ₓ heₓ e2ₓ haₓ ⟨⟨e3ₓ, e4ₓ⟩, fun qₓ => ?_, und _ _ q2ₓ⟩
            exact hbrₓ (RC_tr qₓ (und _ _ q1ₓ))
        · refine lay 2 (Or.inr rfl) (fun eₓ heₓ haₓ => ?_)
          rcases RC_cut (h4ₓ eₓ heₓ haₓ) kₓ with qₓ | ⟨-, q1ₓ, q2ₓ⟩ | ⟨-, q1ₓ, q2ₓ⟩
          · exact wide 2 _ _ qₓ
          · exfalso
            refine ce ⟨eₓ, heₓ, haₓ, sym kₓ _ _ (und _ _ q1ₓ), fun qₓ => ?_⟩
            exact hbrₓ (RC_tr qₓ (sym kₓ _ _ (und _ _ q2ₓ)))
          · exact RC_tr (wide 2 _ _ q1ₓ) (RC_tr (RC_b (show kₓ < M by omega) (Or.inr upN_s)) (wide 2 _ _ q2ₓ))
      · refine ⟨sₓ, h1ₓ, fun iₓ hiₓ => ?_, h3ₓ, h4ₓ⟩
        by_cases eₓ : iₓ = kₓ
        · subst eₓ; exact cₓ
        · exact h2ₓ iₓ (by omega)
  obtain ⟨sₓ, h1ₓ, h2ₓ, -, h4ₓ⟩ := all M (Nat.le_refl _)
  exact ⟨sₓ, fun iₓ hiₓ => by have q1ₓ := h1ₓ iₓ hiₓ; have q2ₓ := h2ₓ iₓ hiₓ; omega, h4ₓ⟩
/-- over aₓ road that is one way two errands at odds can't both goₓ -/
theorem odds_no {sₓ : Nat → Nat} {fₓ tₓ f'ₓ t'ₓ : Nat} (hrₓ : rₓ < M) (h1ₓ : ∀ iₓ : Nat, iₓ < M → sₓ iₓ = 1 ∨ sₓ iₓ = 2) (a1ₓ : RC M ea eb (fun jₓ => jₓ ≠ rₓ) (fun jₓ => jₓ ≠ rₓ) (ea rₓ) fₓ) (a2ₓ : ¬ RC M ea eb (fun jₓ => jₓ ≠ rₓ) (fun jₓ => jₓ ≠ rₓ) (ea rₓ) tₓ) (b1ₓ : ¬ RC M ea eb (fun jₓ => jₓ ≠ rₓ) (fun jₓ => jₓ ≠ rₓ) (ea rₓ) f'ₓ) (b2ₓ : RC M ea eb (fun jₓ => jₓ ≠ rₓ) (fun jₓ => jₓ ≠ rₓ) (ea rₓ) t'ₓ) (hₓ : RC M ea eb (Fo sₓ) (Ba sₓ) fₓ tₓ) (gₓ : RC M ea eb (Fo sₓ) (Ba sₓ) f'ₓ t'ₓ) : False := by
  have und : ∀ xₓ yₓ : Nat, RC M ea eb (fun iₓ => iₓ ≠ rₓ ∧ Fo sₓ iₓ) (fun iₓ => iₓ ≠ rₓ ∧ Ba sₓ iₓ) xₓ yₓ → RC M ea eb (fun jₓ => jₓ ≠ rₓ) (fun jₓ => jₓ ≠ rₓ) xₓ yₓ := fun xₓ yₓ hₓ => RC_mn hₓ (fun jₓ _ qₓ => qₓ.1) (fun jₓ _ qₓ => qₓ.1)
  have sym : ∀ xₓ yₓ : Nat, RC M ea eb (fun jₓ => jₓ ≠ rₓ) (fun jₓ => jₓ ≠ rₓ) xₓ yₓ → RC M ea eb (fun jₓ => jₓ ≠ rₓ) (fun jₓ => jₓ ≠ rₓ) yₓ xₓ := fun xₓ yₓ hₓ => hₓ (fun vₓ => RC M ea eb (fun jₓ => jₓ ≠ rₓ) (fun jₓ => jₓ ≠ rₓ) vₓ xₓ) (fun iₓ hiₓ => ⟨fun qₓ q2ₓ => RC_tr (RC_b (B := fun jₓ => jₓ ≠ rₓ) hiₓ qₓ) q2ₓ, fun qₓ q2ₓ => RC_tr (RC_f (F := fun jₓ => jₓ ≠ rₓ) hiₓ qₓ) q2ₓ⟩) RC_rf
  have hsₓ : sₓ rₓ = 1 := by
    rcases RC_cut hₓ rₓ with qₓ | ⟨qₓ, -, -⟩ | ⟨-, -, qₓ⟩
    · exact absurd (RC_tr a1ₓ (und _ _ qₓ)) a2ₓ
    · rcases h1ₓ rₓ hrₓ with wₓ | wₓ
      · exact wₓ
      · rcases qₓ with qₓ | qₓ <;> omega
    · exact absurd (und _ _ qₓ) a2ₓ
  rcases RC_cut gₓ rₓ with qₓ | ⟨-, qₓ, -⟩ | ⟨qₓ, -, -⟩
  · exact b1ₓ (RC_tr b2ₓ (sym _ _ (und _ _ qₓ)))
  · exact b1ₓ (sym _ _ (und _ _ qₓ))
  · rcases qₓ with qₓ | qₓ <;> omega
/-- what is cut off can't be come to by roads that are one way -/
theorem und_all {sₓ : Nat → Nat} (hₓ : RC M ea eb (Fo sₓ) (Ba sₓ) xₓ yₓ) : RC M ea eb (fun _ => True) (fun _ => True) xₓ yₓ := RC_mn hₓ (fun _ _ _ => trivial) (fun _ _ _ => trivial)
end
