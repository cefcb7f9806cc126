/-! the reference's values, sums, comparisons goₓ by the machine -/
def OKM (F : Int → Int) (N : Int) (σ : SS) : Prop := MV F N σ ∧ (0 ≤ σ 0 14 ∧ σ 0 14 ≤ N) ∧ σ 0 15 = 0 ∧ 0 ≤ σ 0 18 ∧ σ 0 18 ≤ 60
def KS (σ σ' : SS) : Prop := ∀ qₓ kₓ : Nat, (qₓ = 1 ∨ qₓ = 9 ∨ (qₓ = 0 ∧ kₓ ≠ 14 ∧ kₓ ≠ 15 ∧ kₓ ≠ 16 ∧ kₓ ≠ 18)) → σ' qₓ kₓ = σ qₓ kₓ
def cfgM (F : Int → Int) (N : Int) (ℓ : Nat) (S : List Bool) (σ : SS) : Cfg := (ℓ, sk F N (σ 0 14), σ 0 18, σ 0 20, S)
def RM (F : Int → Int) (N : Int) (ℓ ℓ' : Nat) (S S' : List Bool) (rₓ : Int) (σ σ' : SS) : Prop := (rₓ = 1 ∧ OKM F N σ' ∧ St F N (cfgM F N ℓ S σ) (cfgM F N ℓ' S' σ')) ∨ (rₓ = 0 ∧ σ' 0 15 ≠ 0 ∧ St F N (cfgM F N ℓ S σ) (halt (σ' 0 15)))
theorem KS.rf {σ : SS} : KS σ σ := fun _ _ _ => rfl
theorem KS.tr {σ σ' σ'' : SS} (hₓ : KS σ σ') (gₓ : KS σ' σ'') : KS σ σ'' := fun qₓ kₓ eₓ => (gₓ qₓ kₓ eₓ).trans (hₓ qₓ kₓ eₓ)
theorem KS.up {σ : SS} {kₓ : Nat} {vₓ : Int} (hₓ : kₓ = 14 ∨ kₓ = 15 ∨ kₓ = 16 ∨ kₓ = 18) : KS σ (upS σ 0 kₓ vₓ) := fun aₓ bₓ eₓ => upS_n (by omega)
section
variable {F : Int → Int} {N : Int} {ℓ ℓ' ℓ'' : Nat} {S S' S'' : List Bool} {σ σ' σ'' : SS} {pₓ rₓ aₓ bₓ wₓ xₓ : Int} {nₓ : Nat}
theorem RM.tr (gₓ : OKM F N σ' ∧ St F N (cfgM F N ℓ S σ) (cfgM F N ℓ' S' σ')) (hₓ : RM F N ℓ' ℓ'' S' S'' rₓ σ' σ'') : RM F N ℓ ℓ'' S S'' rₓ σ σ'' := by
  rcases hₓ with ⟨h1ₓ, h2ₓ, h3ₓ⟩ | ⟨h1ₓ, h2ₓ, h3ₓ⟩
  · exact Or.inl ⟨h1ₓ, h2ₓ, gₓ.2.tr h3ₓ⟩
  · exact Or.inr ⟨h1ₓ, h2ₓ, gₓ.2.tr h3ₓ⟩
theorem OKM.mv (hₓ : OKM F N σ) (h0ₓ : 0 ≤ pₓ) (h1ₓ : pₓ ≤ N) : OKM F N (upS σ 0 14 pₓ) := by
  obtain ⟨a1ₓ, a2ₓ, a3ₓ, a4ₓ, a5ₓ⟩ := hₓ
  refine ⟨a1ₓ.up (by decide) (by omega), by rw [upS_s]; exact ⟨h0ₓ, h1ₓ⟩, ?_, ?_, ?_⟩
  · rw [upS_n (by omega)]; exact a3ₓ
  · rw [upS_n (by omega)]; exact a4ₓ
  · rw [upS_n (by omega)]; exact a5ₓ
theorem cfgM_mv : cfgM F N ℓ S (upS σ 0 14 pₓ) = (ℓ, sk F N pₓ, σ 0 18, σ 0 20, S) := by
  unfold cfgM; rw [upS_s, upS_n (by omega), upS_n (by omega)]
def P23 (σ σ' : SS) : Prop := ∀ qₓ kₓ : Nat, qₓ ≠ 2 → qₓ ≠ 3 → σ' qₓ kₓ = σ qₓ kₓ
theorem P23.ks (hₓ : P23 σ σ') : KS σ σ' := fun qₓ kₓ eₓ => hₓ qₓ kₓ (by omega) (by omega)
theorem OKM.p23 (hₓ : OKM F N σ) (eₓ : P23 σ σ') : OKM F N σ' := by
  obtain ⟨a1ₓ, a2ₓ, a3ₓ, a4ₓ, a5ₓ⟩ := hₓ
  unfold OKM
  rw [eₓ 0 14 (by decide) (by decide), eₓ 0 15 (by decide) (by decide), eₓ 0 18 (by decide) (by decide)]
  exact ⟨⟨(eₓ 0 1 (by decide) (by decide)).trans a1ₓ.1, fun jₓ h0ₓ h1ₓ => by rw [eₓ 1 jₓ.toNat (by decide) (by decide)]; exact a1ₓ.2 jₓ h0ₓ h1ₓ⟩, a2ₓ, a3ₓ, a4ₓ, a5ₓ⟩
theorem cfgM_p23 (eₓ : P23 σ σ') : cfgM F N ℓ S σ' = cfgM F N ℓ S σ := by
  unfold cfgM; rw [eₓ 0 14 (by decide) (by decide), eₓ 0 18 (by decide) (by decide), eₓ 0 20 (by decide) (by decide)]
theorem r_puts (eₓ : m_X12_puts nₓ 0 aₓ bₓ σ = some (rₓ, σ')) : P23 σ σ' := by
  unfold m_X12_puts at eₓ
  simp only [mRd_e, mLet_e, mWr_e, mRet_e] at eₓ
  obtain ⟨-, rfl⟩ := some_el eₓ
  intro qₓ kₓ h2ₓ h3ₓ
  rw [upS_q h3ₓ, upS_q h2ₓ]
theorem r_makes (hₓ : σ 0 15 = 0) : m_X12_makes nₓ 0 aₓ σ = if σ 0 18 = 60 then some (0, upS σ 0 15 (1 + 8 * aₓ + 3)) else some (1, upS σ 0 18 (σ 0 18 + 1)) := by
  unfold m_X12_makes
  rw [mRd_e]
  by_cases cₓ : σ 0 18 = 60
  · rw [mIf_neg (fun qₓ => qₓ cₓ), r_fails hₓ, mCall_s, mRet_e, if_pos cₓ]
  · rw [mIf_pos cₓ, mRd_e, mLet_e, mWr_e, mRet_e, if_neg cₓ]
theorem wd_v0 : WD 1752135026 [104, 111, 117, 114] := by unfold WD; decide
theorem wd_v1 : WD 6578553 [100, 97, 121] := by unfold WD; decide
theorem wd_v2 : WD 1684108389 [100, 97, 116, 101] := by unfold WD; decide
theorem wd_v3 : WD 109330312357234 [99, 111, 114, 110, 101, 114] := by unfold WD; decide
theorem wd_v4 : WD 1735352684 [103, 111, 97, 108] := by unfold WD; decide
theorem wd_v5 : WD 1936225652 [115, 104, 117, 116] := by unfold WD; decide
theorem wd_v6 : WD 1818584692 [108, 101, 102, 116] := by unfold WD; decide
theorem wd_v7 : WD 495874044019 [115, 116, 101, 112, 115] := by unfold WD; decide
theorem wd_v8 : WD 418548245860 [97, 115, 107, 101, 100] := by unfold WD; decide
theorem wd_v9 : WD 1667329381 [99, 97, 109, 101] := by unfold WD; decide
theorem r_wordHere (hₓ : MV F N σ) (hpₓ : 0 ≤ σ 0 14) (eₓ : m_X12_wordHere nₓ 0 σ = some (rₓ, σ')) : ((wVals.any (fun W => isWd F N (sk F N (σ 0 14)) W) = true ∧ 0 ≤ rₓ) ∨ (wVals.any (fun W => isWd F N (sk F N (σ 0 14)) W) = false ∧ rₓ = -1)) ∧ σ' = upS σ 0 14 (sk F N (σ 0 14)) := by
  have hqₓ : 0 ≤ sk F N (σ 0 14) := Int.le_trans hpₓ runE_le
  have huₓ : MV F N (upS σ 0 14 (sk F N (σ 0 14))) := hₓ.up (by decide) (by omega)
  have hmₓ : ∀ (W : List Int), W ∈ wVals → isWd F N (sk F N (σ 0 14)) W = true → wVals.any (fun W => isWd F N (sk F N (σ 0 14)) W) = true := fun W h1ₓ h2ₓ => List.any_eq_true.mpr ⟨W, h1ₓ, h2ₓ⟩
  have is : ∀ {wₓ : Int} {W : List Int} {r1ₓ : Int} {s1ₓ : SS}, WD wₓ W → m_X12_isWord nₓ 0 wₓ (upS σ 0 14 (sk F N (σ 0 14))) = some (r1ₓ, s1ₓ) → ((isWd F N (sk F N (σ 0 14)) W = true ∧ r1ₓ = 1) ∨ (isWd F N (sk F N (σ 0 14)) W = false ∧ r1ₓ = 0)) ∧ s1ₓ = upS σ 0 14 (sk F N (σ 0 14)) := by
    intro wₓ W r1ₓ s1ₓ hWₓ eₓ
    have h2ₓ := r_isWord hWₓ huₓ (by rw [upS_s]; exact hqₓ) eₓ
    rw [upS_s, sk_idem, upS_upS] at h2ₓ
    exact h2ₓ
  unfold m_X12_wordHere at eₓ
  obtain ⟨r0ₓ, s0ₓ, e0ₓ, eₓ⟩ := mCall_el eₓ
  obtain ⟨h0ₓ, rfl⟩ := r_isWord wd_v0 hₓ hpₓ e0ₓ
  rcases h0ₓ with ⟨t0ₓ, rfl⟩ | ⟨f0ₓ, rfl⟩
  · rw [mIf_neg (show ¬ (1 : Int) = 0 by decide)] at eₓ
    obtain ⟨rfl, rfl⟩ := some_el eₓ
    exact ⟨Or.inl ⟨hmₓ _ (by decide) t0ₓ, by decide⟩, rfl⟩
  rw [mIf_pos rfl] at eₓ
  obtain ⟨r1ₓ, s1ₓ, e1ₓ, eₓ⟩ := mCall_el eₓ
  obtain ⟨h1ₓ, rfl⟩ := is wd_v1 e1ₓ
  rcases h1ₓ with ⟨t1ₓ, rfl⟩ | ⟨f1ₓ, rfl⟩
  · rw [mIf_neg (show ¬ (1 : Int) = 0 by decide)] at eₓ
    obtain ⟨rfl, rfl⟩ := some_el eₓ
    exact ⟨Or.inl ⟨hmₓ _ (by decide) t1ₓ, by decide⟩, rfl⟩
  rw [mIf_pos rfl] at eₓ
  obtain ⟨r2ₓ, s2ₓ, e2ₓ, eₓ⟩ := mCall_el eₓ
  obtain ⟨h2ₓ, rfl⟩ := is wd_v2 e2ₓ
  rcases h2ₓ with ⟨t2ₓ, rfl⟩ | ⟨f2ₓ, rfl⟩
  · rw [mIf_neg (show ¬ (1 : Int) = 0 by decide)] at eₓ
    obtain ⟨rfl, rfl⟩ := some_el eₓ
    exact ⟨Or.inl ⟨hmₓ _ (by decide) t2ₓ, by decide⟩, rfl⟩
  rw [mIf_pos rfl] at eₓ
  obtain ⟨r3ₓ, s3ₓ, e3ₓ, eₓ⟩ := mCall_el eₓ
  obtain ⟨h3ₓ, rfl⟩ := is wd_v3 e3ₓ
  rcases h3ₓ with ⟨t3ₓ, rfl⟩ | ⟨f3ₓ, rfl⟩
  · rw [mIf_neg (show ¬ (1 : Int) = 0 by decide)] at eₓ
    obtain ⟨rfl, rfl⟩ := some_el eₓ
    exact ⟨Or.inl ⟨hmₓ _ (by decide) t3ₓ, by decide⟩, rfl⟩
  rw [mIf_pos rfl] at eₓ
  obtain ⟨r4ₓ, s4ₓ, e4ₓ, eₓ⟩ := mCall_el eₓ
  obtain ⟨h4ₓ, rfl⟩ := is wd_v4 e4ₓ
  rcases h4ₓ with ⟨t4ₓ, rfl⟩ | ⟨f4ₓ, rfl⟩
  · rw [mIf_neg (show ¬ (1 : Int) = 0 by decide)] at eₓ
    obtain ⟨rfl, rfl⟩ := some_el eₓ
    exact ⟨Or.inl ⟨hmₓ _ (by decide) t4ₓ, by decide⟩, rfl⟩
  rw [mIf_pos rfl] at eₓ
  obtain ⟨r5ₓ, s5ₓ, e5ₓ, eₓ⟩ := mCall_el eₓ
  obtain ⟨h5ₓ, rfl⟩ := is wd_v5 e5ₓ
  rcases h5ₓ with ⟨t5ₓ, rfl⟩ | ⟨f5ₓ, rfl⟩
  · rw [mIf_neg (show ¬ (1 : Int) = 0 by decide)] at eₓ
    obtain ⟨rfl, rfl⟩ := some_el eₓ
    exact ⟨Or.inl ⟨hmₓ _ (by decide) t5ₓ, by decide⟩, rfl⟩
  rw [mIf_pos rfl] at eₓ
  obtain ⟨r6ₓ, s6ₓ, e6ₓ, eₓ⟩ := mCall_el eₓ
  obtain ⟨h6ₓ, rfl⟩ := is wd_v6 e6ₓ
  rcases h6ₓ with ⟨t6ₓ, rfl⟩ | ⟨f6ₓ, rfl⟩
  · rw [mIf_neg (show ¬ (1 : Int) = 0 by decide)] at eₓ
    obtain ⟨rfl, rfl⟩ := some_el eₓ
    exact ⟨Or.inl ⟨hmₓ _ (by decide) t6ₓ, by decide⟩, rfl⟩
  rw [mIf_pos rfl] at eₓ
  obtain ⟨r7ₓ, s7ₓ, e7ₓ, eₓ⟩ := mCall_el eₓ
  obtain ⟨h7ₓ, rfl⟩ := is wd_v7 e7ₓ
  rcases h7ₓ with ⟨t7ₓ, rfl⟩ | ⟨f7ₓ, rfl⟩
  · rw [mIf_neg (show ¬ (1 : Int) = 0 by decide)] at eₓ
    obtain ⟨rfl, rfl⟩ := some_el eₓ
    exact ⟨Or.inl ⟨hmₓ _ (by decide) t7ₓ, by decide⟩, rfl⟩
  rw [mIf_pos rfl] at eₓ
  obtain ⟨r8ₓ, s8ₓ, e8ₓ, eₓ⟩ := mCall_el eₓ
  obtain ⟨h8ₓ, rfl⟩ := is wd_v8 e8ₓ
  rcases h8ₓ with ⟨t8ₓ, rfl⟩ | ⟨f8ₓ, rfl⟩
  · rw [mIf_neg (show ¬ (1 : Int) = 0 by decide)] at eₓ
    obtain ⟨rfl, rfl⟩ := some_el eₓ
    exact ⟨Or.inl ⟨hmₓ _ (by decide) t8ₓ, by decide⟩, rfl⟩
  rw [mIf_pos rfl] at eₓ
  obtain ⟨r9ₓ, s9ₓ, e9ₓ, eₓ⟩ := mCall_el eₓ
  obtain ⟨h9ₓ, rfl⟩ := is wd_v9 e9ₓ
  rcases h9ₓ with ⟨t9ₓ, rfl⟩ | ⟨f9ₓ, rfl⟩
  · rw [mIf_neg (show ¬ (1 : Int) = 0 by decide)] at eₓ
    obtain ⟨rfl, rfl⟩ := some_el eₓ
    exact ⟨Or.inl ⟨hmₓ _ (by decide) t9ₓ, by decide⟩, rfl⟩
  rw [mIf_pos rfl] at eₓ
  obtain ⟨rfl, rfl⟩ := some_el eₓ
  refine ⟨Or.inr ⟨?_, rfl⟩, rfl⟩
  unfold wVals
  simp only [List.any_cons, List.any_nil, f0ₓ, f1ₓ, f2ₓ, f3ₓ, f4ₓ, f5ₓ, f6ₓ, f7ₓ, f8ₓ, f9ₓ, Bool.or_false]
theorem RM.bad {φ : Int} (hₓφ : φ ≠ 0) (eₓ : σ' 0 15 = φ) (hsₓ : pstep F N (cfgM F N ℓ S σ) = halt φ) : RM F N ℓ ℓ' S S' 0 σ σ' := Or.inr ⟨rfl, by rw [eₓ]; exact hₓφ, by rw [eₓ]; exact St_one hsₓ⟩
theorem r_value (hlₓ : (ℓ = 3 ∧ ℓ' = 5) ∨ (ℓ = 4 ∧ ℓ' = 6)) (hₓ : OKM F N σ) (eₓ : m_X12_value nₓ 0 σ = some (rₓ, σ')) : KS σ σ' ∧ RM F N ℓ ℓ' S S rₓ σ σ' := by
  have hpsₓ : ∀ qₓ kₓ L : Int, pstep F N (ℓ, qₓ, kₓ, L, S) = valStep F N ℓ' qₓ kₓ L S := by
    rcases hlₓ with ⟨rfl, rfl⟩ | ⟨rfl, rfl⟩ <;> (intro qₓ kₓ L; rfl)
  obtain ⟨hv, ⟨hp0ₓ, hp1ₓ⟩, hfₓ, hk0ₓ, hk1ₓ⟩ := id hₓ
  have hq0ₓ : 0 ≤ sk F N (σ 0 14) := Int.le_trans hp0ₓ sk_ge
  have hqNₓ : sk F N (σ 0 14) ≤ N := sk_ub hp1ₓ
  unfold m_X12_value b_X12_value_39 at eₓ
  obtain ⟨r1ₓ, s1ₓ, e1ₓ, eₓ⟩ := mCall_el eₓ
  obtain ⟨-, rfl⟩ := r_seem hv hp0ₓ e1ₓ
  have h1ₓ : OKM F N (upS σ 0 14 (sk F N (σ 0 14))) := hₓ.mv hq0ₓ hqNₓ
  have k1ₓ : KS σ (upS σ 0 14 (sk F N (σ 0 14))) := KS.up (Or.inl rfl)
  have f1ₓ : upS σ 0 14 (sk F N (σ 0 14)) 0 15 = 0 := h1ₓ.2.2.1
  have m1ₓ : upS σ 0 14 (sk F N (σ 0 14)) 0 18 = σ 0 18 := upS_n (by omega)
  rw [mRd_e, mRd_e, upS_s, r_isDigit h1ₓ.1 hq0ₓ, mCall_s] at eₓ
  have hcₓ : ∀ sₓ : SS, sₓ 0 14 = sk F N (σ 0 14) → cfgM F N ℓ S σ = (ℓ, sk F N (σ 0 14), σ 0 18, σ 0 20, S) := fun _ _ => rfl
  by_cases cd : sk F N (σ 0 14) < N ∧ isDg F (sk F N (σ 0 14)) = true
  · rw [if_pos cd, mIf_neg (show ¬ (1 : Int) = 0 by decide)] at eₓ
    obtain ⟨r2ₓ, s2ₓ, e2ₓ, eₓ⟩ := mCall_el eₓ
    have hstₓ : pstep F N (cfgM F N ℓ S σ) = if 5 < dg F N (sk F N (σ 0 14)) - sk F N (σ 0 14) then halt (1 + 8 * sk F N (σ 0 14) + 1) else if 60 ≤ σ 0 18 then halt (1 + 8 * sk F N (σ 0 14) + 3) else (ℓ', sk F N (dg F N (sk F N (σ 0 14))), σ 0 18 + 1, σ 0 20, S) := by
      unfold cfgM; rw [hpsₓ]; unfold valStep; rw [if_pos cd]
    rcases r_number h1ₓ.1 (by rw [upS_s]; exact hq0ₓ) f1ₓ e2ₓ with ⟨hnₓ, -, -⟩ | ⟨-, hIₓ, hBₓ⟩
    · rw [upS_s, sk_idem] at hnₓ; exact absurd cd hnₓ
    rw [upS_s, sk_idem] at hIₓ hBₓ
    obtain ⟨b0ₓ, b1ₓ, -⟩ := id hIₓ
    rcases hBₓ with ⟨hbadₓ, rfl, rfl⟩ | ⟨hgoodₓ, rfl, rfl⟩
    · rw [mIf_pos rfl] at eₓ
      obtain ⟨rfl, rfl⟩ := some_el eₓ
      refine ⟨fun qₓ kₓ cₓ => ?_, RM.bad (φ := 1 + 8 * sk F N (σ 0 14) + 1) (by omega) upS_s (by rw [hstₓ, if_pos (by omega)])⟩
      unfold rN; rw [upS_n (by omega), upS_n (by omega), upS_n (by omega), upS_n (by omega)]
    · rw [mIf_neg (show ¬ (1 : Int) = 0 by decide)] at eₓ
      have f2ₓ : rN (upS σ 0 14 (sk F N (σ 0 14))) (dg F N (sk F N (σ 0 14))) (nv F N (sk F N (σ 0 14))) 0 15 = 0 := by unfold rN; rw [upS_n (by omega), upS_n (by omega), upS_n (by omega)]; exact hfₓ
      have m2ₓ : rN (upS σ 0 14 (sk F N (σ 0 14))) (dg F N (sk F N (σ 0 14))) (nv F N (sk F N (σ 0 14))) 0 18 = σ 0 18 := by unfold rN; rw [upS_n (by omega), upS_n (by omega), upS_n (by omega)]
      rw [r_makes f2ₓ, m2ₓ] at eₓ
      by_cases c60ₓ : σ 0 18 = 60
      · rw [if_pos c60ₓ, mCall_s, mIf_neg (fun qₓ => qₓ rfl)] at eₓ
        obtain ⟨rfl, rfl⟩ := some_el eₓ
        refine ⟨fun qₓ kₓ cₓ => ?_, RM.bad (φ := 1 + 8 * sk F N (σ 0 14) + 3) (by omega) upS_s (by rw [hstₓ, if_neg hgoodₓ.1, if_pos (by omega)])⟩
        unfold rN; rw [upS_n (by omega), upS_n (by omega), upS_n (by omega), upS_n (by omega)]
      · rw [if_neg c60ₓ, mCall_s, mIf_pos (show ¬ (1 : Int) = 0 by decide), mRd_e] at eₓ
        obtain ⟨r3ₓ, s3ₓ, e3ₓ, eₓ⟩ := mCall_el eₓ
        obtain ⟨rfl, rfl⟩ := some_el eₓ
        have hppₓ := r_puts e3ₓ
        have hd0ₓ : 0 ≤ dg F N (sk F N (σ 0 14)) := Int.le_trans hq0ₓ dg_ge
        have hdNₓ : dg F N (sk F N (σ 0 14)) ≤ N := dg_ub hqNₓ
        have g14ₓ : σ' 0 14 = dg F N (sk F N (σ 0 14)) := by rw [hppₓ 0 14 (by decide) (by decide)]; unfold rN; rw [upS_n (by omega), upS_n (by omega), upS_s]
        have g15ₓ : σ' 0 15 = 0 := by rw [hppₓ 0 15 (by decide) (by decide), upS_n (by omega)]; exact f2ₓ
        have g18ₓ : σ' 0 18 = σ 0 18 + 1 := by rw [hppₓ 0 18 (by decide) (by decide)]; exact upS_s
        have g20ₓ : σ' 0 20 = σ 0 20 := by rw [hppₓ 0 20 (by decide) (by decide)]; unfold rN; rw [upS_n (by omega), upS_n (by omega), upS_n (by omega), upS_n (by omega)]
        refine ⟨KS.tr (fun qₓ kₓ cₓ => ?_) hppₓ.ks, Or.inl ⟨rfl, ⟨⟨?_, fun jₓ j0ₓ j1ₓ => ?_⟩, by rw [g14ₓ]; exact ⟨hd0ₓ, hdNₓ⟩, g15ₓ, by rw [g18ₓ]; omega, by rw [g18ₓ]; omega⟩, St_one ?_⟩⟩
        · unfold rN; rw [upS_n (by omega), upS_n (by omega), upS_n (by omega), upS_n (by omega)]
        · rw [hppₓ 0 1 (by decide) (by decide)]; unfold rN; rw [upS_n (by omega), upS_n (by omega), upS_n (by omega), upS_n (by omega)]; exact hv.1
        · rw [hppₓ 1 jₓ.toNat (by decide) (by decide)]; unfold rN; rw [upS_n (by omega), upS_n (by omega), upS_n (by omega), upS_n (by omega)]; exact hv.2 jₓ j0ₓ j1ₓ
        · rw [hstₓ, if_neg hgoodₓ.1, if_neg (by omega)]; unfold cfgM; rw [g14ₓ, g18ₓ, g20ₓ]
  · rw [if_neg cd, mIf_pos rfl] at eₓ
    obtain ⟨r2ₓ, s2ₓ, e2ₓ, eₓ⟩ := mCall_el eₓ
    have hstₓ : pstep F N (cfgM F N ℓ S σ) = if wVals.any (fun W => isWd F N (sk F N (σ 0 14)) W) = true then (if 60 ≤ σ 0 18 then halt (1 + 8 * sk F N (σ 0 14) + 3) else (ℓ', sk F N (wd F N (sk F N (σ 0 14))), σ 0 18 + 1, σ 0 20, S)) else halt (1 + 8 * sk F N (σ 0 14)) := by
      unfold cfgM; rw [hpsₓ]; unfold valStep; rw [if_neg cd]
    have hwₓ := r_wordHere h1ₓ.1 (by rw [upS_s]; exact hq0ₓ) e2ₓ
    rw [upS_s, sk_idem, upS_upS] at hwₓ
    obtain ⟨hwₓ, rfl⟩ := hwₓ
    rcases hwₓ with ⟨hanyₓ, hrₓ⟩ | ⟨hanyₓ, rfl⟩
    · rw [mIf_pos hrₓ, r_makes f1ₓ, m1ₓ] at eₓ
      by_cases c60ₓ : σ 0 18 = 60
      · rw [if_pos c60ₓ, mCall_s, mIf_neg (fun qₓ => qₓ rfl)] at eₓ
        obtain ⟨rfl, rfl⟩ := some_el eₓ
        exact ⟨k1ₓ.tr (KS.up (Or.inr (Or.inl rfl))), RM.bad (φ := 1 + 8 * sk F N (σ 0 14) + 3) (by omega) upS_s (by rw [hstₓ, if_pos hanyₓ, if_pos (by omega)])⟩
      · rw [if_neg c60ₓ, mCall_s, mIf_pos (show ¬ (1 : Int) = 0 by decide)] at eₓ
        have h2ₓ : MV F N (upS (upS σ 0 14 (sk F N (σ 0 14))) 0 18 (σ 0 18 + 1)) := h1ₓ.1.up (by decide) (by omega)
        have n2ₓ : upS (upS σ 0 14 (sk F N (σ 0 14))) 0 18 (σ 0 18 + 1) 0 14 = sk F N (σ 0 14) := (upS_n (by omega)).trans upS_s
        obtain ⟨r3ₓ, s3ₓ, e3ₓ, eₓ⟩ := mCall_el eₓ
        have hs3ₓ := r_passWordm h2ₓ (by rw [n2ₓ]; exact hq0ₓ) e3ₓ
        rw [n2ₓ] at hs3ₓ
        subst hs3ₓ
        obtain ⟨r4ₓ, s4ₓ, e4ₓ, eₓ⟩ := mCall_el eₓ
        obtain ⟨rfl, rfl⟩ := some_el eₓ
        have hppₓ := r_puts e4ₓ
        have hd0ₓ : 0 ≤ wd F N (sk F N (σ 0 14)) := Int.le_trans hq0ₓ wd_ge
        have hdNₓ : wd F N (sk F N (σ 0 14)) ≤ N := wd_ub hqNₓ
        have g14ₓ : σ' 0 14 = wd F N (sk F N (σ 0 14)) := by rw [hppₓ 0 14 (by decide) (by decide)]; exact upS_s
        have g15ₓ : σ' 0 15 = 0 := by rw [hppₓ 0 15 (by decide) (by decide), upS_n (by omega), upS_n (by omega)]; exact f1ₓ
        have g18ₓ : σ' 0 18 = σ 0 18 + 1 := by rw [hppₓ 0 18 (by decide) (by decide), upS_n (by omega)]; exact upS_s
        have g20ₓ : σ' 0 20 = σ 0 20 := by rw [hppₓ 0 20 (by decide) (by decide), upS_n (by omega), upS_n (by omega), upS_n (by omega)]
        refine ⟨KS.tr (fun qₓ kₓ cₓ => ?_) hppₓ.ks, Or.inl ⟨rfl, ⟨⟨?_, fun jₓ j0ₓ j1ₓ => ?_⟩, by rw [g14ₓ]; exact ⟨hd0ₓ, hdNₓ⟩, g15ₓ, by rw [g18ₓ]; omega, by rw [g18ₓ]; omega⟩, St_one ?_⟩⟩
        · rw [upS_n (by omega), upS_n (by omega), upS_n (by omega)]
        · rw [hppₓ 0 1 (by decide) (by decide), upS_n (by omega), upS_n (by omega), upS_n (by omega)]; exact hv.1
        · rw [hppₓ 1 jₓ.toNat (by decide) (by decide), upS_n (by omega), upS_n (by omega), upS_n (by omega)]; exact hv.2 jₓ j0ₓ j1ₓ
        · rw [hstₓ, if_pos hanyₓ, if_neg (by omega)]; unfold cfgM; rw [g14ₓ, g18ₓ, g20ₓ]
    · rw [mIf_neg (show ¬ 0 ≤ (-1 : Int) by decide), r_fails f1ₓ, mCall_s] at eₓ
      obtain ⟨rfl, rfl⟩ := some_el eₓ
      refine ⟨k1ₓ.tr (KS.up (Or.inr (Or.inl rfl))), RM.bad (φ := 1 + 8 * sk F N (σ 0 14) + 0) (by omega) upS_s (by rw [hstₓ, hanyₓ, if_neg (by decide), Int.add_zero])⟩
/-- the tape's place moves, one step of the machine -/
theorem OKM.step (hₓ : OKM F N σ) (h0ₓ : 0 ≤ pₓ) (h1ₓ : pₓ ≤ N) (hsₓ : pstep F N (cfgM F N ℓ S σ) = (ℓ', sk F N pₓ, σ 0 18, σ 0 20, S')) : OKM F N (upS σ 0 14 pₓ) ∧ St F N (cfgM F N ℓ S σ) (cfgM F N ℓ' S' (upS σ 0 14 pₓ)) := ⟨hₓ.mv h0ₓ h1ₓ, by rw [cfgM_mv]; exact St_one hsₓ⟩
theorem OKM.stay (hₓ : OKM F N σ) : OKM F N (upS σ 0 14 (sk F N (σ 0 14))) ∧ cfgM F N ℓ S (upS σ 0 14 (sk F N (σ 0 14))) = cfgM F N ℓ S σ := ⟨hₓ.mv (Int.le_trans hₓ.2.1.1 sk_ge) (sk_ub hₓ.2.1.2), by rw [cfgM_mv, sk_idem]; rfl⟩
def TMs (F : Int → Int) (N : Int) (σ : SS) : Prop := ¬ (sk F N (σ 0 14) < N ∧ (F (sk F N (σ 0 14)) = 42 ∨ F (sk F N (σ 0 14)) = 47))
theorem TMs.p23 (hₓ : TMs F N σ) (eₓ : P23 σ σ') : TMs F N σ' := by unfold TMs; rw [eₓ 0 14 (by decide) (by decide)]; exact hₓ
theorem r_term0 (hlₓ : (ℓ = 3 ∧ ℓ' = 5) ∨ (ℓ = 4 ∧ ℓ' = 6)) : ∀ (nₓ : Nat) (σ : SS), OKM F N σ → j_X12_term 0 nₓ 9 [] σ = some (rₓ, σ') → KS σ σ' ∧ RM F N ℓ' ℓ' S S rₓ σ σ' ∧ (rₓ = 1 → TMs F N σ') := by
  have hstₓ : ∀ qₓ kₓ L : Int, opAt F N qₓ = true → pstep F N (ℓ', qₓ, kₓ, L, S) = (ℓ, sk F N (qₓ + 1), kₓ, L, S) := by
    rcases hlₓ with ⟨rfl, rfl⟩ | ⟨rfl, rfl⟩
    · intro qₓ kₓ L hoₓ; show (if opAt F N qₓ = true then _ else _) = _; rw [if_pos hoₓ]
    · intro qₓ kₓ L hoₓ; show (if opAt F N qₓ = true then _ else _) = _; rw [if_pos hoₓ]
  intro nₓ
  induction nₓ with
  | zero => intro σ hₓ eₓ; exact none_el eₓ
  | succ nₓ ihₓ =>
    intro σ hₓ eₓ
    rw [e_X12_term_9] at eₓ
    unfold b_X12_term_9 at eₓ
    have hq0ₓ : 0 ≤ sk F N (σ 0 14) := Int.le_trans hₓ.2.1.1 sk_ge
    have hqNₓ : sk F N (σ 0 14) ≤ N := sk_ub hₓ.2.1.2
    obtain ⟨r1ₓ, s1ₓ, e1ₓ, eₓ⟩ := mCall_el eₓ
    obtain ⟨rfl, rfl⟩ := r_seem hₓ.1 hₓ.2.1.1 e1ₓ
    obtain ⟨h1ₓ, hc1ₓ⟩ := OKM.stay (ℓ := ℓ') (S := S) hₓ
    have goₓ : ∀ xₓ : Int, opAt F N (sk F N (σ 0 14)) = true → b_X12_term_46 (j_X12_term 0 nₓ) nₓ 0 xₓ (upS σ 0 14 (sk F N (σ 0 14))) = some (rₓ, σ') → KS σ σ' ∧ RM F N ℓ' ℓ' S S rₓ σ σ' ∧ (rₓ = 1 → TMs F N σ') := by
      intro xₓ hoₓ eₓ
      have hoNₓ := (opAt_i.mp hoₓ).1
      unfold b_X12_term_46 at eₓ
      rw [mRd_e, mLet_e, mWr_e, upS_s, upS_upS] at eₓ
      have g1ₓ := OKM.step (ℓ := ℓ') (ℓ' := ℓ) (S := S) (S' := S) (pₓ := sk F N (σ 0 14) + 1) hₓ (by omega) (by omega) (hstₓ _ _ _ hoₓ)
      have kk : KS σ (upS σ 0 14 (sk F N (σ 0 14) + 1)) := KS.up (Or.inl rfl)
      obtain ⟨r2ₓ, s2ₓ, e2ₓ, eₓ⟩ := mCall_el eₓ
      obtain ⟨k2ₓ, h2ₓ⟩ := r_value hlₓ g1ₓ.1 e2ₓ (S := S)
      rcases h2ₓ with ⟨rfl, h2ₓ, st2ₓ⟩ | ⟨rfl, h2ₓ, st2ₓ⟩
      · rw [mIf_pos (show ¬ (1 : Int) = 0 by decide)] at eₓ
        obtain ⟨r3ₓ, s3ₓ, e3ₓ, eₓ⟩ := mCall_el eₓ
        have hppₓ := r_puts e3ₓ
        obtain ⟨i1ₓ, i2ₓ, i3ₓ⟩ := ihₓ s3ₓ (h2ₓ.p23 hppₓ) eₓ
        refine ⟨((kk.tr k2ₓ).tr hppₓ.ks).tr i1ₓ, RM.tr ⟨h2ₓ.p23 hppₓ, ?_⟩ i2ₓ, i3ₓ⟩
        rw [cfgM_p23 hppₓ]; exact g1ₓ.2.tr st2ₓ
      · rw [mIf_neg (fun qₓ => qₓ rfl)] at eₓ
        obtain ⟨rfl, rfl⟩ := some_el eₓ
        exact ⟨kk.tr k2ₓ, Or.inr ⟨rfl, h2ₓ, g1ₓ.2.tr st2ₓ⟩, fun qₓ => absurd qₓ (by decide)⟩
    have to : ∀ (cₓ : Int), opAt F N (sk F N (σ 0 14)) = true → b_X12_term_27 (j_X12_term 0 nₓ) nₓ 0 (upS σ 0 14 (sk F N (σ 0 14))) = some (rₓ, σ') → KS σ σ' ∧ RM F N ℓ' ℓ' S S rₓ σ σ' ∧ (rₓ = 1 → TMs F N σ') := by
      intro _ hoₓ eₓ
      unfold b_X12_term_27 at eₓ
      rw [mRd_e, mRd_e] at eₓ
      by_cases cₓ : upS σ 0 14 (sk F N (σ 0 14)) 1 (upS σ 0 14 (sk F N (σ 0 14)) 0 14).toNat = 42
      · rw [mIf_neg (fun qₓ => qₓ cₓ)] at eₓ; exact goₓ _ hoₓ eₓ
      · rw [mIf_pos cₓ] at eₓ; exact goₓ _ hoₓ eₓ
    by_cases c1ₓ : bt F N (sk F N (σ 0 14)) = 42
    · rw [mIf_pos c1ₓ] at eₓ
      have h2ₓ := bt_lt (by decide) c1ₓ
      exact to 0 (opAt_i.mpr ⟨h2ₓ.1, by omega⟩) eₓ
    · rw [mIf_neg c1ₓ] at eₓ
      obtain ⟨r2ₓ, s2ₓ, e2ₓ, eₓ⟩ := mCall_el eₓ
      obtain ⟨rfl, rfl⟩ := r_seem h1ₓ.1 h1ₓ.2.1.1 e2ₓ
      rw [upS_s, sk_idem, upS_upS] at eₓ
      by_cases c2ₓ : bt F N (sk F N (σ 0 14)) = 47
      · rw [mIf_neg (fun qₓ => qₓ c2ₓ)] at eₓ
        have h2ₓ := bt_lt (by decide) c2ₓ
        exact to 0 (opAt_i.mpr ⟨h2ₓ.1, by omega⟩) eₓ
      · rw [mIf_pos c2ₓ] at eₓ
        obtain ⟨rfl, rfl⟩ := some_el eₓ
        refine ⟨KS.up (Or.inl rfl), Or.inl ⟨rfl, h1ₓ, by rw [hc1ₓ]; exact St_rf⟩, fun _ => ?_⟩
        unfold TMs
        rw [upS_s, sk_idem]
        intro qₓ
        have h3ₓ : bt F N (sk F N (σ 0 14)) = F (sk F N (σ 0 14)) := if_pos qₓ.1
        rw [h3ₓ] at c1ₓ c2ₓ; omega
theorem r_term (hlₓ : (ℓ = 3 ∧ ℓ' = 5) ∨ (ℓ = 4 ∧ ℓ' = 6)) (hₓ : OKM F N σ) (eₓ : m_X12_term nₓ 0 σ = some (rₓ, σ')) : KS σ σ' ∧ RM F N ℓ ℓ' S S rₓ σ σ' ∧ (rₓ = 1 → TMs F N σ') := by
  unfold m_X12_term at eₓ
  obtain ⟨r1ₓ, s1ₓ, e1ₓ, eₓ⟩ := mCall_el eₓ
  obtain ⟨k1ₓ, h1ₓ⟩ := r_value hlₓ hₓ e1ₓ (S := S)
  rcases h1ₓ with ⟨rfl, h1ₓ, st1ₓ⟩ | ⟨rfl, h1ₓ, st1ₓ⟩
  · rw [mIf_pos (show ¬ (1 : Int) = 0 by decide)] at eₓ
    obtain ⟨i1ₓ, i2ₓ, i3ₓ⟩ := r_term0 hlₓ nₓ s1ₓ h1ₓ eₓ (S := S)
    exact ⟨k1ₓ.tr i1ₓ, RM.tr ⟨h1ₓ, st1ₓ⟩ i2ₓ, i3ₓ⟩
  · rw [mIf_neg (fun qₓ => qₓ rfl)] at eₓ
    obtain ⟨rfl, rfl⟩ := some_el eₓ
    exact ⟨k1ₓ, Or.inr ⟨rfl, h1ₓ, st1ₓ⟩, fun qₓ => absurd qₓ (by decide)⟩
theorem r_sum0 (hlₓ : (ℓ = 3 ∧ ℓ' = 5) ∨ (ℓ = 4 ∧ ℓ' = 6)) : ∀ (nₓ : Nat) (σ : SS), OKM F N σ → TMs F N σ → j_X12_sum 0 nₓ 9 [] σ = some (rₓ, σ') → KS σ σ' ∧ RM F N ℓ' ℓ' S S rₓ σ σ' ∧ (rₓ = 1 → opAt F N (sk F N (σ' 0 14)) = false) := by
  have hstₓ : ∀ qₓ kₓ L : Int, opAt F N qₓ = true → pstep F N (ℓ', qₓ, kₓ, L, S) = (ℓ, sk F N (qₓ + 1), kₓ, L, S) := by
    rcases hlₓ with ⟨rfl, rfl⟩ | ⟨rfl, rfl⟩
    · intro qₓ kₓ L hoₓ; show (if opAt F N qₓ = true then _ else _) = _; rw [if_pos hoₓ]
    · intro qₓ kₓ L hoₓ; show (if opAt F N qₓ = true then _ else _) = _; rw [if_pos hoₓ]
  intro nₓ
  induction nₓ with
  | zero => intro σ hₓ htₓ eₓ; exact none_el eₓ
  | succ nₓ ihₓ =>
    intro σ hₓ htₓ eₓ
    rw [e_X12_sum_9] at eₓ
    unfold b_X12_sum_9 at eₓ
    have hq0ₓ : 0 ≤ sk F N (σ 0 14) := Int.le_trans hₓ.2.1.1 sk_ge
    have hqNₓ : sk F N (σ 0 14) ≤ N := sk_ub hₓ.2.1.2
    obtain ⟨r1ₓ, s1ₓ, e1ₓ, eₓ⟩ := mCall_el eₓ
    obtain ⟨rfl, rfl⟩ := r_seem hₓ.1 hₓ.2.1.1 e1ₓ
    obtain ⟨h1ₓ, hc1ₓ⟩ := OKM.stay (ℓ := ℓ') (S := S) hₓ
    have goₓ : ∀ xₓ : Int, opAt F N (sk F N (σ 0 14)) = true → b_X12_sum_46 (j_X12_sum 0 nₓ) nₓ 0 xₓ (upS σ 0 14 (sk F N (σ 0 14))) = some (rₓ, σ') → KS σ σ' ∧ RM F N ℓ' ℓ' S S rₓ σ σ' ∧ (rₓ = 1 → opAt F N (sk F N (σ' 0 14)) = false) := by
      intro xₓ hoₓ eₓ
      have hoNₓ := (opAt_i.mp hoₓ).1
      unfold b_X12_sum_46 at eₓ
      rw [mRd_e, mLet_e, mWr_e, upS_s, upS_upS] at eₓ
      have g1ₓ := OKM.step (ℓ := ℓ') (ℓ' := ℓ) (S := S) (S' := S) (pₓ := sk F N (σ 0 14) + 1) hₓ (by omega) (by omega) (hstₓ _ _ _ hoₓ)
      have kk : KS σ (upS σ 0 14 (sk F N (σ 0 14) + 1)) := KS.up (Or.inl rfl)
      obtain ⟨r2ₓ, s2ₓ, e2ₓ, eₓ⟩ := mCall_el eₓ
      obtain ⟨k2ₓ, h2ₓ, t2ₓ⟩ := r_term hlₓ g1ₓ.1 e2ₓ (S := S)
      rcases h2ₓ with ⟨rfl, h2ₓ, st2ₓ⟩ | ⟨rfl, h2ₓ, st2ₓ⟩
      · rw [mIf_pos (show ¬ (1 : Int) = 0 by decide)] at eₓ
        obtain ⟨r3ₓ, s3ₓ, e3ₓ, eₓ⟩ := mCall_el eₓ
        have hppₓ := r_puts e3ₓ
        obtain ⟨i1ₓ, i2ₓ, i3ₓ⟩ := ihₓ s3ₓ (h2ₓ.p23 hppₓ) ((t2ₓ rfl).p23 hppₓ) eₓ
        refine ⟨((kk.tr k2ₓ).tr hppₓ.ks).tr i1ₓ, RM.tr ⟨h2ₓ.p23 hppₓ, ?_⟩ i2ₓ, i3ₓ⟩
        rw [cfgM_p23 hppₓ]; exact g1ₓ.2.tr st2ₓ
      · rw [mIf_neg (fun qₓ => qₓ rfl)] at eₓ
        obtain ⟨rfl, rfl⟩ := some_el eₓ
        exact ⟨kk.tr k2ₓ, Or.inr ⟨rfl, h2ₓ, g1ₓ.2.tr st2ₓ⟩, fun qₓ => absurd qₓ (by decide)⟩
    have to : ∀ (cₓ : Int), opAt F N (sk F N (σ 0 14)) = true → b_X12_sum_27 (j_X12_sum 0 nₓ) nₓ 0 (upS σ 0 14 (sk F N (σ 0 14))) = some (rₓ, σ') → KS σ σ' ∧ RM F N ℓ' ℓ' S S rₓ σ σ' ∧ (rₓ = 1 → opAt F N (sk F N (σ' 0 14)) = false) := by
      intro _ hoₓ eₓ
      unfold b_X12_sum_27 at eₓ
      rw [mRd_e, mRd_e] at eₓ
      by_cases cₓ : upS σ 0 14 (sk F N (σ 0 14)) 1 (upS σ 0 14 (sk F N (σ 0 14)) 0 14).toNat = 43
      · rw [mIf_neg (fun qₓ => qₓ cₓ)] at eₓ; exact goₓ _ hoₓ eₓ
      · rw [mIf_pos cₓ] at eₓ; exact goₓ _ hoₓ eₓ
    by_cases c1ₓ : bt F N (sk F N (σ 0 14)) = 43
    · rw [mIf_pos c1ₓ] at eₓ
      have h2ₓ := bt_lt (by decide) c1ₓ
      exact to 0 (opAt_i.mpr ⟨h2ₓ.1, by omega⟩) eₓ
    · rw [mIf_neg c1ₓ] at eₓ
      obtain ⟨r2ₓ, s2ₓ, e2ₓ, eₓ⟩ := mCall_el eₓ
      obtain ⟨rfl, rfl⟩ := r_seem h1ₓ.1 h1ₓ.2.1.1 e2ₓ
      rw [upS_s, sk_idem, upS_upS] at eₓ
      by_cases c2ₓ : bt F N (sk F N (σ 0 14)) = 45
      · rw [mIf_neg (fun qₓ => qₓ c2ₓ)] at eₓ
        have h2ₓ := bt_lt (by decide) c2ₓ
        exact to 0 (opAt_i.mpr ⟨h2ₓ.1, by omega⟩) eₓ
      · rw [mIf_pos c2ₓ] at eₓ
        obtain ⟨rfl, rfl⟩ := some_el eₓ
        refine ⟨KS.up (Or.inl rfl), Or.inl ⟨rfl, h1ₓ, by rw [hc1ₓ]; exact St_rf⟩, fun _ => ?_⟩
        rw [upS_s, sk_idem]
        refine Bool.eq_false_iff.mpr (fun qₓ => ?_)
        have h4ₓ := opAt_i.mp qₓ
        have h3ₓ : bt F N (sk F N (σ 0 14)) = F (sk F N (σ 0 14)) := if_pos h4ₓ.1
        unfold TMs at htₓ
        rw [h3ₓ] at c1ₓ c2ₓ; omega
theorem r_sum (hlₓ : (ℓ = 3 ∧ ℓ' = 5) ∨ (ℓ = 4 ∧ ℓ' = 6)) (hₓ : OKM F N σ) (eₓ : m_X12_sum nₓ 0 σ = some (rₓ, σ')) : KS σ σ' ∧ RM F N ℓ ℓ' S S rₓ σ σ' ∧ (rₓ = 1 → opAt F N (sk F N (σ' 0 14)) = false) := by
  unfold m_X12_sum at eₓ
  obtain ⟨r1ₓ, s1ₓ, e1ₓ, eₓ⟩ := mCall_el eₓ
  obtain ⟨k1ₓ, h1ₓ, t1ₓ⟩ := r_term hlₓ hₓ e1ₓ (S := S)
  rcases h1ₓ with ⟨rfl, h1ₓ, st1ₓ⟩ | ⟨rfl, h1ₓ, st1ₓ⟩
  · rw [mIf_pos (show ¬ (1 : Int) = 0 by decide)] at eₓ
    obtain ⟨i1ₓ, i2ₓ, i3ₓ⟩ := r_sum0 hlₓ nₓ s1ₓ h1ₓ (t1ₓ rfl) eₓ (S := S)
    exact ⟨k1ₓ.tr i1ₓ, RM.tr ⟨h1ₓ, st1ₓ⟩ i2ₓ, i3ₓ⟩
  · rw [mIf_neg (fun qₓ => qₓ rfl)] at eₓ
    obtain ⟨rfl, rfl⟩ := some_el eₓ
    exact ⟨k1ₓ, Or.inr ⟨rfl, h1ₓ, st1ₓ⟩, fun qₓ => absurd qₓ (by decide)⟩
end
