section
variable {F : Int → Int} {N pₓ L qₓ : Int} {σ σ' τ : SS} {rₓ : Int} {nₓ : Nat} {D D' : Nat → Int}
def KQ (σ σ' : SS) : Prop := ∀ qₓ kₓ : Nat, (qₓ = 1 ∨ 9 ≤ qₓ ∨ (2 ≤ qₓ ∧ qₓ ≤ 5) ∨ (qₓ = 0 ∧ (kₓ = 2 ∨ kₓ = 17 ∨ kₓ = 18))) → σ' qₓ kₓ = σ qₓ kₓ
theorem CM_up {kₓ : Nat} {vₓ : Int} (hTₓ : CM D σ) (hₓ : kₓ = 1 ∨ kₓ = 14 ∨ kₓ = 15 ∨ kₓ = 16 ∨ kₓ = 20) : CM D (upS σ 0 kₓ vₓ) := ⟨⟨(upS_k (by omega)).trans hTₓ.1.1, (upS_k (by omega)).trans hTₓ.1.2.1, (upS_k (by omega)).trans hTₓ.1.2.2.1, (upS_k (by omega)).trans hTₓ.1.2.2.2⟩, fun kₓ hkₓ => (upS_q (by decide)).trans (hTₓ.2.1 kₓ hkₓ), fun kₓ hkₓ => (upS_q (by decide)).trans (hTₓ.2.2.1 kₓ hkₓ), fun kₓ hkₓ => (upS_q (by decide)).trans (hTₓ.2.2.2 kₓ hkₓ)⟩
theorem r_treads0 {c0ₓ : TCf} : ∀ (nₓ : Nat) (vₓ : Int) (σ : SS), σ 0 17 = 6 → ((vₓ = 1 ∧ MV F N σ ∧ σ 0 15 = 0 ∧ 0 ≤ σ 0 14 ∧ σ 0 14 ≤ N ∧ ∃ (D : Nat → Int) (L : Int), σ 0 20 = L + 1 ∧ 0 ≤ L ∧ L < 32 ∧ CM D σ ∧ OD D ∧ 2 ≤ D 0 ∧ SU F N c0ₓ (tE F N L D (σ 0 14))) ∨ (vₓ = 0 ∧ σ 0 15 ≠ 0 ∧ SU F N c0ₓ (tH (σ 0 15)))) → j_X12_readsAll 0 nₓ 35 [vₓ] σ = some (rₓ, σ') → σ' 0 1 = 0 ∧ KQ σ σ' ∧ ((σ' 0 15 ≠ 0 ∧ rₓ = 0 ∧ SU F N c0ₓ (tH (σ' 0 15))) ∨ (σ' 0 15 = 0 ∧ rₓ = 1 ∧ ∃ D : Nat → Int, SU F N c0ₓ (9, 0, 0, D) ∧ CM D σ' ∧ OD D)) := by
  intro nₓ
  induction nₓ with
  | zero => intro vₓ σ htxₓ hv eₓ; exact none_el eₓ
  | succ nₓ ihₓ =>
    intro vₓ σ htxₓ hv eₓ
    rw [e_X12_readsAll_35] at eₓ
    unfold b_X12_readsAll_35 b_X12_readsAll_66 at eₓ
    have bad : ∀ (τ : SS), KQ σ τ → τ 0 15 ≠ 0 → SU F N c0ₓ (tH (τ 0 15)) → b_X12_readsAll_88 (j_X12_readsAll 0 nₓ) nₓ 0 τ = some (rₓ, σ') → σ' 0 1 = 0 ∧ KQ σ σ' ∧ ((σ' 0 15 ≠ 0 ∧ rₓ = 0 ∧ SU F N c0ₓ (tH (σ' 0 15))) ∨ (σ' 0 15 = 0 ∧ rₓ = 1 ∧ ∃ D : Nat → Int, SU F N c0ₓ (9, 0, 0, D) ∧ CM D σ' ∧ OD D)) := by
      intro τ h1ₓ h2ₓ h3ₓ eₓ
      obtain ⟨rfl, rfl⟩ := r_reads88 eₓ
      refine ⟨upS_s, fun qₓ kₓ hkₓ => (upS_n (by omega)).trans (h1ₓ qₓ kₓ hkₓ), Or.inl ⟨by rw [upS_k (by decide)]; exact h2ₓ, if_neg h2ₓ, by rw [upS_k (by decide)]; exact h3ₓ⟩⟩
    rcases hv with ⟨rfl, hₓ, hfₓ, hpₓ, hNₓ, D, L, h20ₓ, hL0ₓ, hL1ₓ, hTₓ, hOₓ, h2ₓ, stₓ⟩ | ⟨rfl, hfₓ, stₓ⟩
    · rw [mIf_neg (show ¬ (1 : Int) = 0 by decide)] at eₓ
      have hq0ₓ : 0 ≤ sk F N (σ 0 14) := Int.le_trans hpₓ sk_ge
      have hqNₓ : sk F N (σ 0 14) ≤ N := sk_ub hNₓ
      obtain ⟨r1ₓ, s1ₓ, e1ₓ, eₓ⟩ := mCall_el eₓ
      obtain ⟨rfl, rfl⟩ := r_seem hₓ hpₓ e1ₓ
      have n14ₓ : upS σ 0 14 (sk F N (σ 0 14)) 0 14 = sk F N (σ 0 14) := upS_s
      have hmₓ : MV F N (upS σ 0 14 (sk F N (σ 0 14))) := hₓ.up (by decide) (by omega)
      by_cases c59ₓ : bt F N (sk F N (σ 0 14)) = 59
      · have hbₓ := bt_lt (by decide) c59ₓ
        have hb2ₓ : byteIs F N (sk F N (σ 0 14)) 59 = true := byteIs_t hbₓ.1 hbₓ.2
        rw [mIf_neg (fun qₓ => qₓ c59ₓ), mRd_e, n14ₓ, mLet_e, mWr_e, upS_upS] at eₓ
        obtain ⟨tₓ, htₓ⟩ : ∃ tₓ, tₓ = upS σ 0 14 (sk F N (σ 0 14) + 1) := ⟨_, rfl⟩
        rw [← htₓ] at eₓ
        have tn : ∀ qₓ kₓ : Nat, ¬ (qₓ = 0 ∧ kₓ = 14) → tₓ qₓ kₓ = σ qₓ kₓ := fun qₓ kₓ aₓ => by rw [htₓ, upS_n aₓ]
        have t14ₓ : tₓ 0 14 = sk F N (σ 0 14) + 1 := by rw [htₓ, upS_s]
        obtain ⟨r2ₓ, s2ₓ, e2ₓ, eₓ⟩ := mCall_el eₓ
        obtain ⟨k3ₓ, k4ₓ, k5ₓ⟩ := r_tclause (L := L + 1) (by rw [htₓ]; exact hₓ.up (by decide) (by omega)) (by rw [htₓ]; exact CM_up hTₓ (by omega)) hOₓ (Or.inr ⟨by omega, h2ₓ⟩) (by omega) ((tn 0 20 (by omega)).trans h20ₓ) ((tn 0 17 (by omega)).trans htxₓ) (by rw [t14ₓ]; omega) (by rw [t14ₓ]; omega) ((tn 0 15 (by omega)).trans hfₓ) e2ₓ
        rw [t14ₓ] at k5ₓ
        have kk : KQ σ s2ₓ := fun qₓ kₓ hkₓ => (k3ₓ qₓ kₓ (by omega)).trans (tn qₓ kₓ (by omega))
        have mv2 : MV F N s2ₓ := ⟨(k3ₓ 0 1 (by omega)).trans ((tn 0 1 (by omega)).trans hₓ.1), fun jₓ j0ₓ j1ₓ => by rw [k3ₓ 1 _ (by omega), tn 1 _ (by omega)]; exact hₓ.2 jₓ j0ₓ j1ₓ⟩
        have st2ₓ : SU F N c0ₓ (0, sk F N (sk F N (σ 0 14) + 1), L + 1, D) := by rw [tE_go hb2ₓ] at stₓ; exact stₓ
        have h9ₓ : (r2ₓ = 1 ∧ MV F N s2ₓ ∧ s2ₓ 0 15 = 0 ∧ 0 ≤ s2ₓ 0 14 ∧ s2ₓ 0 14 ≤ N ∧ ∃ (D : Nat → Int) (L : Int), s2ₓ 0 20 = L + 1 ∧ 0 ≤ L ∧ L < 32 ∧ CM D s2ₓ ∧ OD D ∧ 2 ≤ D 0 ∧ SU F N c0ₓ (tE F N L D (s2ₓ 0 14))) ∨ (r2ₓ = 0 ∧ s2ₓ 0 15 ≠ 0 ∧ SU F N c0ₓ (tH (s2ₓ 0 15))) := by
          rcases k5ₓ with ⟨y1ₓ, y2ₓ, y3ₓ⟩ | ⟨y1ₓ, y2ₓ, y3ₓ, y4ₓ, D2, y5ₓ, y6ₓ, y7ₓ, y8ₓ⟩
          · exact Or.inr ⟨y1ₓ, y2ₓ, st2ₓ.tr (SU_one y3ₓ)⟩
          · obtain ⟨z1ₓ, z2ₓ⟩ := k4ₓ y1ₓ
            exact Or.inl ⟨y1ₓ, mv2, y2ₓ, y3ₓ, y4ₓ, D2, L + 1, z1ₓ, by omega, z2ₓ, y6ₓ, y7ₓ, y8ₓ, st2ₓ.tr (SU_one y5ₓ)⟩
        obtain ⟨i1ₓ, i2ₓ, i3ₓ⟩ := ihₓ r2ₓ s2ₓ ((kk 0 17 (by omega)).trans htxₓ) h9ₓ eₓ
        exact ⟨i1ₓ, fun qₓ kₓ hkₓ => (i2ₓ qₓ kₓ hkₓ).trans (kk qₓ kₓ hkₓ), i3ₓ⟩
      · rw [mIf_pos c59ₓ, mIf_neg (show ¬ (1 : Int) = 0 by decide)] at eₓ
        obtain ⟨r2ₓ, s2ₓ, e2ₓ, eₓ⟩ := mCall_el eₓ
        obtain ⟨rfl, rfl⟩ := r_seem hmₓ (by rw [n14ₓ]; exact hq0ₓ) e2ₓ
        rw [n14ₓ, sk_idem, upS_upS] at eₓ
        have nb : byteIs F N (sk F N (σ 0 14)) 59 = false := byteIs_f (fun qₓ => c59ₓ ((bt_is (by decide)).mpr qₓ))
        by_cases cN : sk F N (σ 0 14) < N
        · have hFₓ := (hₓ.2 _ hq0ₓ cN).1
          rw [mIf_neg (show ¬ bt F N (sk F N (σ 0 14)) = -1 by unfold bt; rw [if_pos cN]; omega), mRd_e, n14ₓ, r_fails ((upS_n (by omega)).trans hfₓ), mCall_s, Int.add_zero] at eₓ
          rw [tE_bad nb cN] at stₓ
          refine bad _ (fun qₓ kₓ hkₓ => by rw [upS_n (by omega), upS_n (by omega)]) ?_ ?_ eₓ
          · rw [upS_s]; omega
          · rw [upS_s]; exact stₓ
        · rw [mIf_pos (show bt F N (sk F N (σ 0 14)) = -1 by unfold bt; rw [if_neg cN])] at eₓ
          rw [tE_end nb cN] at stₓ
          obtain ⟨rfl, rfl⟩ := r_reads88 eₓ
          have f15ₓ : upS σ 0 14 (sk F N (σ 0 14)) 0 15 = 0 := (upS_k (by decide)).trans hfₓ
          refine ⟨upS_s, fun qₓ kₓ hkₓ => by rw [upS_n (by omega), upS_n (by omega)], Or.inr ⟨by rw [upS_k (by decide)]; exact f15ₓ, if_pos f15ₓ, D, stₓ, CM_up (CM_up hTₓ (by omega)) (by omega), hOₓ⟩⟩
    · rw [mIf_pos rfl, mIf_pos rfl] at eₓ
      exact bad σ (fun _ _ _ => rfl) hfₓ stₓ eₓ
/-- what said keeps of aₓ town -/
def TSd (D : Nat → Int) (σ : SS) : Prop := (σ 12 0 = D 0 ∧ σ 12 1 = D 1 ∧ σ 12 2 = D 2 ∧ σ 12 3 = D 3) ∧ (∀ kₓ : Nat, (kₓ : Int) < 10 * D 1 → σ 12 (10 + kₓ) = D (10 + kₓ)) ∧ (∀ kₓ : Nat, (kₓ : Int) < 2 * D 2 → σ 12 (140 + kₓ) = D (140 + kₓ)) ∧ ∀ kₓ : Nat, (kₓ : Int) < 3 * D 3 → σ 12 (156 + kₓ) = D (156 + kₓ)
def K12 (σ σ' : SS) : Prop := ∀ qₓ kₓ : Nat, qₓ ≠ 12 → σ' qₓ kₓ = σ qₓ kₓ
theorem CM.k12 (hTₓ : CM D σ) (hₓ : K12 σ σ') : CM D σ' := ⟨⟨(hₓ _ _ (by decide)).trans hTₓ.1.1, (hₓ _ _ (by decide)).trans hTₓ.1.2.1, (hₓ _ _ (by decide)).trans hTₓ.1.2.2.1, (hₓ _ _ (by decide)).trans hTₓ.1.2.2.2⟩, fun kₓ hkₓ => (hₓ _ _ (by decide)).trans (hTₓ.2.1 kₓ hkₓ), fun kₓ hkₓ => (hₓ _ _ (by decide)).trans (hTₓ.2.2.1 kₓ hkₓ), fun kₓ hkₓ => (hₓ _ _ (by decide)).trans (hTₓ.2.2.2 kₓ hkₓ)⟩
theorem r_put189 (hOₓ : OD D) : ∀ (nₓ iₓ : Nat) (σ : SS), CM D σ → (∀ kₓ : Nat, kₓ < iₓ → σ 12 (156 + kₓ) = D (156 + kₓ)) → (iₓ : Int) ≤ 3 * D 3 → j_X12_town 0 nₓ 189 [(iₓ : Int)] σ = some (rₓ, σ') → K12 σ σ' ∧ rₓ = D 1 ∧ (∀ kₓ : Nat, kₓ < 156 → σ' 12 kₓ = σ 12 kₓ) ∧ ∀ kₓ : Nat, (kₓ : Int) < 3 * D 3 → σ' 12 (156 + kₓ) = D (156 + kₓ) := by
  intro nₓ
  induction nₓ with
  | zero => intro iₓ σ _ _ _ eₓ; exact none_el eₓ
  | succ nₓ ihₓ =>
    intro iₓ σ hTₓ hkₓ hiₓ eₓ
    rw [e_X12_town_189] at eₓ
    unfold b_X12_town_189 at eₓ
    rw [mRd_e, hTₓ.1.2.2.2, mLet_e] at eₓ
    by_cases cₓ : 3 * D 3 ≤ (iₓ : Int)
    · rw [mIf_pos cₓ, mRd_e, hTₓ.1.2.1] at eₓ
      obtain ⟨rfl, rfl⟩ := some_el eₓ
      exact ⟨fun _ _ _ => rfl, rfl, fun _ _ => rfl, fun kₓ hₓ => hkₓ kₓ (by omega)⟩
    · have e1ₓ : ((156 : Int) + (iₓ : Int)).toNat = 156 + iₓ := by omega
      have e2ₓ : ((iₓ : Nat) : Int).toNat = iₓ := by omega
      rw [mIf_neg cₓ, mLet_e, mRd_e, e2ₓ, mWr_e, e1ₓ, mLet_e, show (iₓ : Int) + 1 = ((iₓ + 1 : Nat) : Int) by omega] at eₓ
      have k1ₓ : K12 σ (upS σ 12 (156 + iₓ) (σ 8 iₓ)) := fun qₓ kₓ hₓ => upS_q hₓ
      obtain ⟨g1ₓ, g2ₓ, g3ₓ, g4ₓ⟩ := ihₓ (iₓ + 1) _ (hTₓ.k12 k1ₓ) (fun kₓ hₓ => by
        by_cases ck : kₓ = iₓ
        · subst ck; rw [upS_s]; exact hTₓ.2.2.2 kₓ (by omega)
        · rw [upS_k (by omega)]; exact hkₓ kₓ (by omega)) (by omega) eₓ
      exact ⟨fun qₓ kₓ hₓ => (g1ₓ qₓ kₓ hₓ).trans (k1ₓ qₓ kₓ hₓ), g2ₓ, fun kₓ hₓ => (g3ₓ kₓ hₓ).trans (upS_k (by omega)), g4ₓ⟩
theorem r_put155 (hOₓ : OD D) : ∀ (nₓ iₓ : Nat) (σ : SS), CM D σ → (∀ kₓ : Nat, kₓ < iₓ → σ 12 (140 + kₓ) = D (140 + kₓ)) → (iₓ : Int) ≤ 2 * D 2 → j_X12_town 0 nₓ 155 [(iₓ : Int)] σ = some (rₓ, σ') → K12 σ σ' ∧ rₓ = D 1 ∧ (∀ kₓ : Nat, kₓ < 140 → σ' 12 kₓ = σ 12 kₓ) ∧ (∀ kₓ : Nat, (kₓ : Int) < 2 * D 2 → σ' 12 (140 + kₓ) = D (140 + kₓ)) ∧ ∀ kₓ : Nat, (kₓ : Int) < 3 * D 3 → σ' 12 (156 + kₓ) = D (156 + kₓ) := by
  intro nₓ
  induction nₓ with
  | zero => intro iₓ σ _ _ _ eₓ; exact none_el eₓ
  | succ nₓ ihₓ =>
    intro iₓ σ hTₓ hkₓ hiₓ eₓ
    obtain ⟨o0ₓ, o1ₓ, o2ₓ, o3ₓ, o4ₓ⟩ := id hOₓ
    rw [e_X12_town_155] at eₓ
    unfold b_X12_town_155 at eₓ
    rw [mRd_e, hTₓ.1.2.2.1, mLet_e] at eₓ
    by_cases cₓ : 2 * D 2 ≤ (iₓ : Int)
    · rw [mIf_pos cₓ] at eₓ
      obtain ⟨g1ₓ, g2ₓ, g3ₓ, g4ₓ⟩ := r_put189 hOₓ nₓ 0 σ hTₓ (fun kₓ hₓ => absurd hₓ (Nat.not_lt_zero _)) (by omega) eₓ
      exact ⟨g1ₓ, g2ₓ, fun kₓ hₓ => g3ₓ kₓ (by omega), fun kₓ hₓ => (g3ₓ _ (by omega)).trans (hkₓ kₓ (by omega)), g4ₓ⟩
    · have e1ₓ : ((140 : Int) + (iₓ : Int)).toNat = 140 + iₓ := by omega
      have e2ₓ : ((iₓ : Nat) : Int).toNat = iₓ := by omega
      rw [mIf_neg cₓ, mLet_e, mRd_e, e2ₓ, mWr_e, e1ₓ, mLet_e, show (iₓ : Int) + 1 = ((iₓ + 1 : Nat) : Int) by omega] at eₓ
      have k1ₓ : K12 σ (upS σ 12 (140 + iₓ) (σ 7 iₓ)) := fun qₓ kₓ hₓ => upS_q hₓ
      obtain ⟨g1ₓ, g2ₓ, g3ₓ, g4ₓ, g5ₓ⟩ := ihₓ (iₓ + 1) _ (hTₓ.k12 k1ₓ) (fun kₓ hₓ => by
        by_cases ck : kₓ = iₓ
        · subst ck; rw [upS_s]; exact hTₓ.2.2.1 kₓ (by omega)
        · rw [upS_k (by omega)]; exact hkₓ kₓ (by omega)) (by omega) eₓ
      exact ⟨fun qₓ kₓ hₓ => (g1ₓ qₓ kₓ hₓ).trans (k1ₓ qₓ kₓ hₓ), g2ₓ, fun kₓ hₓ => (g3ₓ kₓ hₓ).trans (upS_k (by omega)), g4ₓ, g5ₓ⟩
theorem r_put121 (hOₓ : OD D) : ∀ (nₓ iₓ : Nat) (σ : SS), CM D σ → (∀ kₓ : Nat, kₓ < iₓ → σ 12 (10 + kₓ) = D (10 + kₓ)) → (iₓ : Int) ≤ 10 * D 1 → j_X12_town 0 nₓ 121 [(iₓ : Int)] σ = some (rₓ, σ') → K12 σ σ' ∧ rₓ = D 1 ∧ (∀ kₓ : Nat, kₓ < 10 → σ' 12 kₓ = σ 12 kₓ) ∧ (∀ kₓ : Nat, (kₓ : Int) < 10 * D 1 → σ' 12 (10 + kₓ) = D (10 + kₓ)) ∧ (∀ kₓ : Nat, (kₓ : Int) < 2 * D 2 → σ' 12 (140 + kₓ) = D (140 + kₓ)) ∧ ∀ kₓ : Nat, (kₓ : Int) < 3 * D 3 → σ' 12 (156 + kₓ) = D (156 + kₓ) := by
  intro nₓ
  induction nₓ with
  | zero => intro iₓ σ _ _ _ eₓ; exact none_el eₓ
  | succ nₓ ihₓ =>
    intro iₓ σ hTₓ hkₓ hiₓ eₓ
    obtain ⟨o0ₓ, o1ₓ, o2ₓ, o3ₓ, o4ₓ⟩ := id hOₓ
    rw [e_X12_town_121] at eₓ
    unfold b_X12_town_121 at eₓ
    rw [mRd_e, hTₓ.1.2.1, mLet_e] at eₓ
    by_cases cₓ : 10 * D 1 ≤ (iₓ : Int)
    · rw [mIf_pos cₓ] at eₓ
      obtain ⟨g1ₓ, g2ₓ, g3ₓ, g4ₓ, g5ₓ⟩ := r_put155 hOₓ nₓ 0 σ hTₓ (fun kₓ hₓ => absurd hₓ (Nat.not_lt_zero _)) (by omega) eₓ
      exact ⟨g1ₓ, g2ₓ, fun kₓ hₓ => g3ₓ kₓ (by omega), fun kₓ hₓ => (g3ₓ _ (by omega)).trans (hkₓ kₓ (by omega)), g4ₓ, g5ₓ⟩
    · have e1ₓ : ((10 : Int) + (iₓ : Int)).toNat = 10 + iₓ := by omega
      have e2ₓ : ((iₓ : Nat) : Int).toNat = iₓ := by omega
      rw [mIf_neg cₓ, mLet_e, mRd_e, e2ₓ, mWr_e, e1ₓ, mLet_e, show (iₓ : Int) + 1 = ((iₓ + 1 : Nat) : Int) by omega] at eₓ
      have k1ₓ : K12 σ (upS σ 12 (10 + iₓ) (σ 6 iₓ)) := fun qₓ kₓ hₓ => upS_q hₓ
      obtain ⟨g1ₓ, g2ₓ, g3ₓ, g4ₓ, g5ₓ, g6ₓ⟩ := ihₓ (iₓ + 1) _ (hTₓ.k12 k1ₓ) (fun kₓ hₓ => by
        by_cases ck : kₓ = iₓ
        · subst ck; rw [upS_s]; exact hTₓ.2.1 kₓ (by omega)
        · rw [upS_k (by omega)]; exact hkₓ kₓ (by omega)) (by omega) eₓ
      exact ⟨fun qₓ kₓ hₓ => (g1ₓ qₓ kₓ hₓ).trans (k1ₓ qₓ kₓ hₓ), g2ₓ, fun kₓ hₓ => (g3ₓ kₓ hₓ).trans (upS_k (by omega)), g4ₓ, g5ₓ, g6ₓ⟩
theorem r_put51 (hOₓ : OD D) {xₓ : Int} : ∀ (nₓ : Nat) (iₓ : Int) (σ : SS), 0 ≤ iₓ → CM D σ → (∀ kₓ : Nat, (kₓ : Int) < iₓ → kₓ < 296 → σ 12 kₓ = 0) → j_X12_town 0 nₓ 51 [xₓ, iₓ] σ = some (rₓ, σ') → K12 σ σ' ∧ rₓ = D 1 ∧ TSd D σ' ∧ σ' 12 9 = xₓ ∧ ∀ kₓ : Nat, 4 ≤ kₓ → kₓ < 9 → σ' 12 kₓ = 0 := by
  intro nₓ
  induction nₓ with
  | zero => intro iₓ σ _ _ _ eₓ; exact none_el eₓ
  | succ nₓ ihₓ =>
    intro iₓ σ hiₓ hTₓ hzₓ eₓ
    obtain ⟨o0ₓ, o1ₓ, o2ₓ, o3ₓ, o4ₓ⟩ := id hOₓ
    rw [e_X12_town_51] at eₓ
    unfold b_X12_town_51 at eₓ
    by_cases cₓ : 296 ≤ iₓ
    · rw [mIf_pos cₓ, mRd_e, mWr_e, mRd_e, mWr_e, mRd_e, mWr_e, mRd_e, mWr_e, mWr_e] at eₓ
      simp only [upS_q (show (0 : Nat) ≠ 12 by decide), hTₓ.1.1, hTₓ.1.2.1, hTₓ.1.2.2.1, hTₓ.1.2.2.2] at eₓ
      obtain ⟨tₓ, htₓ⟩ : ∃ tₓ, tₓ = upS (upS (upS (upS (upS σ 12 (0 : Int).toNat (D 0)) 12 (1 : Int).toNat (D 1)) 12 (2 : Int).toNat (D 2)) 12 (3 : Int).toNat (D 3)) 12 (9 : Int).toNat xₓ := ⟨_, rfl⟩
      rw [← htₓ] at eₓ
      have kt : K12 σ tₓ := fun qₓ kₓ hₓ => by rw [htₓ, upS_q hₓ, upS_q hₓ, upS_q hₓ, upS_q hₓ, upS_q hₓ]
      obtain ⟨g1ₓ, g2ₓ, g3ₓ, g4ₓ, g5ₓ, g6ₓ⟩ := r_put121 hOₓ nₓ 0 tₓ (hTₓ.k12 kt) (fun kₓ hₓ => absurd hₓ (Nat.not_lt_zero _)) (by omega) eₓ
      refine ⟨fun qₓ kₓ hₓ => (g1ₓ qₓ kₓ hₓ).trans (kt qₓ kₓ hₓ), g2ₓ, ⟨⟨?_, ?_, ?_, ?_⟩, g4ₓ, g5ₓ, g6ₓ⟩, ?_, fun kₓ h1ₓ h2ₓ => ?_⟩
      · rw [g3ₓ _ (by decide), htₓ, upS_k (by decide), upS_k (by decide), upS_k (by decide), upS_k (by decide)]; exact upS_s
      · rw [g3ₓ _ (by decide), htₓ, upS_k (by decide), upS_k (by decide), upS_k (by decide)]; exact upS_s
      · rw [g3ₓ _ (by decide), htₓ, upS_k (by decide), upS_k (by decide)]; exact upS_s
      · rw [g3ₓ _ (by decide), htₓ, upS_k (by decide)]; exact upS_s
      · rw [g3ₓ _ (by decide), htₓ]; exact upS_s
      · have e9ₓ : (9 : Int).toNat = 9 := rfl
        have e3ₓ : (3 : Int).toNat = 3 := rfl
        have e2ₓ : (2 : Int).toNat = 2 := rfl
        have e1ₓ : (1 : Int).toNat = 1 := rfl
        have e0ₓ : (0 : Int).toNat = 0 := rfl
        rw [g3ₓ _ (by omega), htₓ, upS_k (by omega), upS_k (by omega), upS_k (by omega), upS_k (by omega), upS_k (by omega)]
        exact hzₓ kₓ (by omega) (by omega)
    · rw [mIf_neg cₓ, mWr_e, mLet_e] at eₓ
      have k1ₓ : K12 σ (upS σ 12 iₓ.toNat 0) := fun qₓ kₓ hₓ => upS_q hₓ
      obtain ⟨g1ₓ, g2ₓ, g3ₓ, g4ₓ⟩ := ihₓ (iₓ + 1) _ (by omega) (hTₓ.k12 k1ₓ) (fun kₓ h1ₓ h2ₓ => by
        by_cases ck : (kₓ : Int) = iₓ
        · obtain rfl : iₓ.toNat = kₓ := by omega
          exact upS_s
        · rw [upS_k (by omega)]; exact hzₓ kₓ (by omega) h2ₓ) eₓ
      exact ⟨fun qₓ kₓ hₓ => (g1ₓ qₓ kₓ hₓ).trans (k1ₓ qₓ kₓ hₓ), g2ₓ, g3ₓ, g4ₓ⟩
/-- town(), of the reference -/
theorem r_town (hv : MV F N σ) (h0ₓ : 0 ≤ N) (eₓ : m_X12_town nₓ 0 σ = some (rₓ, σ')) : σ' 0 1 = 0 ∧ σ' 0 2 = σ 0 2 ∧ ∃ (φ : Int) (D : Nat → Int), SU F N (0, sk F N 0, 0, fun _ => 0) (9, φ, 0, D) ∧ ((φ ≠ 0 ∧ rₓ = -2 - φ ∧ ∀ kₓ : Nat, σ' 12 kₓ = σ 12 kₓ) ∨ (φ = 0 ∧ rₓ = D 1 ∧ OD D ∧ TSd D σ' ∧ σ' 12 9 = σ 12 9 ∧ ∀ kₓ : Nat, 4 ≤ kₓ → kₓ < 9 → σ' 12 kₓ = 0)) := by
  unfold m_X12_town at eₓ
  rw [mWr_e, mWr_e, mWr_e, mWr_e, mWr_e] at eₓ
  obtain ⟨r1ₓ, s1ₓ, e1ₓ, eₓ⟩ := mCall_el eₓ
  unfold m_X12_readsAll at e1ₓ
  simp only [mRd_e, mWr_e] at e1ₓ
  obtain ⟨r2ₓ, s2ₓ, e2ₓ, e1ₓ⟩ := mCall_el e1ₓ
  have h9ₓ : ∃ τ : SS, m_X12_clauseHere nₓ 0 τ = some (r2ₓ, s2ₓ) ∧ τ 0 20 = 0 ∧ τ 0 14 = 0 ∧ τ 0 15 = 0 ∧ τ 0 17 = 6 ∧ τ 0 2 = σ 0 2 ∧ τ 0 1 = N ∧ (∀ kₓ : Nat, τ 1 kₓ = σ 1 kₓ) ∧ (∀ kₓ : Nat, τ 12 kₓ = σ 12 kₓ) ∧ τ 0 7 = 0 ∧ τ 0 8 = 0 ∧ τ 0 9 = 0 ∧ τ 0 10 = 0 := by
    refine ⟨_, e2ₓ, ?_, ?_, ?_, ?_, ?_, ?_, fun kₓ => ?_, fun kₓ => ?_, ?_, ?_, ?_, ?_⟩
    · rw [upS_n (by omega), upS_n (by omega), upS_n (by omega)]; exact upS_s
    · rw [upS_n (by omega), upS_n (by omega)]; exact upS_s
    · rw [upS_n (by omega)]; exact upS_s
    · rw [upS_n (by omega), upS_n (by omega), upS_n (by omega), upS_n (by omega), upS_n (by omega), upS_n (by omega), upS_n (by omega), upS_n (by omega), upS_n (by omega)]; exact upS_s
    · rw [upS_n (by omega), upS_n (by omega), upS_n (by omega), upS_n (by omega), upS_n (by omega), upS_n (by omega), upS_n (by omega), upS_n (by omega), upS_n (by omega), upS_n (by omega)]
    · rw [upS_n (by omega), upS_n (by omega), upS_n (by omega), upS_n (by omega), upS_n (by omega), upS_n (by omega), upS_n (by omega), upS_n (by omega), upS_n (by omega), upS_n (by omega)]; exact hv.1
    · rw [upS_n (by omega), upS_n (by omega), upS_n (by omega), upS_n (by omega), upS_n (by omega), upS_n (by omega), upS_n (by omega), upS_n (by omega), upS_n (by omega), upS_n (by omega)]
    · rw [upS_n (by omega), upS_n (by omega), upS_n (by omega), upS_n (by omega), upS_n (by omega), upS_n (by omega), upS_n (by omega), upS_n (by omega), upS_n (by omega), upS_n (by omega)]
    · rw [upS_n (by omega), upS_n (by omega), upS_n (by omega), upS_n (by omega), upS_n (by omega), upS_n (by omega), upS_n (by omega), upS_n (by omega)]; exact upS_s
    · rw [upS_n (by omega), upS_n (by omega), upS_n (by omega), upS_n (by omega), upS_n (by omega), upS_n (by omega), upS_n (by omega)]; exact upS_s
    · rw [upS_n (by omega), upS_n (by omega), upS_n (by omega), upS_n (by omega), upS_n (by omega), upS_n (by omega)]; exact upS_s
    · rw [upS_n (by omega), upS_n (by omega), upS_n (by omega), upS_n (by omega), upS_n (by omega)]; exact upS_s
  obtain ⟨τ, f1ₓ, f2ₓ, f3ₓ, f4ₓ, f5ₓ, f6ₓ, f7ₓ, f8ₓ, f9ₓ, g7ₓ, g8ₓ, g9ₓ, g10ₓ⟩ := h9ₓ
  have hTₓ : CM (fun _ => 0) τ := ⟨⟨g7ₓ, g8ₓ, g9ₓ, g10ₓ⟩, fun kₓ hkₓ => absurd hkₓ (by show ¬ (kₓ : Int) < 10 * 0; omega), fun kₓ hkₓ => absurd hkₓ (by show ¬ (kₓ : Int) < 2 * 0; omega), fun kₓ hkₓ => absurd hkₓ (by show ¬ (kₓ : Int) < 3 * 0; omega)⟩
  have hOₓ : OD (fun _ => 0) := ⟨by decide, by decide, by decide, by decide, fun kₓ hkₓ => absurd hkₓ (by show ¬ (kₓ : Int) < 0; omega)⟩
  have hmₓ : MV F N τ := ⟨f7ₓ, fun jₓ j0ₓ j1ₓ => by rw [f8ₓ]; exact hv.2 jₓ j0ₓ j1ₓ⟩
  obtain ⟨k3ₓ, k4ₓ, k5ₓ⟩ := r_tclause (L := 0) hmₓ hTₓ hOₓ (Or.inl ⟨rfl, rfl⟩) (by decide) f2ₓ f5ₓ (by rw [f3ₓ]; decide) (by rw [f3ₓ]; exact h0ₓ) f4ₓ f1ₓ
  rw [f3ₓ] at k5ₓ
  have mv2 : MV F N s2ₓ := ⟨(k3ₓ 0 1 (by omega)).trans hmₓ.1, fun jₓ j0ₓ j1ₓ => by rw [k3ₓ 1 _ (by omega)]; exact hmₓ.2 jₓ j0ₓ j1ₓ⟩
  have h10ₓ : (r2ₓ = 1 ∧ MV F N s2ₓ ∧ s2ₓ 0 15 = 0 ∧ 0 ≤ s2ₓ 0 14 ∧ s2ₓ 0 14 ≤ N ∧ ∃ (D : Nat → Int) (L : Int), s2ₓ 0 20 = L + 1 ∧ 0 ≤ L ∧ L < 32 ∧ CM D s2ₓ ∧ OD D ∧ 2 ≤ D 0 ∧ SU F N (0, sk F N 0, 0, fun _ => 0) (tE F N L D (s2ₓ 0 14))) ∨ (r2ₓ = 0 ∧ s2ₓ 0 15 ≠ 0 ∧ SU F N (0, sk F N 0, 0, fun _ => 0) (tH (s2ₓ 0 15))) := by
    rcases k5ₓ with ⟨y1ₓ, y2ₓ, y3ₓ⟩ | ⟨y1ₓ, y2ₓ, y3ₓ, y4ₓ, D2, y5ₓ, y6ₓ, y7ₓ, y8ₓ⟩
    · exact Or.inr ⟨y1ₓ, y2ₓ, SU_one y3ₓ⟩
    · obtain ⟨z1ₓ, z2ₓ⟩ := k4ₓ y1ₓ
      exact Or.inl ⟨y1ₓ, mv2, y2ₓ, y3ₓ, y4ₓ, D2, 0, z1ₓ, by omega, z2ₓ, y6ₓ, y7ₓ, y8ₓ, SU_one y5ₓ⟩
  obtain ⟨i1ₓ, i2ₓ, i3ₓ⟩ := r_treads0 nₓ r2ₓ s2ₓ ((k3ₓ 0 17 (by omega)).trans f5ₓ) h10ₓ e1ₓ
  have x2ₓ : s1ₓ 0 2 = σ 0 2 := by rw [i2ₓ 0 2 (by omega), k3ₓ 0 2 (by omega), f6ₓ]
  have x12ₓ : ∀ kₓ : Nat, s1ₓ 12 kₓ = σ 12 kₓ := fun kₓ => by rw [i2ₓ 12 kₓ (by omega), k3ₓ 12 kₓ (by omega), f9ₓ]
  rcases i3ₓ with ⟨j1ₓ, j2ₓ, j3ₓ⟩ | ⟨j1ₓ, j2ₓ, D, j3ₓ, j4ₓ, j5ₓ⟩
  · rw [mIf_neg (by omega), mRd_e, mLet_e] at eₓ
    obtain ⟨rfl, rfl⟩ := some_el eₓ
    exact ⟨i1ₓ, x2ₓ, _, _, j3ₓ, Or.inl ⟨j1ₓ, rfl, x12ₓ⟩⟩
  · rw [mIf_pos (by omega), mRd_e] at eₓ
    obtain ⟨g1ₓ, g2ₓ, g3ₓ, g4ₓ, g5ₓ⟩ := r_put51 j5ₓ nₓ 0 s1ₓ (by decide) j4ₓ (fun kₓ hₓ => absurd hₓ (by omega)) eₓ
    exact ⟨(g1ₓ 0 1 (by decide)).trans i1ₓ, (g1ₓ 0 2 (by decide)).trans x2ₓ, 0, D, j3ₓ, Or.inr ⟨rfl, g2ₓ, j5ₓ, g3ₓ, g4ₓ.trans (x12ₓ 9), g5ₓ⟩⟩
/-- what the two towns are to each other -/
def TWN (σ τ : SS) : Prop := ∃ D : Nat → Int, OD D ∧ CT 39 D σ ∧ (∀ jₓ : Nat, (jₓ : Int) < D 1 → σ 47 jₓ = szN D jₓ (D 2).toNat) ∧ TSd D τ ∧ (∀ kₓ : Nat, (kₓ = 8 ∨ kₓ = 10 ∨ kₓ = 11 ∨ kₓ = 12) → σ 38 kₓ = 0) ∧ (∀ kₓ : Nat, 4 ≤ kₓ → kₓ < 9 → τ 12 kₓ = 0) ∧ GD D
theorem f_town {n'ₓ : Nat} {r'ₓ : Int} {τ' : SS} (hₓ : TR σ τ) (hNₓ : σ 1 2 ≤ 400) (hb0ₓ : ∀ jₓ : Nat, jₓ < 400 → 0 ≤ σ 2 jₓ) (hb1ₓ : ∀ jₓ : Nat, jₓ < 400 → -128 ≤ τ 1 jₓ ∧ τ 1 jₓ ≤ 127) (e1ₓ : m_X11_town nₓ 0 σ = some (rₓ, σ')) (e2ₓ : m_X12_town n'ₓ 0 τ = some (r'ₓ, τ')) : rₓ = r'ₓ ∧ TR σ' τ' ∧ ((TWN σ' τ' ∧ ∀ qₓ kₓ : Nat, 58 < qₓ → qₓ ≠ 148 → σ' qₓ kₓ = σ qₓ kₓ) ∨ ((∀ qₓ kₓ : Nat, 38 ≤ qₓ → σ' qₓ kₓ = σ qₓ kₓ) ∧ ∀ kₓ : Nat, τ' 12 kₓ = τ 12 kₓ)) := by
  obtain ⟨htₓ, hrₓ⟩ := hₓ
  obtain ⟨t1ₓ, t2ₓ, t3ₓ⟩ := id htₓ
  have hcₓ : CV (fun jₓ => σ 2 jₓ.toNat) (σ 1 2) σ := ⟨rfl, fun _ _ _ => rfl, fun jₓ j0ₓ j1ₓ => hb0ₓ jₓ.toNat (by omega)⟩
  have hv : MV (fun jₓ => σ 2 jₓ.toNat) (σ 1 2) τ := ⟨t1ₓ.symm, fun jₓ j0ₓ j1ₓ => ⟨t3ₓ jₓ.toNat (by omega), hb1ₓ jₓ.toNat (by omega)⟩⟩
  obtain ⟨a1ₓ, a2ₓ, φ, D, a3ₓ, a4ₓ⟩ := c_town hcₓ t2ₓ e1ₓ
  obtain ⟨b1ₓ, b2ₓ, ψ, E, b3ₓ, b4ₓ⟩ := r_town hv t2ₓ e2ₓ
  obtain ⟨rfl, rfl⟩ := SU_det a3ₓ b3ₓ
  have hTRₓ : TR σ' τ' := ⟨⟨by rw [a1ₓ, b1ₓ], by rw [a1ₓ]; exact Int.le_refl 0, fun jₓ hjₓ => absurd hjₓ (by rw [a1ₓ]; omega)⟩, by rw [a2ₓ, b2ₓ]; exact hrₓ⟩
  rcases a4ₓ with ⟨c1ₓ, c2ₓ, c3ₓ⟩ | ⟨c1ₓ, c2ₓ, c3ₓ, c4ₓ, c5ₓ, c6ₓ, c7ₓ⟩
  · rcases b4ₓ with ⟨d1ₓ, d2ₓ, d3ₓ⟩ | ⟨d1ₓ, d2ₓ, d3ₓ, d4ₓ, d5ₓ, d6ₓ⟩
    · exact ⟨by omega, hTRₓ, Or.inr ⟨c3ₓ, d3ₓ⟩⟩
    · exact absurd d1ₓ c1ₓ
  · rcases b4ₓ with ⟨d1ₓ, d2ₓ, d3ₓ⟩ | ⟨d1ₓ, d2ₓ, d3ₓ, d4ₓ, d5ₓ, d6ₓ⟩
    · exact absurd c1ₓ d1ₓ
    · exact ⟨by omega, hTRₓ, Or.inl ⟨⟨D, c3ₓ, c4ₓ, c5ₓ, d4ₓ, c6ₓ, d6ₓ, SU_good a3ₓ⟩, c7ₓ⟩⟩
end
