/-! the reference's clauses and rule(): what they put out; what two rules are to each other -/
def MR (cl : Nat → Int) : List (Int × Nat × Bool × Nat) → Prop
  | [] => True
  | xₓ :: R => cl (3 * R.length) = xₓ.1 ∧ cl (3 * R.length + 1) = (if xₓ.2.2.1 = true then (xₓ.2.1 : Int) else -1) ∧ cl (3 * R.length + 2) = (xₓ.2.2.2 : Int) ∧ MR cl R
theorem MR_congr {cl cl' : Nat → Int} : ∀ {R : List (Int × Nat × Bool × Nat)}, MR cl R → (∀ jₓ : Nat, jₓ < 3 * R.length → cl' jₓ = cl jₓ) → MR cl' R
  | [], _, _ => trivial
  | xₓ :: R, hₓ, h1ₓ => by
    obtain ⟨aₓ, bₓ, cₓ, dₓ⟩ := hₓ
    have hlₓ : (xₓ :: R).length = R.length + 1 := List.length_cons
    exact ⟨(h1ₓ _ (by omega)).trans aₓ, (h1ₓ _ (by omega)).trans bₓ, (h1ₓ _ (by omega)).trans cₓ, MR_congr dₓ (fun jₓ hjₓ => h1ₓ jₓ (by omega))⟩
def DM (σ : SS) (O : List Int) (R : List (Int × Nat × Bool × Nat)) : Prop := CdM σ O ∧ σ 5 (σ 0 17).toNat = (R.length : Int) ∧ MR (fun kₓ => σ 4 (36 * σ 0 17 + (kₓ : Int)).toNat) R
def OM (σ σ' : SS) : Prop := LM σ ∧ 0 ≤ σ 5 (σ 0 17).toNat → (LM σ' ∧ 0 ≤ σ' 5 (σ' 0 17).toNat) ∧ σ' 0 17 = σ 0 17 ∧ (∀ kₓ : Nat, (kₓ : Int) < 400 * σ 0 17 → σ' 2 kₓ = σ 2 kₓ) ∧ (∀ kₓ : Nat, (kₓ : Int) < 36 * σ 0 17 → σ' 4 kₓ = σ 4 kₓ) ∧ (∀ kₓ : Nat, (kₓ : Int) < σ 0 17 → σ' 5 kₓ = σ 5 kₓ)
section
variable {F : Int → Int} {N : Int} {O : List Int} {σ σ' σ'' : SS} {pₓ rₓ aₓ bₓ wₓ xₓ tₓ : Int} {nₓ : Nat} {qₓ : Int} {cₓ : Int × Nat} {R : List (Int × Nat × Bool × Nat)}
theorem OM.rf : OM σ σ := fun hₓ => ⟨hₓ, rfl, fun _ _ => rfl, fun _ _ => rfl, fun _ _ => rfl⟩
theorem OM.tr (hₓ : OM σ σ') (gₓ : OM σ' σ'') : OM σ σ'' := fun h0ₓ => by
  obtain ⟨h1ₓ, h2ₓ, h3ₓ, h4ₓ, h5ₓ⟩ := hₓ h0ₓ
  obtain ⟨g1ₓ, g2ₓ, g3ₓ, g4ₓ, g5ₓ⟩ := gₓ h1ₓ
  exact ⟨g1ₓ, g2ₓ.trans h2ₓ, fun kₓ hkₓ => (g3ₓ kₓ (by rw [h2ₓ]; exact hkₓ)).trans (h3ₓ kₓ hkₓ), fun kₓ hkₓ => (g4ₓ kₓ (by rw [h2ₓ]; exact hkₓ)).trans (h4ₓ kₓ hkₓ), fun kₓ hkₓ => (g5ₓ kₓ (by rw [h2ₓ]; exact hkₓ)).trans (h5ₓ kₓ hkₓ)⟩
theorem KM.om (hₓ : KM σ σ') : OM σ σ' := fun h0ₓ => by
  obtain ⟨h1ₓ, h2ₓ, h3ₓ, h4ₓ, h5ₓ⟩ := hₓ h0ₓ.1
  exact ⟨⟨h1ₓ, by rw [h2ₓ, h5ₓ]; exact h0ₓ.2⟩, h2ₓ, h3ₓ, fun kₓ _ => h4ₓ kₓ, fun kₓ _ => h5ₓ kₓ⟩
theorem CdM.lm (hₓ : CdM σ O) : LM σ := ⟨hₓ.1, by rw [hₓ.2.1]; omega⟩
theorem DM.l0 (hₓ : L0 σ σ') (hdₓ : DM σ O R) : DM σ' O R := by
  obtain ⟨d1ₓ, d2ₓ, d3ₓ⟩ := hdₓ
  obtain ⟨aₓ, bₓ⟩ := id hₓ
  unfold DM
  rw [aₓ, bₓ 5 _ (by decide) (by decide)]
  exact ⟨d1ₓ.l0 hₓ, d2ₓ, MR_congr d3ₓ (fun jₓ _ => bₓ 4 _ (by decide) (by decide))⟩
theorem rx_doing76 (eₓ : b_X12_isDoingHere_76 nₓ 0 aₓ σ = some (rₓ, σ')) (haₓ : aₓ = 36 * σ 0 17 + 3 * σ 5 (σ 0 17).toNat) : OM σ σ' ∧ σ' 0 14 = σ 0 14 ∧ ∀ (O : List Int) (dₓ : Int) (sₓ : Nat) (bₓ : Bool) (R : List (Int × Nat × Bool × Nat)), CdM σ O → σ 5 (σ 0 17).toNat = (R.length : Int) → MR (fun kₓ => σ 4 (36 * σ 0 17 + (kₓ : Int)).toNat) R → σ 4 aₓ.toNat = dₓ → σ 4 (aₓ + 1).toNat = (if bₓ = true then (sₓ : Int) else -1) → DM σ' O ((dₓ, sₓ, bₓ, O.length) :: R) := by
  unfold b_X12_isDoingHere_76 at eₓ
  simp only [mRd_e, mLet_e, mWr_e, mRet_e] at eₓ
  obtain ⟨-, rfl⟩ := some_el eₓ
  have a1ₓ : ∀ (iₓ : Nat) (vₓ : Int), upS σ 4 iₓ vₓ 0 17 = σ 0 17 := fun iₓ vₓ => upS_q (by decide)
  have a2ₓ : ∀ (iₓ : Nat) (vₓ : Int) (kₓ : Nat), upS σ 4 iₓ vₓ 5 kₓ = σ 5 kₓ := fun iₓ vₓ kₓ => upS_q (by decide)
  rw [a1ₓ, a2ₓ]
  have b17ₓ : ∀ (iₓ jₓ : Nat) (uₓ vₓ : Int), upS (upS σ 4 iₓ uₓ) 5 jₓ vₓ 0 17 = σ 0 17 := fun iₓ jₓ uₓ vₓ => by rw [upS_q (by decide), upS_q (by decide)]
  refine ⟨fun ⟨⟨l0ₓ, l1ₓ⟩, l2ₓ⟩ => ⟨⟨?_, ?_⟩, b17ₓ _ _ _ _, fun kₓ hkₓ => ?_, fun kₓ hkₓ => ?_, fun kₓ hkₓ => ?_⟩, ?_, fun O dₓ sₓ bₓ R hOₓ h5ₓ hMₓ h0ₓ h1ₓ => ⟨?_, ?_, ?_, ?_, ?_, ?_⟩⟩
  · unfold LM; rw [b17ₓ, upS_q (by decide), upS_q (by decide)]; exact ⟨l0ₓ, l1ₓ⟩
  · rw [b17ₓ, upS_s]; omega
  · rw [upS_q (by decide), upS_q (by decide)]
  · rw [upS_q (by decide), upS_k (by omega)]
  · rw [upS_k (by omega), upS_q (by decide)]
  · rw [upS_q (by decide), upS_q (by decide)]
  · unfold CdM
    rw [b17ₓ, upS_q (by decide), upS_q (by decide)]
    exact ⟨hOₓ.1, hOₓ.2.1, Put_congr hOₓ.2.2 (fun jₓ _ => by rw [upS_q (by decide), upS_q (by decide)])⟩
  · rw [b17ₓ, upS_s, h5ₓ, List.length_cons]; omega
  · have g0ₓ := hOₓ.1
    show upS (upS σ 4 _ _) 5 _ _ 4 (36 * upS (upS σ 4 _ _) 5 _ _ 0 17 + ((3 * R.length : Nat) : Int)).toNat = dₓ
    rw [b17ₓ, upS_q (by decide), upS_k (by omega), ← h0ₓ]
    congr 1; omega
  · have g0ₓ := hOₓ.1
    show upS (upS σ 4 _ _) 5 _ _ 4 (36 * upS (upS σ 4 _ _) 5 _ _ 0 17 + ((3 * R.length + 1 : Nat) : Int)).toNat = if bₓ = true then (sₓ : Int) else -1
    rw [b17ₓ, upS_q (by decide), upS_k (by omega), ← h1ₓ]
    congr 1; omega
  · have g0ₓ := hOₓ.1
    show upS (upS σ 4 _ _) 5 _ _ 4 (36 * upS (upS σ 4 _ _) 5 _ _ 0 17 + ((3 * R.length + 2 : Nat) : Int)).toNat = (O.length : Int)
    rw [b17ₓ, upS_q (by decide), show (36 * σ 0 17 + ((3 * R.length + 2 : Nat) : Int)).toNat = (aₓ + 2).toNat by omega, upS_s]
    exact hOₓ.2.1
  · have g0ₓ := hOₓ.1
    refine MR_congr hMₓ (fun jₓ hjₓ => ?_)
    show upS (upS σ 4 _ _) 5 _ _ 4 (36 * upS (upS σ 4 _ _) 5 _ _ 0 17 + (jₓ : Int)).toNat = σ 4 (36 * σ 0 17 + (jₓ : Int)).toNat
    rw [b17ₓ, upS_q (by decide), upS_k (by omega)]
theorem rx_doingSort (hₓ : MV F N σ) (hpₓ : 0 ≤ σ 0 14) (eₓ : m_X12_doingSort nₓ 0 σ = some (rₓ, σ')) : rₓ = idxW F (wd F N (sk F N (σ 0 14))) (sk F N (σ 0 14)) wDeeds 0 ∧ σ' = upS σ 0 14 (sk F N (σ 0 14)) := by
  have hqₓ : 0 ≤ sk F N (σ 0 14) := Int.le_trans hpₓ runE_le
  have huₓ : MV F N (upS σ 0 14 (sk F N (σ 0 14))) := hₓ.up (by decide) (by omega)
  have is : ∀ {wₓ : Int} {W : List Int} {r1ₓ : Int} {s1ₓ : SS}, WD wₓ W → m_X12_isWord nₓ 0 wₓ (upS σ 0 14 (sk F N (σ 0 14))) = some (r1ₓ, s1ₓ) → ((isWd F N (sk F N (σ 0 14)) W = true ∧ r1ₓ = 1) ∨ (isWd F N (sk F N (σ 0 14)) W = false ∧ r1ₓ = 0)) ∧ s1ₓ = upS σ 0 14 (sk F N (σ 0 14)) := by
    intro wₓ W r1ₓ s1ₓ hWₓ eₓ
    have h2ₓ := r_isWord hWₓ huₓ (by rw [upS_s]; exact hqₓ) eₓ
    rw [upS_s, sk_idem, upS_upS] at h2ₓ
    exact h2ₓ
  unfold m_X12_doingSort at eₓ
  obtain ⟨r0ₓ, s0ₓ, e0ₓ, eₓ⟩ := mCall_el eₓ
  obtain ⟨h0ₓ, rfl⟩ := r_isWord wd_d0 hₓ hpₓ e0ₓ
  rcases h0ₓ with ⟨t0ₓ, rfl⟩ | ⟨f0ₓ, rfl⟩
  · rw [mIf_neg (show ¬ (1 : Int) = 0 by decide)] at eₓ
    obtain ⟨rfl, rfl⟩ := some_el eₓ
    refine ⟨Eq.symm ?_, rfl⟩
    unfold wDeeds
    rw [idx_c, if_pos t0ₓ]
  rw [mIf_pos rfl] at eₓ
  obtain ⟨r1ₓ, s1ₓ, e1ₓ, eₓ⟩ := mCall_el eₓ
  obtain ⟨h1ₓ, rfl⟩ := is wd_d1 e1ₓ
  rcases h1ₓ with ⟨t1ₓ, rfl⟩ | ⟨f1ₓ, rfl⟩
  · rw [mIf_neg (show ¬ (1 : Int) = 0 by decide)] at eₓ
    obtain ⟨rfl, rfl⟩ := some_el eₓ
    refine ⟨Eq.symm ?_, rfl⟩
    unfold wDeeds
    rw [idx_c, if_neg (by rw [f0ₓ]; decide), idx_c, if_pos t1ₓ] <;> rfl
  rw [mIf_pos rfl] at eₓ
  obtain ⟨r2ₓ, s2ₓ, e2ₓ, eₓ⟩ := mCall_el eₓ
  obtain ⟨h2ₓ, rfl⟩ := is wd_d2 e2ₓ
  rcases h2ₓ with ⟨t2ₓ, rfl⟩ | ⟨f2ₓ, rfl⟩
  · rw [mIf_neg (show ¬ (1 : Int) = 0 by decide)] at eₓ
    obtain ⟨rfl, rfl⟩ := some_el eₓ
    refine ⟨Eq.symm ?_, rfl⟩
    unfold wDeeds
    rw [idx_c, if_neg (by rw [f0ₓ]; decide), idx_c, if_neg (by rw [f1ₓ]; decide), idx_c, if_pos t2ₓ] <;> rfl
  rw [mIf_pos rfl] at eₓ
  obtain ⟨r3ₓ, s3ₓ, e3ₓ, eₓ⟩ := mCall_el eₓ
  obtain ⟨h3ₓ, rfl⟩ := is wd_d3 e3ₓ
  rcases h3ₓ with ⟨t3ₓ, rfl⟩ | ⟨f3ₓ, rfl⟩
  · rw [mIf_neg (show ¬ (1 : Int) = 0 by decide)] at eₓ
    obtain ⟨rfl, rfl⟩ := some_el eₓ
    refine ⟨Eq.symm ?_, rfl⟩
    unfold wDeeds
    rw [idx_c, if_neg (by rw [f0ₓ]; decide), idx_c, if_neg (by rw [f1ₓ]; decide), idx_c, if_neg (by rw [f2ₓ]; decide), idx_c, if_pos t3ₓ] <;> rfl
  rw [mIf_pos rfl] at eₓ
  obtain ⟨rfl, rfl⟩ := some_el eₓ
  refine ⟨Eq.symm ?_, rfl⟩
  unfold wDeeds
  rw [idx_c, if_neg (by rw [f0ₓ]; decide), idx_c, if_neg (by rw [f1ₓ]; decide), idx_c, if_neg (by rw [f2ₓ]; decide), idx_c, if_neg (by rw [f3ₓ]; decide)] <;> rfl
/-- what is told of aₓ RULE behindₓ its word -/
theorem rx_isDoing (hₓ : OKM F N σ) (hqₓ : sk F N (σ 0 14) = σ 0 14) (hdₓ : aₓ = idxW F (wd F N (σ 0 14)) (σ 0 14) wDeeds 0) (eₓ : m_X12_isDoingHere nₓ 0 aₓ σ = some (rₓ, σ')) : OM σ σ' ∧ (rₓ = 1 → ∀ (O : List Int) (cₓ : Int × Nat) (R : List (Int × Nat × Bool × Nat)), DM σ O R → ∃ (O' : List Int) (c'ₓ : Int × Nat) (R' : List (Int × Nat × Bool × Nat)), DM σ' O' R' ∧ XS F N (0, sk F N (σ 0 14), [], O, cₓ, R) (8, sk F N (σ' 0 14), [], O', c'ₓ, R')) := by
  unfold m_X12_isDoingHere at eₓ
  obtain ⟨r1ₓ, s1ₓ, e1ₓ, eₓ⟩ := mCall_el eₓ
  have hs1ₓ := r_passWordm hₓ.1 hₓ.2.1.1 e1ₓ
  subst hs1ₓ
  have hw0ₓ : 0 ≤ wd F N (σ 0 14) := Int.le_trans hₓ.2.1.1 wd_ge
  have hwNₓ : wd F N (σ 0 14) ≤ N := wd_ub hₓ.2.1.2
  have h1ₓ := hₓ.mv hw0ₓ hwNₓ
  have u17ₓ : upS σ 0 14 (wd F N (σ 0 14)) 0 17 = σ 0 17 := upS_n (by omega)
  have u5ₓ : ∀ kₓ : Nat, upS σ 0 14 (wd F N (σ 0 14)) 5 kₓ = σ 5 kₓ := fun kₓ => upS_q (by decide)
  have l1ₓ : L0 σ (upS σ 0 14 (wd F N (σ 0 14))) := L0.up (by decide)
  simp only [mRd_e, mLet_e, mWr_e] at eₓ
  rw [u17ₓ, u5ₓ] at eₓ
  obtain ⟨A, hAₓ⟩ : ∃ A : Int, A = 36 * σ 0 17 + 3 * σ 5 (σ 0 17).toNat := ⟨_, rfl⟩
  rw [← hAₓ] at eₓ
  obtain ⟨τ, hₓτ⟩ : ∃ τ : SS, τ = upS (upS (upS σ 0 14 (wd F N (σ 0 14))) 4 A.toNat aₓ) 4 (A + 1).toNat (-1) := ⟨_, rfl⟩
  rw [← hₓτ] at eₓ
  have hpₓ : P45 (upS σ 0 14 (wd F N (σ 0 14))) τ := fun qₓ kₓ z4ₓ z5ₓ => by rw [hₓτ, upS_q z4ₓ, upS_q z4ₓ]
  have hoₓτ := h1ₓ.p45 hpₓ
  have t17ₓ : τ 0 17 = σ 0 17 := (hpₓ 0 17 (by decide) (by decide)).trans u17ₓ
  have t14ₓ : τ 0 14 = wd F N (σ 0 14) := (hpₓ 0 14 (by decide) (by decide)).trans upS_s
  have tq : ∀ qₓ kₓ : Nat, 2 ≤ qₓ → qₓ ≤ 5 → qₓ ≠ 4 → τ qₓ kₓ = σ qₓ kₓ := fun qₓ kₓ z1ₓ z2ₓ z3ₓ => by rw [hₓτ, upS_q z3ₓ, upS_q z3ₓ, upS_q (by omega)]
  have t4ₓ : ∀ kₓ : Nat, kₓ ≠ A.toNat → kₓ ≠ (A + 1).toNat → τ 4 kₓ = σ 4 kₓ := fun kₓ z1ₓ z2ₓ => by rw [hₓτ, upS_k z2ₓ, upS_k z1ₓ, upS_q (by decide)]
  have t4a : 0 ≤ A → τ 4 A.toNat = aₓ := fun zₓ => by rw [hₓτ, upS_k (by omega)]; exact upS_s
  have t4b : τ 4 (A + 1).toNat = -1 := by rw [hₓτ]; exact upS_s
  have omτ : OM σ τ := fun ⟨⟨y0ₓ, y1ₓ⟩, y2ₓ⟩ => by
    refine ⟨⟨⟨?_, ?_⟩, ?_⟩, t17ₓ, fun kₓ _ => tq 2 kₓ (by decide) (by decide) (by decide), fun kₓ hkₓ => t4ₓ kₓ (by omega) (by omega), fun kₓ _ => tq 5 kₓ (by decide) (by decide) (by decide)⟩
    · rw [t17ₓ]; exact y0ₓ
    · rw [t17ₓ, tq 3 _ (by decide) (by decide) (by decide)]; exact y1ₓ
    · rw [t17ₓ, tq 5 _ (by decide) (by decide) (by decide)]; exact y2ₓ
  have cdτ : ∀ O : List Int, CdM σ O → CdM τ O := fun O hOₓ => by
    unfold CdM
    rw [t17ₓ, tq 3 _ (by decide) (by decide) (by decide)]
    exact ⟨hOₓ.1, hOₓ.2.1, Put_congr hOₓ.2.2 (fun jₓ _ => tq 2 _ (by decide) (by decide) (by decide))⟩
  obtain ⟨r2ₓ, s2ₓ, e2ₓ, eₓ⟩ := mCall_el eₓ
  unfold m_X12_takesWord at e2ₓ
  obtain ⟨r3ₓ, s3ₓ, e3ₓ, e2ₓ⟩ := mCall_el e2ₓ
  obtain ⟨hwₓ, rfl⟩ := r_isWord (W := wIf) (by unfold WD; decide) hoₓτ.1 hoₓτ.2.1.1 e3ₓ
  rcases hwₓ with ⟨hwₓ, rfl⟩ | ⟨hwₓ, rfl⟩
  · -- aₓ test
    rw [mIf_pos (show ¬ (1 : Int) = 0 by decide)] at e2ₓ
    have hq0ₓ : 0 ≤ sk F N (τ 0 14) := Int.le_trans hoₓτ.2.1.1 sk_ge
    have hqNₓ : sk F N (τ 0 14) ≤ N := sk_ub hoₓτ.2.1.2
    have h3ₓ : OKM F N (upS τ 0 14 (sk F N (τ 0 14))) := hoₓτ.mv hq0ₓ hqNₓ
    obtain ⟨r4ₓ, s4ₓ, e4ₓ, e2ₓ⟩ := mCall_el e2ₓ
    have hs4ₓ := r_passWordm h3ₓ.1 h3ₓ.2.1.1 e4ₓ
    rw [upS_s, upS_upS] at hs4ₓ
    subst hs4ₓ
    obtain ⟨rfl, rfl⟩ := some_el e2ₓ
    rw [mIf_neg (show ¬ (1 : Int) = 0 by decide)] at eₓ
    have h4ₓ : OKM F N (upS τ 0 14 (wd F N (sk F N (τ 0 14)))) := hoₓτ.mv (Int.le_trans hq0ₓ wd_ge) (wd_ub hqNₓ)
    have v17ₓ : upS τ 0 14 (wd F N (sk F N (τ 0 14))) 0 17 = σ 0 17 := (upS_n (by omega)).trans t17ₓ
    have v3ₓ : ∀ kₓ : Nat, upS τ 0 14 (wd F N (sk F N (τ 0 14))) 3 kₓ = σ 3 kₓ := fun kₓ => (upS_q (by decide)).trans (tq 3 kₓ (by decide) (by decide) (by decide))
    rw [v17ₓ, v3ₓ] at eₓ
    obtain ⟨ν, hₓν⟩ : ∃ ν : SS, ν = upS (upS τ 0 14 (wd F N (sk F N (τ 0 14)))) 4 (A + 1).toNat (σ 3 (σ 0 17).toNat) := ⟨_, rfl⟩
    rw [← hₓν] at eₓ
    have hp6ₓ : P45 (upS τ 0 14 (wd F N (sk F N (τ 0 14)))) ν := fun qₓ kₓ z4ₓ z5ₓ => by rw [hₓν, upS_q z4ₓ]
    have h6ₓ := h4ₓ.p45 hp6ₓ
    have n17ₓ : ν 0 17 = σ 0 17 := (hp6ₓ 0 17 (by decide) (by decide)).trans v17ₓ
    have n14ₓ : ν 0 14 = wd F N (sk F N (τ 0 14)) := (hp6ₓ 0 14 (by decide) (by decide)).trans upS_s
    have nq : ∀ qₓ kₓ : Nat, 2 ≤ qₓ → qₓ ≤ 5 → qₓ ≠ 4 → ν qₓ kₓ = σ qₓ kₓ := fun qₓ kₓ z1ₓ z2ₓ z3ₓ => by rw [hₓν, upS_q z3ₓ, upS_q (by omega)]; exact tq qₓ kₓ z1ₓ z2ₓ z3ₓ
    have n4ₓ : ∀ kₓ : Nat, kₓ ≠ A.toNat → kₓ ≠ (A + 1).toNat → ν 4 kₓ = σ 4 kₓ := fun kₓ z1ₓ z2ₓ => by rw [hₓν, upS_k z2ₓ, upS_q (by decide)]; exact t4ₓ kₓ z1ₓ z2ₓ
    have n4a : 0 ≤ A → ν 4 A.toNat = aₓ := fun zₓ => by rw [hₓν, upS_k (by omega), upS_q (by decide)]; exact t4a zₓ
    have n4b : ν 4 (A + 1).toNat = σ 3 (σ 0 17).toNat := by rw [hₓν]; exact upS_s
    have omν : OM σ ν := fun ⟨⟨y0ₓ, y1ₓ⟩, y2ₓ⟩ => by
      refine ⟨⟨⟨?_, ?_⟩, ?_⟩, n17ₓ, fun kₓ _ => nq 2 kₓ (by decide) (by decide) (by decide), fun kₓ hkₓ => n4ₓ kₓ (by omega) (by omega), fun kₓ _ => nq 5 kₓ (by decide) (by decide) (by decide)⟩
      · rw [n17ₓ]; exact y0ₓ
      · rw [n17ₓ, nq 3 _ (by decide) (by decide) (by decide)]; exact y1ₓ
      · rw [n17ₓ, nq 5 _ (by decide) (by decide) (by decide)]; exact y2ₓ
    have cdν : ∀ O : List Int, CdM σ O → CdM ν O := fun O hOₓ => by
      unfold CdM
      rw [n17ₓ, nq 3 _ (by decide) (by decide) (by decide)]
      exact ⟨hOₓ.1, hOₓ.2.1, Put_congr hOₓ.2.2 (fun jₓ _ => nq 2 _ (by decide) (by decide) (by decide))⟩
    obtain ⟨r5ₓ, s5ₓ, e5ₓ, eₓ⟩ := mCall_el eₓ
    obtain ⟨m5ₓ, hj5ₓ⟩ := rx_tested h6ₓ e5ₓ
    obtain ⟨-, h7ₓ⟩ := r_tested h6ₓ e5ₓ
    rcases h7ₓ with ⟨rfl, h7ₓ, -⟩ | ⟨rfl, h7ₓ, -⟩
    · rw [mIf_pos (show ¬ (1 : Int) = 0 by decide)] at eₓ
      have keyₓ : LM σ → s5ₓ 0 17 = σ 0 17 ∧ (∀ kₓ : Nat, s5ₓ 4 kₓ = ν 4 kₓ) ∧ (∀ kₓ : Nat, s5ₓ 5 kₓ = σ 5 kₓ) := fun zₓ => by
        obtain ⟨-, g2ₓ, -, g4ₓ, g5ₓ⟩ := m5ₓ.1 ⟨by rw [n17ₓ]; exact zₓ.1, by rw [n17ₓ, nq 3 _ (by decide) (by decide) (by decide)]; exact zₓ.2⟩
        exact ⟨g2ₓ.trans n17ₓ, g4ₓ, fun kₓ => (g5ₓ kₓ).trans (nq 5 kₓ (by decide) (by decide) (by decide))⟩
      by_cases hLₓ : LM σ
      · obtain ⟨g1ₓ, g2ₓ, g3ₓ⟩ := keyₓ hLₓ
        obtain ⟨d1ₓ, d2ₓ, d3ₓ⟩ := rx_doing76 eₓ (by rw [g1ₓ, g3ₓ]; exact hAₓ)
        refine ⟨(omν.tr m5ₓ.1.om).tr d1ₓ, fun hrₓ O cₓ R hDₓ => ?_⟩
        obtain ⟨D1, D2, D3⟩ := hDₓ
        have hA0ₓ : 0 ≤ A := by have := D1.1; omega
        obtain ⟨O', y1ₓ, y2ₓ⟩ := m5ₓ.2 rfl O (aₓ, O.length) R (cdν O D1)
        have hjnₓ := join_no (hj5ₓ rfl)
        refine ⟨O', (aₓ, O.length), (aₓ, O.length, true, O'.length) :: R, d3ₓ O' aₓ O.length true R y1ₓ (by rw [g1ₓ, g3ₓ]; exact D2) ?_ (by rw [g2ₓ]; exact n4a hA0ₓ) (by rw [g2ₓ, n4b, if_pos rfl]; exact D1.2.1), ?_⟩
        · refine MR_congr D3 (fun jₓ hjₓ => ?_)
          show s5ₓ 4 (36 * s5ₓ 0 17 + (jₓ : Int)).toNat = σ 4 (36 * σ 0 17 + (jₓ : Int)).toNat
          have := D1.1
          rw [g1ₓ, g2ₓ]; exact n4ₓ _ (by omega) (by omega)
        · rw [d2ₓ]
          have x1ₓ : XS F N (0, sk F N (σ 0 14), [], O, cₓ, R) (1, sk F N (τ 0 14), [], O, (aₓ, O.length), R) := XS_one (by rw [hqₓ, t14ₓ, hdₓ]; rfl)
          have x2ₓ : XS F N (1, sk F N (τ 0 14), [], O, (aₓ, O.length), R) (2, sk F N (ν 0 14), [], O, (aₓ, O.length), R) := XS_one (by rw [n14ₓ]; exact if_pos hwₓ)
          exact ((x1ₓ.tr x2ₓ).tr y2ₓ).tr (XS_one (x7_end hjnₓ.1 hjnₓ.2))
      · exact ⟨fun zₓ => absurd zₓ.1 hLₓ, fun hrₓ O cₓ R hDₓ => absurd hDₓ.1.lm hLₓ⟩
    · rw [mIf_neg (fun qₓ => qₓ rfl)] at eₓ
      obtain ⟨rfl, rfl⟩ := some_el eₓ
      exact ⟨omν.tr m5ₓ.1.om, fun zₓ => absurd zₓ (by decide)⟩
  · -- none
    rw [mIf_neg (fun qₓ => qₓ rfl)] at e2ₓ
    obtain ⟨rfl, rfl⟩ := some_el e2ₓ
    rw [mIf_pos rfl] at eₓ
    have l3ₓ : L0 τ (upS τ 0 14 (sk F N (τ 0 14))) := L0.up (by decide)
    have v17ₓ : upS τ 0 14 (sk F N (τ 0 14)) 0 17 = σ 0 17 := (upS_n (by omega)).trans t17ₓ
    have v5ₓ : ∀ kₓ : Nat, upS τ 0 14 (sk F N (τ 0 14)) 5 kₓ = σ 5 kₓ := fun kₓ => (upS_q (by decide)).trans (tq 5 kₓ (by decide) (by decide) (by decide))
    have v4ₓ : ∀ kₓ : Nat, upS τ 0 14 (sk F N (τ 0 14)) 4 kₓ = τ 4 kₓ := fun kₓ => upS_q (by decide)
    obtain ⟨d1ₓ, d2ₓ, d3ₓ⟩ := rx_doing76 eₓ (by rw [v17ₓ, v5ₓ]; exact hAₓ)
    refine ⟨(omτ.tr l3ₓ.km.om).tr d1ₓ, fun hrₓ O cₓ R hDₓ => ?_⟩
    obtain ⟨D1, D2, D3⟩ := hDₓ
    have hA0ₓ : 0 ≤ A := by have := D1.1; omega
    refine ⟨O, (aₓ, O.length), (aₓ, O.length, false, O.length) :: R, d3ₓ O aₓ O.length false R ((cdτ O D1).l0 l3ₓ) (by rw [v17ₓ, v5ₓ]; exact D2) ?_ (by rw [v4ₓ]; exact t4a hA0ₓ) (by rw [v4ₓ, t4b, if_neg (by decide)]), ?_⟩
    · refine MR_congr D3 (fun jₓ hjₓ => ?_)
      show upS τ 0 14 (sk F N (τ 0 14)) 4 (36 * upS τ 0 14 (sk F N (τ 0 14)) 0 17 + (jₓ : Int)).toNat = σ 4 (36 * σ 0 17 + (jₓ : Int)).toNat
      have := D1.1
      rw [v17ₓ, v4ₓ]; exact t4ₓ _ (by omega) (by omega)
    · rw [d2ₓ, upS_s, sk_idem]
      have x1ₓ : XS F N (0, sk F N (σ 0 14), [], O, cₓ, R) (1, sk F N (τ 0 14), [], O, (aₓ, O.length), R) := XS_one (by rw [hqₓ, t14ₓ, hdₓ]; rfl)
      exact x1ₓ.tr (XS_one (show (if isWd F N (sk F N (τ 0 14)) wIf = true then _ else _) = _ from if_neg (by rw [hwₓ]; decide)))
/-- aₓ clause of aₓ RULE -/
theorem rx_clause (hₓ : OKM F N σ) (htxₓ : σ 0 17 ≠ 6) (hl0ₓ : 0 ≤ σ 0 20) (hl1ₓ : σ 0 20 ≤ 12) (eₓ : m_X12_clauseHere nₓ 0 σ = some (rₓ, σ')) : OM σ σ' ∧ (rₓ = 1 → ∀ (O : List Int) (cₓ : Int × Nat) (R : List (Int × Nat × Bool × Nat)), DM σ O R → ∃ (O' : List Int) (c'ₓ : Int × Nat) (R' : List (Int × Nat × Bool × Nat)), DM σ' O' R' ∧ XS F N (0, sk F N (σ 0 14), [], O, cₓ, R) (8, sk F N (σ' 0 14), [], O', c'ₓ, R')) := by
  have hq0ₓ : 0 ≤ sk F N (σ 0 14) := Int.le_trans hₓ.2.1.1 sk_ge
  have hqNₓ : sk F N (σ 0 14) ≤ N := sk_ub hₓ.2.1.2
  unfold m_X12_clauseHere at eₓ
  obtain ⟨r1ₓ, s1ₓ, e1ₓ, eₓ⟩ := mCall_el eₓ
  obtain ⟨rfl, rfl⟩ := r_seem hₓ.1 hₓ.2.1.1 e1ₓ
  have h1ₓ : OKM F N (upS σ 0 14 (sk F N (σ 0 14))) := hₓ.mv hq0ₓ hqNₓ
  have l1ₓ : L0 σ (upS σ 0 14 (sk F N (σ 0 14))) := L0.up (by decide)
  have n14ₓ : upS σ 0 14 (sk F N (σ 0 14)) 0 14 = sk F N (σ 0 14) := upS_s
  have n20ₓ : upS σ 0 14 (sk F N (σ 0 14)) 0 20 = σ 0 20 := upS_n (by omega)
  have ds : ∀ {r'ₓ : Int} {s'ₓ : SS} {τ : SS}, OKM F N τ → τ 0 14 = sk F N (σ 0 14) → m_X12_doingSort nₓ 0 τ = some (r'ₓ, s'ₓ) → r'ₓ = idxW F (wd F N (sk F N (σ 0 14))) (sk F N (σ 0 14)) wDeeds 0 ∧ s'ₓ = τ := by
    intro r'ₓ s'ₓ τ hₓτ hnₓ eₓ
    obtain ⟨z1ₓ, z2ₓ⟩ := rx_doingSort hₓτ.1 hₓτ.2.1.1 eₓ
    rw [hnₓ, sk_idem] at z1ₓ z2ₓ
    refine ⟨z1ₓ, ?_⟩
    rw [z2ₓ, ← hnₓ]; exact upS_id
  rw [mRd_e, n14ₓ, mRd_e, upS_n (show ¬ ((0 : Nat) = 0 ∧ (17 : Nat) = 14) by decide), mIf_pos htxₓ] at eₓ
  unfold b_X12_clauseHere_24 at eₓ
  rw [mIf_pos rfl] at eₓ
  obtain ⟨r2ₓ, s2ₓ, e2ₓ, eₓ⟩ := mCall_el eₓ
  obtain ⟨hdₓ, rfl⟩ := ds h1ₓ n14ₓ e2ₓ
  unfold b_X12_clauseHere_89 at eₓ
  by_cases hrₓ : r2ₓ < 0
  · rw [mIf_pos hrₓ, mIf_neg (fun qₓ => qₓ rfl), r_fails h1ₓ.2.2.1, mCall_s] at eₓ
    obtain ⟨rfl, rfl⟩ := some_el eₓ
    exact ⟨(l1ₓ.tr (L0.up (by decide))).km.om, fun zₓ => absurd zₓ (by decide)⟩
  · rw [mIf_neg hrₓ, mIf_pos (show ¬ (1 : Int) = 0 by decide), mRd_e, mIf_pos rfl, n20ₓ] at eₓ
    unfold b_X12_clauseHere_116 at eₓ
    by_cases c12ₓ : σ 0 20 = 12
    · rw [mIf_neg (fun qₓ => qₓ c12ₓ), r_fails h1ₓ.2.2.1, mCall_s] at eₓ
      obtain ⟨rfl, rfl⟩ := some_el eₓ
      exact ⟨(l1ₓ.tr (L0.up (by decide))).km.om, fun zₓ => absurd zₓ (by decide)⟩
    · rw [mIf_pos c12ₓ, mRd_e, n20ₓ, mLet_e, mWr_e, mIf_pos rfl] at eₓ
      have h3ₓ : OKM F N (upS (upS σ 0 14 (sk F N (σ 0 14))) 0 20 (σ 0 20 + 1)) := by
        obtain ⟨b1ₓ, b2ₓ, b3ₓ, b4ₓ, b5ₓ⟩ := h1ₓ
        refine ⟨b1ₓ.up (by decide) (by omega), ?_, ?_, ?_, ?_⟩
        · rw [upS_n (by omega)]; exact b2ₓ
        · rw [upS_n (by omega)]; exact b3ₓ
        · rw [upS_n (by omega)]; exact b4ₓ
        · rw [upS_n (by omega)]; exact b5ₓ
      have m14ₓ : upS (upS σ 0 14 (sk F N (σ 0 14))) 0 20 (σ 0 20 + 1) 0 14 = sk F N (σ 0 14) := (upS_n (by omega)).trans n14ₓ
      have l3ₓ : L0 σ (upS (upS σ 0 14 (sk F N (σ 0 14))) 0 20 (σ 0 20 + 1)) := l1ₓ.tr (L0.up (by decide))
      obtain ⟨r3ₓ, s3ₓ, e3ₓ, eₓ⟩ := mCall_el eₓ
      obtain ⟨hd3ₓ, rfl⟩ := ds h3ₓ m14ₓ e3ₓ
      obtain ⟨r4ₓ, s4ₓ, e4ₓ, eₓ⟩ := mCall_el eₓ
      obtain ⟨rfl, rfl⟩ := some_el eₓ
      obtain ⟨i1ₓ, i2ₓ⟩ := rx_isDoing h3ₓ (by rw [m14ₓ, sk_idem]) (by rw [m14ₓ]; exact hd3ₓ) e4ₓ
      refine ⟨l3ₓ.km.om.tr i1ₓ, fun hrₓ O cₓ R hDₓ => ?_⟩
      obtain ⟨O', c'ₓ, R', y1ₓ, y2ₓ⟩ := i2ₓ hrₓ O cₓ R (hDₓ.l0 l3ₓ)
      rw [m14ₓ, sk_idem] at y2ₓ
      exact ⟨O', c'ₓ, R', y1ₓ, y2ₓ⟩
theorem rx_stop (nₓ : Nat) (σ : SS) (hfₓ : σ 0 15 ≠ 0) (eₓ : j_X12_readsAll 0 nₓ 35 [0] σ = some (rₓ, σ')) : σ' 0 15 ≠ 0 := by
  cases nₓ with
  | zero => exact none_el eₓ
  | succ nₓ =>
    rw [e_X12_readsAll_35] at eₓ
    unfold b_X12_readsAll_35 b_X12_readsAll_66 at eₓ
    rw [mIf_pos rfl, mIf_pos rfl] at eₓ
    obtain ⟨rfl, -⟩ := r_reads88 eₓ
    rw [upS_n (by omega)]; exact hfₓ
/-- all clauses of aₓ RULE -/
theorem rx_reads0 : ∀ (nₓ : Nat) (vₓ : Int) (σ : SS), σ 0 17 ≠ 6 → ((vₓ = 1 ∧ OKM F N σ ∧ 0 ≤ σ 0 20 ∧ σ 0 20 ≤ 12) ∨ (vₓ = 0 ∧ σ 0 15 ≠ 0)) → j_X12_readsAll 0 nₓ 35 [vₓ] σ = some (rₓ, σ') → OM σ σ' ∧ (σ' 0 15 = 0 → ∀ (O : List Int) (cₓ : Int × Nat) (R : List (Int × Nat × Bool × Nat)), DM σ O R → ∃ (qₓ : Int) (O' : List Int) (c'ₓ : Int × Nat) (R' : List (Int × Nat × Bool × Nat)), DM σ' O' R' ∧ XS F N (8, sk F N (σ 0 14), [], O, cₓ, R) (9, qₓ, [], O', c'ₓ, R')) := by
  intro nₓ
  induction nₓ with
  | zero => intro vₓ σ htxₓ hv eₓ; exact none_el eₓ
  | succ nₓ ihₓ =>
    intro vₓ σ htxₓ hv eₓ
    rw [e_X12_readsAll_35] at eₓ
    unfold b_X12_readsAll_35 b_X12_readsAll_66 at eₓ
    rcases hv with ⟨rfl, hₓ, hl0ₓ, hl1ₓ⟩ | ⟨rfl, hfₓ⟩
    · rw [mIf_neg (show ¬ (1 : Int) = 0 by decide)] at eₓ
      have hq0ₓ : 0 ≤ sk F N (σ 0 14) := Int.le_trans hₓ.2.1.1 sk_ge
      have hqNₓ : sk F N (σ 0 14) ≤ N := sk_ub hₓ.2.1.2
      obtain ⟨r1ₓ, s1ₓ, e1ₓ, eₓ⟩ := mCall_el eₓ
      obtain ⟨rfl, rfl⟩ := r_seem hₓ.1 hₓ.2.1.1 e1ₓ
      have h1ₓ : OKM F N (upS σ 0 14 (sk F N (σ 0 14))) := hₓ.mv hq0ₓ hqNₓ
      have n14ₓ : upS σ 0 14 (sk F N (σ 0 14)) 0 14 = sk F N (σ 0 14) := upS_s
      by_cases c59ₓ : bt F N (sk F N (σ 0 14)) = 59
      · have hbₓ := bt_lt (by decide) c59ₓ
        rw [mIf_neg (fun qₓ => qₓ c59ₓ), mRd_e, n14ₓ, mLet_e, mWr_e, upS_upS] at eₓ
        have h2ₓ : OKM F N (upS σ 0 14 (sk F N (σ 0 14) + 1)) := hₓ.mv (by omega) (by omega)
        have x17ₓ : upS σ 0 14 (sk F N (σ 0 14) + 1) 0 17 = σ 0 17 := upS_n (by omega)
        have x20ₓ : upS σ 0 14 (sk F N (σ 0 14) + 1) 0 20 = σ 0 20 := upS_n (by omega)
        have l2ₓ : L0 σ (upS σ 0 14 (sk F N (σ 0 14) + 1)) := L0.up (by decide)
        obtain ⟨r2ₓ, s2ₓ, e2ₓ, eₓ⟩ := mCall_el eₓ
        obtain ⟨k3ₓ, h3ₓ⟩ := r_clause h2ₓ (by rw [x17ₓ]; exact htxₓ) (by rw [x20ₓ]; exact hl0ₓ) (by rw [x20ₓ]; exact hl1ₓ) e2ₓ
        obtain ⟨o3ₓ, m3ₓ⟩ := rx_clause h2ₓ (by rw [x17ₓ]; exact htxₓ) (by rw [x20ₓ]; exact hl0ₓ) (by rw [x20ₓ]; exact hl1ₓ) e2ₓ
        have h9ₓ : (r2ₓ = 1 ∧ OKM F N s2ₓ ∧ 0 ≤ s2ₓ 0 20 ∧ s2ₓ 0 20 ≤ 12) ∨ (r2ₓ = 0 ∧ s2ₓ 0 15 ≠ 0) := by
          rcases h3ₓ with ⟨y1ₓ, y2ₓ, y3ₓ, y4ₓ, -⟩ | ⟨y1ₓ, y2ₓ, -⟩
          · exact Or.inl ⟨y1ₓ, y2ₓ, y3ₓ, y4ₓ⟩
          · exact Or.inr ⟨y1ₓ, y2ₓ⟩
        obtain ⟨i1ₓ, i2ₓ⟩ := ihₓ r2ₓ s2ₓ (by rw [k3ₓ 0 17 (by omega), x17ₓ]; exact htxₓ) h9ₓ eₓ
        refine ⟨(l2ₓ.km.om.tr o3ₓ).tr i1ₓ, fun hzₓ O cₓ R hDₓ => ?_⟩
        rcases h9ₓ with ⟨y1ₓ, -⟩ | ⟨y1ₓ, y2ₓ⟩
        · obtain ⟨O1, c1ₓ, R1, z1ₓ, z2ₓ⟩ := m3ₓ y1ₓ O cₓ R (hDₓ.l0 l2ₓ)
          obtain ⟨qₓ, O2, c2ₓ, R2, z3ₓ, z4ₓ⟩ := i2ₓ hzₓ O1 c1ₓ R1 z1ₓ
          rw [upS_s] at z2ₓ
          have x8ₓ : XS F N (8, sk F N (σ 0 14), [], O, cₓ, R) (0, sk F N (sk F N (σ 0 14) + 1), [], O, cₓ, R) := XS_one (show (if byteIs F N (sk F N (σ 0 14)) 59 = true then _ else _) = _ from if_pos (byteIs_t hbₓ.1 hbₓ.2))
          exact ⟨qₓ, O2, c2ₓ, R2, z3ₓ, (x8ₓ.tr z2ₓ).tr z4ₓ⟩
        · exfalso
          subst y1ₓ
          exact rx_stop nₓ s2ₓ y2ₓ eₓ hzₓ
      · rw [mIf_pos c59ₓ, mIf_neg (show ¬ (1 : Int) = 0 by decide)] at eₓ
        obtain ⟨r2ₓ, s2ₓ, e2ₓ, eₓ⟩ := mCall_el eₓ
        obtain ⟨rfl, rfl⟩ := r_seem h1ₓ.1 h1ₓ.2.1.1 e2ₓ
        rw [n14ₓ, sk_idem, upS_upS] at eₓ
        have nb : byteIs F N (sk F N (σ 0 14)) 59 = false := byteIs_f (fun qₓ => c59ₓ ((bt_is (by decide)).mpr qₓ))
        have l1ₓ : L0 σ (upS σ 0 14 (sk F N (σ 0 14))) := L0.up (by decide)
        by_cases cN : sk F N (σ 0 14) < N
        · have hFₓ := (hₓ.1.2 _ hq0ₓ cN).1
          rw [mIf_neg (show ¬ bt F N (sk F N (σ 0 14)) = -1 by unfold bt; rw [if_pos cN]; omega), mRd_e, n14ₓ, r_fails ((upS_n (by omega)).trans hₓ.2.2.1), mCall_s, Int.add_zero] at eₓ
          obtain ⟨rfl, -⟩ := r_reads88 eₓ
          refine ⟨((l1ₓ.tr (L0.up (by decide))).tr (L0.up (by decide))).km.om, fun hzₓ => ?_⟩
          rw [upS_n (by omega), upS_s] at hzₓ; omega
        · rw [mIf_pos (show bt F N (sk F N (σ 0 14)) = -1 by unfold bt; rw [if_neg cN])] at eₓ
          obtain ⟨rfl, -⟩ := r_reads88 eₓ
          have l2ₓ : L0 σ (upS (upS σ 0 14 (sk F N (σ 0 14))) 0 1 0) := l1ₓ.tr (L0.up (by decide))
          exact ⟨l2ₓ.km.om, fun _ O cₓ R hDₓ => ⟨_, O, cₓ, R, hDₓ.l0 l2ₓ, XS_one (show (if byteIs F N (sk F N (σ 0 14)) 59 = true then _ else _) = _ from if_neg (by rw [nb]; decide))⟩⟩
    · rw [mIf_pos rfl, mIf_pos rfl] at eₓ
      obtain ⟨rfl, -⟩ := r_reads88 eₓ
      have l2ₓ : L0 σ (upS σ 0 1 0) := L0.up (by decide)
      exact ⟨l2ₓ.km.om, fun hzₓ => absurd ((upS_n (by omega)).symm.trans hzₓ) hfₓ⟩
/-- rule(), of the reference -/
theorem rx_rule (hv : MV F N σ) (h0ₓ : 0 ≤ N) (hr0ₓ : 0 ≤ σ 0 2) (c6ₓ : σ 0 2 ≠ 6) (eₓ : m_X12_rule nₓ 0 σ = some (rₓ, σ')) : (∀ kₓ : Nat, (kₓ : Int) < 400 * σ 0 2 → σ' 2 kₓ = σ 2 kₓ) ∧ (∀ kₓ : Nat, (kₓ : Int) < 36 * σ 0 2 → σ' 4 kₓ = σ 4 kₓ) ∧ (∀ kₓ : Nat, (kₓ : Int) < σ 0 2 → σ' 5 kₓ = σ 5 kₓ) ∧ (σ' 0 2 = σ 0 2 + 1 → ∃ (qₓ : Int) (O : List Int) (cₓ : Int × Nat) (R : List (Int × Nat × Bool × Nat)), XS F N (0, sk F N 0, [], [], (0, 0), []) (9, qₓ, [], O, cₓ, R) ∧ Put encM (fun jₓ => σ' 2 (400 * σ 0 2 + (jₓ : Int)).toNat) O ∧ σ' 5 (σ 0 2).toNat = (R.length : Int) ∧ MR (fun kₓ => σ' 4 (36 * σ 0 2 + (kₓ : Int)).toNat) R) := by
  unfold m_X12_rule at eₓ
  rw [mRd_e, mIf_pos c6ₓ, mRd_e, mWr_e, mRd_e, mWr_e] at eₓ
  obtain ⟨r1ₓ, s1ₓ, e1ₓ, eₓ⟩ := mCall_el eₓ
  unfold m_X12_readsAll at e1ₓ
  simp only [mRd_e, mWr_e] at e1ₓ
  obtain ⟨r2ₓ, s2ₓ, e2ₓ, e1ₓ⟩ := mCall_el e1ₓ
  have h9ₓ : ∃ τ : SS, m_X12_clauseHere nₓ 0 τ = some (r2ₓ, s2ₓ) ∧ τ 0 20 = 0 ∧ τ 0 14 = 0 ∧ τ 0 15 = 0 ∧ τ 0 18 = 0 ∧ τ 0 17 = σ 0 2 ∧ τ 0 2 = σ 0 2 ∧ τ 0 1 = N ∧ (∀ kₓ : Nat, τ 1 kₓ = σ 1 kₓ) ∧ τ 3 (σ 0 2).toNat = 0 ∧ τ 5 (σ 0 2).toNat = 0 ∧ (∀ kₓ : Nat, τ 2 kₓ = σ 2 kₓ) ∧ (∀ kₓ : Nat, τ 4 kₓ = σ 4 kₓ) ∧ (∀ kₓ : Nat, kₓ ≠ (σ 0 2).toNat → τ 5 kₓ = σ 5 kₓ) := by
    have u17ₓ : upS (upS σ 0 17 (σ 0 2)) 5 (upS σ 0 17 (σ 0 2) 0 17).toNat 0 0 17 = σ 0 2 := by rw [upS_q (by decide)]; exact upS_s
    have v17ₓ : upS σ 0 17 (σ 0 2) 0 17 = σ 0 2 := upS_s
    rw [u17ₓ, v17ₓ] at e2ₓ
    refine ⟨_, e2ₓ, ?_, ?_, ?_, ?_, ?_, ?_, ?_, fun kₓ => ?_, ?_, ?_, fun kₓ => ?_, fun kₓ => ?_, fun kₓ hkₓ => ?_⟩
    · rw [upS_n (by omega), upS_n (by omega), upS_n (by omega)]; exact upS_s
    · rw [upS_n (by omega), upS_n (by omega)]; exact upS_s
    · rw [upS_n (by omega)]; exact upS_s
    · exact upS_s
    · rw [upS_n (by omega), upS_n (by omega), upS_n (by omega), upS_n (by omega), upS_n (by omega), upS_n (by omega)]; exact upS_s
    · rw [upS_n (by omega), upS_n (by omega), upS_n (by omega), upS_n (by omega), upS_n (by omega), upS_n (by omega), upS_n (by omega)]
    · rw [upS_n (by omega), upS_n (by omega), upS_n (by omega), upS_n (by omega), upS_n (by omega), upS_n (by omega), upS_n (by omega)]; exact hv.1
    · rw [upS_n (by omega), upS_n (by omega), upS_n (by omega), upS_n (by omega), upS_n (by omega), upS_n (by omega), upS_n (by omega)]
    · rw [upS_n (by omega), upS_n (by omega), upS_n (by omega), upS_n (by omega)]; exact upS_s
    · rw [upS_n (by omega), upS_n (by omega), upS_n (by omega), upS_n (by omega), upS_n (by omega)]; exact upS_s
    · rw [upS_n (by omega), upS_n (by omega), upS_n (by omega), upS_n (by omega), upS_n (by omega), upS_n (by omega), upS_n (by omega)]
    · rw [upS_n (by omega), upS_n (by omega), upS_n (by omega), upS_n (by omega), upS_n (by omega), upS_n (by omega), upS_n (by omega)]
    · rw [upS_n (by omega), upS_n (by omega), upS_n (by omega), upS_n (by omega), upS_n (by omega), upS_n (by omega), upS_n (by omega)]
  obtain ⟨τ, f1ₓ, f2ₓ, f3ₓ, f4ₓ, f5ₓ, f6ₓ, f7ₓ, f8ₓ, f9ₓ, g3ₓ, g5ₓ, g2ₓ, g4ₓ, g6ₓ⟩ := h9ₓ
  have hokₓ : OKM F N τ := ⟨⟨f8ₓ, fun jₓ j0ₓ j1ₓ => by rw [f9ₓ]; exact hv.2 jₓ j0ₓ j1ₓ⟩, by rw [f3ₓ]; exact ⟨by decide, h0ₓ⟩, f4ₓ, by rw [f5ₓ]; decide, by rw [f5ₓ]; decide⟩
  have htxₓ : τ 0 17 ≠ 6 := by rw [f6ₓ]; exact c6ₓ
  obtain ⟨k3ₓ, h3ₓ⟩ := r_clause hokₓ htxₓ (by rw [f2ₓ]; decide) (by rw [f2ₓ]; decide) f1ₓ
  obtain ⟨o3ₓ, m3ₓ⟩ := rx_clause hokₓ htxₓ (by rw [f2ₓ]; decide) (by rw [f2ₓ]; decide) f1ₓ
  have h4ₓ : (r2ₓ = 1 ∧ OKM F N s2ₓ ∧ 0 ≤ s2ₓ 0 20 ∧ s2ₓ 0 20 ≤ 12) ∨ (r2ₓ = 0 ∧ s2ₓ 0 15 ≠ 0) := by
    rcases h3ₓ with ⟨y1ₓ, y2ₓ, y3ₓ, y4ₓ, -⟩ | ⟨y1ₓ, y2ₓ, -⟩
    · exact Or.inl ⟨y1ₓ, y2ₓ, y3ₓ, y4ₓ⟩
    · exact Or.inr ⟨y1ₓ, y2ₓ⟩
  have h4'ₓ : (r2ₓ = 1 ∧ OKM F N s2ₓ ∧ 0 ≤ s2ₓ 0 20 ∧ s2ₓ 0 20 ≤ 12 ∧ St F N (cfgM F N 0 [] τ) (cfgM F N 8 [] s2ₓ)) ∨ (r2ₓ = 0 ∧ s2ₓ 0 15 ≠ 0 ∧ St F N (cfgM F N 0 [] τ) (halt (s2ₓ 0 15))) := h3ₓ
  have ht2ₓ : s2ₓ 0 17 ≠ 6 := by rw [k3ₓ 0 17 (by omega)]; exact htxₓ
  obtain ⟨j1ₓ, j2ₓ, j3ₓ, j4ₓ⟩ := r_reads0 nₓ r2ₓ s2ₓ ht2ₓ h4'ₓ e1ₓ
  obtain ⟨i1ₓ, i2ₓ⟩ := rx_reads0 nₓ r2ₓ s2ₓ ht2ₓ h4ₓ e1ₓ
  have om : OM τ s1ₓ := o3ₓ.tr i1ₓ
  obtain ⟨-, q1ₓ, q2ₓ, q3ₓ, q4ₓ⟩ := om ⟨⟨by rw [f6ₓ]; exact hr0ₓ, by rw [f6ₓ, g3ₓ]; decide⟩, by rw [f6ₓ, g5ₓ]; decide⟩
  rw [f6ₓ] at q1ₓ q2ₓ q3ₓ q4ₓ
  have p2ₓ : ∀ kₓ : Nat, (kₓ : Int) < 400 * σ 0 2 → s1ₓ 2 kₓ = σ 2 kₓ := fun kₓ hkₓ => (q2ₓ kₓ hkₓ).trans (g2ₓ kₓ)
  have p4ₓ : ∀ kₓ : Nat, (kₓ : Int) < 36 * σ 0 2 → s1ₓ 4 kₓ = σ 4 kₓ := fun kₓ hkₓ => (q3ₓ kₓ hkₓ).trans (g4ₓ kₓ)
  have p5ₓ : ∀ kₓ : Nat, (kₓ : Int) < σ 0 2 → s1ₓ 5 kₓ = σ 5 kₓ := fun kₓ hkₓ => (q4ₓ kₓ hkₓ).trans (g6ₓ kₓ (by omega))
  have x2ₓ : s1ₓ 0 2 = σ 0 2 := by rw [j2ₓ 2 (by omega), k3ₓ 0 2 (by omega), f7ₓ]
  by_cases cf : s1ₓ 0 15 = 0
  · rw [if_pos cf] at j4ₓ
    subst j4ₓ
    rw [mIf_pos (show ¬ (1 : Int) = 0 by decide)] at eₓ
    simp only [mRd_e, mLet_e, mWr_e, mRet_e] at eₓ
    obtain ⟨rfl, rfl⟩ := some_el eₓ
    refine ⟨fun kₓ hkₓ => by rw [upS_q (by decide)]; exact p2ₓ kₓ hkₓ, fun kₓ hkₓ => by rw [upS_q (by decide)]; exact p4ₓ kₓ hkₓ, fun kₓ hkₓ => by rw [upS_q (by decide)]; exact p5ₓ kₓ hkₓ, fun _ => ?_⟩
    have hDₓ : DM τ [] [] := ⟨⟨by rw [f6ₓ]; exact hr0ₓ, by rw [f6ₓ]; exact g3ₓ, trivial⟩, by rw [f6ₓ]; exact g5ₓ, trivial⟩
    rcases h4ₓ with ⟨y1ₓ, -⟩ | ⟨y1ₓ, y2ₓ⟩
    · obtain ⟨O1, c1ₓ, R1, z1ₓ, z2ₓ⟩ := m3ₓ y1ₓ [] (0, 0) [] hDₓ
      obtain ⟨qₓ, O2, c2ₓ, R2, ⟨⟨w0ₓ, w1ₓ, w2ₓ⟩, w3ₓ, w4ₓ⟩, z4ₓ⟩ := i2ₓ cf O1 c1ₓ R1 z1ₓ
      rw [f3ₓ] at z2ₓ
      rw [q1ₓ] at w2ₓ w3ₓ w4ₓ
      refine ⟨qₓ, O2, c2ₓ, R2, z2ₓ.tr z4ₓ, Put_congr w2ₓ (fun jₓ _ => by rw [upS_q (by decide)]), by rw [upS_q (by decide)]; exact w3ₓ, MR_congr w4ₓ (fun jₓ _ => by rw [upS_q (by decide)])⟩
    · subst y1ₓ
      exact absurd cf (rx_stop nₓ s2ₓ y2ₓ e1ₓ)
  · rw [if_neg cf] at j4ₓ
    subst j4ₓ
    rw [mIf_neg (fun qₓ => qₓ rfl)] at eₓ
    simp only [mRd_e, mLet_e, mRet_e] at eₓ
    obtain ⟨rfl, rfl⟩ := some_el eₓ
    exact ⟨p2ₓ, p4ₓ, p5ₓ, fun zₓ => by rw [x2ₓ] at zₓ; omega⟩
/-- rule(), of the class -/
theorem cx_rule (hcₓ : CV F N σ) (h0ₓ : 0 ≤ N) (hNₓ : N ≤ 400) (hr0ₓ : 0 ≤ σ 0 12) (hr6ₓ : σ 0 12 < 6) (hzₓ : σ (5 + 4 * (σ 0 12).toNat + 2) 0 = 0) (eₓ : m_X11_rule nₓ 0 σ = some (rₓ, σ')) : (∀ qₓ kₓ : Nat, 5 ≤ qₓ → (qₓ < 5 + 4 * (σ 0 12).toNat ∨ 5 + 4 * (σ 0 12).toNat + 4 ≤ qₓ) → σ' qₓ kₓ = σ qₓ kₓ) ∧ σ' (5 + 4 * (σ 0 12).toNat + 2) 0 = 0 ∧ (σ' 0 12 = σ 0 12 + 1 → FIN F N (0, sk F N 0, [], [], (0, 0), []) (5 + 4 * (σ 0 12).toNat) σ') := by
  unfold m_X11_rule at eₓ
  rw [mRd_e, mIf_pos hr6ₓ, mRd_e, mIx_e] at eₓ
  have helₓ : el 39 4 (σ 0 12).toNat = 5 + 4 * (σ 0 12).toNat := by unfold el; rw [if_neg (by decide), if_pos rfl]
  rw [helₓ] at eₓ
  have hqₓ : 5 ≤ 5 + 4 * (σ 0 12).toNat := by omega
  obtain ⟨r1ₓ, s1ₓ, e1ₓ, eₓ⟩ := mCall_el eₓ
  obtain ⟨a1ₓ, a2ₓ, a3ₓ⟩ := cx_readInto hqₓ hcₓ h0ₓ hNₓ hzₓ e1ₓ
  obtain ⟨hkₓ, -⟩ := c_readInto hqₓ hcₓ h0ₓ hNₓ e1ₓ
  have h12ₓ : s1ₓ 0 12 = σ 0 12 := hkₓ 0 12 (by omega)
  rw [mRd_e, mWr_e] at eₓ
  by_cases cf : s1ₓ 1 4 = 0
  · rw [mIf_pos cf] at eₓ
    simp only [mRd_e, mLet_e, mWr_e, mRet_e] at eₓ
    obtain ⟨rfl, rfl⟩ := some_el eₓ
    have hhₓ : Hi s1ₓ (upS (upS s1ₓ 1 2 0) 0 12 (upS s1ₓ 1 2 0 0 12 + 1)) := fun qₓ kₓ h5ₓ => by rw [upS_q (by omega), upS_q (by omega)]
    refine ⟨fun qₓ kₓ h1ₓ h2ₓ => (hhₓ qₓ kₓ h1ₓ).trans (a1ₓ qₓ kₓ h1ₓ h2ₓ), (hhₓ _ _ (by omega)).trans a2ₓ, fun _ => ?_⟩
    obtain ⟨qₓ, O, cₓ, R, b1ₓ, b2ₓ, b3ₓ, b4ₓ⟩ := a3ₓ cf
    exact ⟨qₓ, O, cₓ, R, b1ₓ, b2ₓ.hi hqₓ hhₓ, b3ₓ, b4ₓ⟩
  · rw [mIf_neg cf] at eₓ
    simp only [mLet_e, mRet_e] at eₓ
    obtain ⟨rfl, rfl⟩ := some_el eₓ
    have hhₓ : Hi s1ₓ (upS s1ₓ 1 2 0) := fun qₓ kₓ h5ₓ => upS_q (by omega)
    refine ⟨fun qₓ kₓ h1ₓ h2ₓ => (hhₓ qₓ kₓ h1ₓ).trans (a1ₓ qₓ kₓ h1ₓ h2ₓ), (hhₓ _ _ (by omega)).trans a2ₓ, fun zₓ => ?_⟩
    rw [upS_q (by decide), h12ₓ] at zₓ; omega
end
/-- two rules alike -/
def RQ (iₓ : Nat) (σ τ : SS) : Prop := ∃ (O : List Int) (R : List (Int × Nat × Bool × Nat)), DC (5 + 4 * iₓ) σ O R ∧ O.length ≤ 400 ∧ R.length ≤ 12 ∧ RI O R ∧ Put encM (fun jₓ => τ 2 (400 * (iₓ : Int) + (jₓ : Int)).toNat) O ∧ τ 5 iₓ = (R.length : Int) ∧ MR (fun kₓ => τ 4 (36 * (iₓ : Int) + (kₓ : Int)).toNat) R
def RRs (σ τ : SS) : Prop := (∀ iₓ : Nat, iₓ < 6 → σ (5 + 4 * iₓ + 2) 0 = 0) ∧ ∀ iₓ : Nat, (iₓ : Int) < τ 0 2 → iₓ < 6 → RQ iₓ σ τ
theorem DC.congr {qr : Nat} {σ σ' : SS} {O : List Int} {R : List (Int × Nat × Bool × Nat)} (hₓ : ∀ qₓ kₓ : Nat, qr ≤ qₓ → qₓ < qr + 4 → σ' qₓ kₓ = σ qₓ kₓ) (hdₓ : DC qr σ O R) : DC qr σ' O R := by
  obtain ⟨h1ₓ, ⟨h2ₓ, h3ₓ, h4ₓ⟩, h5ₓ, h6ₓ⟩ := hdₓ
  refine ⟨(hₓ _ _ (by omega) (by omega)).trans h1ₓ, ⟨(hₓ _ _ (by omega) (by omega)).trans h2ₓ, Put_congr h3ₓ (fun jₓ _ => hₓ _ jₓ (by omega) (by omega)), ?_⟩, CR_congr h5ₓ (fun jₓ _ => hₓ _ jₓ (by omega) (by omega)) (fun jₓ _ => hₓ _ jₓ (by omega) (by omega)), fun xₓ hxₓ => ⟨fun h7ₓ => by rw [hₓ _ _ (by omega) (by omega)]; exact (h6ₓ xₓ hxₓ).1 h7ₓ, (h6ₓ xₓ hxₓ).2⟩⟩
  rw [hₓ qr 4 (by omega) (by omega), hₓ _ _ (by omega) (by omega)]; exact h4ₓ
theorem RQ.congr {iₓ : Nat} {σ σ' τ τ' : SS} (hₓ : RQ iₓ σ τ) (hₓσ : ∀ qₓ kₓ : Nat, 5 + 4 * iₓ ≤ qₓ → qₓ < 5 + 4 * iₓ + 4 → σ' qₓ kₓ = σ qₓ kₓ) (h2ₓ : ∀ kₓ : Nat, kₓ < 400 * (iₓ + 1) → τ' 2 kₓ = τ 2 kₓ) (h4ₓ : ∀ kₓ : Nat, kₓ < 36 * (iₓ + 1) → τ' 4 kₓ = τ 4 kₓ) (h5ₓ : τ' 5 iₓ = τ 5 iₓ) : RQ iₓ σ' τ' := by
  obtain ⟨O, R, a1ₓ, a2ₓ, a3ₓ, a4ₓ, a5ₓ, a6ₓ, a7ₓ⟩ := hₓ
  exact ⟨O, R, a1ₓ.congr hₓσ, a2ₓ, a3ₓ, a4ₓ, Put_congr a5ₓ (fun jₓ hjₓ => h2ₓ _ (by omega)), h5ₓ.trans a6ₓ, MR_congr a7ₓ (fun jₓ hjₓ => h4ₓ _ (by omega))⟩
theorem f_rulex {σ τ σ' τ' : SS} {rₓ r'ₓ : Int} {nₓ n'ₓ : Nat} (hₓ : TR σ τ) (hNₓ : σ 1 2 ≤ 400) (hb0ₓ : ∀ jₓ : Nat, jₓ < 400 → 0 ≤ σ 2 jₓ) (hb1ₓ : ∀ jₓ : Nat, jₓ < 400 → -128 ≤ τ 1 jₓ ∧ τ 1 jₓ ≤ 127) (hr0ₓ : 0 ≤ τ 0 2) (hr6ₓ : τ 0 2 ≤ 6) (hRₓ : RRs σ τ) (e1ₓ : m_X11_rule nₓ 0 σ = some (rₓ, σ')) (e2ₓ : m_X12_rule n'ₓ 0 τ = some (r'ₓ, τ')) : RRs σ' τ' := by
  have hTₓ := (f_rule hₓ hNₓ hb0ₓ hb1ₓ hr0ₓ hr6ₓ e1ₓ e2ₓ).2
  obtain ⟨htₓ, hrₓ⟩ := hₓ
  obtain ⟨t1ₓ, t2ₓ, t3ₓ⟩ := id htₓ
  obtain ⟨R1, R2⟩ := hRₓ
  have hcₓ : CV (fun jₓ => σ 2 jₓ.toNat) (σ 1 2) σ := ⟨rfl, fun _ _ _ => rfl, fun jₓ j0ₓ j1ₓ => hb0ₓ jₓ.toNat (by omega)⟩
  have hv : MV (fun jₓ => σ 2 jₓ.toNat) (σ 1 2) τ := ⟨t1ₓ.symm, fun jₓ j0ₓ j1ₓ => ⟨t3ₓ jₓ.toNat (by omega), hb1ₓ jₓ.toNat (by omega)⟩⟩
  by_cases c6ₓ : τ 0 2 = 6
  · rcases c_rule hcₓ t2ₓ hNₓ (by omega) e1ₓ with ⟨-, -, rfl⟩ | ⟨a1ₓ, -⟩
    · rcases r_rule hv t2ₓ hr0ₓ hr6ₓ e2ₓ with ⟨-, -, rfl⟩ | ⟨b1ₓ, -⟩
      · exact ⟨R1, R2⟩
      · omega
    · omega
  · obtain ⟨a1ₓ, a2ₓ, a3ₓ⟩ := cx_rule hcₓ t2ₓ hNₓ (by omega) (by omega) (R1 _ (by omega)) e1ₓ
    obtain ⟨b1ₓ, b2ₓ, b3ₓ, b4ₓ⟩ := rx_rule hv t2ₓ hr0ₓ c6ₓ e2ₓ
    have hcntₓ : τ' 0 2 = τ 0 2 ∨ τ' 0 2 = τ 0 2 + 1 := by
      rcases r_rule hv t2ₓ hr0ₓ hr6ₓ e2ₓ with ⟨gₓ, -⟩ | ⟨-, -, φ, -, gₓ⟩
      · exact absurd gₓ c6ₓ
      · rcases gₓ with ⟨-, -, gₓ⟩ | ⟨-, -, gₓ⟩
        · exact Or.inr gₓ
        · exact Or.inl gₓ
    have old : ∀ iₓ : Nat, (iₓ : Int) < τ 0 2 → iₓ < 6 → RQ iₓ σ' τ' := fun iₓ hiₓ h6ₓ => (R2 iₓ hiₓ h6ₓ).congr (fun qₓ kₓ g1ₓ g2ₓ => a1ₓ qₓ kₓ (by omega) (by omega)) (fun kₓ hkₓ => b1ₓ kₓ (by omega)) (fun kₓ hkₓ => b2ₓ kₓ (by omega)) (b3ₓ iₓ hiₓ)
    refine ⟨fun iₓ hiₓ => ?_, fun iₓ hiₓ h6ₓ => ?_⟩
    · by_cases gₓ : iₓ = (σ 0 12).toNat
      · rw [gₓ]; exact a2ₓ
      · rw [a1ₓ _ _ (by omega) (by omega)]; exact R1 iₓ hiₓ
    · by_cases gₓ : (iₓ : Int) < τ 0 2
      · exact old iₓ gₓ h6ₓ
      · have g1ₓ : τ' 0 2 = τ 0 2 + 1 := by omega
        have g2ₓ : σ' 0 12 = σ 0 12 + 1 := by have := hTₓ.2; omega
        obtain ⟨qₓ, O, cₓ, R, x1ₓ, x2ₓ, x3ₓ, x4ₓ⟩ := a3ₓ g2ₓ
        obtain ⟨q'ₓ, O', c'ₓ, R', y1ₓ, y2ₓ, y3ₓ, y4ₓ⟩ := b4ₓ g1ₓ
        obtain ⟨rfl, rfl⟩ := XS_det x1ₓ y1ₓ
        have hi1ₓ : (σ 0 12).toNat = iₓ := by omega
        have hi2ₓ : τ 0 2 = (iₓ : Int) := by omega
        rw [hi1ₓ] at x2ₓ
        rw [hi2ₓ] at y2ₓ y3ₓ y4ₓ
        exact ⟨O, R, x2ₓ, x3ₓ, x4ₓ, XS_RI x1ₓ, y2ₓ, y3ₓ, y4ₓ⟩
