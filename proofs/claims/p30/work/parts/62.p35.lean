/-! the reference's reader of RULES: what it puts out, by that machine -/
def encM (tₓ : Int) : Int := if 32 ≤ tₓ then 16 * (tₓ - 32) else if tₓ < 10 then 1 + 16 * tₓ else tₓ - 8
def CdM (σ : SS) (O : List Int) : Prop := 0 ≤ σ 0 17 ∧ σ 3 (σ 0 17).toNat = (O.length : Int) ∧ Put encM (fun jₓ => σ 2 (400 * σ 0 17 + (jₓ : Int)).toNat) O
def LM (σ : SS) : Prop := 0 ≤ σ 0 17 ∧ 0 ≤ σ 3 (σ 0 17).toNat
/-- older texts, and the clauses, are left -/
def KM (σ σ' : SS) : Prop := LM σ → LM σ' ∧ σ' 0 17 = σ 0 17 ∧ (∀ kₓ : Nat, (kₓ : Int) < 400 * σ 0 17 → σ' 2 kₓ = σ 2 kₓ) ∧ (∀ kₓ : Nat, σ' 4 kₓ = σ 4 kₓ) ∧ (∀ kₓ : Nat, σ' 5 kₓ = σ 5 kₓ)
def L0 (σ σ' : SS) : Prop := σ' 0 17 = σ 0 17 ∧ ∀ qₓ kₓ : Nat, 2 ≤ qₓ → qₓ ≤ 5 → σ' qₓ kₓ = σ qₓ kₓ
def XM (F : Int → Int) (N : Int) (ℓ ℓ' : Nat) (W W' : List Int) (rₓ : Int) (σ σ' : SS) : Prop := KM σ σ' ∧ (rₓ = 1 → ∀ (O : List Int) (cₓ : Int × Nat) (R : List (Int × Nat × Bool × Nat)), CdM σ O → ∃ O' : List Int, CdM σ' O' ∧ XS F N (ℓ, sk F N (σ 0 14), W, O, cₓ, R) (ℓ', sk F N (σ' 0 14), W', O', cₓ, R))
section
variable {F : Int → Int} {N : Int} {ℓ ℓ' ℓ'' : Nat} {W W' W'' O : List Int} {σ σ' σ'' : SS} {pₓ rₓ aₓ bₓ wₓ xₓ tₓ : Int} {nₓ : Nat} {qₓ : Int} {cₓ : Int × Nat} {R : List (Int × Nat × Bool × Nat)}
theorem L0.rf : L0 σ σ := ⟨rfl, fun _ _ _ _ => rfl⟩
theorem L0.tr (hₓ : L0 σ σ') (gₓ : L0 σ' σ'') : L0 σ σ'' := ⟨gₓ.1.trans hₓ.1, fun qₓ kₓ aₓ bₓ => (gₓ.2 qₓ kₓ aₓ bₓ).trans (hₓ.2 qₓ kₓ aₓ bₓ)⟩
theorem L0.up {kₓ : Nat} {vₓ : Int} (hkₓ : kₓ ≠ 17) : L0 σ (upS σ 0 kₓ vₓ) := ⟨upS_k (by omega), fun qₓ jₓ aₓ _ => upS_q (by omega)⟩
theorem L0.up9 {kₓ : Nat} {vₓ : Int} : L0 σ (upS σ 9 kₓ vₓ) := ⟨upS_q (by decide), fun qₓ jₓ aₓ bₓ => upS_q (by omega)⟩
theorem KM.rf : KM σ σ := fun hₓ => ⟨hₓ, rfl, fun _ _ => rfl, fun _ => rfl, fun _ => rfl⟩
theorem KM.tr (hₓ : KM σ σ') (gₓ : KM σ' σ'') : KM σ σ'' := fun h0ₓ => by
  obtain ⟨h1ₓ, h2ₓ, h3ₓ, h4ₓ, h5ₓ⟩ := hₓ h0ₓ
  obtain ⟨g1ₓ, g2ₓ, g3ₓ, g4ₓ, g5ₓ⟩ := gₓ h1ₓ
  exact ⟨g1ₓ, g2ₓ.trans h2ₓ, fun kₓ hkₓ => (g3ₓ kₓ (by rw [h2ₓ]; exact hkₓ)).trans (h3ₓ kₓ hkₓ), fun kₓ => (g4ₓ kₓ).trans (h4ₓ kₓ), fun kₓ => (g5ₓ kₓ).trans (h5ₓ kₓ)⟩
theorem L0.km (hₓ : L0 σ σ') : KM σ σ' := fun h0ₓ => by
  obtain ⟨aₓ, bₓ⟩ := hₓ
  refine ⟨?_, aₓ, fun kₓ _ => bₓ 2 kₓ (by decide) (by decide), fun kₓ => bₓ 4 kₓ (by decide) (by decide), fun kₓ => bₓ 5 kₓ (by decide) (by decide)⟩
  unfold LM
  rw [aₓ, bₓ 3 _ (by decide) (by decide)]; exact h0ₓ
theorem CdM.l0 (hₓ : L0 σ σ') (hcₓ : CdM σ O) : CdM σ' O := by
  obtain ⟨aₓ, bₓ⟩ := hₓ
  obtain ⟨h1ₓ, h2ₓ, h3ₓ⟩ := hcₓ
  unfold CdM
  rw [aₓ, bₓ 3 _ (by decide) (by decide)]
  exact ⟨h1ₓ, h2ₓ, Put_congr h3ₓ (fun jₓ _ => bₓ 2 _ (by decide) (by decide))⟩
theorem XM.rf : XM F N ℓ ℓ W W rₓ σ σ := ⟨KM.rf, fun _ O cₓ R hOₓ => ⟨O, hOₓ, XS.rf⟩⟩
theorem XM.tr (hₓ : XM F N ℓ ℓ' W W' 1 σ σ') (gₓ : XM F N ℓ' ℓ'' W' W'' rₓ σ' σ'') : XM F N ℓ ℓ'' W W'' rₓ σ σ'' := ⟨hₓ.1.tr gₓ.1, fun hrₓ O cₓ R hOₓ => by
  obtain ⟨O1, a1ₓ, a2ₓ⟩ := hₓ.2 rfl O cₓ R hOₓ
  obtain ⟨O2, b1ₓ, b2ₓ⟩ := gₓ.2 hrₓ O1 cₓ R a1ₓ
  exact ⟨O2, b1ₓ, a2ₓ.tr b2ₓ⟩⟩
theorem XM.off (hₓ : KM σ σ') : XM F N ℓ ℓ' W W' 0 σ σ' := ⟨hₓ, fun hrₓ => absurd hrₓ (by decide)⟩
theorem XM.mv (hsₓ : ∀ (O : List Int) (cₓ : Int × Nat) (R : List (Int × Nat × Bool × Nat)), XS F N (ℓ, sk F N (σ 0 14), W, O, cₓ, R) (ℓ', sk F N pₓ, W', O, cₓ, R)) : XM F N ℓ ℓ' W W' rₓ σ (upS σ 0 14 pₓ) :=
  ⟨(L0.up (by decide)).km, fun _ O cₓ R hOₓ => ⟨O, hOₓ.l0 (L0.up (by decide)), by rw [upS_s]; exact hsₓ O cₓ R⟩⟩
theorem XM.l0 (hₓ : L0 σ σ') (h14ₓ : σ' 0 14 = σ 0 14) : XM F N ℓ ℓ W W rₓ σ σ' := ⟨hₓ.km, fun _ O cₓ R hOₓ => ⟨O, hOₓ.l0 hₓ, by rw [h14ₓ]; exact XS.rf⟩⟩
theorem rx_puts (eₓ : m_X12_puts nₓ 0 aₓ bₓ σ = some (rₓ, σ')) : KM σ σ' ∧ ∀ (O : List Int) (tₓ : Int), CdM σ O → encM tₓ = aₓ + 16 * bₓ → CdM σ' (tₓ :: O) := by
  simp only [m_X12_puts, mRd, mLet, mWr, mRet] at eₓ
  obtain ⟨-, rfl⟩ := some_el eₓ
  have a1ₓ : ∀ (iₓ : Nat) (vₓ : Int), upS σ 2 iₓ vₓ 0 17 = σ 0 17 := fun iₓ vₓ => upS_q (by decide)
  have a2ₓ : ∀ (iₓ : Nat) (vₓ : Int) (kₓ : Nat), upS σ 2 iₓ vₓ 3 kₓ = σ 3 kₓ := fun iₓ vₓ kₓ => upS_q (by decide)
  rw [a1ₓ, a2ₓ]
  have b17ₓ : ∀ (iₓ jₓ : Nat) (uₓ vₓ : Int), upS (upS σ 2 iₓ uₓ) 3 jₓ vₓ 0 17 = σ 0 17 := fun iₓ jₓ uₓ vₓ => by rw [upS_q (by decide), upS_q (by decide)]
  refine ⟨fun ⟨l0ₓ, l1ₓ⟩ => ⟨?_, b17ₓ _ _ _ _, fun kₓ hkₓ => ?_, fun kₓ => ?_, fun kₓ => ?_⟩, fun O tₓ ⟨c1ₓ, c2ₓ, c3ₓ⟩ htₓ => ⟨?_, ?_, ?_, ?_⟩⟩
  · unfold LM; rw [b17ₓ, upS_s]; exact ⟨l0ₓ, by omega⟩
  · rw [upS_q (by decide), upS_k (by omega)]
  · rw [upS_q (by decide), upS_q (by decide)]
  · rw [upS_q (by decide), upS_q (by decide)]
  · rw [b17ₓ]; exact c1ₓ
  · rw [b17ₓ, upS_s, List.length_cons, c2ₓ]; omega
  · show upS (upS σ 2 _ _) 3 _ _ 2 (400 * upS (upS σ 2 _ _) 3 _ _ 0 17 + (O.length : Int)).toNat = encM tₓ
    rw [b17ₓ, upS_q (by decide), c2ₓ, htₓ]; exact upS_s
  · refine Put_congr c3ₓ (fun jₓ hjₓ => ?_)
    show upS (upS σ 2 _ _) 3 _ _ 2 (400 * upS (upS σ 2 _ _) 3 _ _ 0 17 + (jₓ : Int)).toNat = σ 2 (400 * σ 0 17 + (jₓ : Int)).toNat
    rw [b17ₓ, upS_q (by decide), c2ₓ]; exact upS_k (by omega)
theorem XM.pop {r'ₓ : Int} (eₓ : m_X12_puts nₓ 0 aₓ bₓ σ = some (r'ₓ, σ')) (htₓ : encM tₓ = aₓ + 16 * bₓ) (hsₓ : ∀ (O : List Int) (cₓ : Int × Nat) (R : List (Int × Nat × Bool × Nat)), XS F N (ℓ, sk F N (σ 0 14), tₓ :: W, O, cₓ, R) (ℓ', sk F N (σ 0 14), W, tₓ :: O, cₓ, R)) : XM F N ℓ ℓ' (tₓ :: W) W rₓ σ σ' := by
  have h1ₓ := rx_puts eₓ
  have h2ₓ : σ' 0 14 = σ 0 14 := r_puts eₓ 0 14 (by decide) (by decide)
  exact ⟨h1ₓ.1, fun _ O cₓ R hOₓ => ⟨tₓ :: O, h1ₓ.2 O tₓ hOₓ htₓ, by rw [h2ₓ]; exact hsₓ O cₓ R⟩⟩
theorem idx_c {V : List Int} {Ws : List (List Int)} {mₓ : Int} : idxW F (wd F N qₓ) qₓ (V :: Ws) mₓ = if isWd F N qₓ V = true then mₓ else idxW F (wd F N qₓ) qₓ Ws (mₓ + 1) := by
  show (if wEq F qₓ V = true ∧ qₓ + V.length = wd F N qₓ then mₓ else _) = _
  by_cases gₓ : isWd F N qₓ V = true
  · have g'ₓ := gₓ
    unfold isWd at g'ₓ
    simp only [Bool.and_eq_true, decide_eq_true_eq] at g'ₓ
    rw [if_pos gₓ, if_pos ⟨g'ₓ.2, g'ₓ.1.symm⟩]
  · rw [if_neg gₓ, if_neg]
    rintro ⟨g1ₓ, g2ₓ⟩
    refine gₓ ?_
    unfold isWd
    rw [g1ₓ, decide_eq_true g2ₓ.symm]; rfl
theorem rx_wordHere (hₓ : MV F N σ) (hpₓ : 0 ≤ σ 0 14) (eₓ : m_X12_wordHere nₓ 0 σ = some (rₓ, σ')) : rₓ = idxW F (wd F N (sk F N (σ 0 14))) (sk F N (σ 0 14)) wVals 0 ∧ σ' = upS σ 0 14 (sk F N (σ 0 14)) := by
  have hqₓ : 0 ≤ sk F N (σ 0 14) := Int.le_trans hpₓ runE_le
  have huₓ : MV F N (upS σ 0 14 (sk F N (σ 0 14))) := hₓ.up (by decide) (by omega)
  have is : ∀ {wₓ : Int} {W : List Int} {r1ₓ : Int} {s1ₓ : SS}, WD wₓ W → m_X12_isWord nₓ 0 wₓ (upS σ 0 14 (sk F N (σ 0 14))) = some (r1ₓ, s1ₓ) → ((isWd F N (sk F N (σ 0 14)) W = true ∧ r1ₓ = 1) ∨ (isWd F N (sk F N (σ 0 14)) W = false ∧ r1ₓ = 0)) ∧ s1ₓ = upS σ 0 14 (sk F N (σ 0 14)) := by
    intro wₓ W r1ₓ s1ₓ hWₓ eₓ
    have h2ₓ := r_isWord hWₓ huₓ (by rw [upS_s]; exact hqₓ) eₓ
    rw [upS_s, sk_idem, upS_upS] at h2ₓ
    exact h2ₓ
  unfold m_X12_wordHere at eₓ
  obtain ⟨r0ₓ, s0ₓ, e0ₓ, eₓ⟩ := mCall_el eₓ
  obtain ⟨h0ₓ, rfl⟩ := r_isWord wd_v0 hₓ hpₓ e0ₓ
  rcases h0ₓ with ⟨t0ₓ, rfl⟩ | ⟨f0ₓ, rfl⟩
  · rw [mIf_neg (show ¬ (1 : Int) = 0 by decide)] at eₓ
    obtain ⟨rfl, rfl⟩ := some_el eₓ
    refine ⟨Eq.symm ?_, rfl⟩
    unfold wVals
    rw [idx_c, if_pos t0ₓ]
  rw [mIf_pos rfl] at eₓ
  obtain ⟨r1ₓ, s1ₓ, e1ₓ, eₓ⟩ := mCall_el eₓ
  obtain ⟨h1ₓ, rfl⟩ := is wd_v1 e1ₓ
  rcases h1ₓ with ⟨t1ₓ, rfl⟩ | ⟨f1ₓ, rfl⟩
  · rw [mIf_neg (show ¬ (1 : Int) = 0 by decide)] at eₓ
    obtain ⟨rfl, rfl⟩ := some_el eₓ
    refine ⟨Eq.symm ?_, rfl⟩
    unfold wVals
    rw [idx_c, if_neg (by rw [f0ₓ]; decide), idx_c, if_pos t1ₓ] <;> rfl
  rw [mIf_pos rfl] at eₓ
  obtain ⟨r2ₓ, s2ₓ, e2ₓ, eₓ⟩ := mCall_el eₓ
  obtain ⟨h2ₓ, rfl⟩ := is wd_v2 e2ₓ
  rcases h2ₓ with ⟨t2ₓ, rfl⟩ | ⟨f2ₓ, rfl⟩
  · rw [mIf_neg (show ¬ (1 : Int) = 0 by decide)] at eₓ
    obtain ⟨rfl, rfl⟩ := some_el eₓ
    refine ⟨Eq.symm ?_, rfl⟩
    unfold wVals
    rw [idx_c, if_neg (by rw [f0ₓ]; decide), idx_c, if_neg (by rw [f1ₓ]; decide), idx_c, if_pos t2ₓ] <;> rfl
  rw [mIf_pos rfl] at eₓ
  obtain ⟨r3ₓ, s3ₓ, e3ₓ, eₓ⟩ := mCall_el eₓ
  obtain ⟨h3ₓ, rfl⟩ := is wd_v3 e3ₓ
  rcases h3ₓ with ⟨t3ₓ, rfl⟩ | ⟨f3ₓ, rfl⟩
  · rw [mIf_neg (show ¬ (1 : Int) = 0 by decide)] at eₓ
    obtain ⟨rfl, rfl⟩ := some_el eₓ
    refine ⟨Eq.symm ?_, rfl⟩
    unfold wVals
    rw [idx_c, if_neg (by rw [f0ₓ]; decide), idx_c, if_neg (by rw [f1ₓ]; decide), idx_c, if_neg (by rw [f2ₓ]; decide), idx_c, if_pos t3ₓ] <;> rfl
  rw [mIf_pos rfl] at eₓ
  obtain ⟨r4ₓ, s4ₓ, e4ₓ, eₓ⟩ := mCall_el eₓ
  obtain ⟨h4ₓ, rfl⟩ := is wd_v4 e4ₓ
  rcases h4ₓ with ⟨t4ₓ, rfl⟩ | ⟨f4ₓ, rfl⟩
  · rw [mIf_neg (show ¬ (1 : Int) = 0 by decide)] at eₓ
    obtain ⟨rfl, rfl⟩ := some_el eₓ
    refine ⟨Eq.symm ?_, rfl⟩
    unfold wVals
    rw [idx_c, if_neg (by rw [f0ₓ]; decide), idx_c, if_neg (by rw [f1ₓ]; decide), idx_c, if_neg (by rw [f2ₓ]; decide), idx_c, if_neg (by rw [f3ₓ]; decide), idx_c, if_pos t4ₓ] <;> rfl
  rw [mIf_pos rfl] at eₓ
  obtain ⟨r5ₓ, s5ₓ, e5ₓ, eₓ⟩ := mCall_el eₓ
  obtain ⟨h5ₓ, rfl⟩ := is wd_v5 e5ₓ
  rcases h5ₓ with ⟨t5ₓ, rfl⟩ | ⟨f5ₓ, rfl⟩
  · rw [mIf_neg (show ¬ (1 : Int) = 0 by decide)] at eₓ
    obtain ⟨rfl, rfl⟩ := some_el eₓ
    refine ⟨Eq.symm ?_, rfl⟩
    unfold wVals
    rw [idx_c, if_neg (by rw [f0ₓ]; decide), idx_c, if_neg (by rw [f1ₓ]; decide), idx_c, if_neg (by rw [f2ₓ]; decide), idx_c, if_neg (by rw [f3ₓ]; decide), idx_c, if_neg (by rw [f4ₓ]; decide), idx_c, if_pos t5ₓ] <;> rfl
  rw [mIf_pos rfl] at eₓ
  obtain ⟨r6ₓ, s6ₓ, e6ₓ, eₓ⟩ := mCall_el eₓ
  obtain ⟨h6ₓ, rfl⟩ := is wd_v6 e6ₓ
  rcases h6ₓ with ⟨t6ₓ, rfl⟩ | ⟨f6ₓ, rfl⟩
  · rw [mIf_neg (show ¬ (1 : Int) = 0 by decide)] at eₓ
    obtain ⟨rfl, rfl⟩ := some_el eₓ
    refine ⟨Eq.symm ?_, rfl⟩
    unfold wVals
    rw [idx_c, if_neg (by rw [f0ₓ]; decide), idx_c, if_neg (by rw [f1ₓ]; decide), idx_c, if_neg (by rw [f2ₓ]; decide), idx_c, if_neg (by rw [f3ₓ]; decide), idx_c, if_neg (by rw [f4ₓ]; decide), idx_c, if_neg (by rw [f5ₓ]; decide), idx_c, if_pos t6ₓ] <;> rfl
  rw [mIf_pos rfl] at eₓ
  obtain ⟨r7ₓ, s7ₓ, e7ₓ, eₓ⟩ := mCall_el eₓ
  obtain ⟨h7ₓ, rfl⟩ := is wd_v7 e7ₓ
  rcases h7ₓ with ⟨t7ₓ, rfl⟩ | ⟨f7ₓ, rfl⟩
  · rw [mIf_neg (show ¬ (1 : Int) = 0 by decide)] at eₓ
    obtain ⟨rfl, rfl⟩ := some_el eₓ
    refine ⟨Eq.symm ?_, rfl⟩
    unfold wVals
    rw [idx_c, if_neg (by rw [f0ₓ]; decide), idx_c, if_neg (by rw [f1ₓ]; decide), idx_c, if_neg (by rw [f2ₓ]; decide), idx_c, if_neg (by rw [f3ₓ]; decide), idx_c, if_neg (by rw [f4ₓ]; decide), idx_c, if_neg (by rw [f5ₓ]; decide), idx_c, if_neg (by rw [f6ₓ]; decide), idx_c, if_pos t7ₓ] <;> rfl
  rw [mIf_pos rfl] at eₓ
  obtain ⟨r8ₓ, s8ₓ, e8ₓ, eₓ⟩ := mCall_el eₓ
  obtain ⟨h8ₓ, rfl⟩ := is wd_v8 e8ₓ
  rcases h8ₓ with ⟨t8ₓ, rfl⟩ | ⟨f8ₓ, rfl⟩
  · rw [mIf_neg (show ¬ (1 : Int) = 0 by decide)] at eₓ
    obtain ⟨rfl, rfl⟩ := some_el eₓ
    refine ⟨Eq.symm ?_, rfl⟩
    unfold wVals
    rw [idx_c, if_neg (by rw [f0ₓ]; decide), idx_c, if_neg (by rw [f1ₓ]; decide), idx_c, if_neg (by rw [f2ₓ]; decide), idx_c, if_neg (by rw [f3ₓ]; decide), idx_c, if_neg (by rw [f4ₓ]; decide), idx_c, if_neg (by rw [f5ₓ]; decide), idx_c, if_neg (by rw [f6ₓ]; decide), idx_c, if_neg (by rw [f7ₓ]; decide), idx_c, if_pos t8ₓ] <;> rfl
  rw [mIf_pos rfl] at eₓ
  obtain ⟨r9ₓ, s9ₓ, e9ₓ, eₓ⟩ := mCall_el eₓ
  obtain ⟨h9ₓ, rfl⟩ := is wd_v9 e9ₓ
  rcases h9ₓ with ⟨t9ₓ, rfl⟩ | ⟨f9ₓ, rfl⟩
  · rw [mIf_neg (show ¬ (1 : Int) = 0 by decide)] at eₓ
    obtain ⟨rfl, rfl⟩ := some_el eₓ
    refine ⟨Eq.symm ?_, rfl⟩
    unfold wVals
    rw [idx_c, if_neg (by rw [f0ₓ]; decide), idx_c, if_neg (by rw [f1ₓ]; decide), idx_c, if_neg (by rw [f2ₓ]; decide), idx_c, if_neg (by rw [f3ₓ]; decide), idx_c, if_neg (by rw [f4ₓ]; decide), idx_c, if_neg (by rw [f5ₓ]; decide), idx_c, if_neg (by rw [f6ₓ]; decide), idx_c, if_neg (by rw [f7ₓ]; decide), idx_c, if_neg (by rw [f8ₓ]; decide), idx_c, if_pos t9ₓ] <;> rfl
  rw [mIf_pos rfl] at eₓ
  obtain ⟨rfl, rfl⟩ := some_el eₓ
  refine ⟨Eq.symm ?_, rfl⟩
  unfold wVals
  rw [idx_c, if_neg (by rw [f0ₓ]; decide), idx_c, if_neg (by rw [f1ₓ]; decide), idx_c, if_neg (by rw [f2ₓ]; decide), idx_c, if_neg (by rw [f3ₓ]; decide), idx_c, if_neg (by rw [f4ₓ]; decide), idx_c, if_neg (by rw [f5ₓ]; decide), idx_c, if_neg (by rw [f6ₓ]; decide), idx_c, if_neg (by rw [f7ₓ]; decide), idx_c, if_neg (by rw [f8ₓ]; decide), idx_c, if_neg (by rw [f9ₓ]; decide)] <;> rfl
theorem encM_v (hₓ : 0 ≤ tₓ) : encM (32 + tₓ) = 0 + 16 * tₓ := by unfold encM; rw [if_pos (by omega)]; omega
theorem encM_w (hₓ : tₓ < 10) : encM tₓ = 1 + 16 * tₓ := by unfold encM; rw [if_neg (by omega), if_pos hₓ]
theorem encM_o (hₓ : 10 ≤ tₓ ∧ tₓ ≤ 21) : encM tₓ = (tₓ - 8) + 16 * 0 := by unfold encM; rw [if_neg (by omega), if_neg (by omega)]; omega
theorem rx_value (hlₓ : (ℓ = 3 ∧ ℓ' = 5) ∨ (ℓ = 4 ∧ ℓ' = 6)) (hₓ : OKM F N σ) (eₓ : m_X12_value nₓ 0 σ = some (rₓ, σ')) : XM F N ℓ ℓ' W W rₓ σ σ' := by
  obtain ⟨hv, ⟨hp0ₓ, hp1ₓ⟩, hfₓ, hk0ₓ, hk1ₓ⟩ := id hₓ
  have hq0ₓ : 0 ≤ sk F N (σ 0 14) := Int.le_trans hp0ₓ sk_ge
  have hqNₓ : sk F N (σ 0 14) ≤ N := sk_ub hp1ₓ
  unfold m_X12_value b_X12_value_39 at eₓ
  obtain ⟨r1ₓ, s1ₓ, e1ₓ, eₓ⟩ := mCall_el eₓ
  obtain ⟨-, rfl⟩ := r_seem hv hp0ₓ e1ₓ
  have h1ₓ : OKM F N (upS σ 0 14 (sk F N (σ 0 14))) := hₓ.mv hq0ₓ hqNₓ
  have f1ₓ : upS σ 0 14 (sk F N (σ 0 14)) 0 15 = 0 := h1ₓ.2.2.1
  have m1ₓ : upS σ 0 14 (sk F N (σ 0 14)) 0 18 = σ 0 18 := upS_n (by omega)
  have k1ₓ : L0 σ (upS σ 0 14 (sk F N (σ 0 14))) := L0.up (by decide)
  rw [mRd_e, mRd_e, upS_s, r_isDigit h1ₓ.1 hq0ₓ, mCall_s] at eₓ
  by_cases cd : sk F N (σ 0 14) < N ∧ isDg F (sk F N (σ 0 14)) = true
  · rw [if_pos cd, mIf_neg (show ¬ (1 : Int) = 0 by decide)] at eₓ
    obtain ⟨r2ₓ, s2ₓ, e2ₓ, eₓ⟩ := mCall_el eₓ
    rcases r_number h1ₓ.1 (by rw [upS_s]; exact hq0ₓ) f1ₓ e2ₓ with ⟨hnₓ, -, -⟩ | ⟨-, hIₓ, hBₓ⟩
    · rw [upS_s, sk_idem] at hnₓ; exact absurd cd hnₓ
    rw [upS_s, sk_idem] at hIₓ hBₓ
    obtain ⟨b0ₓ, b1ₓ, -⟩ := id hIₓ
    have kn : L0 (upS σ 0 14 (sk F N (σ 0 14))) (rN (upS σ 0 14 (sk F N (σ 0 14))) (dg F N (sk F N (σ 0 14))) (nv F N (sk F N (σ 0 14)))) := (L0.up (by decide)).tr (L0.up (by decide))
    rcases hBₓ with ⟨hbadₓ, rfl, rfl⟩ | ⟨hgoodₓ, rfl, rfl⟩
    · rw [mIf_pos rfl] at eₓ
      obtain ⟨rfl, rfl⟩ := some_el eₓ
      exact XM.off ((k1ₓ.tr kn).tr (L0.up (by decide))).km
    · rw [mIf_neg (show ¬ (1 : Int) = 0 by decide)] at eₓ
      have f2ₓ : rN (upS σ 0 14 (sk F N (σ 0 14))) (dg F N (sk F N (σ 0 14))) (nv F N (sk F N (σ 0 14))) 0 15 = 0 := by unfold rN; rw [upS_n (by omega), upS_n (by omega), upS_n (by omega)]; exact hfₓ
      have m2ₓ : rN (upS σ 0 14 (sk F N (σ 0 14))) (dg F N (sk F N (σ 0 14))) (nv F N (sk F N (σ 0 14))) 0 18 = σ 0 18 := by unfold rN; rw [upS_n (by omega), upS_n (by omega), upS_n (by omega)]
      rw [r_makes f2ₓ, m2ₓ] at eₓ
      by_cases c60ₓ : σ 0 18 = 60
      · rw [if_pos c60ₓ, mCall_s, mIf_neg (fun qₓ => qₓ rfl)] at eₓ
        obtain ⟨rfl, rfl⟩ := some_el eₓ
        exact XM.off ((k1ₓ.tr kn).tr (L0.up (by decide))).km
      · rw [if_neg c60ₓ, mCall_s, mIf_pos (show ¬ (1 : Int) = 0 by decide), mRd_e] at eₓ
        have n16ₓ : upS (rN (upS σ 0 14 (sk F N (σ 0 14))) (dg F N (sk F N (σ 0 14))) (nv F N (sk F N (σ 0 14)))) 0 18 (σ 0 18 + 1) 0 16 = nv F N (sk F N (σ 0 14)) := by rw [upS_n (by omega)]; unfold rN; exact upS_s
        rw [n16ₓ] at eₓ
        obtain ⟨r3ₓ, s3ₓ, e3ₓ, eₓ⟩ := mCall_el eₓ
        obtain ⟨rfl, rfl⟩ := some_el eₓ
        have hppₓ := r_puts e3ₓ
        have hxₓ := rx_puts e3ₓ
        have kk : L0 σ (upS (rN (upS σ 0 14 (sk F N (σ 0 14))) (dg F N (sk F N (σ 0 14))) (nv F N (sk F N (σ 0 14)))) 0 18 (σ 0 18 + 1)) := (k1ₓ.tr kn).tr (L0.up (by decide))
        have g14ₓ : σ' 0 14 = dg F N (sk F N (σ 0 14)) := by rw [hppₓ 0 14 (by decide) (by decide)]; unfold rN; rw [upS_n (by omega), upS_n (by omega), upS_s]
        have hv1ₓ : vtok F N (sk F N (σ 0 14)) = 32 + nv F N (sk F N (σ 0 14)) := if_pos cd
        have hveₓ : vend F N (sk F N (σ 0 14)) = dg F N (sk F N (σ 0 14)) := if_pos cd
        have hokₓ : okV (vtok F N (sk F N (σ 0 14))) = true := by rw [hv1ₓ]; exact decide_eq_true (Or.inr ⟨by omega, by omega⟩)
        refine ⟨kk.km.tr hxₓ.1, fun _ O cₓ R hOₓ => ⟨(32 + nv F N (sk F N (σ 0 14))) :: O, hxₓ.2 O _ (hOₓ.l0 kk) (encM_v b0ₓ), XS_one ?_⟩⟩
        rw [x_val hlₓ hokₓ, g14ₓ, hv1ₓ, hveₓ]
  · rw [if_neg cd, mIf_pos rfl] at eₓ
    obtain ⟨r2ₓ, s2ₓ, e2ₓ, eₓ⟩ := mCall_el eₓ
    have hwₓ := rx_wordHere h1ₓ.1 (by rw [upS_s]; exact hq0ₓ) e2ₓ
    rw [upS_s, sk_idem, upS_upS] at hwₓ
    obtain ⟨hrₓ, rfl⟩ := hwₓ
    by_cases hr0ₓ : 0 ≤ r2ₓ
    · rw [mIf_pos hr0ₓ, r_makes f1ₓ, m1ₓ] at eₓ
      by_cases c60ₓ : σ 0 18 = 60
      · rw [if_pos c60ₓ, mCall_s, mIf_neg (fun qₓ => qₓ rfl)] at eₓ
        obtain ⟨rfl, rfl⟩ := some_el eₓ
        exact XM.off (k1ₓ.tr (L0.up (by decide))).km
      · rw [if_neg c60ₓ, mCall_s, mIf_pos (show ¬ (1 : Int) = 0 by decide)] at eₓ
        have h2ₓ : MV F N (upS (upS σ 0 14 (sk F N (σ 0 14))) 0 18 (σ 0 18 + 1)) := h1ₓ.1.up (by decide) (by omega)
        have n2ₓ : upS (upS σ 0 14 (sk F N (σ 0 14))) 0 18 (σ 0 18 + 1) 0 14 = sk F N (σ 0 14) := (upS_n (by omega)).trans upS_s
        obtain ⟨r3ₓ, s3ₓ, e3ₓ, eₓ⟩ := mCall_el eₓ
        have hs3ₓ := r_passWordm h2ₓ (by rw [n2ₓ]; exact hq0ₓ) e3ₓ
        rw [n2ₓ] at hs3ₓ
        subst hs3ₓ
        obtain ⟨r4ₓ, s4ₓ, e4ₓ, eₓ⟩ := mCall_el eₓ
        obtain ⟨rfl, rfl⟩ := some_el eₓ
        have hppₓ := r_puts e4ₓ
        have hxₓ := rx_puts e4ₓ
        have kk : L0 σ (upS (upS (upS σ 0 14 (sk F N (σ 0 14))) 0 18 (σ 0 18 + 1)) 0 14 (wd F N (sk F N (σ 0 14)))) := (k1ₓ.tr (L0.up (by decide))).tr (L0.up (by decide))
        have g14ₓ : σ' 0 14 = wd F N (sk F N (σ 0 14)) := by rw [hppₓ 0 14 (by decide) (by decide)]; exact upS_s
        have hv1ₓ : vtok F N (sk F N (σ 0 14)) = r2ₓ := by unfold vtok; rw [if_neg cd, hrₓ]
        have hveₓ : vend F N (sk F N (σ 0 14)) = wd F N (sk F N (σ 0 14)) := if_neg cd
        have hltₓ : r2ₓ < 0 + ((wVals.length : Nat) : Int) := by rw [hrₓ]; exact idxW_lt _ _ (Int.le_refl 0)
        rw [show wVals.length = 10 from rfl] at hltₓ
        have hokₓ : okV (vtok F N (sk F N (σ 0 14))) = true := by rw [hv1ₓ]; exact decide_eq_true (Or.inl ⟨hr0ₓ, by omega⟩)
        refine ⟨kk.km.tr hxₓ.1, fun _ O cₓ R hOₓ => ⟨r2ₓ :: O, hxₓ.2 O _ (hOₓ.l0 kk) (encM_w (by omega)), XS_one ?_⟩⟩
        rw [x_val hlₓ hokₓ, g14ₓ, hv1ₓ, hveₓ]
    · rw [mIf_neg hr0ₓ, r_fails f1ₓ, mCall_s] at eₓ
      obtain ⟨rfl, rfl⟩ := some_el eₓ
      exact XM.off (k1ₓ.tr (L0.up (by decide))).km
theorem byte_is {kₓ : Int} (hₓ : MV F N σ) (h0ₓ : 0 ≤ qₓ) (hNₓ : qₓ < N) (hk0ₓ : 0 ≤ kₓ) (hkₓ : kₓ ≤ 127) : σ 1 qₓ.toNat = kₓ ↔ F qₓ = kₓ := by
  obtain ⟨v1ₓ, v2ₓ, v3ₓ⟩ := hₓ.2 qₓ h0ₓ hNₓ
  omega
theorem XM.stay (hₓ : OKM F N σ) : XM F N ℓ ℓ W W rₓ σ (upS σ 0 14 (sk F N (σ 0 14))) := XM.mv (fun O cₓ R => by rw [sk_idem]; exact XS.rf)
theorem rx_term0 (hlₓ : (ℓ = 3 ∧ ℓ' = 5) ∨ (ℓ = 4 ∧ ℓ' = 6)) (hWₓ : xtop isMu W = false) : ∀ (nₓ : Nat) (σ : SS), OKM F N σ → j_X12_term 0 nₓ 9 [] σ = some (rₓ, σ') → XM F N ℓ' ℓ' W W rₓ σ σ' := by
  intro nₓ
  induction nₓ with
  | zero => intro σ hₓ eₓ; exact none_el eₓ
  | succ nₓ ihₓ =>
    intro σ hₓ eₓ
    rw [e_X12_term_9] at eₓ
    unfold b_X12_term_9 at eₓ
    have hq0ₓ : 0 ≤ sk F N (σ 0 14) := Int.le_trans hₓ.2.1.1 sk_ge
    have hqNₓ : sk F N (σ 0 14) ≤ N := sk_ub hₓ.2.1.2
    obtain ⟨r1ₓ, s1ₓ, e1ₓ, eₓ⟩ := mCall_el eₓ
    obtain ⟨rfl, rfl⟩ := r_seem hₓ.1 hₓ.2.1.1 e1ₓ
    have h1ₓ : OKM F N (upS σ 0 14 (sk F N (σ 0 14))) := hₓ.mv hq0ₓ hqNₓ
    have goₓ : ∀ xₓ : Int, sk F N (σ 0 14) < N → (F (sk F N (σ 0 14)) = 42 ∧ xₓ = 4 ∨ F (sk F N (σ 0 14)) = 47 ∧ xₓ = 5) → b_X12_term_46 (j_X12_term 0 nₓ) nₓ 0 xₓ (upS σ 0 14 (sk F N (σ 0 14))) = some (rₓ, σ') → XM F N ℓ' ℓ' W W rₓ σ σ' := by
      intro xₓ hNₓ hxₓ eₓ
      unfold b_X12_term_46 at eₓ
      rw [mRd_e, mLet_e, mWr_e, upS_s, upS_upS] at eₓ
      have hmuₓ : muAt F N (sk F N (σ 0 14)) = true := muAt_i.mpr ⟨hNₓ, by omega⟩
      have hopₓ : opTok F N (sk F N (σ 0 14)) = xₓ + 8 := by
        have h9ₓ := opTok_i (F := F) (N := N) (qₓ := sk F N (σ 0 14))
        rcases hxₓ with ⟨g1ₓ, g2ₓ⟩ | ⟨g1ₓ, g2ₓ⟩
        · rw [h9ₓ.2.2.1 ⟨g1ₓ, hNₓ⟩]; omega
        · rw [h9ₓ.2.2.2 ⟨g1ₓ, hNₓ⟩]; omega
      have m1ₓ : XM F N ℓ' ℓ W ((xₓ + 8) :: W) 1 σ (upS σ 0 14 (sk F N (σ 0 14) + 1)) := XM.mv (fun O cₓ R => XS_one (by rw [x_mupush hlₓ hWₓ hmuₓ, hopₓ]))
      have h2ₓ : OKM F N (upS σ 0 14 (sk F N (σ 0 14) + 1)) := hₓ.mv (by omega) (by omega)
      obtain ⟨r2ₓ, s2ₓ, e2ₓ, eₓ⟩ := mCall_el eₓ
      have m2ₓ : XM F N ℓ ℓ' ((xₓ + 8) :: W) ((xₓ + 8) :: W) r2ₓ (upS σ 0 14 (sk F N (σ 0 14) + 1)) s2ₓ := rx_value hlₓ h2ₓ e2ₓ
      obtain ⟨-, h3ₓ⟩ := r_value hlₓ h2ₓ e2ₓ (S := [])
      rcases h3ₓ with ⟨rfl, h3ₓ, -⟩ | ⟨rfl, h3ₓ, -⟩
      · rw [mIf_pos (show ¬ (1 : Int) = 0 by decide)] at eₓ
        obtain ⟨r3ₓ, s3ₓ, e3ₓ, eₓ⟩ := mCall_el eₓ
        have m3ₓ : XM F N ℓ' ℓ' ((xₓ + 8) :: W) W 1 s2ₓ s3ₓ := XM.pop e3ₓ (by rw [encM_o (by omega)]; omega) (fun O cₓ R => XS_one (x_mupop hlₓ (by omega)))
        exact ((m1ₓ.tr m2ₓ).tr m3ₓ).tr (ihₓ s3ₓ (h3ₓ.p23 (r_puts e3ₓ)) eₓ)
      · rw [mIf_neg (fun qₓ => qₓ rfl)] at eₓ
        obtain ⟨rfl, rfl⟩ := some_el eₓ
        exact XM.off (m1ₓ.1.tr m2ₓ.1)
    have to : sk F N (σ 0 14) < N → (F (sk F N (σ 0 14)) = 42 ∨ F (sk F N (σ 0 14)) = 47) → b_X12_term_27 (j_X12_term 0 nₓ) nₓ 0 (upS σ 0 14 (sk F N (σ 0 14))) = some (rₓ, σ') → XM F N ℓ' ℓ' W W rₓ σ σ' := by
      intro hNₓ hoₓ eₓ
      unfold b_X12_term_27 at eₓ
      rw [mRd_e, mRd_e, upS_s] at eₓ
      have hbₓ := byte_is h1ₓ.1 hq0ₓ hNₓ (kₓ := 42) (by decide) (by decide)
      by_cases cₓ : upS σ 0 14 (sk F N (σ 0 14)) 1 (sk F N (σ 0 14)).toNat = 42
      · rw [mIf_neg (fun qₓ => qₓ cₓ)] at eₓ; exact goₓ _ hNₓ (Or.inl ⟨hbₓ.mp cₓ, rfl⟩) eₓ
      · rw [mIf_pos cₓ] at eₓ; exact goₓ _ hNₓ (Or.inr ⟨by have : ¬ F (sk F N (σ 0 14)) = 42 := fun gₓ => cₓ (hbₓ.mpr gₓ); omega, rfl⟩) eₓ
    by_cases c1ₓ : bt F N (sk F N (σ 0 14)) = 42
    · rw [mIf_pos c1ₓ] at eₓ
      have h2ₓ := bt_lt (by decide) c1ₓ
      exact to h2ₓ.1 (Or.inl h2ₓ.2) eₓ
    · rw [mIf_neg c1ₓ] at eₓ
      obtain ⟨r2ₓ, s2ₓ, e2ₓ, eₓ⟩ := mCall_el eₓ
      obtain ⟨rfl, rfl⟩ := r_seem h1ₓ.1 h1ₓ.2.1.1 e2ₓ
      rw [upS_s, sk_idem, upS_upS] at eₓ
      by_cases c2ₓ : bt F N (sk F N (σ 0 14)) = 47
      · rw [mIf_neg (fun qₓ => qₓ c2ₓ)] at eₓ
        have h2ₓ := bt_lt (by decide) c2ₓ
        exact to h2ₓ.1 (Or.inr h2ₓ.2) eₓ
      · rw [mIf_pos c2ₓ] at eₓ
        obtain ⟨rfl, rfl⟩ := some_el eₓ
        exact XM.stay hₓ
theorem rx_term (hlₓ : (ℓ = 3 ∧ ℓ' = 5) ∨ (ℓ = 4 ∧ ℓ' = 6)) (hWₓ : xtop isMu W = false) (hₓ : OKM F N σ) (eₓ : m_X12_term nₓ 0 σ = some (rₓ, σ')) : XM F N ℓ ℓ' W W rₓ σ σ' := by
  unfold m_X12_term at eₓ
  obtain ⟨r1ₓ, s1ₓ, e1ₓ, eₓ⟩ := mCall_el eₓ
  have m1ₓ : XM F N ℓ ℓ' W W r1ₓ σ s1ₓ := rx_value hlₓ hₓ e1ₓ
  obtain ⟨-, h1ₓ⟩ := r_value hlₓ hₓ e1ₓ (S := [])
  rcases h1ₓ with ⟨rfl, h1ₓ, -⟩ | ⟨rfl, h1ₓ, -⟩
  · rw [mIf_pos (show ¬ (1 : Int) = 0 by decide)] at eₓ
    exact m1ₓ.tr (rx_term0 hlₓ hWₓ nₓ s1ₓ h1ₓ eₓ)
  · rw [mIf_neg (fun qₓ => qₓ rfl)] at eₓ
    obtain ⟨rfl, rfl⟩ := some_el eₓ
    exact XM.off m1ₓ.1
theorem TMs.mu (hₓ : TMs F N σ) : ¬ muAt F N (sk F N (σ 0 14)) = true := fun gₓ => hₓ (muAt_i.mp gₓ)
theorem ad_top (htₓ : tₓ = 10 ∨ tₓ = 11) : xtop isMu (tₓ :: W) = false := Bool.eq_false_iff.mpr (fun gₓ => by have := isMu_i.mp (show isMu tₓ = true from gₓ); omega)
theorem rx_sum0 (hlₓ : (ℓ = 3 ∧ ℓ' = 5) ∨ (ℓ = 4 ∧ ℓ' = 6)) (hWₓ : xtop isMu W = false) (hW2ₓ : xtop isAd W = false) : ∀ (nₓ : Nat) (σ : SS), OKM F N σ → TMs F N σ → j_X12_sum 0 nₓ 9 [] σ = some (rₓ, σ') → XM F N ℓ' ℓ' W W rₓ σ σ' := by
  intro nₓ
  induction nₓ with
  | zero => intro σ hₓ htₓ eₓ; exact none_el eₓ
  | succ nₓ ihₓ =>
    intro σ hₓ htₓ eₓ
    rw [e_X12_sum_9] at eₓ
    unfold b_X12_sum_9 at eₓ
    have hq0ₓ : 0 ≤ sk F N (σ 0 14) := Int.le_trans hₓ.2.1.1 sk_ge
    have hqNₓ : sk F N (σ 0 14) ≤ N := sk_ub hₓ.2.1.2
    obtain ⟨r1ₓ, s1ₓ, e1ₓ, eₓ⟩ := mCall_el eₓ
    obtain ⟨rfl, rfl⟩ := r_seem hₓ.1 hₓ.2.1.1 e1ₓ
    have h1ₓ : OKM F N (upS σ 0 14 (sk F N (σ 0 14))) := hₓ.mv hq0ₓ hqNₓ
    have goₓ : ∀ xₓ : Int, sk F N (σ 0 14) < N → (F (sk F N (σ 0 14)) = 43 ∧ xₓ = 2 ∨ F (sk F N (σ 0 14)) = 45 ∧ xₓ = 3) → b_X12_sum_46 (j_X12_sum 0 nₓ) nₓ 0 xₓ (upS σ 0 14 (sk F N (σ 0 14))) = some (rₓ, σ') → XM F N ℓ' ℓ' W W rₓ σ σ' := by
      intro xₓ hNₓ hxₓ eₓ
      unfold b_X12_sum_46 at eₓ
      rw [mRd_e, mLet_e, mWr_e, upS_s, upS_upS] at eₓ
      have hopₓ : opTok F N (sk F N (σ 0 14)) = xₓ + 8 := by
        have h9ₓ := opTok_i (F := F) (N := N) (qₓ := sk F N (σ 0 14))
        rcases hxₓ with ⟨g1ₓ, g2ₓ⟩ | ⟨g1ₓ, g2ₓ⟩
        · rw [h9ₓ.1 ⟨g1ₓ, hNₓ⟩]; omega
        · rw [h9ₓ.2.1 ⟨g1ₓ, hNₓ⟩]; omega
      have hoaₓ : opAt F N (sk F N (σ 0 14)) = true := opAt_x.mpr ⟨hNₓ, by omega⟩
      have m1ₓ : XM F N ℓ' ℓ W ((xₓ + 8) :: W) 1 σ (upS σ 0 14 (sk F N (σ 0 14) + 1)) := XM.mv (fun O cₓ R => XS_one (by rw [x_adpush hlₓ hWₓ hW2ₓ htₓ.mu hoaₓ, hopₓ]))
      have h2ₓ : OKM F N (upS σ 0 14 (sk F N (σ 0 14) + 1)) := hₓ.mv (by omega) (by omega)
      obtain ⟨r2ₓ, s2ₓ, e2ₓ, eₓ⟩ := mCall_el eₓ
      have m2ₓ : XM F N ℓ ℓ' ((xₓ + 8) :: W) ((xₓ + 8) :: W) r2ₓ (upS σ 0 14 (sk F N (σ 0 14) + 1)) s2ₓ := rx_term hlₓ (ad_top (by omega)) h2ₓ e2ₓ
      obtain ⟨-, h3ₓ, t3ₓ⟩ := r_term hlₓ h2ₓ e2ₓ (S := [])
      rcases h3ₓ with ⟨rfl, h3ₓ, -⟩ | ⟨rfl, h3ₓ, -⟩
      · rw [mIf_pos (show ¬ (1 : Int) = 0 by decide)] at eₓ
        obtain ⟨r3ₓ, s3ₓ, e3ₓ, eₓ⟩ := mCall_el eₓ
        have hppₓ := r_puts e3ₓ
        have m3ₓ : XM F N ℓ' ℓ' ((xₓ + 8) :: W) W 1 s2ₓ s3ₓ := XM.pop e3ₓ (by rw [encM_o (by omega)]; omega) (fun O cₓ R => XS_one (x_adpop hlₓ (by omega) (t3ₓ rfl).mu))
        exact ((m1ₓ.tr m2ₓ).tr m3ₓ).tr (ihₓ s3ₓ (h3ₓ.p23 hppₓ) ((t3ₓ rfl).p23 hppₓ) eₓ)
      · rw [mIf_neg (fun qₓ => qₓ rfl)] at eₓ
        obtain ⟨rfl, rfl⟩ := some_el eₓ
        exact XM.off (m1ₓ.1.tr m2ₓ.1)
    have to : sk F N (σ 0 14) < N → (F (sk F N (σ 0 14)) = 43 ∨ F (sk F N (σ 0 14)) = 45) → b_X12_sum_27 (j_X12_sum 0 nₓ) nₓ 0 (upS σ 0 14 (sk F N (σ 0 14))) = some (rₓ, σ') → XM F N ℓ' ℓ' W W rₓ σ σ' := by
      intro hNₓ hoₓ eₓ
      unfold b_X12_sum_27 at eₓ
      rw [mRd_e, mRd_e, upS_s] at eₓ
      have hbₓ := byte_is h1ₓ.1 hq0ₓ hNₓ (kₓ := 43) (by decide) (by decide)
      by_cases cₓ : upS σ 0 14 (sk F N (σ 0 14)) 1 (sk F N (σ 0 14)).toNat = 43
      · rw [mIf_neg (fun qₓ => qₓ cₓ)] at eₓ; exact goₓ _ hNₓ (Or.inl ⟨hbₓ.mp cₓ, rfl⟩) eₓ
      · rw [mIf_pos cₓ] at eₓ; exact goₓ _ hNₓ (Or.inr ⟨by have : ¬ F (sk F N (σ 0 14)) = 43 := fun gₓ => cₓ (hbₓ.mpr gₓ); omega, rfl⟩) eₓ
    by_cases c1ₓ : bt F N (sk F N (σ 0 14)) = 43
    · rw [mIf_pos c1ₓ] at eₓ
      have h2ₓ := bt_lt (by decide) c1ₓ
      exact to h2ₓ.1 (Or.inl h2ₓ.2) eₓ
    · rw [mIf_neg c1ₓ] at eₓ
      obtain ⟨r2ₓ, s2ₓ, e2ₓ, eₓ⟩ := mCall_el eₓ
      obtain ⟨rfl, rfl⟩ := r_seem h1ₓ.1 h1ₓ.2.1.1 e2ₓ
      rw [upS_s, sk_idem, upS_upS] at eₓ
      by_cases c2ₓ : bt F N (sk F N (σ 0 14)) = 45
      · rw [mIf_neg (fun qₓ => qₓ c2ₓ)] at eₓ
        have h2ₓ := bt_lt (by decide) c2ₓ
        exact to h2ₓ.1 (Or.inr h2ₓ.2) eₓ
      · rw [mIf_pos c2ₓ] at eₓ
        obtain ⟨rfl, rfl⟩ := some_el eₓ
        exact XM.stay hₓ
theorem rx_sum (hlₓ : (ℓ = 3 ∧ ℓ' = 5) ∨ (ℓ = 4 ∧ ℓ' = 6)) (hWₓ : xtop isMu W = false) (hW2ₓ : xtop isAd W = false) (hₓ : OKM F N σ) (eₓ : m_X12_sum nₓ 0 σ = some (rₓ, σ')) : XM F N ℓ ℓ' W W rₓ σ σ' := by
  unfold m_X12_sum at eₓ
  obtain ⟨r1ₓ, s1ₓ, e1ₓ, eₓ⟩ := mCall_el eₓ
  have m1ₓ : XM F N ℓ ℓ' W W r1ₓ σ s1ₓ := rx_term hlₓ hWₓ hₓ e1ₓ
  obtain ⟨-, h1ₓ, t1ₓ⟩ := r_term hlₓ hₓ e1ₓ (S := [])
  rcases h1ₓ with ⟨rfl, h1ₓ, -⟩ | ⟨rfl, h1ₓ, -⟩
  · rw [mIf_pos (show ¬ (1 : Int) = 0 by decide)] at eₓ
    exact m1ₓ.tr (rx_sum0 hlₓ hWₓ hW2ₓ nₓ s1ₓ h1ₓ (t1ₓ rfl) eₓ)
  · rw [mIf_neg (fun qₓ => qₓ rfl)] at eₓ
    obtain ⟨rfl, rfl⟩ := some_el eₓ
    exact XM.off m1ₓ.1
/-- the second sum, and the sign put out -/
theorem rx_cmp152 (hwₓ : 0 ≤ wₓ ∧ wₓ ≤ 4) (hₓσ : OKM F N σ) (eₓ : b_X12_compare_152 nₓ 0 wₓ σ = some (rₓ, σ')) : XM F N 4 7 ((14 + wₓ) :: W) W rₓ σ σ' := by
  unfold b_X12_compare_152 at eₓ
  obtain ⟨r1ₓ, s1ₓ, e1ₓ, eₓ⟩ := mCall_el eₓ
  obtain ⟨hV1ₓ, hV2ₓ⟩ := cmp_top (W := W) (tₓ := 14 + wₓ) (by omega)
  have m1ₓ : XM F N 4 6 ((14 + wₓ) :: W) ((14 + wₓ) :: W) r1ₓ σ s1ₓ := rx_sum (Or.inr ⟨rfl, rfl⟩) hV1ₓ hV2ₓ hₓσ e1ₓ
  obtain ⟨-, h1ₓ, o1ₓ⟩ := r_sum (Or.inr ⟨rfl, rfl⟩) hₓσ e1ₓ (S := [])
  rcases h1ₓ with ⟨rfl, h1ₓ, -⟩ | ⟨rfl, h1ₓ, -⟩
  · rw [mIf_pos (show ¬ (1 : Int) = 0 by decide), mLet_e] at eₓ
    obtain ⟨r2ₓ, s2ₓ, e2ₓ, eₓ⟩ := mCall_el eₓ
    obtain ⟨rfl, rfl⟩ := some_el eₓ
    exact m1ₓ.tr (XM.pop e2ₓ (by rw [encM_o (by omega)]; omega) (fun O cₓ R => XS_one (x_done (by omega) (o1ₓ rfl))))
  · rw [mIf_neg (fun qₓ => qₓ rfl)] at eₓ
    obtain ⟨rfl, rfl⟩ := some_el eₓ
    exact XM.off m1ₓ.1
theorem rx_cmp105 (hₓσ : OKM F N σ) (haₓ : aₓ = 60 ∨ aₓ = 61 ∨ aₓ = 62) (htₓ : tₓ = if aₓ = 61 then 16 else if aₓ = 60 then (if bₓ = 0 then 14 else 15) else (if bₓ = 0 then 18 else 17)) (eₓ : b_X12_compare_105 nₓ 0 aₓ qₓ bₓ σ = some (rₓ, σ')) : XM F N 4 7 (tₓ :: W) W rₓ σ σ' := by
  unfold b_X12_compare_105 at eₓ
  rw [r_makes hₓσ.2.2.1] at eₓ
  have hk0ₓ := hₓσ.2.2.2.1
  have hk1ₓ := hₓσ.2.2.2.2
  by_cases c60ₓ : σ 0 18 = 60
  · rw [if_pos c60ₓ, mCall_s, mIf_neg (fun qₓ => qₓ rfl)] at eₓ
    obtain ⟨rfl, rfl⟩ := some_el eₓ
    exact XM.off (L0.up (by decide)).km
  · rw [if_neg c60ₓ, mCall_s, mIf_pos (show ¬ (1 : Int) = 0 by decide)] at eₓ
    have h2ₓ : OKM F N (upS σ 0 18 (σ 0 18 + 1)) := by
      obtain ⟨a1ₓ, a2ₓ, a3ₓ, a4ₓ, a5ₓ⟩ := hₓσ
      refine ⟨a1ₓ.up (by decide) (by omega), by rw [upS_n (by omega)]; exact a2ₓ, by rw [upS_n (by omega)]; exact a3ₓ, by rw [upS_s]; omega, by rw [upS_s]; omega⟩
    have finₓ : ∀ wₓ : Int, 0 ≤ wₓ ∧ wₓ ≤ 4 → tₓ = 14 + wₓ → b_X12_compare_152 nₓ 0 wₓ (upS σ 0 18 (σ 0 18 + 1)) = some (rₓ, σ') → XM F N 4 7 (tₓ :: W) W rₓ σ σ' := by
      intro wₓ hwₓ h3ₓ eₓ
      have m2ₓ : XM F N 4 7 ((14 + wₓ) :: W) W rₓ (upS σ 0 18 (σ 0 18 + 1)) σ' := rx_cmp152 hwₓ h2ₓ eₓ
      rw [h3ₓ]
      exact (XM.l0 (L0.up (by decide)) (upS_n (by omega))).tr m2ₓ
    by_cases c1ₓ : aₓ = 60
    · rw [if_neg (show ¬ aₓ = 61 by omega), if_pos c1ₓ] at htₓ
      rw [mIf_neg (fun qₓ => qₓ c1ₓ)] at eₓ
      by_cases c3ₓ : bₓ = 0
      · rw [if_pos c3ₓ] at htₓ; rw [mIf_pos c3ₓ] at eₓ; exact finₓ 0 (by omega) (by omega) eₓ
      · rw [if_neg c3ₓ] at htₓ; rw [mIf_neg c3ₓ] at eₓ; exact finₓ 1 (by omega) (by omega) eₓ
    · rw [mIf_pos c1ₓ] at eₓ
      by_cases c2ₓ : aₓ = 61
      · rw [if_pos c2ₓ] at htₓ; rw [mIf_neg (fun qₓ => qₓ c2ₓ)] at eₓ; exact finₓ 2 (by omega) (by omega) eₓ
      · rw [if_neg c2ₓ, if_neg c1ₓ] at htₓ
        rw [mIf_pos c2ₓ] at eₓ
        by_cases c3ₓ : bₓ = 0
        · rw [if_pos c3ₓ] at htₓ; rw [mIf_pos c3ₓ] at eₓ; exact finₓ 4 (by omega) (by omega) eₓ
        · rw [if_neg c3ₓ] at htₓ; rw [mIf_neg c3ₓ] at eₓ; exact finₓ 3 (by omega) (by omega) eₓ
theorem rx_cmp44 (hWₓ : xtop isMu W = false) (hW2ₓ : xtop isAd W = false) (hₓ : OKM F N σ) (hoₓ : opAt F N (sk F N (σ 0 14)) = false) (hNₓ : sk F N (σ 0 14) < N) (haₓ : aₓ = F (sk F N (σ 0 14))) (hcₓ : aₓ = 60 ∨ aₓ = 61 ∨ aₓ = 62) (eₓ : b_X12_compare_44 nₓ 0 aₓ (sk F N (σ 0 14)) (upS σ 0 14 (sk F N (σ 0 14))) = some (rₓ, σ')) : XM F N 5 7 W W rₓ σ σ' := by
  have hq0ₓ : 0 ≤ sk F N (σ 0 14) := Int.le_trans hₓ.2.1.1 sk_ge
  have b61ₓ : byteIs F N (sk F N (σ 0 14)) 61 = true ↔ aₓ = 61 := by rw [byteIs_i]; omega
  have b60ₓ : byteIs F N (sk F N (σ 0 14)) 60 = true ↔ aₓ = 60 := by rw [byteIs_i]; omega
  have finₓ : ∀ (q2ₓ bₓ : Int), q2ₓ = sk F N (σ 0 14) + cmpLen F N (sk F N (σ 0 14)) → 0 ≤ q2ₓ → q2ₓ ≤ N → cmpTok F N (sk F N (σ 0 14)) = (if aₓ = 61 then 16 else if aₓ = 60 then (if bₓ = 0 then 14 else 15) else (if bₓ = 0 then 18 else 17)) → b_X12_compare_105 nₓ 0 aₓ (sk F N (σ 0 14)) bₓ (upS σ 0 14 q2ₓ) = some (rₓ, σ') → XM F N 5 7 W W rₓ σ σ' := by
    intro q2ₓ bₓ h1ₓ h2ₓ h3ₓ h4ₓ eₓ
    have m1ₓ : XM F N 5 4 W (cmpTok F N (sk F N (σ 0 14)) :: W) 1 σ (upS σ 0 14 q2ₓ) := XM.mv (fun O cₓ R => XS_one (by rw [x_cmp hWₓ hW2ₓ hoₓ, h1ₓ]))
    exact m1ₓ.tr (rx_cmp105 (hₓ.mv h2ₓ h3ₓ) hcₓ h4ₓ eₓ)
  have n90ₓ : ∀ (q2ₓ : Int), q2ₓ = sk F N (σ 0 14) + cmpLen F N (sk F N (σ 0 14)) → 0 ≤ q2ₓ → q2ₓ ≤ N → (aₓ = 61 ∨ ¬ byteIs F N (sk F N (σ 0 14) + 1) 61 = true) → b_X12_compare_90 nₓ 0 aₓ (sk F N (σ 0 14)) 0 (upS σ 0 14 q2ₓ) = some (rₓ, σ') → XM F N 5 7 W W rₓ σ σ' := by
    intro q2ₓ h1ₓ h2ₓ h3ₓ h4ₓ eₓ
    unfold b_X12_compare_90 at eₓ
    rw [mIf_pos rfl] at eₓ
    refine finₓ q2ₓ 0 h1ₓ h2ₓ h3ₓ ?_ eₓ
    unfold cmpTok
    by_cases gₓ : aₓ = 61
    · rw [if_pos gₓ, if_pos (b61ₓ.mpr gₓ)]
    · have g3ₓ : ¬ byteIs F N (sk F N (σ 0 14) + 1) 61 = true := by rcases h4ₓ with h4ₓ | h4ₓ; exact absurd h4ₓ gₓ; exact h4ₓ
      rw [if_neg gₓ, if_neg (fun zₓ => gₓ (b61ₓ.mp zₓ)), if_neg g3ₓ, if_neg g3ₓ, if_pos rfl, if_pos rfl]
      by_cases g2ₓ : aₓ = 60
      · rw [if_pos g2ₓ, if_pos (b60ₓ.mpr g2ₓ)]
      · rw [if_neg g2ₓ, if_neg (fun zₓ => g2ₓ (b60ₓ.mp zₓ))]
  unfold b_X12_compare_44 at eₓ
  rw [mRd_e, mLet_e, mWr_e, upS_s, upS_upS] at eₓ
  by_cases cₓ : aₓ = 61
  · rw [mIf_pos cₓ] at eₓ
    exact n90ₓ _ (by unfold cmpLen; rw [if_neg (fun zₓ => by rw [b61ₓ.mpr cₓ] at zₓ; cases zₓ.1)]) (by omega) (by omega) (Or.inl cₓ) eₓ
  · have hv := hₓ.1.up (qₓ := 0) (kₓ := 14) (vₓ := sk F N (σ 0 14) + 1) (by decide) (by omega)
    rw [mIf_neg cₓ, mRd_e, mRd_e, upS_s, hv.1] at eₓ
    by_cases c2ₓ : sk F N (σ 0 14) + 1 < N
    · rw [mIf_neg (by omega), mRd_e, mRd_e, upS_s] at eₓ
      obtain ⟨v1ₓ, v2ₓ, v3ₓ⟩ := hv.2 (sk F N (σ 0 14) + 1) (by omega) c2ₓ
      by_cases c3ₓ : F (sk F N (σ 0 14) + 1) = 61
      · rw [mIf_neg (fun qₓ => qₓ (by omega))] at eₓ
        unfold b_X12_compare_90 at eₓ
        rw [mIf_neg (show ¬ (1 : Int) = 0 by decide), mRd_e, mLet_e, mWr_e, upS_s, upS_upS] at eₓ
        have h3ₓ : byteIs F N (sk F N (σ 0 14) + 1) 61 = true := byteIs_i.mpr ⟨c2ₓ, c3ₓ⟩
        refine finₓ _ 1 (by unfold cmpLen; rw [if_pos ⟨Bool.eq_false_iff.mpr (fun zₓ => cₓ (b61ₓ.mp zₓ)), h3ₓ⟩]; omega) (by omega) (by omega) ?_ eₓ
        unfold cmpTok
        rw [if_neg cₓ, if_neg (fun zₓ => cₓ (b61ₓ.mp zₓ)), if_pos h3ₓ, if_pos h3ₓ, if_neg (show ¬ (1 : Int) = 0 by decide), if_neg (show ¬ (1 : Int) = 0 by decide)]
        by_cases g2ₓ : aₓ = 60
        · rw [if_pos g2ₓ, if_pos (b60ₓ.mpr g2ₓ)]
        · rw [if_neg g2ₓ, if_neg (fun zₓ => g2ₓ (b60ₓ.mp zₓ))]
      · rw [mIf_pos (by omega)] at eₓ
        have h3ₓ : ¬ byteIs F N (sk F N (σ 0 14) + 1) 61 = true := fun zₓ => c3ₓ (byteIs_i.mp zₓ).2
        exact n90ₓ _ (by unfold cmpLen; rw [if_neg (fun zₓ => h3ₓ zₓ.2)]) (by omega) (by omega) (Or.inr h3ₓ) eₓ
    · rw [mIf_pos (by omega)] at eₓ
      have h3ₓ : ¬ byteIs F N (sk F N (σ 0 14) + 1) 61 = true := fun zₓ => c2ₓ (byteIs_i.mp zₓ).1
      exact n90ₓ _ (by unfold cmpLen; rw [if_neg (fun zₓ => h3ₓ zₓ.2)]) (by omega) (by omega) (Or.inr h3ₓ) eₓ
theorem rx_compare (hWₓ : lgW W) (hₓ : OKM F N σ) (eₓ : m_X12_compare nₓ 0 σ = some (rₓ, σ')) : XM F N 3 7 W W rₓ σ σ' := by
  unfold m_X12_compare at eₓ
  obtain ⟨hW1ₓ, hW2ₓ⟩ := baW_mu (kₓ := false) (W := W) hWₓ
  obtain ⟨r1ₓ, s1ₓ, e1ₓ, eₓ⟩ := mCall_el eₓ
  have m1ₓ : XM F N 3 5 W W r1ₓ σ s1ₓ := rx_sum (Or.inl ⟨rfl, rfl⟩) hW1ₓ hW2ₓ hₓ e1ₓ
  obtain ⟨-, h1ₓ, o1ₓ⟩ := r_sum (Or.inl ⟨rfl, rfl⟩) hₓ e1ₓ (S := [])
  rcases h1ₓ with ⟨rfl, h1ₓ, -⟩ | ⟨rfl, h1ₓ, -⟩
  · rw [mIf_pos (show ¬ (1 : Int) = 0 by decide)] at eₓ
    have hoₓ := o1ₓ rfl
    obtain ⟨r2ₓ, s2ₓ, e2ₓ, eₓ⟩ := mCall_el eₓ
    obtain ⟨rfl, rfl⟩ := r_seem h1ₓ.1 h1ₓ.2.1.1 e2ₓ
    rw [mRd_e, upS_s] at eₓ
    have yesₓ : (bt F N (sk F N (s1ₓ 0 14)) = 60 ∨ bt F N (sk F N (s1ₓ 0 14)) = 61 ∨ bt F N (sk F N (s1ₓ 0 14)) = 62) → b_X12_compare_44 nₓ 0 (bt F N (sk F N (s1ₓ 0 14))) (sk F N (s1ₓ 0 14)) (upS s1ₓ 0 14 (sk F N (s1ₓ 0 14))) = some (rₓ, σ') → XM F N 3 7 W W rₓ σ σ' := by
      intro hcₓ eₓ
      have h2ₓ : sk F N (s1ₓ 0 14) < N := by
        rcases hcₓ with hcₓ | hcₓ | hcₓ
        · exact (bt_lt (by decide) hcₓ).1
        · exact (bt_lt (by decide) hcₓ).1
        · exact (bt_lt (by decide) hcₓ).1
      exact m1ₓ.tr (rx_cmp44 hW1ₓ hW2ₓ h1ₓ hoₓ h2ₓ (if_pos h2ₓ) hcₓ eₓ)
    by_cases c1ₓ : bt F N (sk F N (s1ₓ 0 14)) = 60
    · rw [mIf_pos c1ₓ] at eₓ; exact yesₓ (Or.inl c1ₓ) eₓ
    rw [mIf_neg c1ₓ] at eₓ
    by_cases c2ₓ : bt F N (sk F N (s1ₓ 0 14)) = 61
    · rw [mIf_pos c2ₓ] at eₓ; exact yesₓ (Or.inr (Or.inl c2ₓ)) eₓ
    rw [mIf_neg c2ₓ] at eₓ
    by_cases c3ₓ : bt F N (sk F N (s1ₓ 0 14)) = 62
    · rw [mIf_pos c3ₓ] at eₓ; exact yesₓ (Or.inr (Or.inr c3ₓ)) eₓ
    rw [mIf_neg c3ₓ, r_fails ((upS_n (by omega)).trans h1ₓ.2.2.1), mCall_s, Int.add_zero] at eₓ
    obtain ⟨rfl, rfl⟩ := some_el eₓ
    exact XM.off (m1ₓ.1.tr ((L0.up (by decide)).tr (L0.up (by decide))).km)
  · rw [mIf_neg (fun qₓ => qₓ rfl)] at eₓ
    obtain ⟨rfl, rfl⟩ := some_el eₓ
    exact XM.off m1ₓ.1
end
