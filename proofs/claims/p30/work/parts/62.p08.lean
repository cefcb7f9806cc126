/-! the reference's clauses of aₓ town -/
section
variable {F : Int → Int} {N pₓ L qₓ : Int} {σ σ' τ : SS} {rₓ : Int} {nₓ : Nat} {D D' : Nat → Int}
theorem tW_e {qₓ : Int} : tW F N qₓ = if isWd F N qₓ [99, 111, 114, 110, 101, 114, 115] = true then 0 else if isWd F N qₓ [115, 116, 114, 101, 101, 116] = true then 1 else if isWd F N qₓ [115, 97, 105, 110, 116] = true then 2 else if isWd F N qₓ [108, 105, 102, 116] = true then 3 else -1 := by
  have hₓ : ∀ (W : List Int) (Ws : List (List Int)) (num : Int), idxW F (wd F N qₓ) qₓ (W :: Ws) num = if isWd F N qₓ W = true then num else idxW F (wd F N qₓ) qₓ Ws (num + 1) := fun W Ws num => by
    show (if wEq F qₓ W = true ∧ qₓ + W.length = wd F N qₓ then num else _) = _
    unfold isWd
    by_cases cₓ : wEq F qₓ W = true ∧ qₓ + W.length = wd F N qₓ
    · rw [if_pos cₓ, if_pos (by rw [Bool.and_eq_true]; exact ⟨decide_eq_true cₓ.2.symm, cₓ.1⟩)]
    · rw [if_neg cₓ, if_neg (fun zₓ => by rw [Bool.and_eq_true] at zₓ; exact cₓ ⟨zₓ.2, (of_decide_eq_true zₓ.1).symm⟩)]
  unfold tW
  show idxW F (wd F N qₓ) qₓ [[99, 111, 114, 110, 101, 114, 115], [115, 116, 114, 101, 101, 116], [115, 97, 105, 110, 116], [108, 105, 102, 116]] 0 = _
  rw [hₓ, hₓ, hₓ, hₓ]
  rfl
theorem wd_t0 : WD 27988559963452019 [99, 111, 114, 110, 101, 114, 115] := by unfold WD; decide
theorem wd_t1 : WD 126943972648308 [115, 116, 114, 101, 101, 116] := by unfold WD; decide
theorem wd_t2 : WD 495555538548 [115, 97, 105, 110, 116] := by unfold WD; decide
theorem wd_t3 : WD 1818846836 [108, 105, 102, 116] := by unfold WD; decide
theorem nmK_sk {lo hiₓ : Int} {K : Int → Int → TCf} : nmK F N lo hiₓ (sk F N pₓ) K = nmK F N lo hiₓ pₓ K := by unfold nmK; rw [sk_idem]
def CM (D : Nat → Int) (σ : SS) : Prop := (σ 0 7 = D 0 ∧ σ 0 8 = D 1 ∧ σ 0 9 = D 2 ∧ σ 0 10 = D 3) ∧ (∀ kₓ : Nat, (kₓ : Int) < 10 * D 1 → σ 6 kₓ = D (10 + kₓ)) ∧ (∀ kₓ : Nat, (kₓ : Int) < 2 * D 2 → σ 7 kₓ = D (140 + kₓ)) ∧ ∀ kₓ : Nat, (kₓ : Int) < 3 * D 3 → σ 8 kₓ = D (156 + kₓ)
def KR (σ σ' : SS) : Prop := ∀ qₓ kₓ : Nat, (qₓ = 1 ∨ 9 ≤ qₓ ∨ (2 ≤ qₓ ∧ qₓ ≤ 5) ∨ (qₓ = 0 ∧ (kₓ = 1 ∨ kₓ = 2 ∨ kₓ = 17 ∨ kₓ = 18 ∨ kₓ = 20))) → σ' qₓ kₓ = σ qₓ kₓ
theorem KR.rf : KR σ σ := fun _ _ _ => rfl
theorem KR.tr {σ'' : SS} (hₓ : KR σ σ') (gₓ : KR σ' σ'') : KR σ σ'' := fun qₓ kₓ eₓ => (gₓ qₓ kₓ eₓ).trans (hₓ qₓ kₓ eₓ)
theorem KR.up {qₓ kₓ : Nat} {vₓ : Int} (hₓ : (qₓ = 0 ∧ (kₓ = 7 ∨ kₓ = 8 ∨ kₓ = 9 ∨ kₓ = 10 ∨ kₓ = 14 ∨ kₓ = 15 ∨ kₓ = 16)) ∨ qₓ = 6 ∨ qₓ = 7 ∨ qₓ = 8) : KR σ (upS σ qₓ kₓ vₓ) := fun _ _ _ => upS_n (by omega)
theorem KR_rN {eₓ vₓ : Int} : KR σ (rN σ eₓ vₓ) := fun _ _ _ => by unfold rN; rw [upS_n (by omega), upS_n (by omega)]
theorem MV.kr (hₓ : MV F N σ) (eₓ : KR σ σ') : MV F N σ' := ⟨(eₓ 0 1 (by omega)).trans hₓ.1, fun jₓ h0ₓ h1ₓ => by rw [eₓ 1 _ (by omega)]; exact hₓ.2 jₓ h0ₓ h1ₓ⟩
theorem rN_14 {eₓ vₓ : Int} : rN σ eₓ vₓ 0 14 = eₓ := by unfold rN; rw [upS_k (by decide), upS_s]
theorem rN_16 {eₓ vₓ : Int} : rN σ eₓ vₓ 0 16 = vₓ := upS_s
theorem rN_n {eₓ vₓ : Int} {qₓ kₓ : Nat} (hₓ : ¬ (qₓ = 0 ∧ (kₓ = 14 ∨ kₓ = 16))) : rN σ eₓ vₓ qₓ kₓ = σ qₓ kₓ := by unfold rN; rw [upS_n (by omega), upS_n (by omega)]
theorem r_num (hₓ : MV F N σ) {lo hiₓ : Int} (hpₓ : 0 ≤ σ 0 14) (hNₓ : σ 0 14 ≤ N) (hfₓ : σ 0 15 = 0) (eₓ : m_X12_numberHere nₓ 0 lo hiₓ σ = some (rₓ, σ')) : (rₓ = 0 ∧ σ' 0 15 ≠ 0 ∧ KR σ σ' ∧ ∀ K, nmK F N lo hiₓ (σ 0 14) K = tH (σ' 0 15)) ∨ (∃ vₓ xₓ : Int, rₓ = 1 ∧ σ' = rN σ xₓ vₓ ∧ lo ≤ vₓ ∧ vₓ ≤ hiₓ ∧ 0 ≤ vₓ ∧ 0 ≤ xₓ ∧ xₓ ≤ N ∧ ∀ K, nmK F N lo hiₓ (σ 0 14) K = K vₓ xₓ) := by
  have hqₓ : 0 ≤ sk F N (σ 0 14) := Int.le_trans hpₓ sk_ge
  rcases r_number hₓ hpₓ hfₓ eₓ with ⟨h1ₓ, rfl, rfl⟩ | ⟨h1ₓ, h2ₓ, ⟨h3ₓ, rfl, rfl⟩ | ⟨h3ₓ, rfl, rfl⟩⟩
  · exact Or.inl ⟨rfl, by rw [upS_s]; omega, (KR.up (by omega)).tr (KR.up (by omega)), fun K => by rw [upS_s]; exact nmK_bad h1ₓ⟩
  · exact Or.inl ⟨rfl, by rw [upS_s]; omega, KR_rN.tr (KR.up (by omega)), fun K => by rw [upS_s]; exact nmK_off h1ₓ h3ₓ⟩
  · exact Or.inr ⟨_, _, rfl, rfl, h3ₓ.2.1, h3ₓ.2.2, h2ₓ.1, Int.le_trans hqₓ dg_ge, dg_ub (sk_ub hNₓ), fun K => nmK_ok h1ₓ h3ₓ⟩
def RO (F : Int → Int) (N L : Int) (rₓ : Int) (σ' : SS) (X : TCf) : Prop := (rₓ = 0 ∧ σ' 0 15 ≠ 0 ∧ X = tH (σ' 0 15)) ∨ (rₓ = 1 ∧ σ' 0 15 = 0 ∧ 0 ≤ σ' 0 14 ∧ σ' 0 14 ≤ N ∧ ∃ D' : Nat → Int, X = tE F N L D' (σ' 0 14) ∧ CM D' σ' ∧ OD D' ∧ 2 ≤ D' 0)
theorem r_corners (hₓ : MV F N σ) (hTₓ : CM D σ) (hOₓ : OD D) (h0ₓ : D 0 = 0) (hpₓ : 0 ≤ σ 0 14) (hNₓ : σ 0 14 ≤ N) (hfₓ : σ 0 15 = 0) (hqₓ : σ 0 14 = qₓ) (eₓ : m_X12_areCornersHere nₓ 0 qₓ σ = some (rₓ, σ')) : KR σ σ' ∧ RO F N L rₓ σ' (nmK F N 2 10 (wd F N qₓ) fun vₓ eₓ => tE F N L (uD D 0 vₓ) eₓ) := by
  subst hqₓ
  unfold m_X12_areCornersHere at eₓ
  rw [mRd_e, hTₓ.1.1, mIf_pos (by omega)] at eₓ
  obtain ⟨r1ₓ, s1ₓ, e1ₓ, eₓ⟩ := mCall_el eₓ
  have e1ₓ := r_passWordm hₓ hpₓ e1ₓ
  subst e1ₓ
  have k1ₓ : KR σ (upS σ 0 14 (wd F N (σ 0 14))) := KR.up (by omega)
  have hwₓ : 0 ≤ wd F N (σ 0 14) := Int.le_trans hpₓ wd_ge
  have f15ₓ : upS σ 0 14 (wd F N (σ 0 14)) 0 15 = 0 := (upS_k (by decide)).trans hfₓ
  obtain ⟨r2ₓ, s2ₓ, e2ₓ, eₓ⟩ := mCall_el eₓ
  rcases r_num (hₓ.kr k1ₓ) (by rw [upS_s]; exact hwₓ) (by rw [upS_s]; exact wd_ub hNₓ) f15ₓ e2ₓ with ⟨rfl, c1ₓ, c2ₓ, c3ₓ⟩ | ⟨vₓ, xₓ, rfl, rfl, c1ₓ, c2ₓ, c3ₓ, c4ₓ, c5ₓ, c6ₓ⟩
  · rw [mIf_neg (fun zₓ => zₓ rfl)] at eₓ
    obtain ⟨rfl, rfl⟩ := some_el eₓ
    rw [upS_s] at c3ₓ
    exact ⟨k1ₓ.tr c2ₓ, Or.inl ⟨rfl, c1ₓ, c3ₓ _⟩⟩
  · rw [mIf_pos (by decide), mRd_e, rN_16, mWr_e] at eₓ
    obtain ⟨rfl, rfl⟩ := some_el eₓ
    rw [upS_s] at c6ₓ
    obtain ⟨⟨t7ₓ, t8ₓ, t9ₓ, t10ₓ⟩, tS, tZ, tL⟩ := hTₓ
    obtain ⟨o0ₓ, o1ₓ, o2ₓ, o3ₓ, o4ₓ⟩ := hOₓ
    have esₓ : ∀ qₓ kₓ : Nat, ¬ (qₓ = 0 ∧ (kₓ = 7 ∨ kₓ = 14 ∨ kₓ = 16)) → upS (rN (upS σ 0 14 (wd F N (σ 0 14))) xₓ vₓ) 0 7 vₓ qₓ kₓ = σ qₓ kₓ := fun qₓ kₓ aₓ => by rw [upS_n (by omega), rN_n (by omega), upS_n (by omega)]
    have e14ₓ : upS (rN (upS σ 0 14 (wd F N (σ 0 14))) xₓ vₓ) 0 7 vₓ 0 14 = xₓ := by rw [upS_k (by decide), rN_14]
    refine ⟨(k1ₓ.tr KR_rN).tr (KR.up (by omega)), Or.inr ⟨rfl, by rw [esₓ _ _ (by omega)]; exact hfₓ, by rw [e14ₓ]; exact c4ₓ, by rw [e14ₓ]; exact c5ₓ, uD D 0 vₓ, by rw [e14ₓ]; exact c6ₓ _, ⟨⟨?_, ?_, ?_, ?_⟩, fun kₓ hkₓ => ?_, fun kₓ hkₓ => ?_, fun kₓ hkₓ => ?_⟩, ?_, by rw [uD_s]; exact c1ₓ⟩⟩
    · rw [upS_s, uD_s]
    · rw [esₓ _ _ (by omega), t8ₓ, uD_n (by decide)]
    · rw [esₓ _ _ (by omega), t9ₓ, uD_n (by decide)]
    · rw [esₓ _ _ (by omega), t10ₓ, uD_n (by decide)]
    · rw [uD_n (by decide)] at hkₓ
      rw [esₓ _ _ (by omega), uD_n (by omega)]; exact tS kₓ hkₓ
    · rw [uD_n (by decide)] at hkₓ
      rw [esₓ _ _ (by omega), uD_n (by omega)]; exact tZ kₓ hkₓ
    · rw [uD_n (by decide)] at hkₓ
      rw [esₓ _ _ (by omega), uD_n (by omega)]; exact tL kₓ hkₓ
    · refine ⟨by rw [uD_s]; omega, by rw [uD_n (by decide)]; exact o1ₓ, by rw [uD_n (by decide)]; exact o2ₓ, by rw [uD_n (by decide)]; exact o3ₓ, fun kₓ hkₓ => ?_⟩
      rw [uD_n (by decide)] at hkₓ
      rw [uD_n (by omega), uD_n (by decide)]; exact o4ₓ kₓ hkₓ
theorem r_saint (hₓ : MV F N σ) (hTₓ : CM D σ) (hOₓ : OD D) (h2ₓ : 2 ≤ D 0) (h8ₓ : ¬ 8 ≤ D 2) (hpₓ : 0 ≤ σ 0 14) (hNₓ : σ 0 14 ≤ N) (hfₓ : σ 0 15 = 0) (hqₓ : σ 0 14 = qₓ) (eₓ : m_X12_isSaintHere nₓ 0 qₓ σ = some (rₓ, σ')) : KR σ σ' ∧ RO F N L rₓ σ' (tSaint F N qₓ L D) := by
  subst hqₓ
  obtain ⟨⟨t7ₓ, t8ₓ, t9ₓ, t10ₓ⟩, tS, tZ, tL⟩ := id hTₓ
  obtain ⟨o0ₓ, o1ₓ, o2ₓ, o3ₓ, o4ₓ⟩ := id hOₓ
  unfold m_X12_isSaintHere at eₓ
  rw [mRd_e, t9ₓ, mIf_pos (by omega)] at eₓ
  obtain ⟨r1ₓ, s1ₓ, e1ₓ, eₓ⟩ := mCall_el eₓ
  have e1ₓ := r_passWordm hₓ hpₓ e1ₓ
  subst e1ₓ
  have k1ₓ : KR σ (upS σ 0 14 (wd F N (σ 0 14))) := KR.up (by omega)
  have hwₓ : 0 ≤ wd F N (σ 0 14) := Int.le_trans hpₓ wd_ge
  have f15ₓ : upS σ 0 14 (wd F N (σ 0 14)) 0 15 = 0 := (upS_k (by decide)).trans hfₓ
  rw [mRd_e, upS_k (by decide), t7ₓ, mLet_e] at eₓ
  obtain ⟨r2ₓ, s2ₓ, e2ₓ, eₓ⟩ := mCall_el eₓ
  unfold tSaint
  rcases r_num (hₓ.kr k1ₓ) (by rw [upS_s]; exact hwₓ) (by rw [upS_s]; exact wd_ub hNₓ) f15ₓ e2ₓ with ⟨rfl, c1ₓ, c2ₓ, c3ₓ⟩ | ⟨xₓ, d1ₓ, rfl, rfl, c1ₓ, c2ₓ, c3ₓ, c4ₓ, c5ₓ, c6ₓ⟩
  · rw [mIf_neg (fun zₓ => zₓ rfl)] at eₓ
    obtain ⟨rfl, rfl⟩ := some_el eₓ
    rw [upS_s] at c3ₓ
    exact ⟨k1ₓ.tr c2ₓ, Or.inl ⟨rfl, c1ₓ, c3ₓ _⟩⟩
  · rw [upS_s] at c6ₓ
    rw [c6ₓ]
    obtain ⟨aₓ, haₓ⟩ : ∃ aₓ : Nat, D 2 = (aₓ : Int) := ⟨(D 2).toNat, by omega⟩
    have hatₓ : (D 2).toNat = aₓ := by omega
    rw [hatₓ]
    have ea : (2 * (aₓ : Int)).toNat = 2 * aₓ := by omega
    have eb : (2 * (aₓ : Int) + 1).toNat = 2 * aₓ + 1 := by omega
    rw [mIf_pos (by decide), mRd_e, rN_n (by omega), upS_k (by decide), t9ₓ, haₓ, mLet_e, mRd_e, rN_16, mWr_e, ea] at eₓ
    obtain ⟨sₓ, hsₓ⟩ : ∃ sₓ, sₓ = upS (rN (upS σ 0 14 (wd F N (σ 0 14))) d1ₓ xₓ) 7 (2 * aₓ) xₓ := ⟨_, rfl⟩
    rw [← hsₓ] at eₓ
    have ks : KR σ sₓ := by rw [hsₓ]; exact (k1ₓ.tr KR_rN).tr (KR.up (by omega))
    have s14ₓ : sₓ 0 14 = d1ₓ := by rw [hsₓ, upS_q (by decide), rN_14]
    have sn : ∀ qₓ kₓ : Nat, ¬ (qₓ = 0 ∧ (kₓ = 14 ∨ kₓ = 16)) → ¬ (qₓ = 7 ∧ kₓ = 2 * aₓ) → sₓ qₓ kₓ = σ qₓ kₓ := fun qₓ kₓ a1ₓ a2ₓ => by rw [hsₓ, upS_n (by omega), rN_n (by omega), upS_n (by omega)]
    obtain ⟨r3ₓ, s3ₓ, e3ₓ, eₓ⟩ := mCall_el eₓ
    rcases r_num (hₓ.kr ks) (by rw [s14ₓ]; exact c4ₓ) (by rw [s14ₓ]; exact c5ₓ) ((sn 0 15 (by omega) (by omega)).trans hfₓ) e3ₓ with ⟨rfl, g1ₓ, g2ₓ, g3ₓ⟩ | ⟨yₓ, d2ₓ, rfl, rfl, g1ₓ, g2ₓ, g3ₓ, g4ₓ, g5ₓ, g6ₓ⟩
    · rw [mIf_neg (fun zₓ => zₓ rfl)] at eₓ
      obtain ⟨rfl, rfl⟩ := some_el eₓ
      rw [s14ₓ] at g3ₓ
      exact ⟨ks.tr g2ₓ, Or.inl ⟨rfl, g1ₓ, g3ₓ _⟩⟩
    · rw [s14ₓ] at g6ₓ
      rw [g6ₓ]
      rw [mIf_pos (by decide), mRd_e, rN_n (by omega), sn 0 9 (by omega) (by omega), t9ₓ, haₓ, mLet_e, mLet_e, mRd_e, rN_16, mWr_e, eb, mRd_e, upS_q (by decide), rN_n (by omega), sn 0 9 (by omega) (by omega), t9ₓ, mLet_e, mWr_e] at eₓ
      obtain ⟨rfl, rfl⟩ := some_el eₓ
      have esₓ : ∀ qₓ kₓ : Nat, ¬ (qₓ = 0 ∧ (kₓ = 9 ∨ kₓ = 14 ∨ kₓ = 16)) → ¬ (qₓ = 7 ∧ (kₓ = 2 * aₓ ∨ kₓ = 2 * aₓ + 1)) → upS (upS (rN sₓ d2ₓ yₓ) 7 (2 * aₓ + 1) yₓ) 0 9 (D 2 + 1) qₓ kₓ = σ qₓ kₓ := fun qₓ kₓ a1ₓ a2ₓ => by rw [upS_n (by omega), upS_n (by omega), rN_n (by omega), sn qₓ kₓ (by omega) (by omega)]
      have e14ₓ : upS (upS (rN sₓ d2ₓ yₓ) 7 (2 * aₓ + 1) yₓ) 0 9 (D 2 + 1) 0 14 = d2ₓ := by rw [upS_k (by decide), upS_q (by decide), rN_14]
      have eD : ∀ kₓ : Nat, kₓ ≠ 2 → kₓ ≠ 140 + 2 * aₓ → kₓ ≠ 141 + 2 * aₓ → uD (uD (uD D (140 + 2 * aₓ) xₓ) (141 + 2 * aₓ) yₓ) 2 (D 2 + 1) kₓ = D kₓ := fun kₓ k1ₓ k2ₓ k3ₓ => by rw [uD_n k1ₓ, uD_n k3ₓ, uD_n k2ₓ]
      refine ⟨((ks.tr KR_rN).tr (KR.up (by omega))).tr (KR.up (by omega)), Or.inr ⟨rfl, by rw [esₓ _ _ (by omega) (by omega)]; exact hfₓ, by rw [e14ₓ]; exact g4ₓ, by rw [e14ₓ]; exact g5ₓ, _, by rw [e14ₓ], ⟨⟨?_, ?_, ?_, ?_⟩, fun kₓ hkₓ => ?_, fun kₓ hkₓ => ?_, fun kₓ hkₓ => ?_⟩, ?_, by rw [eD _ (by omega) (by omega) (by omega)]; exact h2ₓ⟩⟩
      · rw [esₓ _ _ (by omega) (by omega), t7ₓ, eD _ (by omega) (by omega) (by omega)]
      · rw [esₓ _ _ (by omega) (by omega), t8ₓ, eD _ (by omega) (by omega) (by omega)]
      · rw [upS_s, uD_s]
      · rw [esₓ _ _ (by omega) (by omega), t10ₓ, eD _ (by omega) (by omega) (by omega)]
      · rw [eD 1 (by omega) (by omega) (by omega)] at hkₓ
        rw [esₓ _ _ (by omega) (by omega), eD _ (by omega) (by omega) (by omega)]; exact tS kₓ hkₓ
      · rw [uD_s] at hkₓ
        by_cases c1ₓ : kₓ = 2 * aₓ
        · subst c1ₓ
          rw [upS_q (by decide), upS_k (by omega), rN_n (by omega), hsₓ, upS_s, uD_n (by omega), uD_n (by omega), uD_s]
        · by_cases c2ₓ : kₓ = 2 * aₓ + 1
          · subst c2ₓ
            rw [upS_q (by decide), upS_s, uD_n (by omega), show 140 + (2 * aₓ + 1) = 141 + 2 * aₓ by omega, uD_s]
          · rw [esₓ _ _ (by omega) (by omega), eD _ (by omega) (by omega) (by omega)]; exact tZ kₓ (by omega)
      · rw [eD 3 (by omega) (by omega) (by omega)] at hkₓ
        rw [esₓ _ _ (by omega) (by omega), eD _ (by omega) (by omega) (by omega)]; exact tL kₓ hkₓ
      · refine ⟨by rw [eD 0 (by omega) (by omega) (by omega)]; exact o0ₓ, by rw [eD 1 (by omega) (by omega) (by omega)]; exact o1ₓ, by rw [uD_s]; omega, by rw [eD 3 (by omega) (by omega) (by omega)]; exact o3ₓ, fun kₓ hkₓ => ?_⟩
        rw [eD 3 (by omega) (by omega) (by omega)] at hkₓ
        rw [eD (156 + 3 * kₓ) (by omega) (by omega) (by omega), eD 1 (by omega) (by omega) (by omega)]
        exact o4ₓ kₓ hkₓ
end
