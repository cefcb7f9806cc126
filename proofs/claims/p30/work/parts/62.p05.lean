/-! the class's town(): all clauses -/
section
variable {F : Int → Int} {N pₓ gₓ φ L qₓ : Int} {σ σ' τ : SS} {rₓ : Int} {nₓ : Nat} {D D' : Nat → Int}
theorem idxW_r {eₓ pₓ : Int} : ∀ (Ws : List (List Int)) (num : Int), idxW F eₓ pₓ Ws num = -1 ∨ (num ≤ idxW F eₓ pₓ Ws num ∧ idxW F eₓ pₓ Ws num < num + Ws.length)
  | [], _ => Or.inl rfl
  | W :: Ws, num => by
    have hₓ : idxW F eₓ pₓ (W :: Ws) num = if wEq F pₓ W = true ∧ pₓ + W.length = eₓ then num else idxW F eₓ pₓ Ws (num + 1) := rfl
    have hlₓ : ((W :: Ws).length : Int) = Ws.length + 1 := by rw [List.length_cons]; omega
    rw [hₓ]
    by_cases cₓ : wEq F pₓ W = true ∧ pₓ + W.length = eₓ
    · rw [if_pos cₓ]; exact Or.inr ⟨by omega, by omega⟩
    · rw [if_neg cₓ]
      rcases idxW_r Ws (num + 1) with h1ₓ | ⟨h1ₓ, h2ₓ⟩
      · exact Or.inl h1ₓ
      · exact Or.inr ⟨by omega, by omega⟩
theorem tW_r {qₓ : Int} : tW F N qₓ = -1 ∨ tW F N qₓ = 0 ∨ tW F N qₓ = 1 ∨ tW F N qₓ = 2 ∨ tW F N qₓ = 3 := by
  unfold tW
  have hₓ := idxW_r (F := F) (eₓ := wd F N qₓ) (pₓ := qₓ) (wls 0) 0
  have hlₓ : ((wls 0).length : Int) = 4 := rfl
  rw [hlₓ] at hₓ
  omega
theorem c_isTooMany {wₓ : Int} (hTₓ : CT 29 D σ) (hwₓ : wₓ = 0 ∨ wₓ = 1 ∨ wₓ = 2 ∨ wₓ = 3) (hLₓ : 0 ≤ L) : m_X7_isTooMany nₓ 29 wₓ L (tp σ pₓ gₓ φ) = some (if tBad wₓ L D then 1 else 0, tp σ pₓ gₓ φ) := by
  obtain ⟨⟨t8ₓ, t9ₓ, t10ₓ, t11ₓ⟩, tS, tZ⟩ := hTₓ
  have yesₓ : tBad wₓ L D → some ((1 : Int), tp σ pₓ gₓ φ) = some (if tBad wₓ L D then 1 else 0, tp σ pₓ gₓ φ) := fun hₓ => by rw [if_pos hₓ]
  have noₓ : ¬ tBad wₓ L D → some ((0 : Int), tp σ pₓ gₓ φ) = some (if tBad wₓ L D then 1 else 0, tp σ pₓ gₓ φ) := fun hₓ => by rw [if_neg hₓ]
  unfold m_X7_isTooMany b_X7_isTooMany_27
  by_cases c32ₓ : 32 ≤ L
  · rw [mIf_pos c32ₓ]; exact yesₓ (Or.inl c32ₓ)
  · rw [mIf_neg c32ₓ]
    by_cases c0ₓ : L = 0
    · rcases hwₓ with rfl | rfl | rfl | rfl
      · rw [mIf_neg (fun zₓ => zₓ rfl), mIf_neg (fun zₓ => zₓ c0ₓ), mIf_pos (show (1 : Int) = 1 from rfl), mIf_pos (show (0 : Int) = 0 from rfl)]
        exact noₓ (by unfold tBad; omega)
      all_goals rw [mIf_pos (by decide), mIf_neg (fun zₓ => zₓ c0ₓ), mIf_neg (by decide)]; exact yesₓ (by unfold tBad; omega)
    · rcases hwₓ with rfl | rfl | rfl | rfl
      · rw [mIf_neg (fun zₓ => zₓ rfl), mIf_pos c0ₓ, mIf_neg (show ¬ (1 : Int) = 0 by decide)]; exact yesₓ (by unfold tBad; omega)
      · rw [mIf_pos (show ¬ (1 : Int) = 0 by decide), mIf_pos c0ₓ, mIf_pos (show (0 : Int) = 0 from rfl), mIf_neg (show ¬ (1 : Int) = 0 by decide), mIf_pos (show (1 : Int) = 1 from rfl), mRd_e, tp_o (by decide), t9ₓ]
        by_cases cₓ : D 1 < 12
        · rw [mIf_pos cₓ]; exact noₓ (by unfold tBad; omega)
        · rw [mIf_neg cₓ]; exact yesₓ (by unfold tBad; omega)
      · rw [mIf_pos (show ¬ (2 : Int) = 0 by decide), mIf_pos c0ₓ, mIf_pos (show (0 : Int) = 0 from rfl), mIf_neg (show ¬ (2 : Int) = 0 by decide), mIf_neg (show ¬ (2 : Int) = 1 by decide), mIf_pos (show (2 : Int) = 2 from rfl), mRd_e, tp_o (by decide), t10ₓ]
        by_cases cₓ : D 2 < 8
        · rw [mIf_pos cₓ]; exact noₓ (by unfold tBad; omega)
        · rw [mIf_neg cₓ]; exact yesₓ (by unfold tBad; omega)
      · rw [mIf_pos (show ¬ (3 : Int) = 0 by decide), mIf_pos c0ₓ, mIf_pos (show (0 : Int) = 0 from rfl), mIf_neg (show ¬ (3 : Int) = 0 by decide), mIf_neg (show ¬ (3 : Int) = 1 by decide), mIf_neg (show ¬ (3 : Int) = 2 by decide), mRd_e, tp_o (by decide), t11ₓ]
        by_cases cₓ : D 3 < 4
        · rw [mIf_pos cₓ]; exact noₓ (by unfold tBad; omega)
        · rw [mIf_neg cₓ]; exact yesₓ (by unfold tBad; omega)
theorem c_clauseF {wₓ : Int} (hₓφ : φ ≠ 0) (eₓ : m_X7_readClause nₓ 29 1 wₓ (tp σ pₓ gₓ φ) = some (rₓ, σ')) : σ' = tp σ pₓ gₓ φ := by
  unfold m_X7_readClause at eₓ
  rw [c_isFaulty, mCall_s, if_neg hₓφ, mIf_neg (by decide)] at eₓ
  exact (some_el eₓ).2
theorem c_clause {wₓ : Int} (hcₓ : CV F N σ) (hTₓ : CT 29 D σ) (hOₓ : OD D) (hwₓ : wₓ = 0 ∨ wₓ = 1 ∨ wₓ = 2 ∨ wₓ = 3) (hBₓ : ¬ tBad wₓ L D) (hpₓ : 0 ≤ wd F N qₓ) (hNₓ : wd F N qₓ ≤ N) (eₓ : m_X7_readClause nₓ 29 1 wₓ (tp σ (wd F N qₓ) gₓ 0) = some (rₓ, σ')) : CO F N L σ σ' (if wₓ = 0 then nmK F N 2 10 (wd F N qₓ) fun vₓ eₓ => tE F N L (uD D 0 vₓ) eₓ else if wₓ = 1 then tStreet F N qₓ L D else if wₓ = 2 then tSaint F N qₓ L D else tLift F N qₓ L D) := by
  unfold m_X7_readClause b_X7_readClause_57 at eₓ
  rw [c_isFaulty, mCall_s, if_pos rfl, mIf_pos rfl] at eₓ
  unfold tBad at hBₓ
  rcases hwₓ with rfl | rfl | rfl | rfl
  · rw [mIf_neg (fun zₓ => zₓ rfl)] at eₓ
    rw [if_pos rfl]
    obtain ⟨xₓ, s1ₓ, e1ₓ, eₓ⟩ := mCall_el eₓ
    rcases c_num hcₓ hpₓ hNₓ e1ₓ with ⟨p1ₓ, φ, hₓφ, rfl, rfl, hKₓ⟩ | ⟨rfl, x0ₓ, x1ₓ, x2ₓ, d0ₓ, dN, hKₓ⟩
    · rw [mWr_e, tp_up_o (by decide)] at eₓ
      obtain ⟨rfl, rfl⟩ := some_el eₓ
      exact ⟨_, _, _, _, rfl, KT.up (by decide) (by decide), Or.inl ⟨hₓφ, hKₓ _⟩⟩
    · rw [mWr_e, tp_up_o (by decide)] at eₓ
      obtain ⟨rfl, rfl⟩ := some_el eₓ
      obtain ⟨⟨t8ₓ, t9ₓ, t10ₓ, t11ₓ⟩, tS, tZ⟩ := hTₓ
      obtain ⟨o0ₓ, o1ₓ, o2ₓ, o3ₓ, o4ₓ⟩ := hOₓ
      refine ⟨_, _, _, 0, rfl, KT.up (by decide) (by decide), Or.inr ⟨rfl, d0ₓ, dN, uD D 0 xₓ, hKₓ _, ⟨⟨?_, ?_, ?_, ?_⟩, fun iₓ hiₓ => ?_, fun kₓ hkₓ => ?_⟩, ?_⟩⟩
      · rw [upS_s, uD_s]
      · rw [upS_n (by omega), t9ₓ, uD_n (by decide)]
      · rw [upS_n (by omega), t10ₓ, uD_n (by decide)]
      · rw [upS_n (by omega), t11ₓ, uD_n (by decide)]
      · rw [uD_n (by decide)] at hiₓ
        refine CS_keep (tS iₓ hiₓ) (fun kₓ k1ₓ k2ₓ => uD_n (by omega)) (lf_keep (uD_n (by decide)) (fun kₓ hkₓ => uD_n (by omega))) (fun qₓ kₓ hkₓ => upS_q (by omega)) ?_
        rw [upS_q (by decide), lf_keep (D := D) (uD_n (by decide)) (fun kₓ hkₓ => uD_n (by omega))]
        exact (tS iₓ hiₓ).2.2.2.2.1
      · rw [uD_n (by decide)] at hkₓ
        rw [upS_q (by decide), upS_q (by decide), uD_n (by omega), uD_n (by omega)]
        exact tZ kₓ hkₓ
      · refine ⟨by rw [uD_s]; omega, by rw [uD_n (by decide)]; exact o1ₓ, by rw [uD_n (by decide)]; exact o2ₓ, by rw [uD_n (by decide)]; exact o3ₓ, fun kₓ hkₓ => ?_⟩
        rw [uD_n (by decide)] at hkₓ
        rw [uD_n (by omega), uD_n (by decide)]; exact o4ₓ kₓ hkₓ
  · rw [mIf_pos (by decide), mIf_neg (fun zₓ => zₓ rfl)] at eₓ
    rw [if_neg (by decide), if_pos rfl]
    obtain ⟨xₓ, s1ₓ, e1ₓ, eₓ⟩ := mCall_el eₓ
    obtain ⟨rfl, rfl⟩ := some_el eₓ
    exact c_street hcₓ hTₓ hOₓ (by omega) hpₓ hNₓ e1ₓ
  · rw [mIf_pos (by decide), mIf_pos (by decide), mIf_neg (fun zₓ => zₓ rfl)] at eₓ
    rw [if_neg (by decide), if_neg (by decide), if_pos rfl]
    obtain ⟨xₓ, s1ₓ, e1ₓ, eₓ⟩ := mCall_el eₓ
    obtain ⟨rfl, rfl⟩ := some_el eₓ
    exact c_saint hcₓ hTₓ hOₓ (by omega) hpₓ hNₓ e1ₓ
  · rw [mIf_pos (by decide), mIf_pos (by decide), mIf_pos (by decide)] at eₓ
    rw [if_neg (by decide), if_neg (by decide), if_neg (by decide)]
    obtain ⟨xₓ, s1ₓ, e1ₓ, eₓ⟩ := mCall_el eₓ
    obtain ⟨rfl, rfl⟩ := some_el eₓ
    exact c_lift hcₓ hTₓ hOₓ (by omega) hpₓ hNₓ e1ₓ
/-- which saints close the street iₓ -/
def szN (D : Nat → Int) (iₓ : Nat) : Nat → Int
  | 0 => 0
  | kₓ + 1 => if D (140 + 2 * kₓ) = D (10 + 10 * iₓ) ∨ D (140 + 2 * kₓ) = D (11 + 10 * iₓ) then mOr (szN D iₓ kₓ) (mShl 1 (kₓ : Int)) else szN D iₓ kₓ
theorem c_sideOf {iₓ : Nat} {xₓ : Int} (hₓ : CS 29 D σ iₓ) : m_X7_sideOf nₓ 29 (iₓ : Int) xₓ (tp σ pₓ gₓ φ) = some (if D (10 + 10 * iₓ) = xₓ then 0 else if D (11 + 10 * iₓ) = xₓ then 1 else -1, tp σ pₓ gₓ φ) := by
  obtain ⟨h1ₓ, h2ₓ, -⟩ := hₓ
  unfold m_X7_sideOf
  have e2ₓ : (2 * (iₓ : Int)).toNat = 2 * iₓ := by omega
  have e3ₓ : (2 * (iₓ : Int) + 1).toNat = 2 * iₓ + 1 := by omega
  simp only [mLet_e, mRd_e, mRet_e, e2ₓ, e3ₓ, tp_o (show (29 + 1 : Nat) ≠ 1 by decide), h1ₓ, h2ₓ]
  by_cases c1ₓ : D (10 + 10 * iₓ) = xₓ
  · rw [mIf_neg (fun zₓ => zₓ c1ₓ), if_pos c1ₓ]
  · rw [mIf_pos c1ₓ, if_neg c1ₓ]
    by_cases c2ₓ : D (11 + 10 * iₓ) = xₓ
    · rw [mIf_neg (fun zₓ => zₓ c2ₓ), if_pos c2ₓ]
    · rw [mIf_pos c2ₓ, if_neg c2ₓ]
theorem c_sideOfF {aₓ xₓ : Int} (eₓ : m_X7_sideOf nₓ 29 aₓ xₓ (tp σ pₓ gₓ φ) = some (rₓ, σ')) : σ' = tp σ pₓ gₓ φ := by
  unfold m_X7_sideOf at eₓ
  simp only [mLet_e, mRd_e, mRet_e] at eₓ
  by_cases c1ₓ : (tp σ pₓ gₓ φ (29 + 1) (2 * aₓ).toNat) = xₓ
  · rw [mIf_neg (fun zₓ => zₓ c1ₓ)] at eₓ; exact (some_el eₓ).2
  · rw [mIf_pos c1ₓ] at eₓ
    by_cases c2ₓ : (tp σ pₓ gₓ φ (29 + 1) (2 * aₓ + 1).toNat) = xₓ
    · rw [mIf_neg (fun zₓ => zₓ c2ₓ)] at eₓ; exact (some_el eₓ).2
    · rw [mIf_pos c2ₓ] at eₓ; exact (some_el eₓ).2
/-- only place 37 changes -/
def O37 (σ τ : SS) : Prop := ∀ qₓ kₓ : Nat, qₓ ≠ 37 → τ qₓ kₓ = σ qₓ kₓ
theorem O37.kt (hₓ : O37 σ τ) : KT σ τ := fun qₓ kₓ eₓ => hₓ qₓ kₓ (by omega)
theorem c_saintsF {aₓ : Int} : ∀ (nₓ : Nat) (kₓ : Int) (σ : SS), j_X7_findSaints 29 nₓ 9 [aₓ, kₓ] (tp σ pₓ gₓ φ) = some (rₓ, σ') → ∃ τ, σ' = tp τ pₓ gₓ φ ∧ O37 σ τ := by
  intro nₓ
  induction nₓ with
  | zero => intro kₓ σ eₓ; exact none_el eₓ
  | succ nₓ ihₓ =>
    intro kₓ σ eₓ
    rw [e_X7_findSaints_9] at eₓ
    unfold b_X7_findSaints_9 b_X7_findSaints_44 at eₓ
    rw [mRd_e] at eₓ
    by_cases cₓ : tp σ pₓ gₓ φ 29 10 ≤ kₓ
    · rw [mIf_pos cₓ] at eₓ
      obtain ⟨rfl, rfl⟩ := some_el eₓ
      exact ⟨σ, rfl, fun _ _ _ => rfl⟩
    · rw [mIf_neg cₓ, mRd_e] at eₓ
      obtain ⟨xₓ, s1ₓ, e1ₓ, eₓ⟩ := mCall_el eₓ
      have h1ₓ := c_sideOfF e1ₓ
      subst h1ₓ
      by_cases cx : xₓ = -1
      · rw [mIf_pos cx, mLet_e] at eₓ
        exact ihₓ _ _ eₓ
      · rw [mIf_neg cx, mRd_e, mLet_e, mLet_e, mWr_e, tp_up_o (by decide), mLet_e] at eₓ
        obtain ⟨τ, h1ₓ, h2ₓ⟩ := ihₓ _ _ eₓ
        exact ⟨τ, h1ₓ, fun qₓ kₓ hqₓ => (h2ₓ qₓ kₓ hqₓ).trans (upS_q hqₓ)⟩
theorem c_saints {iₓ : Nat} : ∀ (nₓ kₓ : Nat) (σ : SS), CT 29 D σ → (iₓ : Int) < D 1 → 0 ≤ D 2 → (kₓ : Int) ≤ D 2 → σ 37 iₓ = szN D iₓ kₓ → j_X7_findSaints 29 nₓ 9 [(iₓ : Int), (kₓ : Int)] (tp σ pₓ gₓ φ) = some (rₓ, σ') → ∃ τ, σ' = tp τ pₓ gₓ φ ∧ (∀ qₓ jₓ : Nat, ¬ (qₓ = 37 ∧ jₓ = iₓ) → τ qₓ jₓ = σ qₓ jₓ) ∧ τ 37 iₓ = szN D iₓ (D 2).toNat := by
  intro nₓ
  induction nₓ with
  | zero => intro kₓ σ _ _ _ _ _ eₓ; exact none_el eₓ
  | succ nₓ ihₓ =>
    intro kₓ σ hTₓ hiₓ h2ₓ hkₓ hsₓ eₓ
    obtain ⟨⟨t8ₓ, t9ₓ, t10ₓ, t11ₓ⟩, tS, tZ⟩ := id hTₓ
    rw [e_X7_findSaints_9] at eₓ
    unfold b_X7_findSaints_9 b_X7_findSaints_44 at eₓ
    rw [mRd_e, tp_o (by decide), t10ₓ] at eₓ
    have ei : ((iₓ : Nat) : Int).toNat = iₓ := by omega
    have ek : ((kₓ : Nat) : Int).toNat = kₓ := by omega
    by_cases cₓ : D 2 ≤ (kₓ : Int)
    · rw [mIf_pos cₓ] at eₓ
      obtain ⟨rfl, rfl⟩ := some_el eₓ
      refine ⟨σ, rfl, fun _ _ _ => rfl, ?_⟩
      rw [hsₓ, show (D 2).toNat = kₓ by omega]
    · rw [mIf_neg cₓ, mRd_e, ek, tp_o (by decide), (tZ kₓ (by omega)).1, c_sideOf (tS iₓ hiₓ), mCall_s] at eₓ
      have hzₓ : szN D iₓ (kₓ + 1) = if D (140 + 2 * kₓ) = D (10 + 10 * iₓ) ∨ D (140 + 2 * kₓ) = D (11 + 10 * iₓ) then mOr (szN D iₓ kₓ) (mShl 1 (kₓ : Int)) else szN D iₓ kₓ := rfl
      by_cases cx : D (140 + 2 * kₓ) = D (10 + 10 * iₓ) ∨ D (140 + 2 * kₓ) = D (11 + 10 * iₓ)
      · have hneₓ : ¬ (if D (10 + 10 * iₓ) = D (140 + 2 * kₓ) then (0 : Int) else if D (11 + 10 * iₓ) = D (140 + 2 * kₓ) then 1 else -1) = -1 := by
          rcases cx with cx | cx
          · rw [if_pos cx.symm]; decide
          · by_cases c1ₓ : D (10 + 10 * iₓ) = D (140 + 2 * kₓ)
            · rw [if_pos c1ₓ]; decide
            · rw [if_neg c1ₓ, if_pos cx.symm]; decide
        rw [mIf_neg hneₓ, mRd_e, mLet_e, mLet_e, mWr_e, tp_up_o (by decide), mLet_e, ei, tp_o (by decide), show (kₓ : Int) + 1 = ((kₓ + 1 : Nat) : Int) by omega] at eₓ
        rw [if_pos cx] at hzₓ
        have hT'ₓ : CT 29 D (upS σ 37 iₓ (mOr (σ (29 + 8) iₓ) (mShl 1 (kₓ : Int)))) := by
          refine ⟨⟨?_, ?_, ?_, ?_⟩, fun jₓ hjₓ => ?_, fun jₓ hjₓ => ?_⟩
          · rw [upS_q (by decide)]; exact t8ₓ
          · rw [upS_q (by decide)]; exact t9ₓ
          · rw [upS_q (by decide)]; exact t10ₓ
          · rw [upS_q (by decide)]; exact t11ₓ
          · exact CS_keep (tS jₓ hjₓ) (fun _ _ _ => rfl) rfl (fun qₓ kₓ hkₓ => upS_q (by omega)) (by rw [upS_q (by decide)]; exact (tS jₓ hjₓ).2.2.2.2.1)
          · rw [upS_q (by decide), upS_q (by decide)]; exact tZ jₓ hjₓ
        obtain ⟨τ, h3ₓ, h4ₓ, h5ₓ⟩ := ihₓ (kₓ + 1) _ hT'ₓ hiₓ h2ₓ (by omega) (by rw [upS_s, hzₓ]; show mOr (σ 37 iₓ) _ = _; rw [hsₓ]) eₓ
        exact ⟨τ, h3ₓ, fun qₓ jₓ hqₓ => (h4ₓ qₓ jₓ hqₓ).trans (upS_n hqₓ), h5ₓ⟩
      · have hneₓ : (if D (10 + 10 * iₓ) = D (140 + 2 * kₓ) then (0 : Int) else if D (11 + 10 * iₓ) = D (140 + 2 * kₓ) then 1 else -1) = -1 := by
          rw [if_neg (fun zₓ => cx (Or.inl zₓ.symm)), if_neg (fun zₓ => cx (Or.inr zₓ.symm))]
        rw [mIf_pos hneₓ, mLet_e, show (kₓ : Int) + 1 = ((kₓ + 1 : Nat) : Int) by omega] at eₓ
        rw [if_neg cx] at hzₓ
        exact ihₓ (kₓ + 1) σ hTₓ hiₓ h2ₓ (by omega) (by rw [hzₓ]; exact hsₓ) eₓ
end
