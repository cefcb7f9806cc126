/-! the class's reader of RULES goes by the machine -/
/-- cells that aₓ rule's own code doesn't touch -/
def Sm (qr : Nat) (σ σ' : SS) : Prop := ∀ qₓ kₓ : Nat, (qₓ < 5 ∨ (qₓ = qr ∧ kₓ = 4)) → σ' qₓ kₓ = σ qₓ kₓ
/-- cells that reading leaves -/
def Kp (qr : Nat) (σ σ' : SS) : Prop := ∀ qₓ kₓ : Nat, (qₓ = 0 ∨ qₓ = 2 ∨ (qₓ = 1 ∧ kₓ = 2) ∨ (qₓ = qr ∧ kₓ = 4)) → σ' qₓ kₓ = σ qₓ kₓ
def cfgC (F : Int → Int) (N : Int) (qr ℓ : Nat) (S : List Bool) (σ : SS) : Cfg := if σ 1 4 = 0 then (ℓ, sk F N (σ 1 1), σ 3 2, σ qr 4, S) else halt (σ 1 4)
def OKC (F : Int → Int) (N : Int) (σ : SS) : Prop := CV F N σ ∧ (0 ≤ σ 1 1 ∧ σ 1 1 ≤ N ∧ N ≤ 400) ∧ 0 ≤ σ 3 2 ∧ σ 3 2 ≤ 61 ∧ (σ 1 4 = 0 → σ 3 2 ≤ 60)
theorem Sm.rf {qr : Nat} {σ : SS} : Sm qr σ σ := fun _ _ _ => rfl
theorem Sm.tr {qr : Nat} {σ σ' σ'' : SS} (hₓ : Sm qr σ σ') (gₓ : Sm qr σ' σ'') : Sm qr σ σ'' := fun qₓ kₓ eₓ => (gₓ qₓ kₓ eₓ).trans (hₓ qₓ kₓ eₓ)
theorem Kp.rf {qr : Nat} {σ : SS} : Kp qr σ σ := fun _ _ _ => rfl
theorem Kp.tr {qr : Nat} {σ σ' σ'' : SS} (hₓ : Kp qr σ σ') (gₓ : Kp qr σ' σ'') : Kp qr σ σ'' := fun qₓ kₓ eₓ => (gₓ qₓ kₓ eₓ).trans (hₓ qₓ kₓ eₓ)
theorem Sm.kp {qr : Nat} {σ σ' : SS} (hₓ : Sm qr σ σ') : Kp qr σ σ' := fun qₓ kₓ eₓ => hₓ qₓ kₓ (by omega)
section
variable {F : Int → Int} {N : Int} {qr ℓ ℓ' : Nat} {S S' : List Bool} {σ σ' : SS} {pₓ gₓ φ rₓ tₓ : Int} {nₓ : Nat}
theorem CV.sm (hₓ : CV F N σ) (eₓ : Sm qr σ σ') : CV F N σ' := ⟨(eₓ 1 2 (by omega)).trans hₓ.1, fun jₓ h0ₓ h1ₓ => (eₓ 2 _ (by omega)).trans (hₓ.2.1 jₓ h0ₓ h1ₓ), hₓ.2.2⟩
theorem CV.kp (hₓ : CV F N σ) (eₓ : Kp qr σ σ') : CV F N σ' := ⟨(eₓ 1 2 (by omega)).trans hₓ.1, fun jₓ h0ₓ h1ₓ => (eₓ 2 _ (by omega)).trans (hₓ.2.1 jₓ h0ₓ h1ₓ), hₓ.2.2⟩
theorem CV_tp (hₓ : CV F N σ) : CV F N (tp σ pₓ gₓ φ) := ⟨hₓ.1, fun jₓ h0ₓ h1ₓ => tp_b.trans (hₓ.2.1 jₓ h0ₓ h1ₓ), hₓ.2.2⟩
theorem CV_tpi (hₓ : CV F N (tp σ pₓ gₓ φ)) : CV F N σ := ⟨hₓ.1, fun jₓ h0ₓ h1ₓ => tp_b.symm.trans (hₓ.2.1 jₓ h0ₓ h1ₓ), hₓ.2.2⟩
theorem OKC.sm (hₓ : OKC F N σ) (eₓ : Sm qr σ σ') : OKC F N σ' := by
  obtain ⟨h1ₓ, h2ₓ, h3ₓ, h4ₓ, h5ₓ⟩ := hₓ
  unfold OKC
  rw [eₓ 1 1 (by omega), eₓ 3 2 (by omega), eₓ 1 4 (by omega)]
  exact ⟨h1ₓ.sm eₓ, h2ₓ, h3ₓ, h4ₓ, h5ₓ⟩
theorem cfg_sm (eₓ : Sm qr σ σ') : cfgC F N qr ℓ S σ' = cfgC F N qr ℓ S σ := by
  unfold cfgC; rw [eₓ 1 1 (by omega), eₓ 3 2 (by omega), eₓ 1 4 (by omega), eₓ qr 4 (by omega)]
theorem tp_kp (hqₓ : 5 ≤ qr) : Kp qr σ (tp σ pₓ gₓ φ) := by
  intro qₓ kₓ eₓ
  rcases eₓ with rfl | rfl | ⟨rfl, rfl⟩ | ⟨rfl, rfl⟩
  · exact tp_o (by decide)
  · exact tp_o (by decide)
  · rfl
  · exact tp_o (by omega)
/-- one reading goes on from label to label -/
def RS (F : Int → Int) (N : Int) (qr ℓ ℓ' : Nat) (S S' : List Bool) (σ σ' : SS) : Prop := OKC F N σ' ∧ Kp qr σ σ' ∧ σ 1 1 ≤ σ' 1 1 ∧ St F N (cfgC F N qr ℓ S σ) (cfgC F N qr ℓ' S' σ')
theorem RS.tr {ℓ'' : Nat} {S'' : List Bool} {σ'' : SS} (hₓ : RS F N qr ℓ ℓ' S S' σ σ') (gₓ : RS F N qr ℓ' ℓ'' S' S'' σ' σ'') : RS F N qr ℓ ℓ'' S S'' σ σ'' := ⟨gₓ.1, hₓ.2.1.tr gₓ.2.1, Int.le_trans hₓ.2.2.1 gₓ.2.2.1, hₓ.2.2.2.tr gₓ.2.2.2⟩
theorem RS.sm {σ'' : SS} (hₓ : RS F N qr ℓ ℓ' S S' σ σ') (eₓ : Sm qr σ' σ'') : RS F N qr ℓ ℓ' S S' σ σ'' := ⟨hₓ.1.sm eₓ, hₓ.2.1.tr eₓ.kp, by rw [eₓ 1 1 (by omega)]; exact hₓ.2.2.1, by rw [cfg_sm eₓ]; exact hₓ.2.2.2⟩
theorem RS.bad (hₓ : OKC F N σ) (hfₓ : σ 1 4 ≠ 0) : RS F N qr ℓ ℓ' S S' σ σ := by
  refine ⟨hₓ, Kp.rf, Int.le_refl _, ?_⟩
  unfold cfgC; rw [if_neg hfₓ, if_neg hfₓ]; exact St_rf
theorem RS.rf (hₓ : OKC F N σ) : RS F N qr ℓ ℓ S S σ σ := ⟨hₓ, Kp.rf, Int.le_refl _, St_rf⟩
theorem c_addToken (hqₓ : 5 ≤ qr) (eₓ : m_X2_addToken nₓ qr tₓ σ = some (rₓ, σ')) : Sm qr σ σ' := by
  simp only [m_X2_addToken, b_X2_addToken_43, mRd, mIf, mRet, mWr, mLet] at eₓ
  by_cases cₓ : 400 ≤ σ qr 3
  · rw [if_pos cₓ] at eₓ
    obtain ⟨-, rfl⟩ := some_el eₓ
    exact Sm.rf
  · rw [if_neg cₓ] at eₓ
    obtain ⟨-, rfl⟩ := some_el eₓ
    intro qₓ kₓ hₓ
    rcases hₓ with hₓ | ⟨rfl, rfl⟩
    · rw [upS_q (by omega), upS_q (by omega), upS_q (by omega)]
    · rw [upS_q (by omega), upS_k (by decide), upS_q (by omega)]
theorem c_addWaiting (hqₓ : 5 ≤ qr) {q0ₓ : Nat} (eₓ : m_X3_addWaiting nₓ qr q0ₓ tₓ σ = some (rₓ, σ')) : Sm qr σ σ' := by
  simp only [m_X3_addWaiting, b_X3_addWaiting_13, mIf] at eₓ
  by_cases cₓ : tₓ = -1
  · rw [if_pos cₓ] at eₓ
    obtain ⟨-, rfl⟩ := some_el eₓ
    exact Sm.rf
  · rw [if_neg cₓ] at eₓ
    obtain ⟨r1ₓ, s1ₓ, e1ₓ, eₓ⟩ := mCall_el eₓ
    obtain ⟨-, rfl⟩ := some_el eₓ
    exact c_addToken hqₓ e1ₓ
theorem c_countItem (h0ₓ : 0 ≤ σ 3 2) (h1ₓ : σ 3 2 ≤ 61) : m_X3_countItem nₓ 3 (tp σ pₓ gₓ φ) = some (0, tp (upS σ 3 2 (σ 3 2 + 1)) pₓ gₓ (if σ 3 2 < 60 then φ else blm φ (8 * gₓ + 3))) := by
  simp only [m_X3_countItem, b_X3_countItem_34, mRd, mIf, mRet, mWr, mLet, mCall, tp_up_o (show (3 : Nat) ≠ 1 by decide), tp_o (show (3 : Nat) ≠ 1 by decide), upS_s, tp_g, c_blame]
  rw [mAdd_x (by omega) (by omega) (by decide) (by decide) (by omega) (by omega)]
  by_cases cₓ : σ 3 2 < 60
  · rw [if_pos (by omega), if_pos cₓ]
  · rw [if_neg (by omega), if_neg cₓ]
theorem blm_0 {aₓ : Int} : blm 0 aₓ = 1 + aₓ := if_pos rfl
theorem blm_n {aₓ : Int} (hₓ : φ ≠ 0) : blm φ aₓ = φ := if_neg hₓ
theorem cfg_tp (hqₓ : 5 ≤ qr) : cfgC F N qr ℓ S (tp σ pₓ gₓ φ) = if φ = 0 then (ℓ, sk F N pₓ, σ 3 2, σ qr 4, S) else halt φ := by
  unfold cfgC; rw [tp_f, tp_p, tp_o (show (3 : Nat) ≠ 1 by decide), tp_o (show qr ≠ 1 by omega)]
theorem cfg_0 (hₓ : σ 1 4 = 0) : cfgC F N qr ℓ S σ = (ℓ, sk F N (σ 1 1), σ 3 2, σ qr 4, S) := if_pos hₓ
theorem cfg_n (hₓ : σ 1 4 ≠ 0) : cfgC F N qr ℓ S σ = halt (σ 1 4) := if_neg hₓ
theorem sk_idem : sk F N (sk F N pₓ) = sk F N pₓ := runE_idem
theorem OKC.mk' (hₓ : CV F N σ) (h0ₓ : 0 ≤ pₓ) (h1ₓ : pₓ ≤ N) (hNₓ : N ≤ 400) (h2ₓ : 0 ≤ σ 3 2) (h3ₓ : σ 3 2 ≤ 61) (h4ₓ : φ = 0 → σ 3 2 ≤ 60) : OKC F N (tp σ pₓ gₓ φ) := ⟨CV_tp hₓ, ⟨h0ₓ, h1ₓ, hNₓ⟩, by rw [tp_o (by decide)]; exact h2ₓ, by rw [tp_o (by decide)]; exact h3ₓ, by rw [tp_o (show (3 : Nat) ≠ 1 by decide), tp_f]; exact h4ₓ⟩
theorem es_0 (hₓ : σ 1 4 = 0) : tp σ (σ 1 1) (σ 1 3) 0 = σ := by rw [← hₓ]; exact tp_self
theorem idx_any {Ws : List (List Int)} {qₓ : Int} : (0 ≤ idxW F (wd F N qₓ) qₓ Ws 0) ↔ Ws.any (fun W => isWd F N qₓ W) = true := idxW_any Ws 0 (Int.le_refl 0)
theorem c_readValue (hqₓ : 5 ≤ qr) (hlₓ : (ℓ = 3 ∧ ℓ' = 5) ∨ (ℓ = 4 ∧ ℓ' = 6)) (hₓ : OKC F N σ) (eₓ : m_X3_readValue nₓ qr 3 σ = some (rₓ, σ')) : RS F N qr ℓ ℓ' S S σ σ' := by
  have hpsₓ : ∀ qₓ kₓ L : Int, pstep F N (ℓ, qₓ, kₓ, L, S) = valStep F N ℓ' qₓ kₓ L S := by
    rcases hlₓ with ⟨rfl, rfl⟩ | ⟨rfl, rfl⟩ <;> (intro qₓ kₓ L; rfl)
  by_cases hfₓ : σ 1 4 = 0
  · have esₓ := es_0 hfₓ
    rw [← esₓ] at eₓ
    obtain ⟨hcₓ, ⟨hp0ₓ, hp1ₓ, hNₓ⟩, hk0ₓ, hk1ₓ, hk2ₓ⟩ := id hₓ
    have hq0ₓ : 0 ≤ sk F N (σ 1 1) := Int.le_trans hp0ₓ sk_ge
    have hqNₓ : sk F N (σ 1 1) ≤ N := sk_ub hp1ₓ
    unfold m_X3_readValue at eₓ
    rw [c_isFaulty, if_pos rfl, mCall_s, mIf_pos rfl] at eₓ
    obtain ⟨r1ₓ, s1ₓ, e1ₓ, eₓ⟩ := mCall_el eₓ
    obtain ⟨rfl, rfl⟩ := c_lbbm hcₓ hp0ₓ e1ₓ
    rw [c_isDigit, mCall_s] at eₓ
    unfold RS
    rw [cfg_0 hfₓ]
    by_cases cd : sk F N (σ 1 1) < N ∧ isDg F (sk F N (σ 1 1)) = true
    · have c2ₓ : 48 ≤ F (sk F N (σ 1 1)) ∧ F (sk F N (σ 1 1)) ≤ 57 := of_decide_eq_true cd.2
      rw [show bt F N (sk F N (σ 1 1)) = F (sk F N (σ 1 1)) from if_pos cd.1, if_pos c2ₓ, mIf_neg (show ¬ (1 : Int) = 0 by decide)] at eₓ
      obtain ⟨r2ₓ, s2ₓ, e2ₓ, eₓ⟩ := mCall_el eₓ
      rw [mLet_e] at eₓ
      obtain ⟨r3ₓ, s3ₓ, e3ₓ, eₓ⟩ := mCall_el eₓ
      unfold b_X3_readValue_63 at eₓ
      obtain ⟨r4ₓ, s4ₓ, e4ₓ, eₓ⟩ := mCall_el eₓ
      obtain ⟨-, rfl⟩ := some_el eₓ
      have hsₓ := c_addToken hqₓ e3ₓ
      rcases c_readNumber hcₓ hq0ₓ hqNₓ e2ₓ with ⟨hnₓ, -, -⟩ | ⟨-, hIₓ, hBₓ⟩
      · rw [sk_idem] at hnₓ; exact absurd cd hnₓ
      · rw [sk_idem] at hIₓ hBₓ
        have hd0ₓ : 0 ≤ dg F N (sk F N (σ 1 1)) := Int.le_trans hq0ₓ dg_ge
        have hdNₓ : dg F N (sk F N (σ 1 1)) ≤ N := dg_ub hqNₓ
        have hv : pstep F N (ℓ, sk F N (σ 1 1), σ 3 2, σ qr 4, S) = if 5 < dg F N (sk F N (σ 1 1)) - sk F N (σ 1 1) then halt (1 + 8 * sk F N (σ 1 1) + 1) else if 60 ≤ σ 3 2 then halt (1 + 8 * sk F N (σ 1 1) + 3) else (ℓ', sk F N (dg F N (sk F N (σ 1 1))), σ 3 2 + 1, σ qr 4, S) := by
          rw [hpsₓ]; unfold valStep; rw [if_pos cd]
        have finₓ : ∀ φ2 : Int, s2ₓ = tp σ (dg F N (sk F N (σ 1 1))) (sk F N (σ 1 1)) φ2 → OKC F N σ' ∧ Kp qr σ σ' ∧ σ' 1 1 = dg F N (sk F N (σ 1 1)) ∧ σ' 1 4 = (if σ 3 2 < 60 then φ2 else blm φ2 (8 * sk F N (σ 1 1) + 3)) ∧ σ' 3 2 = σ 3 2 + 1 ∧ σ' qr 4 = σ qr 4 := by
          intro φ2 hs2ₓ
          have h1ₓ : s3ₓ = tp s3ₓ (dg F N (sk F N (σ 1 1))) (sk F N (σ 1 1)) φ2 := by
            have a1ₓ := hsₓ 1 1 (by omega)
            have a2ₓ := hsₓ 1 3 (by omega)
            have a3ₓ := hsₓ 1 4 (by omega)
            rw [hs2ₓ, tp_p] at a1ₓ
            rw [hs2ₓ, tp_g] at a2ₓ
            rw [hs2ₓ, tp_f] at a3ₓ
            rw [← a1ₓ, ← a2ₓ, ← a3ₓ]; exact tp_self.symm
          rw [h1ₓ] at e4ₓ
          have hmₓ : Sm qr (tp σ (dg F N (sk F N (σ 1 1))) (sk F N (σ 1 1)) φ2) s3ₓ := by rw [← hs2ₓ]; exact hsₓ
          have hkₓ : Kp qr σ s3ₓ := (tp_kp hqₓ).tr hmₓ.kp
          have h3ₓ : s3ₓ 3 2 = σ 3 2 := (hmₓ 3 2 (by omega)).trans (tp_o (by decide))
          rw [c_countItem (by rw [h3ₓ]; exact hk0ₓ) (by rw [h3ₓ]; exact hk1ₓ), h3ₓ] at e4ₓ
          obtain ⟨-, rfl⟩ := some_el e4ₓ
          have hk2'ₓ := hk2ₓ hfₓ
          refine ⟨OKC.mk' ⟨?_, ?_, hcₓ.2.2⟩ hd0ₓ hdNₓ hNₓ (by rw [upS_s]; omega) (by rw [upS_s]; omega) ?_, ?_, tp_p, tp_f, ?_, ?_⟩
          · rw [upS_q (by decide)]; exact (hkₓ 1 2 (by omega)).trans hcₓ.1
          · intro jₓ j0ₓ j1ₓ; rw [upS_q (by decide)]; exact (hkₓ 2 _ (by omega)).trans (hcₓ.2.1 jₓ j0ₓ j1ₓ)
          · rw [upS_s]; intro hzₓ
            by_cases cₓ : σ 3 2 < 60
            · omega
            · rw [if_neg cₓ] at hzₓ; unfold blm at hzₓ; split at hzₓ
              · omega
              · exact absurd hzₓ (by assumption)
          · intro qₓ kₓ cₓ
            have c'ₓ := cₓ
            rw [show tp (upS s3ₓ 3 2 (σ 3 2 + 1)) (dg F N (sk F N (σ 1 1))) (sk F N (σ 1 1)) (if σ 3 2 < 60 then φ2 else blm φ2 (8 * sk F N (σ 1 1) + 3)) qₓ kₓ = upS s3ₓ 3 2 (σ 3 2 + 1) qₓ kₓ from tp_kp hqₓ qₓ kₓ cₓ, upS_q (by omega)]
            exact hkₓ qₓ kₓ c'ₓ
          · rw [tp_o (by decide), upS_s]
          · rw [tp_o (by omega), upS_q (by omega)]; exact hkₓ qr 4 (by omega)
        have hleₓ : σ 1 1 ≤ dg F N (sk F N (σ 1 1)) := Int.le_trans sk_ge dg_ge
        rcases hBₓ with ⟨hbadₓ, -, hs2ₓ⟩ | ⟨hgoodₓ, -, hs2ₓ⟩
        · have h5ₓ : 5 < dg F N (sk F N (σ 1 1)) - sk F N (σ 1 1) := by obtain ⟨b0ₓ, b1ₓ, -⟩ := hIₓ; omega
          obtain ⟨f1ₓ, f2ₓ, f3ₓ, f4ₓ, f5ₓ, f6ₓ⟩ := finₓ _ hs2ₓ
          have f4'ₓ : σ' 1 4 = 1 + 8 * sk F N (σ 1 1) + 1 := by
            rw [f4ₓ]; split
            · rfl
            · rw [blm_n (by omega)]
          refine ⟨f1ₓ, f2ₓ, by rw [f3ₓ]; exact hleₓ, St_one ?_⟩
          rw [hv, if_pos h5ₓ, cfg_n (by rw [f4'ₓ]; omega), f4'ₓ]
        · obtain ⟨f1ₓ, f2ₓ, f3ₓ, f4ₓ, f5ₓ, f6ₓ⟩ := finₓ _ hs2ₓ
          refine ⟨f1ₓ, f2ₓ, by rw [f3ₓ]; exact hleₓ, St_one ?_⟩
          rw [hv, if_neg hgoodₓ.1]
          by_cases c60ₓ : 60 ≤ σ 3 2
          · rw [if_pos c60ₓ]
            have f4'ₓ : σ' 1 4 = 1 + 8 * sk F N (σ 1 1) + 3 := by rw [f4ₓ, if_neg (by omega), blm_0]; omega
            rw [cfg_n (by rw [f4'ₓ]; omega), f4'ₓ]
          · rw [if_neg c60ₓ]
            have f4'ₓ : σ' 1 4 = 0 := by rw [f4ₓ, if_pos (by omega)]
            rw [cfg_0 f4'ₓ, f3ₓ, f5ₓ, f6ₓ]
    · have c2ₓ : ¬ (48 ≤ bt F N (sk F N (σ 1 1)) ∧ bt F N (sk F N (σ 1 1)) ≤ 57) := by
        intro qₓ
        by_cases c3ₓ : sk F N (σ 1 1) < N
        · rw [show bt F N (sk F N (σ 1 1)) = F (sk F N (σ 1 1)) from if_pos c3ₓ] at qₓ; exact cd ⟨c3ₓ, decide_eq_true qₓ⟩
        · rw [show bt F N (sk F N (σ 1 1)) = -1 from if_neg c3ₓ] at qₓ; omega
      rw [if_neg c2ₓ, mIf_pos rfl] at eₓ
      obtain ⟨r2ₓ, s2ₓ, e2ₓ, eₓ⟩ := mCall_el eₓ
      obtain ⟨r3ₓ, s3ₓ, e3ₓ, eₓ⟩ := mCall_el eₓ
      unfold b_X3_readValue_63 at eₓ
      obtain ⟨r4ₓ, s4ₓ, e4ₓ, eₓ⟩ := mCall_el eₓ
      obtain ⟨-, rfl⟩ := some_el eₓ
      have hsₓ := c_addToken hqₓ e3ₓ
      have hv : pstep F N (ℓ, sk F N (σ 1 1), σ 3 2, σ qr 4, S) = if wVals.any (fun W => isWd F N (sk F N (σ 1 1)) W) = true then (if 60 ≤ σ 3 2 then halt (1 + 8 * sk F N (σ 1 1) + 3) else (ℓ', sk F N (wd F N (sk F N (σ 1 1))), σ 3 2 + 1, σ qr 4, S)) else halt (1 + 8 * sk F N (σ 1 1)) := by
        rw [hpsₓ]; unfold valStep; rw [if_neg cd]
      have finₓ : ∀ p2ₓ φ2 : Int, 0 ≤ p2ₓ → p2ₓ ≤ N → s2ₓ = tp σ p2ₓ (sk F N (σ 1 1)) φ2 → OKC F N σ' ∧ Kp qr σ σ' ∧ σ' 1 1 = p2ₓ ∧ σ' 1 4 = (if σ 3 2 < 60 then φ2 else blm φ2 (8 * sk F N (σ 1 1) + 3)) ∧ σ' 3 2 = σ 3 2 + 1 ∧ σ' qr 4 = σ qr 4 := by
        intro p2ₓ φ2 hd0ₓ hdNₓ hs2ₓ
        have h1ₓ : s3ₓ = tp s3ₓ p2ₓ (sk F N (σ 1 1)) φ2 := by
          have a1ₓ := hsₓ 1 1 (by omega)
          have a2ₓ := hsₓ 1 3 (by omega)
          have a3ₓ := hsₓ 1 4 (by omega)
          rw [hs2ₓ, tp_p] at a1ₓ
          rw [hs2ₓ, tp_g] at a2ₓ
          rw [hs2ₓ, tp_f] at a3ₓ
          rw [← a1ₓ, ← a2ₓ, ← a3ₓ]; exact tp_self.symm
        rw [h1ₓ] at e4ₓ
        have hmₓ : Sm qr (tp σ p2ₓ (sk F N (σ 1 1)) φ2) s3ₓ := by rw [← hs2ₓ]; exact hsₓ
        have hkₓ : Kp qr σ s3ₓ := (tp_kp hqₓ).tr hmₓ.kp
        have h3ₓ : s3ₓ 3 2 = σ 3 2 := (hmₓ 3 2 (by omega)).trans (tp_o (by decide))
        rw [c_countItem (by rw [h3ₓ]; exact hk0ₓ) (by rw [h3ₓ]; exact hk1ₓ), h3ₓ] at e4ₓ
        obtain ⟨-, rfl⟩ := some_el e4ₓ
        have hk2'ₓ := hk2ₓ hfₓ
        refine ⟨OKC.mk' ⟨?_, ?_, hcₓ.2.2⟩ hd0ₓ hdNₓ hNₓ (by rw [upS_s]; omega) (by rw [upS_s]; omega) ?_, ?_, tp_p, tp_f, ?_, ?_⟩
        · rw [upS_q (by decide)]; exact (hkₓ 1 2 (by omega)).trans hcₓ.1
        · intro jₓ j0ₓ j1ₓ; rw [upS_q (by decide)]; exact (hkₓ 2 _ (by omega)).trans (hcₓ.2.1 jₓ j0ₓ j1ₓ)
        · rw [upS_s]; intro hzₓ
          by_cases cₓ : σ 3 2 < 60
          · omega
          · rw [if_neg cₓ] at hzₓ; unfold blm at hzₓ; split at hzₓ
            · omega
            · exact absurd hzₓ (by assumption)
        · intro qₓ kₓ cₓ
          have c'ₓ := cₓ
          rw [show tp (upS s3ₓ 3 2 (σ 3 2 + 1)) p2ₓ (sk F N (σ 1 1)) (if σ 3 2 < 60 then φ2 else blm φ2 (8 * sk F N (σ 1 1) + 3)) qₓ kₓ = upS s3ₓ 3 2 (σ 3 2 + 1) qₓ kₓ from tp_kp hqₓ qₓ kₓ cₓ, upS_q (by omega)]
          exact hkₓ qₓ kₓ c'ₓ
        · rw [tp_o (by decide), upS_s]
        · rw [tp_o (by omega), upS_q (by omega)]; exact hkₓ qr 4 (by omega)
      have hw0ₓ : 0 ≤ wd F N (sk F N (σ 1 1)) := Int.le_trans hq0ₓ wd_ge
      have hwNₓ : wd F N (sk F N (σ 1 1)) ≤ N := wd_ub hqNₓ
      rcases c_readWord hcₓ (kₓ := 5) (by decide) (by decide) wls_enc.2.2 hq0ₓ hqNₓ e2ₓ with ⟨hrₓ, hr0ₓ, hs2ₓ⟩ | ⟨-, hrₓ, hs2ₓ⟩
      · rw [sk_idem] at hrₓ hs2ₓ
        obtain ⟨f1ₓ, f2ₓ, f3ₓ, f4ₓ, f5ₓ, f6ₓ⟩ := finₓ _ _ hw0ₓ hwNₓ hs2ₓ
        have hleₓ : σ 1 1 ≤ wd F N (sk F N (σ 1 1)) := Int.le_trans sk_ge wd_ge
        refine ⟨f1ₓ, f2ₓ, by rw [f3ₓ]; exact hleₓ, St_one ?_⟩
        rw [hv, if_pos (idx_any.mp (by rw [← show wls 5 = wVals from rfl, ← hrₓ]; exact hr0ₓ))]
        by_cases c60ₓ : 60 ≤ σ 3 2
        · rw [if_pos c60ₓ]
          have f4'ₓ : σ' 1 4 = 1 + 8 * sk F N (σ 1 1) + 3 := by rw [f4ₓ, if_neg (by omega), blm_0]; omega
          rw [cfg_n (by rw [f4'ₓ]; omega), f4'ₓ]
        · rw [if_neg c60ₓ]
          have f4'ₓ : σ' 1 4 = 0 := by rw [f4ₓ, if_pos (by omega)]
          rw [cfg_0 f4'ₓ, f3ₓ, f5ₓ, f6ₓ]
      · rw [sk_idem] at hrₓ hs2ₓ
        obtain ⟨f1ₓ, f2ₓ, f3ₓ, f4ₓ, f5ₓ, f6ₓ⟩ := finₓ _ _ hq0ₓ hqNₓ hs2ₓ
        have hleₓ : σ 1 1 ≤ sk F N (σ 1 1) := sk_ge
        have f4'ₓ : σ' 1 4 = 1 + 8 * sk F N (σ 1 1) := by
          rw [f4ₓ, blm_0]; split
          · rfl
          · rw [blm_n (by omega)]
        refine ⟨f1ₓ, f2ₓ, by rw [f3ₓ]; exact hleₓ, St_one ?_⟩
        rw [hv, if_neg (fun qₓ => by have h9ₓ := idx_any.mpr qₓ; rw [← show wls 5 = wVals from rfl, hrₓ] at h9ₓ; omega), cfg_n (by rw [f4'ₓ]; omega), f4'ₓ]
  · unfold m_X3_readValue at eₓ
    rw [← tp_self (σ := σ), c_isFaulty, if_neg hfₓ, mCall_s, mIf_neg (show ¬ (1 : Int) = 0 by decide), tp_self] at eₓ
    obtain ⟨-, rfl⟩ := some_el eₓ
    exact RS.bad hₓ hfₓ
end
