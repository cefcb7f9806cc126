/-! the class's facts and tests, its clauses, and rule() -/
section
variable {F : Int → Int} {N : Int} {qr ℓ ℓ' : Nat} {S S' : List Bool} {σ σ' : SS} {pₓ gₓ φ rₓ tₓ : Int} {nₓ : Nat}
theorem isWd_len {qₓ : Int} {W : List Int} (hₓ : isWd F N qₓ W = true) : wd F N qₓ = qₓ + W.length := by
  unfold isWd at hₓ; simp only [Bool.and_eq_true, decide_eq_true_eq] at hₓ; exact hₓ.1
theorem isWd_hd {qₓ cₓ : Int} {W : List Int} (hₓ : isWd F N qₓ (cₓ :: W) = true) : F qₓ = cₓ := by
  unfold isWd at hₓ; simp only [Bool.and_eq_true, decide_eq_true_eq, wEq_cons] at hₓ; exact hₓ.2.1
theorem wd_N {qₓ : Int} (hₓ : N ≤ qₓ) : wd F N qₓ = qₓ := runE_stop (fun cₓ => by omega)
theorem joinAt_N {qₓ : Int} (hₓ : N ≤ qₓ) : joinAt F N qₓ = false := by
  unfold joinAt
  have noₓ : ∀ W : List Int, 0 < W.length → isWd F N qₓ W = false := by
    intro W hWₓ; refine Bool.eq_false_iff.mpr (fun cₓ => ?_); have := isWd_len cₓ; rw [wd_N hₓ] at this; omega
  rw [noₓ wAnd (by decide), noₓ wOr (by decide)]; rfl
theorem joinAt_i {qₓ : Int} : joinAt F N qₓ = true ↔ (isWd F N qₓ wAnd = true ∨ isWd F N qₓ wOr = true) := by unfold joinAt; rw [Bool.or_eq_true]
theorem joinAt_b {qₓ : Int} (hₓ : joinAt F N qₓ = true) : byteIs F N qₓ 93 = false := by
  refine byteIs_f (fun cₓ => ?_)
  rcases joinAt_i.mp hₓ with hₓ | hₓ
  · have := isWd_hd hₓ; omega
  · have := isWd_hd hₓ; omega
/-- aₓ test's brackets: none waits but aₓ bracket that is open -/
def TS (S : List Bool) : Prop := S = [] ∨ ∃ T, S = true :: T
theorem step7_join {qₓ kₓ L : Int} (hSₓ : TS S) (hₓ : joinAt F N qₓ = true) : pstep F N (7, qₓ, kₓ, L, S) = (2, sk F N (wd F N qₓ), kₓ, L, S) := by
  rcases hSₓ with rfl | ⟨T, rfl⟩
  · show (if joinAt F N qₓ = true then _ else _) = _; rw [if_pos hₓ]
  · show (if byteIs F N qₓ 93 = true then _ else if joinAt F N qₓ = true then _ else _) = _
    rw [joinAt_b hₓ, if_neg (by decide), if_pos hₓ]
theorem RS.to7 (hₓ : OKC F N σ) (hoₓ : σ 1 4 = 0 → opAt F N (sk F N (σ 1 1)) = false) : RS F N qr 6 7 S S σ σ := by
  by_cases hfₓ : σ 1 4 = 0
  · refine ⟨hₓ, Kp.rf, Int.le_refl _, ?_⟩
    rw [cfg_0 hfₓ, cfg_0 hfₓ]
    refine St_one ?_
    show (if opAt F N (sk F N (σ 1 1)) = true then _ else _) = _
    rw [hoₓ hfₓ, if_neg (by decide)]
  · exact RS.bad hₓ hfₓ
theorem RS.unnot (hₓ : OKC F N σ) : RS F N qr 7 7 (false :: S) S σ σ := by
  by_cases hfₓ : σ 1 4 = 0
  · exact ⟨hₓ, Kp.rf, Int.le_refl _, by rw [cfg_0 hfₓ, cfg_0 hfₓ]; exact St_one rfl⟩
  · exact RS.bad hₓ hfₓ
theorem c_compare (hqₓ : 5 ≤ qr) (hₓ : OKC F N σ) (eₓ : (mCall (m_X3_readSum nₓ qr 3 σ) fun _ s1ₓ => mCall (m_X3_readSign nₓ 3 s1ₓ) fun x2ₓ s3ₓ => mCall (m_X3_readSum nₓ qr 3 s3ₓ) fun _ s4ₓ => mCall (m_X2_addToken nₓ qr x2ₓ s4ₓ) fun _ s5ₓ => mRet 0 s5ₓ) = some (rₓ, σ')) : RS F N qr 3 7 S S σ σ' := by
  obtain ⟨r1ₓ, s1ₓ, e1ₓ, eₓ⟩ := mCall_el eₓ
  obtain ⟨r2ₓ, s2ₓ, e2ₓ, eₓ⟩ := mCall_el eₓ
  obtain ⟨r3ₓ, s3ₓ, e3ₓ, eₓ⟩ := mCall_el eₓ
  obtain ⟨r4ₓ, s4ₓ, e4ₓ, eₓ⟩ := mCall_el eₓ
  obtain ⟨-, rfl⟩ := some_el eₓ
  have h1ₓ := c_readSum hqₓ (Or.inl ⟨rfl, rfl⟩) hₓ e1ₓ (S := S)
  have h2ₓ := c_readSign hqₓ h1ₓ.1.1 h1ₓ.2 e2ₓ (S := S)
  have h3ₓ := c_readSum hqₓ (Or.inr ⟨rfl, rfl⟩) h2ₓ.1 e3ₓ (S := S)
  exact (((h1ₓ.1.tr h2ₓ).tr h3ₓ.1).tr (RS.to7 h3ₓ.1.1 h3ₓ.2)).sm (c_addToken hqₓ e4ₓ)
theorem c_facts (hqₓ : 5 ≤ qr) : ∀ nₓ : Nat,
    (∀ (dₓ : Int) (S : List Bool) (σ σ' : SS) (rₓ : Int), (S.length : Int) = dₓ → OKC F N σ → j_X3_readFact_X3_readTest qr 3 nₓ 1000 [dₓ] σ = some (rₓ, σ') → RS F N qr 2 7 S S σ σ') ∧
    (∀ (dₓ : Int) (S : List Bool) (σ σ' : SS) (rₓ : Int), (S.length : Int) = dₓ → TS S → OKC F N σ → j_X3_readFact_X3_readTest qr 3 nₓ 2000 [dₓ] σ = some (rₓ, σ') → RS F N qr 2 7 S S σ σ' ∧ (σ' 1 4 = 0 → joinAt F N (sk F N (σ' 1 1)) = false)) ∧
    (∀ (dₓ wt iₓ : Int) (S : List Bool) (σ σ' : SS) (rₓ : Int), (S.length : Int) = dₓ → TS S → OKC F N σ → (σ 1 4 = 0 → iₓ ≤ σ 1 1) → j_X3_readFact_X3_readTest qr 3 nₓ 2009 [dₓ, wt, iₓ] σ = some (rₓ, σ') → RS F N qr 7 7 S S σ σ' ∧ (σ' 1 4 = 0 → joinAt F N (sk F N (σ' 1 1)) = false)) := by
  intro nₓ
  induction nₓ with
  | zero => exact ⟨fun _ _ _ _ _ _ _ eₓ => none_el eₓ, fun _ _ _ _ _ _ _ _ eₓ => none_el eₓ, fun _ _ _ _ _ _ _ _ _ _ _ eₓ => none_el eₓ⟩
  | succ nₓ ihₓ =>
    obtain ⟨ihFₓ, ihTₓ, ihLₓ⟩ := ihₓ
    refine ⟨?_, ?_, ?_⟩
    · -- aₓ fact
      intro dₓ S σ σ' rₓ hdₓ hₓ eₓ
      rw [e_X3_readFact_e] at eₓ
      unfold b_X3_readFact_e at eₓ
      by_cases hfₓ : σ 1 4 = 0
      · have esₓ := es_0 hfₓ
        rw [← esₓ, c_isFaulty, if_pos rfl, mCall_s, mIf_pos rfl] at eₓ
        have hp0ₓ := hₓ.2.1.1
        have hleₓ : σ 1 1 ≤ sk F N (σ 1 1) := sk_ge
        have hNₓ : sk F N (σ 1 1) ≤ N := sk_ub hₓ.2.1.2.1
        have hq0ₓ : 0 ≤ sk F N (σ 1 1) := Int.le_trans hp0ₓ hleₓ
        obtain ⟨r1ₓ, s1ₓ, e1ₓ, eₓ⟩ := mCall_el eₓ
        have s2a : ∀ kₓ L : Int, pstep F N (2, sk F N (σ 1 1), kₓ, L, S) = if isWd F N (sk F N (σ 1 1)) wNot = true then (if 10 ≤ S.length then halt (1 + 8 * sk F N (σ 1 1) + 2) else (2, sk F N (wd F N (sk F N (σ 1 1))), kₓ, L, false :: S)) else if byteIs F N (sk F N (σ 1 1)) 91 = true then (if 10 ≤ S.length then halt (1 + 8 * sk F N (σ 1 1) + 2) else (2, sk F N (sk F N (σ 1 1) + 1), kₓ, L, true :: S)) else (3, sk F N (σ 1 1), kₓ, L, S) := fun _ _ => rfl
        rcases c_takeWord hₓ.1 (kₓ := 4) (by decide) (by decide) hp0ₓ hₓ.2.1.2.1 e1ₓ with ⟨hwₓ, rfl, rfl⟩ | ⟨hwₓ, rfl, rfl⟩
        · -- not
          have hw'ₓ : isWd F N (sk F N (σ 1 1)) wNot = true := hwₓ
          have hwlₓ := isWd_len hw'ₓ
          have hwNₓ : wd F N (sk F N (σ 1 1)) ≤ N := wd_ub hNₓ
          rw [show (wNot.length : Int) = 3 from rfl] at hwlₓ
          unfold b_X3_readFact_41 b_X3_readFact_77 b_X3_readFact_160 at eₓ
          rw [mIf_pos (show ¬ (1 : Int) = 0 by decide), mIf_pos (show ¬ (1 : Int) = 0 by decide)] at eₓ
          by_cases cₓ : dₓ < 10
          · rw [mIf_pos cₓ, mIf_neg (show ¬ (1 : Int) = 0 by decide)] at eₓ
            rw [mLet_e] at eₓ
            obtain ⟨r2ₓ, s2ₓ, e2ₓ, eₓ⟩ := mCall_el eₓ
            obtain ⟨r3ₓ, s3ₓ, e3ₓ, eₓ⟩ := mCall_el eₓ
            obtain ⟨-, rfl⟩ := some_el eₓ
            have h1ₓ : RS F N qr 2 2 S (false :: S) σ (tp σ (wd F N (sk F N (σ 1 1))) (sk F N (σ 1 1)) 0) := RS.step hqₓ hₓ hfₓ hwNₓ (by omega) (by rw [s2a, if_pos hw'ₓ, if_neg (by omega)])
            have h2ₓ := ihFₓ (dₓ + 1) (false :: S) _ _ _ (by rw [List.length_cons]; omega) h1ₓ.1 e2ₓ
            exact ((h1ₓ.tr h2ₓ).tr (RS.unnot h2ₓ.1)).sm (c_addToken hqₓ e3ₓ)
          · rw [mIf_neg cₓ] at eₓ
            rw [mRd_e, tp_g] at eₓ
            rw [c_blame, mCall_s, blm_0] at eₓ
            obtain ⟨-, rfl⟩ := some_el eₓ
            exact RS.halt hqₓ hₓ hfₓ hwNₓ (by omega) (by omega) (by rw [s2a, if_pos hw'ₓ, if_pos (by omega)]; congr 1; omega)
        · have hw'ₓ : ¬ isWd F N (sk F N (σ 1 1)) wNot = true := by rw [show wNot = txt 4 from rfl, hwₓ]; decide
          rw [mIf_neg (fun qₓ => qₓ rfl)] at eₓ
          obtain ⟨r2ₓ, s2ₓ, e2ₓ, eₓ⟩ := mCall_el eₓ
          rcases c_takeByte hₓ.1 hq0ₓ (by decide) e2ₓ with ⟨hbₓ, rfl, rfl⟩ | ⟨hbₓ, rfl, rfl⟩
          · -- aₓ bracket
            rw [sk_idem] at hbₓ
            have hbNₓ := (of_decide_eq_true hbₓ).1
            rw [sk_idem, mIf_neg (show ¬ (1 : Int) = 0 by decide), mIf_neg (fun qₓ => qₓ rfl), mIf_pos (show ¬ (1 : Int) = 0 by decide)] at eₓ
            unfold b_X3_readFact_77 b_X3_readFact_160 at eₓ
            by_cases cₓ : dₓ < 10
            · rw [mIf_pos cₓ, mIf_pos rfl] at eₓ
              rw [mLet_e] at eₓ
              obtain ⟨r3ₓ, s3ₓ, e3ₓ, eₓ⟩ := mCall_el eₓ
              have h1ₓ : RS F N qr 2 2 S (true :: S) σ (tp σ (sk F N (σ 1 1) + 1) (sk F N (σ 1 1)) 0) := RS.step hqₓ hₓ hfₓ (by omega) (by omega) (by rw [s2a, if_neg hw'ₓ, if_pos hbₓ, if_neg (by omega)])
              have h2ₓ := ihTₓ (dₓ + 1) (true :: S) _ _ _ (by rw [List.length_cons]; omega) (Or.inr ⟨S, rfl⟩) h1ₓ.1 e3ₓ
              have h3ₓ := h1ₓ.tr h2ₓ.1
              by_cases hf3ₓ : s3ₓ 1 4 = 0
              · have es3ₓ := es_0 hf3ₓ
                rw [← es3ₓ, c_isFaulty, if_pos rfl, mCall_s, mIf_neg (fun qₓ => qₓ rfl)] at eₓ
                obtain ⟨r4ₓ, s4ₓ, e4ₓ, eₓ⟩ := mCall_el eₓ
                rcases c_takeByte h3ₓ.1.1 h3ₓ.1.2.1.1 (by decide) e4ₓ with ⟨hb2ₓ, rfl, rfl⟩ | ⟨hb2ₓ, rfl, rfl⟩
                · rw [mIf_pos (show ¬ (1 : Int) = 0 by decide)] at eₓ
                  obtain ⟨-, rfl⟩ := some_el eₓ
                  have hbN2ₓ := (of_decide_eq_true hb2ₓ).1
                  have hle3ₓ : s3ₓ 1 1 ≤ sk F N (s3ₓ 1 1) := sk_ge
                  refine h3ₓ.tr (RS.step hqₓ h3ₓ.1 hf3ₓ (by omega) (by omega) ?_)
                  show (if byteIs F N (sk F N (s3ₓ 1 1)) 93 = true then _ else _) = _
                  rw [if_pos hb2ₓ]
                · rw [mIf_neg (fun qₓ => qₓ rfl), c_blameHere, mCall_s, blm_0] at eₓ
                  obtain ⟨-, rfl⟩ := some_el eₓ
                  have hle3ₓ : s3ₓ 1 1 ≤ sk F N (s3ₓ 1 1) := sk_ge
                  have hp3ₓ := h3ₓ.1.2.1.1
                  refine h3ₓ.tr (RS.halt hqₓ h3ₓ.1 hf3ₓ (sk_ub h3ₓ.1.2.1.2.1) hle3ₓ (by omega) ?_)
                  show (if byteIs F N (sk F N (s3ₓ 1 1)) 93 = true then _ else if joinAt F N (sk F N (s3ₓ 1 1)) = true then _ else _) = _
                  rw [hb2ₓ, if_neg (by decide), h2ₓ.2 hf3ₓ, if_neg (by decide)]
              · rw [← tp_self (σ := s3ₓ), c_isFaulty, if_neg hf3ₓ, mCall_s, mIf_pos (show ¬ (1 : Int) = 0 by decide), tp_self] at eₓ
                obtain ⟨-, rfl⟩ := some_el eₓ
                exact h3ₓ.tr (RS.bad h3ₓ.1 hf3ₓ)
            · rw [mIf_neg cₓ] at eₓ
              rw [mRd_e, tp_g] at eₓ
              rw [c_blame, mCall_s, blm_0] at eₓ
              obtain ⟨-, rfl⟩ := some_el eₓ
              exact RS.halt hqₓ hₓ hfₓ (by omega) (by omega) (by omega) (by rw [s2a, if_neg hw'ₓ, if_pos hbₓ, if_pos (by omega)]; congr 1; omega)
          · -- two sums
            rw [sk_idem] at hbₓ
            rw [sk_idem, mIf_pos rfl] at eₓ
            unfold b_X3_readFact_41 b_X3_readFact_160 at eₓ
            rw [mIf_neg (fun qₓ => qₓ rfl), mIf_neg (fun qₓ => qₓ rfl)] at eₓ
            have h1ₓ : RS F N qr 2 3 S S σ (tp σ (sk F N (σ 1 1)) (sk F N (σ 1 1)) 0) := RS.step hqₓ hₓ hfₓ hNₓ hleₓ (by rw [s2a, if_neg hw'ₓ, hbₓ, if_neg (by decide), sk_idem])
            exact h1ₓ.tr (c_compare hqₓ h1ₓ.1 eₓ)
      · rw [← tp_self (σ := σ), c_isFaulty, if_neg hfₓ, mCall_s, mIf_neg (show ¬ (1 : Int) = 0 by decide), tp_self] at eₓ
        obtain ⟨-, rfl⟩ := some_el eₓ
        exact RS.bad hₓ hfₓ
    · -- aₓ test
      intro dₓ S σ σ' rₓ hdₓ hSₓ hₓ eₓ
      rw [e_X3_readTest_e] at eₓ
      unfold b_X3_readTest_e at eₓ
      obtain ⟨r1ₓ, s1ₓ, e1ₓ, eₓ⟩ := mCall_el eₓ
      have h1ₓ := ihFₓ dₓ S _ _ _ hdₓ hₓ e1ₓ
      have h2ₓ := ihLₓ dₓ (-1) 0 S _ _ _ hdₓ hSₓ h1ₓ.1 (fun _ => h1ₓ.1.2.1.1) eₓ
      exact ⟨h1ₓ.tr h2ₓ.1, h2ₓ.2⟩
    · -- what joins
      intro dₓ wt iₓ S σ σ' rₓ hdₓ hSₓ hₓ hiₓ eₓ
      rw [e_X3_readTest_9] at eₓ
      unfold b_X3_readTest_9 at eₓ
      have finₓ : ∀ τ : SS, RS F N qr 7 7 S S σ τ → (τ 1 4 = 0 → joinAt F N (sk F N (τ 1 1)) = false) → b_X3_readTest_86 (j_X3_readFact_X3_readTest qr 3 nₓ) nₓ qr 3 wt τ = some (rₓ, σ') → RS F N qr 7 7 S S σ σ' ∧ (σ' 1 4 = 0 → joinAt F N (sk F N (σ' 1 1)) = false) := by
        intro τ h1ₓ h2ₓ eₓ
        unfold b_X3_readTest_86 at eₓ
        obtain ⟨r1ₓ, s1ₓ, e1ₓ, eₓ⟩ := mCall_el eₓ
        obtain ⟨-, rfl⟩ := some_el eₓ
        have hsₓ := c_addWaiting hqₓ e1ₓ
        exact ⟨h1ₓ.sm hsₓ, by rw [hsₓ 1 4 (by omega), hsₓ 1 1 (by omega)]; exact h2ₓ⟩
      by_cases cₓ : 400 ≤ iₓ
      · rw [mIf_pos cₓ] at eₓ
        refine finₓ σ (RS.rf hₓ) (fun hfₓ => joinAt_N ?_) eₓ
        have h4ₓ : σ 1 1 ≤ sk F N (σ 1 1) := sk_ge
        have h5ₓ := hiₓ hfₓ
        have h6ₓ := hₓ.2.1.2.2
        omega
      · rw [mIf_neg cₓ] at eₓ
        by_cases hfₓ : σ 1 4 = 0
        · have esₓ := es_0 hfₓ
          rw [← esₓ, c_isFaulty, if_pos rfl, mCall_s, mIf_neg (fun qₓ => qₓ rfl)] at eₓ
          have hp0ₓ := hₓ.2.1.1
          have hleₓ : σ 1 1 ≤ sk F N (σ 1 1) := sk_ge
          have hNₓ : sk F N (σ 1 1) ≤ N := sk_ub hₓ.2.1.2.1
          have hq0ₓ : 0 ≤ sk F N (σ 1 1) := Int.le_trans hp0ₓ hleₓ
          have hwNₓ : wd F N (sk F N (σ 1 1)) ≤ N := wd_ub hNₓ
          have goₓ : ∀ (wt' : Int) (τ0 τ τ' : SS) (r'ₓ : Int), sk F N (σ 1 1) + 1 ≤ wd F N (sk F N (σ 1 1)) → joinAt F N (sk F N (σ 1 1)) = true → Sm qr (tp σ (wd F N (sk F N (σ 1 1))) (sk F N (σ 1 1)) 0) τ0 → j_X3_readFact_X3_readTest qr 3 nₓ 1000 [dₓ] τ0 = some (r'ₓ, τ) → Sm qr τ τ' → j_X3_readFact_X3_readTest qr 3 nₓ 2009 [dₓ, wt', iₓ + 1] τ' = some (rₓ, σ') → RS F N qr 7 7 S S σ σ' ∧ (σ' 1 4 = 0 → joinAt F N (sk F N (σ' 1 1)) = false) := by
            intro wt' τ0 τ τ' r'ₓ hwₓ hjₓ hs0ₓ eF hsₓ eₓ
            have h1ₓ : RS F N qr 7 2 S S σ (tp σ (wd F N (sk F N (σ 1 1))) (sk F N (σ 1 1)) 0) := RS.step hqₓ hₓ hfₓ hwNₓ (by omega) (step7_join hSₓ hjₓ)
            have h1'ₓ := h1ₓ.sm hs0ₓ
            have h2ₓ := (ihFₓ dₓ S _ _ _ hdₓ h1'ₓ.1 eF).sm hsₓ
            have h5ₓ := h2ₓ.2.2.1
            rw [hs0ₓ 1 1 (by omega), tp_p] at h5ₓ
            have h6ₓ := ihLₓ dₓ wt' (iₓ + 1) S _ _ _ hdₓ hSₓ h2ₓ.1 (fun _ => by have := hiₓ hfₓ; omega) eₓ
            exact ⟨(h1'ₓ.tr h2ₓ).tr h6ₓ.1, h6ₓ.2⟩
          obtain ⟨r1ₓ, s1ₓ, e1ₓ, eₓ⟩ := mCall_el eₓ
          rcases c_takeWord hₓ.1 (kₓ := 6) (by decide) (by decide) hp0ₓ hₓ.2.1.2.1 e1ₓ with ⟨hwₓ, rfl, rfl⟩ | ⟨hwₓ, rfl, rfl⟩
          · rw [mIf_neg (show ¬ (1 : Int) = 0 by decide)] at eₓ
            obtain ⟨r2ₓ, s2ₓ, e2ₓ, eₓ⟩ := mCall_el eₓ
            obtain ⟨r3ₓ, s3ₓ, e3ₓ, eₓ⟩ := mCall_el eₓ
            unfold b_X3_readTest_80 at eₓ
            have hw'ₓ : isWd F N (sk F N (σ 1 1)) wAnd = true := hwₓ
            have hlₓ := isWd_len hw'ₓ
            rw [show (wAnd.length : Int) = 3 from rfl] at hlₓ
            exact goₓ wt _ s2ₓ s3ₓ r2ₓ (by omega) (joinAt_i.mpr (Or.inl hw'ₓ)) Sm.rf e2ₓ (c_addToken hqₓ e3ₓ) eₓ
          · rw [mIf_pos rfl] at eₓ
            obtain ⟨r2ₓ, s2ₓ, e2ₓ, eₓ⟩ := mCall_el eₓ
            rcases c_takeWord hₓ.1 (kₓ := 7) (by decide) (by decide) hq0ₓ hNₓ e2ₓ with ⟨hw2ₓ, rfl, rfl⟩ | ⟨hw2ₓ, rfl, rfl⟩
            · rw [sk_idem] at hw2ₓ eₓ
              rw [mIf_neg (show ¬ (1 : Int) = 0 by decide)] at eₓ
              obtain ⟨r3ₓ, s3ₓ, e3ₓ, eₓ⟩ := mCall_el eₓ
              obtain ⟨r4ₓ, s4ₓ, e4ₓ, eₓ⟩ := mCall_el eₓ
              unfold b_X3_readTest_80 at eₓ
              have hw'ₓ : isWd F N (sk F N (σ 1 1)) wOr = true := hw2ₓ
              have hlₓ := isWd_len hw'ₓ
              rw [show (wOr.length : Int) = 2 from rfl] at hlₓ
              exact goₓ 21 s3ₓ s4ₓ s4ₓ r4ₓ (by omega) (joinAt_i.mpr (Or.inr hw'ₓ)) (c_addWaiting hqₓ e3ₓ) e4ₓ Sm.rf eₓ
            · rw [sk_idem] at hw2ₓ eₓ
              rw [mIf_pos rfl] at eₓ
              refine finₓ _ (RS.stay hqₓ hₓ hfₓ) (fun _ => ?_) eₓ
              rw [tp_p, sk_idem]
              unfold joinAt
              rw [show wAnd = txt 6 from rfl, hwₓ, show wOr = txt 7 from rfl, hw2ₓ]; rfl
        · rw [← tp_self (σ := σ), c_isFaulty, if_neg hfₓ, mCall_s, mIf_pos (show ¬ (1 : Int) = 0 by decide), tp_self] at eₓ
          exact finₓ σ (RS.bad hₓ hfₓ) (fun qₓ => absurd qₓ hfₓ) eₓ
theorem c_readTest (hqₓ : 5 ≤ qr) (hₓ : OKC F N σ) (eₓ : m_X3_readTest nₓ qr 3 0 σ = some (rₓ, σ')) : RS F N qr 2 7 [] [] σ σ' ∧ (σ' 1 4 = 0 → joinAt F N (sk F N (σ' 1 1)) = false) := (c_facts hqₓ nₓ).2.1 0 [] σ σ' rₓ rfl (Or.inl rfl) hₓ eₓ
end
