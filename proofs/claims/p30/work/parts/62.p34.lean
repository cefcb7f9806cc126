/-! the class's facts and tests, its clauses, and rule(): what they put out -/
def CR (de stₓ : Nat → Int) : List (Int × Nat × Bool × Nat) → Prop
  | [] => True
  | xₓ :: R => de R.length = xₓ.1 ∧ stₓ R.length = (xₓ.2.1 : Int) ∧ stₓ (R.length + 1) = (xₓ.2.2.2 : Int) ∧ CR de stₓ R
theorem CR_congr {de stₓ de' st'ₓ : Nat → Int} : ∀ {R : List (Int × Nat × Bool × Nat)}, CR de stₓ R → (∀ jₓ : Nat, jₓ < R.length → de' jₓ = de jₓ) → (∀ jₓ : Nat, jₓ ≤ R.length → st'ₓ jₓ = stₓ jₓ) → CR de' st'ₓ R
  | [], _, _, _ => trivial
  | xₓ :: R, hₓ, h1ₓ, h2ₓ => by
    obtain ⟨aₓ, bₓ, cₓ, dₓ⟩ := hₓ
    have hlₓ : (xₓ :: R).length = R.length + 1 := List.length_cons
    exact ⟨(h1ₓ _ (by omega)).trans aₓ, (h2ₓ _ (by omega)).trans bₓ, (h2ₓ _ (by omega)).trans cₓ, CR_congr dₓ (fun jₓ hjₓ => h1ₓ jₓ (by omega)) (fun jₓ hjₓ => h2ₓ jₓ (by omega))⟩
def DC (qr : Nat) (σ : SS) (O : List Int) (R : List (Int × Nat × Bool × Nat)) : Prop := σ qr 4 = (R.length : Int) ∧ Cd qr σ O ∧ CR (σ (qr + 1)) (σ (qr + 2)) R ∧ ∀ xₓ ∈ R, (xₓ.1 = 1 → σ qr 5 ≠ 0) ∧ xₓ.1 < 4
/-- aₓ rule that is read -/
def FIN (F : Int → Int) (N : Int) (x0ₓ : XC) (qr : Nat) (σ : SS) : Prop := ∃ (qₓ : Int) (O : List Int) (cₓ : Int × Nat) (R : List (Int × Nat × Bool × Nat)), XS F N x0ₓ (9, qₓ, [], O, cₓ, R) ∧ DC qr σ O R ∧ O.length ≤ 400 ∧ R.length ≤ 12
/-- other rules, and where the first clause begins -/
def OT (qr : Nat) (σ σ' : SS) : Prop := (∀ qₓ kₓ : Nat, 5 ≤ qₓ → (qₓ < qr ∨ qr + 4 ≤ qₓ) → σ' qₓ kₓ = σ qₓ kₓ) ∧ (0 ≤ σ qr 4 → 0 ≤ σ' qr 4 ∧ σ' (qr + 2) 0 = σ (qr + 2) 0)
section
variable {F : Int → Int} {N : Int} {qr : Nat} {W O : List Int} {σ σ' σ'' : SS} {rₓ tₓ : Int} {nₓ q0ₓ : Nat} {qₓ : Int} {cₓ : Int × Nat} {R : List (Int × Nat × Bool × Nat)}
theorem OT.rf : OT qr σ σ := ⟨fun _ _ _ _ => rfl, fun hₓ => ⟨hₓ, rfl⟩⟩
theorem OT.tr (hₓ : OT qr σ σ') (gₓ : OT qr σ' σ'') : OT qr σ σ'' := ⟨fun qₓ kₓ aₓ bₓ => (gₓ.1 qₓ kₓ aₓ bₓ).trans (hₓ.1 qₓ kₓ aₓ bₓ), fun h0ₓ => by
  obtain ⟨h1ₓ, h2ₓ⟩ := hₓ.2 h0ₓ
  obtain ⟨g1ₓ, g2ₓ⟩ := gₓ.2 h1ₓ
  exact ⟨g1ₓ, g2ₓ.trans h2ₓ⟩⟩
theorem OT.hi (hqₓ : 5 ≤ qr) (hₓ : Hi σ σ') : OT qr σ σ' := ⟨fun qₓ kₓ aₓ _ => hₓ qₓ kₓ aₓ, fun h0ₓ => ⟨by rw [hₓ _ _ hqₓ]; exact h0ₓ, hₓ _ _ (by omega)⟩⟩
theorem KRc.ot (hₓ : KRc qr σ σ') (h0ₓ : 0 < σ qr 4) : OT qr σ σ' := ⟨hₓ.2.2.2.2, fun _ => ⟨by rw [hₓ.2.1]; omega, hₓ.2.2.2.1 0 (by omega)⟩⟩
theorem DC.hi (hqₓ : 5 ≤ qr) (hₓ : Hi σ σ') (hdₓ : DC qr σ O R) : DC qr σ' O R := by
  obtain ⟨h1ₓ, h2ₓ, h3ₓ, h4ₓ⟩ := hdₓ
  exact ⟨(hₓ _ _ hqₓ).trans h1ₓ, h2ₓ.hi hqₓ hₓ, CR_congr h3ₓ (fun jₓ _ => hₓ _ jₓ (by omega)) (fun jₓ _ => hₓ _ jₓ (by omega)), fun xₓ hxₓ => ⟨fun h5ₓ => by rw [hₓ _ _ hqₓ]; exact (h4ₓ xₓ hxₓ).1 h5ₓ, (h4ₓ xₓ hxₓ).2⟩⟩
theorem x2_not (hₓ : isWd F N qₓ wNot = true) : xstep F N (2, qₓ, W, O, cₓ, R) = (2, sk F N (wd F N qₓ), 19 :: W, O, cₓ, R) := if_pos hₓ
theorem x2_br (hₓ : ¬ isWd F N qₓ wNot = true) (h2ₓ : byteIs F N qₓ 91 = true) : xstep F N (2, qₓ, W, O, cₓ, R) = (2, sk F N (qₓ + 1), 91 :: W, O, cₓ, R) := (if_neg hₓ).trans (if_pos h2ₓ)
theorem x2_sum (hₓ : ¬ isWd F N qₓ wNot = true) (h2ₓ : ¬ byteIs F N qₓ 91 = true) : xstep F N (2, qₓ, W, O, cₓ, R) = (3, qₓ, W, O, cₓ, R) := (if_neg hₓ).trans (if_neg h2ₓ)
theorem TSW.wl (hₓ : TSW W) (htₓ : tₓ = -1 ∨ tₓ = 21) : xtop isLg (wL tₓ W) = false := by
  unfold wL
  by_cases cₓ : tₓ = -1
  · rw [if_pos cₓ]; exact (TSW_top hₓ).1
  · rw [if_neg cₓ, show tₓ = 21 by omega]; exact or_lg
theorem lgW.wl (hₓ : lgW W) (htₓ : tₓ = -1 ∨ tₓ = 21) : lgW (wL tₓ W) := by
  unfold wL
  by_cases cₓ : tₓ = -1
  · rw [if_pos cₓ]; exact hₓ
  · rw [if_neg cₓ]; exact lgW_p (by omega) hₓ
theorem br_no (hₓ : byteIs F N qₓ 93 = true) : ¬ isWd F N qₓ wAnd = true ∧ ¬ isWd F N qₓ wOr = true := by
  have h1ₓ := (byteIs_i.mp hₓ).2
  exact ⟨fun gₓ => by have := isWd_hd gₓ; omega, fun gₓ => by have := isWd_hd gₓ; omega⟩
theorem join_no (hₓ : joinAt F N qₓ = false) : ¬ isWd F N qₓ wAnd = true ∧ ¬ isWd F N qₓ wOr = true :=
  ⟨fun gₓ => (by have := joinAt_i.mpr (Or.inl gₓ); rw [hₓ] at this; cases this), fun gₓ => (by have := joinAt_i.mpr (Or.inr gₓ); rw [hₓ] at this; cases this)⟩
theorem or_and (hₓ : isWd F N qₓ wOr = true) : ¬ isWd F N qₓ wAnd = true := fun gₓ => by
  have h1ₓ := isWd_hd hₓ
  have h2ₓ := isWd_hd gₓ
  omega
theorem cx_facts (hqₓ : 5 ≤ qr) : ∀ nₓ : Nat,
    (∀ (dₓ : Int) (S : List Bool) (W : List Int) (σ σ' : SS) (rₓ : Int), (S.length : Int) = dₓ → lgW W → OKC F N σ → j_X3_readFact_X3_readTest qr 3 nₓ 1000 [dₓ] σ = some (rₓ, σ') → XR F N qr 2 7 W W σ σ') ∧
    (∀ (dₓ : Int) (S : List Bool) (W : List Int) (σ σ' : SS) (rₓ : Int), (S.length : Int) = dₓ → TS S → TSW W → lgW W → OKC F N σ → j_X3_readFact_X3_readTest qr 3 nₓ 2000 [dₓ] σ = some (rₓ, σ') → XR F N qr 2 7 W W σ σ') ∧
    (∀ (dₓ wt iₓ : Int) (S : List Bool) (W : List Int) (σ σ' : SS) (rₓ : Int), (S.length : Int) = dₓ → TS S → TSW W → lgW W → OKC F N σ → (σ 1 4 = 0 → iₓ ≤ σ 1 1) → (wt = -1 ∨ wt = 21) → j_X3_readFact_X3_readTest qr 3 nₓ 2009 [dₓ, wt, iₓ] σ = some (rₓ, σ') → XR F N qr 7 7 (wL wt W) W σ σ') := by
  intro nₓ
  induction nₓ with
  | zero => exact ⟨fun _ _ _ _ _ _ _ _ _ eₓ => none_el eₓ, fun _ _ _ _ _ _ _ _ _ _ _ eₓ => none_el eₓ, fun _ _ _ _ _ _ _ _ _ _ _ _ _ _ _ eₓ => none_el eₓ⟩
  | succ nₓ ihₓ =>
    obtain ⟨ihFₓ, ihTₓ, ihLₓ⟩ := ihₓ
    refine ⟨?_, ?_, ?_⟩
    · -- aₓ fact
      intro dₓ S W σ σ' rₓ hdₓ hWₓ hₓ eₓ
      rw [e_X3_readFact_e] at eₓ
      unfold b_X3_readFact_e at eₓ
      by_cases hfₓ : σ 1 4 = 0
      · have esₓ := es_0 hfₓ
        rw [← esₓ, c_isFaulty, if_pos rfl, mCall_s, mIf_pos rfl] at eₓ
        have hp0ₓ := hₓ.2.1.1
        have hleₓ : σ 1 1 ≤ sk F N (σ 1 1) := sk_ge
        have hNₓ : sk F N (σ 1 1) ≤ N := sk_ub hₓ.2.1.2.1
        have hq0ₓ : 0 ≤ sk F N (σ 1 1) := Int.le_trans hp0ₓ hleₓ
        obtain ⟨r1ₓ, s1ₓ, e1ₓ, eₓ⟩ := mCall_el eₓ
        rcases c_takeWord hₓ.1 (kₓ := 4) (by decide) (by decide) hp0ₓ hₓ.2.1.2.1 e1ₓ with ⟨hwₓ, rfl, rfl⟩ | ⟨hwₓ, rfl, rfl⟩
        · -- not
          have hw'ₓ : isWd F N (sk F N (σ 1 1)) wNot = true := hwₓ
          have hwlₓ := isWd_len hw'ₓ
          have hwNₓ : wd F N (sk F N (σ 1 1)) ≤ N := wd_ub hNₓ
          rw [show (wNot.length : Int) = 3 from rfl] at hwlₓ
          have hwsₓ : wd F N (sk F N (σ 1 1)) ≤ sk F N (wd F N (sk F N (σ 1 1))) := sk_ge
          unfold b_X3_readFact_41 b_X3_readFact_77 b_X3_readFact_160 at eₓ
          rw [mIf_pos (show ¬ (1 : Int) = 0 by decide), mIf_pos (show ¬ (1 : Int) = 0 by decide)] at eₓ
          by_cases cₓ : dₓ < 10
          · rw [mIf_pos cₓ, mIf_neg (show ¬ (1 : Int) = 0 by decide)] at eₓ
            rw [mLet_e] at eₓ
            obtain ⟨r2ₓ, s2ₓ, e2ₓ, eₓ⟩ := mCall_el eₓ
            obtain ⟨r3ₓ, s3ₓ, e3ₓ, eₓ⟩ := mCall_el eₓ
            obtain ⟨-, rfl⟩ := some_el eₓ
            have h1ₓ : OKC F N (tp σ (wd F N (sk F N (σ 1 1))) (sk F N (σ 1 1)) 0) := hₓ.mv hfₓ (by omega) hwNₓ
            have hd'ₓ : (((false :: S).length : Nat) : Int) = dₓ + 1 := by rw [List.length_cons]; omega
            have f2ₓ := (c_facts hqₓ nₓ).1 (dₓ + 1) (false :: S) _ _ _ hd'ₓ h1ₓ e2ₓ
            have m1ₓ : XR F N qr 2 2 W (19 :: W) σ (tp σ (wd F N (sk F N (σ 1 1))) (sk F N (σ 1 1)) 0) := XR.mv hqₓ hfₓ (by rw [List.length_cons]; omega) (fun O cₓ R => XS_one (x2_not hw'ₓ))
            have m2ₓ := ihFₓ (dₓ + 1) (false :: S) (19 :: W) _ _ _ hd'ₓ (lgW_p (by omega) hWₓ) h1ₓ e2ₓ
            exact (m1ₓ.tr m2ₓ).tr (XR.pop hqₓ f2ₓ.1 e3ₓ (fun _ O cₓ R => XS_one (x7_lg (Or.inl rfl))))
          · rw [mIf_neg cₓ] at eₓ
            rw [mRd_e, tp_g] at eₓ
            rw [c_blame, mCall_s, blm_0] at eₓ
            obtain ⟨-, rfl⟩ := some_el eₓ
            exact XR.off (KRc.hi hqₓ tp_hi) (by rw [tp_f]; omega)
        · have hw'ₓ : ¬ isWd F N (sk F N (σ 1 1)) wNot = true := by rw [show wNot = txt 4 from rfl, hwₓ]; decide
          rw [mIf_neg (fun qₓ => qₓ rfl)] at eₓ
          obtain ⟨r2ₓ, s2ₓ, e2ₓ, eₓ⟩ := mCall_el eₓ
          rcases c_takeByte hₓ.1 hq0ₓ (by decide) e2ₓ with ⟨hbₓ, rfl, rfl⟩ | ⟨hbₓ, rfl, rfl⟩
          · -- aₓ bracket
            rw [sk_idem] at hbₓ
            have hbNₓ := (of_decide_eq_true hbₓ).1
            have hwsₓ : sk F N (σ 1 1) + 1 ≤ sk F N (sk F N (σ 1 1) + 1) := sk_ge
            rw [sk_idem, mIf_neg (show ¬ (1 : Int) = 0 by decide), mIf_neg (fun qₓ => qₓ rfl), mIf_pos (show ¬ (1 : Int) = 0 by decide)] at eₓ
            unfold b_X3_readFact_77 b_X3_readFact_160 at eₓ
            by_cases cₓ : dₓ < 10
            · rw [mIf_pos cₓ, mIf_pos rfl] at eₓ
              rw [mLet_e] at eₓ
              obtain ⟨r3ₓ, s3ₓ, e3ₓ, eₓ⟩ := mCall_el eₓ
              have h1ₓ : OKC F N (tp σ (sk F N (σ 1 1) + 1) (sk F N (σ 1 1)) 0) := hₓ.mv hfₓ (by omega) (by omega)
              have hd'ₓ : (((true :: S).length : Nat) : Int) = dₓ + 1 := by rw [List.length_cons]; omega
              have f2ₓ := (c_facts hqₓ nₓ).2.1 (dₓ + 1) (true :: S) _ _ _ hd'ₓ (Or.inr ⟨S, rfl⟩) h1ₓ e3ₓ
              have m1ₓ : XR F N qr 2 2 W (91 :: W) σ (tp σ (sk F N (σ 1 1) + 1) (sk F N (σ 1 1)) 0) := XR.mv hqₓ hfₓ (by rw [List.length_cons]; omega) (fun O cₓ R => XS_one (x2_br hw'ₓ hbₓ))
              have m2ₓ := ihTₓ (dₓ + 1) (true :: S) (91 :: W) _ _ _ hd'ₓ (Or.inr ⟨S, rfl⟩) (Or.inr ⟨W, rfl⟩) (lgW_p (by omega) hWₓ) h1ₓ e3ₓ
              have m3ₓ := m1ₓ.tr m2ₓ
              by_cases hf3ₓ : s3ₓ 1 4 = 0
              · have es3ₓ := es_0 hf3ₓ
                rw [← es3ₓ, c_isFaulty, if_pos rfl, mCall_s, mIf_neg (fun qₓ => qₓ rfl)] at eₓ
                obtain ⟨r4ₓ, s4ₓ, e4ₓ, eₓ⟩ := mCall_el eₓ
                have hp3ₓ := f2ₓ.1.1.2.1.1
                have hle3ₓ : s3ₓ 1 1 ≤ sk F N (s3ₓ 1 1) := sk_ge
                rcases c_takeByte f2ₓ.1.1.1 f2ₓ.1.1.2.1.1 (by decide) e4ₓ with ⟨hb2ₓ, rfl, rfl⟩ | ⟨hb2ₓ, rfl, rfl⟩
                · rw [mIf_pos (show ¬ (1 : Int) = 0 by decide)] at eₓ
                  obtain ⟨-, rfl⟩ := some_el eₓ
                  have hws3ₓ : sk F N (s3ₓ 1 1) + 1 ≤ sk F N (sk F N (s3ₓ 1 1) + 1) := sk_ge
                  exact m3ₓ.tr (XR.mv hqₓ hf3ₓ (by rw [List.length_cons]; omega) (fun O cₓ R => XS_one (x7_br (br_no hb2ₓ).1 (br_no hb2ₓ).2)))
                · rw [mIf_neg (fun qₓ => qₓ rfl), c_blameHere, mCall_s, blm_0] at eₓ
                  obtain ⟨-, rfl⟩ := some_el eₓ
                  exact XR.off (m3ₓ.1.tr (KRc.hi hqₓ tp_hi)) (by rw [tp_f]; omega)
              · rw [← tp_self (σ := s3ₓ), c_isFaulty, if_neg hf3ₓ, mCall_s, mIf_pos (show ¬ (1 : Int) = 0 by decide), tp_self] at eₓ
                obtain ⟨-, rfl⟩ := some_el eₓ
                exact XR.off m3ₓ.1 hf3ₓ
            · rw [mIf_neg cₓ] at eₓ
              rw [mRd_e, tp_g] at eₓ
              rw [c_blame, mCall_s, blm_0] at eₓ
              obtain ⟨-, rfl⟩ := some_el eₓ
              exact XR.off (KRc.hi hqₓ tp_hi) (by rw [tp_f]; omega)
          · -- two sums
            rw [sk_idem] at hbₓ
            rw [sk_idem, mIf_pos rfl] at eₓ
            unfold b_X3_readFact_41 b_X3_readFact_160 at eₓ
            rw [mIf_neg (fun qₓ => qₓ rfl), mIf_neg (fun qₓ => qₓ rfl)] at eₓ
            have h1ₓ : OKC F N (tp σ (sk F N (σ 1 1)) (sk F N (σ 1 1)) 0) := hₓ.mv hfₓ (by omega) hNₓ
            have m1ₓ : XR F N qr 2 3 W W σ (tp σ (sk F N (σ 1 1)) (sk F N (σ 1 1)) 0) := XR.mv hqₓ hfₓ (by rw [sk_idem]; omega) (fun O cₓ R => by rw [sk_idem]; exact XS_one (x2_sum hw'ₓ (by rw [hbₓ]; decide)))
            exact m1ₓ.tr (cx_compare hqₓ hWₓ h1ₓ eₓ)
      · rw [← tp_self (σ := σ), c_isFaulty, if_neg hfₓ, mCall_s, mIf_neg (show ¬ (1 : Int) = 0 by decide), tp_self] at eₓ
        obtain ⟨-, rfl⟩ := some_el eₓ
        exact XR.off KRc.rf hfₓ
    · -- aₓ test
      intro dₓ S W σ σ' rₓ hdₓ hSₓ hTₓ hWₓ hₓ eₓ
      rw [e_X3_readTest_e] at eₓ
      unfold b_X3_readTest_e at eₓ
      obtain ⟨r1ₓ, s1ₓ, e1ₓ, eₓ⟩ := mCall_el eₓ
      have h1ₓ := (c_facts hqₓ nₓ).1 dₓ S _ _ _ hdₓ hₓ e1ₓ
      have m1ₓ := ihFₓ dₓ S W _ _ _ hdₓ hWₓ hₓ e1ₓ
      have m2ₓ := ihLₓ dₓ (-1) 0 S W _ _ _ hdₓ hSₓ hTₓ hWₓ h1ₓ.1 (fun _ => h1ₓ.1.2.1.1) (Or.inl rfl) eₓ
      rw [show wL (-1) W = W from if_pos rfl] at m2ₓ
      exact m1ₓ.tr m2ₓ
    · -- what joins
      intro dₓ wt iₓ S W σ σ' rₓ hdₓ hSₓ hTₓ hWₓ hₓ hiₓ hwtₓ eₓ
      rw [e_X3_readTest_9] at eₓ
      unfold b_X3_readTest_9 at eₓ
      have finₓ : ∀ τ : SS, OKC F N τ → XR F N qr 7 7 (wL wt W) (wL wt W) σ τ → (τ 1 4 = 0 → joinAt F N (sk F N (τ 1 1)) = false) → b_X3_readTest_86 (j_X3_readFact_X3_readTest qr 3 nₓ) nₓ qr 3 wt τ = some (rₓ, σ') → XR F N qr 7 7 (wL wt W) W σ σ' := by
        intro τ h0ₓ h1ₓ h2ₓ eₓ
        unfold b_X3_readTest_86 at eₓ
        obtain ⟨r1ₓ, s1ₓ, e1ₓ, eₓ⟩ := mCall_el eₓ
        obtain ⟨-, rfl⟩ := some_el eₓ
        refine h1ₓ.tr (XR.wait hqₓ h0ₓ e1ₓ (fun hwₓ hzₓ O cₓ R => XS_one ?_))
        rw [show wt = 21 by omega]
        exact x7_orpop (join_no (h2ₓ hzₓ)).1
      by_cases cₓ : 400 ≤ iₓ
      · rw [mIf_pos cₓ] at eₓ
        refine finₓ σ hₓ XR.rf (fun hfₓ => joinAt_N ?_) eₓ
        have h4ₓ : σ 1 1 ≤ sk F N (σ 1 1) := sk_ge
        have h5ₓ := hiₓ hfₓ
        have h6ₓ := hₓ.2.1.2.2
        omega
      · rw [mIf_neg cₓ] at eₓ
        by_cases hfₓ : σ 1 4 = 0
        · have esₓ := es_0 hfₓ
          rw [← esₓ, c_isFaulty, if_pos rfl, mCall_s, mIf_neg (fun qₓ => qₓ rfl)] at eₓ
          have hp0ₓ := hₓ.2.1.1
          have hleₓ : σ 1 1 ≤ sk F N (σ 1 1) := sk_ge
          have hNₓ : sk F N (σ 1 1) ≤ N := sk_ub hₓ.2.1.2.1
          have hq0ₓ : 0 ≤ sk F N (σ 1 1) := Int.le_trans hp0ₓ hleₓ
          have hwNₓ : wd F N (sk F N (σ 1 1)) ≤ N := wd_ub hNₓ
          have hwdₓ : sk F N (σ 1 1) ≤ wd F N (sk F N (σ 1 1)) := wd_ge
          have hwsₓ : wd F N (sk F N (σ 1 1)) ≤ sk F N (wd F N (sk F N (σ 1 1))) := sk_ge
          have h1ₓ : OKC F N (tp σ (wd F N (sk F N (σ 1 1))) (sk F N (σ 1 1)) 0) := hₓ.mv hfₓ (by omega) hwNₓ
          obtain ⟨r1ₓ, s1ₓ, e1ₓ, eₓ⟩ := mCall_el eₓ
          rcases c_takeWord hₓ.1 (kₓ := 6) (by decide) (by decide) hp0ₓ hₓ.2.1.2.1 e1ₓ with ⟨hwₓ, rfl, rfl⟩ | ⟨hwₓ, rfl, rfl⟩
          · -- and
            rw [mIf_neg (show ¬ (1 : Int) = 0 by decide)] at eₓ
            obtain ⟨r2ₓ, s2ₓ, e2ₓ, eₓ⟩ := mCall_el eₓ
            obtain ⟨r3ₓ, s3ₓ, e3ₓ, eₓ⟩ := mCall_el eₓ
            unfold b_X3_readTest_80 at eₓ
            have hw'ₓ : isWd F N (sk F N (σ 1 1)) wAnd = true := hwₓ
            have hlₓ := isWd_len hw'ₓ
            rw [show (wAnd.length : Int) = 3 from rfl] at hlₓ
            have f2ₓ := (c_facts hqₓ nₓ).1 dₓ S _ _ _ hdₓ h1ₓ e2ₓ
            have m1ₓ : XR F N qr 7 2 (wL wt W) (20 :: wL wt W) σ (tp σ (wd F N (sk F N (σ 1 1))) (sk F N (σ 1 1)) 0) := XR.mv hqₓ hfₓ (by rw [List.length_cons]; omega) (fun O cₓ R => XS_one (x7_and (hTₓ.wl hwtₓ) hw'ₓ))
            have m2ₓ := ihFₓ dₓ S (20 :: wL wt W) _ _ _ hdₓ (lgW_p (by omega) (hWₓ.wl hwtₓ)) h1ₓ e2ₓ
            have m3ₓ : XR F N qr 7 7 (20 :: wL wt W) (wL wt W) s2ₓ s3ₓ := XR.pop hqₓ f2ₓ.1 e3ₓ (fun _ O cₓ R => XS_one (x7_lg (Or.inr rfl)))
            have hmₓ := c_addToken hqₓ e3ₓ
            have h5ₓ := f2ₓ.2.2.1
            rw [tp_p] at h5ₓ
            have m4ₓ := ihLₓ dₓ wt (iₓ + 1) S W _ _ _ hdₓ hSₓ hTₓ hWₓ (f2ₓ.1.sm hmₓ) (fun _ => by rw [hmₓ 1 1 (by omega)]; have := hiₓ hfₓ; omega) hwtₓ eₓ
            exact ((m1ₓ.tr m2ₓ).tr m3ₓ).tr m4ₓ
          · rw [mIf_pos rfl] at eₓ
            have hnaₓ : ¬ isWd F N (sk F N (σ 1 1)) wAnd = true := by rw [show wAnd = txt 6 from rfl, hwₓ]; decide
            obtain ⟨r2ₓ, s2ₓ, e2ₓ, eₓ⟩ := mCall_el eₓ
            rcases c_takeWord hₓ.1 (kₓ := 7) (by decide) (by decide) hq0ₓ hNₓ e2ₓ with ⟨hw2ₓ, rfl, rfl⟩ | ⟨hw2ₓ, rfl, rfl⟩
            · -- or
              rw [sk_idem] at hw2ₓ eₓ
              rw [mIf_neg (show ¬ (1 : Int) = 0 by decide)] at eₓ
              obtain ⟨r3ₓ, s3ₓ, e3ₓ, eₓ⟩ := mCall_el eₓ
              obtain ⟨r4ₓ, s4ₓ, e4ₓ, eₓ⟩ := mCall_el eₓ
              unfold b_X3_readTest_80 at eₓ
              have hw'ₓ : isWd F N (sk F N (σ 1 1)) wOr = true := hw2ₓ
              have hlₓ := isWd_len hw'ₓ
              rw [show (wOr.length : Int) = 2 from rfl] at hlₓ
              have m1ₓ : XR F N qr 7 2 (wL wt W) (21 :: W) σ s3ₓ := XR.addop hqₓ hₓ hfₓ (by omega) e3ₓ (fun O cₓ R => by
                have htₓ := TSW_top hTₓ
                unfold wL
                by_cases cw : wt = -1
                · rw [if_pos cw, if_pos cw]; exact XS_one (x7_or htₓ.1 htₓ.2 hnaₓ hw'ₓ)
                · rw [if_neg cw, if_neg cw, show wt = 21 by omega]; exact (XS_one (x7_orpop hnaₓ)).tr (XS_one (x7_or htₓ.1 htₓ.2 hnaₓ hw'ₓ)))
              have hmₓ := c_addWaiting hqₓ e3ₓ
              have h2ₓ := h1ₓ.sm hmₓ
              have f2ₓ := (c_facts hqₓ nₓ).1 dₓ S _ _ _ hdₓ h2ₓ e4ₓ
              have m2ₓ := ihFₓ dₓ S (21 :: W) _ _ _ hdₓ (lgW_p (by omega) hWₓ) h2ₓ e4ₓ
              have h5ₓ := f2ₓ.2.2.1
              rw [hmₓ 1 1 (by omega), tp_p] at h5ₓ
              have m4ₓ := ihLₓ dₓ 21 (iₓ + 1) S W _ _ _ hdₓ hSₓ hTₓ hWₓ f2ₓ.1 (fun _ => by have := hiₓ hfₓ; omega) (Or.inr rfl) eₓ
              rw [show wL 21 W = 21 :: W from if_neg (by decide)] at m4ₓ
              exact (m1ₓ.tr m2ₓ).tr m4ₓ
            · rw [sk_idem] at hw2ₓ eₓ
              rw [mIf_pos rfl] at eₓ
              have h3ₓ : OKC F N (tp σ (sk F N (σ 1 1)) (sk F N (σ 1 1)) 0) := hₓ.mv hfₓ hq0ₓ hNₓ
              refine finₓ _ h3ₓ (XR.mv hqₓ hfₓ (by rw [sk_idem]; omega) (fun O cₓ R => by rw [sk_idem]; exact XS.rf)) (fun _ => ?_) eₓ
              rw [tp_p, sk_idem]
              unfold joinAt
              rw [show wAnd = txt 6 from rfl, hwₓ, show wOr = txt 7 from rfl, hw2ₓ]; rfl
        · rw [← tp_self (σ := σ), c_isFaulty, if_neg hfₓ, mCall_s, mIf_pos (show ¬ (1 : Int) = 0 by decide), tp_self] at eₓ
          exact finₓ σ hₓ XR.rf (fun qₓ => absurd qₓ hfₓ) eₓ
theorem cx_readTest (hqₓ : 5 ≤ qr) (hₓ : OKC F N σ) (eₓ : m_X3_readTest nₓ qr 3 0 σ = some (rₓ, σ')) : XR F N qr 2 7 [] [] σ σ' := (cx_facts hqₓ nₓ).2.1 0 [] [] σ σ' rₓ rfl (Or.inl rfl) (Or.inl rfl) lgW_n hₓ eₓ
/-- aₓ clause that is begun -/
theorem cx_addClause (hqₓ : 5 ≤ qr) (hcₓ : σ qr 4 < 12) (eₓ : m_X2_addClause nₓ qr tₓ σ = some (rₓ, σ')) : σ' qr 3 = σ qr 3 ∧ (∀ kₓ : Nat, σ' (qr + 3) kₓ = σ (qr + 3) kₓ) ∧ σ' qr 4 = σ qr 4 + 1 ∧ (∀ kₓ : Nat, σ' (qr + 1) kₓ = if kₓ = (σ qr 4).toNat then tₓ else σ (qr + 1) kₓ) ∧ (∀ kₓ : Nat, σ' (qr + 2) kₓ = if kₓ = (σ qr 4 + 1).toNat then σ qr 3 else σ (qr + 2) kₓ) ∧ ((σ qr 5 ≠ 0 ∨ tₓ = 1) → σ' qr 5 ≠ 0) ∧ ∀ qₓ kₓ : Nat, 5 ≤ qₓ → (qₓ < qr ∨ qr + 4 ≤ qₓ) → σ' qₓ kₓ = σ qₓ kₓ := by
  unfold m_X2_addClause at eₓ
  rw [c_isFull, mCall_s] at eₓ
  unfold b_X2_addClause_61 at eₓ
  rw [if_pos hcₓ, mIf_neg (fun qₓ => qₓ rfl)] at eₓ
  simp only [mRd_e, mWr_e, mLet_e, mRet_e] at eₓ
  have finₓ : ∀ (zₓ : Int), ((σ qr 5 ≠ 0 ∨ tₓ = 1) → zₓ ≠ 0) → some ((0 : Int), upS (upS (upS (upS σ (qr + 1) (σ qr 4).toNat tₓ) qr 5 zₓ) qr 4 (upS (upS σ (qr + 1) (σ qr 4).toNat tₓ) qr 5 zₓ qr 4 + 1)) (qr + 2) (upS (upS (upS σ (qr + 1) (σ qr 4).toNat tₓ) qr 5 zₓ) qr 4 (upS (upS σ (qr + 1) (σ qr 4).toNat tₓ) qr 5 zₓ qr 4 + 1) qr 4).toNat (upS (upS (upS σ (qr + 1) (σ qr 4).toNat tₓ) qr 5 zₓ) qr 4 (upS (upS σ (qr + 1) (σ qr 4).toNat tₓ) qr 5 zₓ qr 4 + 1) qr 3)) = some (rₓ, σ') → σ' qr 3 = σ qr 3 ∧ (∀ kₓ : Nat, σ' (qr + 3) kₓ = σ (qr + 3) kₓ) ∧ σ' qr 4 = σ qr 4 + 1 ∧ (∀ kₓ : Nat, σ' (qr + 1) kₓ = if kₓ = (σ qr 4).toNat then tₓ else σ (qr + 1) kₓ) ∧ (∀ kₓ : Nat, σ' (qr + 2) kₓ = if kₓ = (σ qr 4 + 1).toNat then σ qr 3 else σ (qr + 2) kₓ) ∧ ((σ qr 5 ≠ 0 ∨ tₓ = 1) → σ' qr 5 ≠ 0) ∧ ∀ qₓ kₓ : Nat, 5 ≤ qₓ → (qₓ < qr ∨ qr + 4 ≤ qₓ) → σ' qₓ kₓ = σ qₓ kₓ := by
    intro zₓ hzₓ eₓ
    obtain ⟨-, rfl⟩ := some_el eₓ
    have a1ₓ : upS (upS σ (qr + 1) (σ qr 4).toNat tₓ) qr 5 zₓ qr 4 = σ qr 4 := by rw [upS_k (by decide), upS_q (by omega)]
    rw [a1ₓ]
    have a2ₓ : upS (upS (upS σ (qr + 1) (σ qr 4).toNat tₓ) qr 5 zₓ) qr 4 (σ qr 4 + 1) qr 4 = σ qr 4 + 1 := upS_s
    have a3ₓ : upS (upS (upS σ (qr + 1) (σ qr 4).toNat tₓ) qr 5 zₓ) qr 4 (σ qr 4 + 1) qr 3 = σ qr 3 := by rw [upS_k (by decide), upS_k (by decide), upS_q (by omega)]
    rw [a2ₓ, a3ₓ]
    refine ⟨?_, fun kₓ => ?_, ?_, fun kₓ => ?_, fun kₓ => ?_, fun h5ₓ => ?_, fun qₓ kₓ h1ₓ h2ₓ => ?_⟩
    · rw [upS_q (by omega)]; exact a3ₓ
    · rw [upS_q (by omega), upS_q (by omega), upS_q (by omega), upS_q (by omega)]
    · rw [upS_q (by omega)]; exact a2ₓ
    · rw [upS_q (by omega), upS_q (by omega), upS_q (by omega)]
      by_cases cₓ : kₓ = (σ qr 4).toNat
      · rw [if_pos cₓ, cₓ]; exact upS_s
      · rw [if_neg cₓ]; exact upS_k cₓ
    · by_cases cₓ : kₓ = (σ qr 4 + 1).toNat
      · rw [if_pos cₓ, cₓ]; exact upS_s
      · rw [if_neg cₓ, upS_k cₓ, upS_q (by omega), upS_q (by omega), upS_q (by omega)]
    · rw [upS_q (by omega), upS_k (by decide), upS_s]; exact hzₓ h5ₓ
    · rw [upS_q (by omega), upS_q (by omega), upS_q (by omega), upS_q (by omega)]
  have c5'ₓ : upS σ (qr + 1) (σ qr 4).toNat tₓ qr 5 = σ qr 5 := upS_q (by omega)
  by_cases c5ₓ : upS σ (qr + 1) (σ qr 4).toNat tₓ qr 5 = 0
  · rw [mIf_neg (fun qₓ => qₓ c5ₓ)] at eₓ
    by_cases ct : tₓ = 1
    · rw [mIf_neg (fun qₓ => qₓ ct)] at eₓ; exact finₓ 1 (fun _ => by decide) eₓ
    · rw [mIf_pos ct] at eₓ; exact finₓ 0 (fun hₓ => by rw [c5'ₓ] at c5ₓ; omega) eₓ
  · rw [mIf_pos c5ₓ] at eₓ; exact finₓ 1 (fun _ => by decide) eₓ
/-- aₓ clause that is whole -/
theorem DC.add {σ1 σ2 : SS} {O O2 : List Int} {dₓ : Int} {bₓ : Bool} (hdₓ : DC qr σ O R) (hlₓ : (R.length : Int) < 12) (eₓ : m_X2_addClause nₓ qr dₓ σ = some (rₓ, σ1)) (hqₓ : 5 ≤ qr) (hkₓ : KRc qr σ1 σ2) (h2ₓ : Cd qr σ2 O2) (hd4ₓ : dₓ < 4) : DC qr σ2 O2 ((dₓ, O.length, bₓ, O2.length) :: R) := by
  obtain ⟨d1ₓ, d2ₓ, d3ₓ, d4ₓ⟩ := hdₓ
  obtain ⟨a1ₓ, a2ₓ, a3ₓ, a4ₓ, a5ₓ, a6ₓ, a7ₓ⟩ := cx_addClause hqₓ (by omega) eₓ
  obtain ⟨k1ₓ, k2ₓ, k3ₓ, k4ₓ, k5ₓ⟩ := hkₓ
  have e4ₓ : σ2 qr 4 = (R.length : Int) + 1 := by rw [k2ₓ, a3ₓ, d1ₓ]
  have t4ₓ : (σ qr 4).toNat = R.length := by omega
  have t5ₓ : (σ qr 4 + 1).toNat = R.length + 1 := by omega
  have t6ₓ : (σ1 qr 4).toNat = R.length + 1 := by omega
  have t7ₓ : (σ2 qr 4).toNat = R.length + 1 := by omega
  have de : ∀ kₓ : Nat, σ2 (qr + 1) kₓ = if kₓ = R.length then dₓ else σ (qr + 1) kₓ := fun kₓ => by rw [k1ₓ, a4ₓ, t4ₓ]
  have stₓ : ∀ kₓ : Nat, kₓ ≤ R.length → σ2 (qr + 2) kₓ = σ (qr + 2) kₓ := fun kₓ hₓ => by rw [k4ₓ kₓ (by omega), a5ₓ, if_neg (by omega)]
  refine ⟨by rw [List.length_cons, e4ₓ]; omega, h2ₓ, ⟨?_, ?_, ?_, CR_congr d3ₓ (fun jₓ hjₓ => ?_) (fun jₓ hjₓ => stₓ jₓ hjₓ)⟩, fun xₓ hxₓ => ⟨fun h1ₓ => ?_, ?_⟩⟩
  · rw [de, if_pos rfl]
  · rw [stₓ _ (Nat.le_refl _)]; have := d2ₓ.2.2; rw [t4ₓ] at this; exact this
  · have := h2ₓ.2.2; rw [t7ₓ] at this; exact this
  · rw [de, if_neg (by omega)]
  · rw [k3ₓ]
    refine a6ₓ ?_
    rcases List.mem_cons.mp hxₓ with rfl | hxₓ
    · exact Or.inr h1ₓ
    · exact Or.inl ((d4ₓ xₓ hxₓ).1 h1ₓ)
  · rcases List.mem_cons.mp hxₓ with rfl | hxₓ
    · exact hd4ₓ
    · exact (d4ₓ xₓ hxₓ).2
theorem Cd.add {σ1 : SS} {dₓ : Int} (hdₓ : DC qr σ O R) (hlₓ : (R.length : Int) < 12) (eₓ : m_X2_addClause nₓ qr dₓ σ = some (rₓ, σ1)) (hqₓ : 5 ≤ qr) : Cd qr σ1 O := by
  obtain ⟨d1ₓ, d2ₓ, d3ₓ, d4ₓ⟩ := hdₓ
  obtain ⟨a1ₓ, a2ₓ, a3ₓ, a4ₓ, a5ₓ, a6ₓ, a7ₓ⟩ := cx_addClause hqₓ (by omega) eₓ
  refine ⟨a1ₓ.trans d2ₓ.1, Put_congr d2ₓ.2.1 (fun jₓ _ => a2ₓ jₓ), ?_⟩
  rw [a3ₓ, a5ₓ, if_pos rfl]; exact d2ₓ.1
theorem cx_addClause_ot (hqₓ : 5 ≤ qr) (h0ₓ : 0 ≤ σ qr 4) (eₓ : m_X2_addClause nₓ qr tₓ σ = some (rₓ, σ')) : OT qr σ σ' ∧ 0 < σ' qr 4 := by
  by_cases hcₓ : σ qr 4 < 12
  · obtain ⟨a1ₓ, a2ₓ, a3ₓ, a4ₓ, a5ₓ, a6ₓ, a7ₓ⟩ := cx_addClause hqₓ hcₓ eₓ
    exact ⟨⟨a7ₓ, fun hₓ => ⟨by omega, by rw [a5ₓ, if_neg (by omega)]⟩⟩, by omega⟩
  · unfold m_X2_addClause at eₓ
    rw [c_isFull, mCall_s, if_neg hcₓ, mIf_pos (show ¬ (1 : Int) = 0 by decide)] at eₓ
    unfold b_X2_addClause_61 at eₓ
    obtain ⟨-, rfl⟩ := some_el eₓ
    exact ⟨OT.rf, by omega⟩
theorem cx_readInto0 (hqₓ : 5 ≤ qr) {x0ₓ : XC} : ∀ (nₓ : Nat) (more iₓ : Int) (σ : SS), OKC F N σ → 0 ≤ iₓ → 0 ≤ σ qr 4 → ((more = 0 ∧ (σ 1 4 = 0 → FIN F N x0ₓ qr σ)) ∨ (more = 1 ∧ iₓ ≤ 12 ∧ σ qr 4 = iₓ ∧ σ 1 4 = 0 ∧ ∃ (O : List Int) (cₓ : Int × Nat) (R : List (Int × Nat × Bool × Nat)), DC qr σ O R ∧ (O.length : Int) ≤ sk F N (σ 1 1) ∧ XS F N x0ₓ (0, sk F N (σ 1 1), [], O, cₓ, R))) → j_X3_readInto 3 qr nₓ 28 [more, iₓ] σ = some (rₓ, σ') → OT qr σ σ' ∧ (σ' 1 4 = 0 → FIN F N x0ₓ qr σ') := by
  intro nₓ
  induction nₓ with
  | zero => intro more iₓ σ hₓ hiₓ h04ₓ hmₓ eₓ; exact none_el eₓ
  | succ nₓ ihₓ =>
    intro more iₓ σ hₓ hiₓ h04ₓ hmₓ eₓ
    rw [e_X3_readInto_28] at eₓ
    unfold b_X3_readInto_28 at eₓ
    rcases hmₓ with ⟨rfl, hstₓ⟩ | ⟨rfl, hi12ₓ, hLₓ, hfₓ, O, cₓ, R, hDₓ, hOₓ, hstₓ⟩
    · rw [mIf_pos rfl] at eₓ
      obtain ⟨-, rfl⟩ := some_el eₓ
      exact ⟨OT.rf, hstₓ⟩
    rw [mIf_neg (show ¬ (1 : Int) = 0 by decide), mIf_neg (show ¬ 12 < iₓ by omega)] at eₓ
    have esₓ := es_0 hfₓ
    rw [← esₓ] at eₓ
    have hp0ₓ := hₓ.2.1.1
    have hleₓ : σ 1 1 ≤ sk F N (σ 1 1) := sk_ge
    have hNₓ : sk F N (σ 1 1) ≤ N := sk_ub hₓ.2.1.2.1
    have hq0ₓ : 0 ≤ sk F N (σ 1 1) := Int.le_trans hp0ₓ hleₓ
    have hwNₓ : wd F N (sk F N (σ 1 1)) ≤ N := wd_ub hNₓ
    have hwqₓ : sk F N (σ 1 1) ≤ wd F N (sk F N (σ 1 1)) := wd_ge
    have hlenₓ : (R.length : Int) = iₓ := hDₓ.1.symm.trans hLₓ
    -- behindₓ aₓ clause
    have endcₓ : ∀ (s2ₓ : SS), OKC F N s2ₓ → OT qr σ s2ₓ → (s2ₓ 1 4 = 0 → s2ₓ qr 4 = iₓ + 1 ∧ iₓ + 1 ≤ 12 ∧ ∃ (O : List Int) (cₓ : Int × Nat) (R : List (Int × Nat × Bool × Nat)), DC qr s2ₓ O R ∧ (O.length : Int) ≤ sk F N (s2ₓ 1 1) ∧ XS F N x0ₓ (8, sk F N (s2ₓ 1 1), [], O, cₓ, R)) → b_X3_readInto_110 (j_X3_readInto 3 qr nₓ) nₓ 3 qr iₓ s2ₓ = some (rₓ, σ') → OT qr σ σ' ∧ (σ' 1 4 = 0 → FIN F N x0ₓ qr σ') := by
      intro s2ₓ h2ₓ ho2ₓ hg2ₓ eₓ
      unfold b_X3_readInto_110 at eₓ
      obtain ⟨r3ₓ, s3ₓ, e3ₓ, eₓ⟩ := mCall_el eₓ
      rw [mLet_e] at eₓ
      have h3ₓ := (c_clauseEnd hqₓ h2ₓ e3ₓ).1
      have o4ₓ := (ho2ₓ.2 h04ₓ).1
      rw [← tp_self (σ := s2ₓ)] at e3ₓ
      rcases c_takeSemicolon h2ₓ.1 h2ₓ.2.1.1 e3ₓ with ⟨hf2ₓ, rfl, rfl⟩ | ⟨hf2ₓ, hbₓ, rfl, rfl⟩ | ⟨hf2ₓ, hbₓ, rfl, rfl⟩
      · rw [tp_self] at eₓ h3ₓ
        have h5ₓ := ihₓ 0 (iₓ + 1) s2ₓ h3ₓ (by omega) o4ₓ (Or.inl ⟨rfl, fun hzₓ => absurd hzₓ hf2ₓ⟩) eₓ
        exact ⟨ho2ₓ.tr h5ₓ.1, h5ₓ.2⟩
      · obtain ⟨g1ₓ, g2ₓ, O', c'ₓ, R', g3ₓ, g4ₓ, g5ₓ⟩ := hg2ₓ hf2ₓ
        have hhₓ : Hi s2ₓ (tp s2ₓ (sk F N (s2ₓ 1 1) + 1) (sk F N (s2ₓ 1 1)) 0) := tp_hi
        have hsₓ : sk F N (s2ₓ 1 1) + 1 ≤ sk F N (sk F N (s2ₓ 1 1) + 1) := sk_ge
        have h5ₓ := ihₓ 1 (iₓ + 1) _ h3ₓ (by omega) (by rw [hhₓ _ _ hqₓ]; exact o4ₓ) (Or.inr ⟨rfl, g2ₓ, by rw [hhₓ _ _ hqₓ]; exact g1ₓ, tp_f, O', c'ₓ, R', g3ₓ.hi hqₓ hhₓ, by rw [tp_p]; omega, by rw [tp_p]; exact g5ₓ.tr (XS_one (show (if byteIs F N (sk F N (s2ₓ 1 1)) 59 = true then _ else _) = _ from if_pos hbₓ))⟩) eₓ
        exact ⟨(ho2ₓ.tr (OT.hi hqₓ hhₓ)).tr h5ₓ.1, h5ₓ.2⟩
      · have hhₓ : Hi s2ₓ (tp s2ₓ (sk F N (s2ₓ 1 1)) (sk F N (s2ₓ 1 1)) (if sk F N (s2ₓ 1 1) < N then 1 + 8 * sk F N (s2ₓ 1 1) else 0)) := tp_hi
        have h5ₓ := ihₓ 0 (iₓ + 1) _ h3ₓ (by omega) (by rw [hhₓ _ _ hqₓ]; exact o4ₓ) (Or.inl ⟨rfl, fun _ => by
          obtain ⟨g1ₓ, g2ₓ, O', c'ₓ, R', g3ₓ, g4ₓ, g5ₓ⟩ := hg2ₓ hf2ₓ
          have hubₓ : sk F N (s2ₓ 1 1) ≤ N := sk_ub h2ₓ.2.1.2.1
          have hN4ₓ := h2ₓ.2.1.2.2
          have hD1ₓ := g3ₓ.1
          exact ⟨_, O', c'ₓ, R', g5ₓ.tr (XS_one (show (if byteIs F N (sk F N (s2ₓ 1 1)) 59 = true then _ else _) = _ from if_neg (by rw [hbₓ]; decide))), g3ₓ.hi hqₓ hhₓ, by omega, by omega⟩⟩) eₓ
        exact ⟨(ho2ₓ.tr (OT.hi hqₓ hhₓ)).tr h5ₓ.1, h5ₓ.2⟩
    -- behindₓ the clause's word
    have behindₓ : ∀ (v4ₓ : Int) (τ : SS), OKC F N τ → Hi σ τ → (τ 1 4 = 0 → σ qr 4 < 12 ∧ v4ₓ = idxW F (wd F N (sk F N (σ 1 1))) (sk F N (σ 1 1)) wDeeds 0 ∧ τ 1 1 = wd F N (sk F N (σ 1 1))) → b_X3_readInto_74 (j_X3_readInto 3 qr nₓ) nₓ 3 qr iₓ v4ₓ τ = some (rₓ, σ') → OT qr σ σ' ∧ (σ' 1 4 = 0 → FIN F N x0ₓ qr σ') := by
      intro v4ₓ τ hₓτ hhₓ hgoodₓ eₓ
      unfold b_X3_readInto_74 at eₓ
      obtain ⟨r1ₓ, s1ₓ, e1ₓ, eₓ⟩ := mCall_el eₓ
      obtain ⟨a1ₓ, a2ₓ⟩ := c_addClause hqₓ e1ₓ
      have hs1ₓ : OKC F N s1ₓ := hₓτ.lo a1ₓ
      have f14ₓ : s1ₓ 1 4 = τ 1 4 := a1ₓ 1 4 (by omega)
      have hₓτ4 : 0 ≤ τ qr 4 := by rw [hhₓ _ _ hqₓ]; exact h04ₓ
      obtain ⟨ot1, pos1⟩ := cx_addClause_ot hqₓ hₓτ4 e1ₓ
      have ot2 : OT qr σ s1ₓ := (OT.hi hqₓ hhₓ).tr ot1
      by_cases cc : τ 1 4 = 0
      · obtain ⟨hltₓ, hv4ₓ, hpₓ⟩ := hgoodₓ cc
        have hv5ₓ : v4ₓ < 4 := by
          have h5ₓ := idxW_lt (fₓ := F) (eₓ := wd F N (sk F N (σ 1 1))) (pₓ := sk F N (σ 1 1)) wDeeds 0 (Int.le_refl 0)
          rw [← hv4ₓ, show wDeeds.length = 4 from rfl] at h5ₓ
          omega
        have hDₓτ := hDₓ.hi hqₓ hhₓ
        have hCdₓ := Cd.add hDₓτ (by omega) e1ₓ hqₓ
        have c1ₓ : s1ₓ 1 4 = 0 := f14ₓ.trans cc
        have es1ₓ := es_0 c1ₓ
        rw [← es1ₓ, c_isFaulty, if_pos rfl, mCall_s, mIf_neg (fun qₓ => qₓ rfl)] at eₓ
        obtain ⟨r2ₓ, s2ₓ, e2ₓ, eₓ⟩ := mCall_el eₓ
        have p1ₓ : s1ₓ 1 1 = wd F N (sk F N (σ 1 1)) := (a1ₓ 1 1 (by omega)).trans hpₓ
        have hle1ₓ : s1ₓ 1 1 ≤ sk F N (s1ₓ 1 1) := sk_ge
        have st1ₓ : XS F N x0ₓ (1, sk F N (s1ₓ 1 1), [], O, (v4ₓ, O.length), R) := by rw [p1ₓ, hv4ₓ]; exact hstₓ.tr (XS_one rfl)
        have q14ₓ : s1ₓ qr 4 = iₓ + 1 := by rw [a2ₓ, hhₓ _ _ hqₓ, if_pos hltₓ, hLₓ]
        rcases c_takeWord hs1ₓ.1 (kₓ := 3) (by decide) (by decide) hs1ₓ.2.1.1 hs1ₓ.2.1.2.1 e2ₓ with ⟨hwₓ, rfl, rfl⟩ | ⟨hwₓ, rfl, rfl⟩
        · rw [mIf_neg (show ¬ (1 : Int) = 0 by decide)] at eₓ
          obtain ⟨r3ₓ, s3ₓ, e3ₓ, eₓ⟩ := mCall_el eₓ
          have hw'ₓ : isWd F N (sk F N (s1ₓ 1 1)) wIf = true := hwₓ
          have hlₓ := isWd_len hw'ₓ
          rw [show (wIf.length : Int) = 2 from rfl] at hlₓ
          have hwN1ₓ : wd F N (sk F N (s1ₓ 1 1)) ≤ N := wd_ub (sk_ub hs1ₓ.2.1.2.1)
          have hp1ₓ := hs1ₓ.2.1.1
          have h1ₓ : OKC F N (tp s1ₓ (wd F N (sk F N (s1ₓ 1 1))) (sk F N (s1ₓ 1 1)) 0) := hs1ₓ.mv c1ₓ (by omega) hwN1ₓ
          have h2ₓ := c_readTest hqₓ h1ₓ e3ₓ
          have hwsₓ : wd F N (sk F N (s1ₓ 1 1)) ≤ sk F N (wd F N (sk F N (s1ₓ 1 1))) := sk_ge
          have m1ₓ : XR F N qr 1 2 [] [] s1ₓ (tp s1ₓ (wd F N (sk F N (s1ₓ 1 1))) (sk F N (s1ₓ 1 1)) 0) := XR.mv hqₓ c1ₓ (by omega) (fun O cₓ R => XS_one (show (if isWd F N (sk F N (s1ₓ 1 1)) wIf = true then _ else _) = _ from if_pos hw'ₓ))
          have m2ₓ := m1ₓ.tr (cx_readTest hqₓ h1ₓ e3ₓ)
          refine endcₓ s3ₓ h2ₓ.1.1 (ot2.tr (m2ₓ.1.ot pos1)) (fun hzₓ => ?_) eₓ
          refine ⟨by rw [m2ₓ.1.2.1]; exact q14ₓ, by omega, ?_⟩
          obtain ⟨O', b1ₓ, b2ₓ, b3ₓ⟩ := (m2ₓ.2 hzₓ).2 O (v4ₓ, O.length) R hCdₓ (by rw [List.length_nil]; omega)
          have hjₓ := join_no (h2ₓ.2 hzₓ)
          rw [List.length_nil] at b2ₓ
          exact ⟨O', (v4ₓ, O.length), (v4ₓ, O.length, true, O'.length) :: R, DC.add hDₓτ (by omega) e1ₓ hqₓ m2ₓ.1 b1ₓ hv5ₓ, by omega, (st1ₓ.tr b3ₓ).tr (XS_one (x7_end hjₓ.1 hjₓ.2))⟩
        · rw [mIf_pos rfl] at eₓ
          have hh1ₓ : Hi s1ₓ (tp s1ₓ (sk F N (s1ₓ 1 1)) (sk F N (s1ₓ 1 1)) 0) := tp_hi
          have hp1ₓ := hs1ₓ.2.1.1
          refine endcₓ _ (hs1ₓ.mv c1ₓ (by omega) (sk_ub hs1ₓ.2.1.2.1)) (ot2.tr (OT.hi hqₓ hh1ₓ)) (fun hzₓ => ?_) eₓ
          refine ⟨by rw [hh1ₓ _ _ hqₓ]; exact q14ₓ, by omega, O, (v4ₓ, O.length), (v4ₓ, O.length, false, O.length) :: R, DC.add hDₓτ (by omega) e1ₓ hqₓ (KRc.hi hqₓ hh1ₓ) (hCdₓ.hi hqₓ hh1ₓ) hv5ₓ, by rw [tp_p, sk_idem]; omega, ?_⟩
          rw [tp_p, sk_idem]
          exact st1ₓ.tr (XS_one (show (if isWd F N (sk F N (s1ₓ 1 1)) wIf = true then _ else _) = _ from if_neg (by rw [show wIf = txt 3 from rfl, hwₓ]; decide)))
      · have c1ₓ : s1ₓ 1 4 ≠ 0 := by rw [f14ₓ]; exact cc
        rw [← tp_self (σ := s1ₓ), c_isFaulty, if_neg c1ₓ, mCall_s, mIf_pos (show ¬ (1 : Int) = 0 by decide), tp_self] at eₓ
        exact endcₓ s1ₓ hs1ₓ ot2 (fun hzₓ => absurd hzₓ c1ₓ) eₓ
    obtain ⟨r1ₓ, s1ₓ, e1ₓ, eₓ⟩ := mCall_el eₓ
    rcases c_readWord hₓ.1 (kₓ := 2) (by decide) (by decide) wls_enc.2.1 hp0ₓ hₓ.2.1.2.1 e1ₓ with ⟨hrₓ, hr0ₓ, rfl⟩ | ⟨rfl, hrₓ, rfl⟩
    · rw [c_isFull, mCall_s, tp_o (show qr ≠ 1 by omega)] at eₓ
      by_cases c12ₓ : σ qr 4 < 12
      · rw [if_pos c12ₓ, mIf_pos rfl] at eₓ
        exact behindₓ r1ₓ _ (hₓ.mv hfₓ (by omega) hwNₓ) tp_hi (fun _ => ⟨c12ₓ, hrₓ, tp_p⟩) eₓ
      · rw [if_neg c12ₓ, mIf_neg (show ¬ (1 : Int) = 0 by decide), mRd_e, tp_g, c_blame, mCall_s, blm_0] at eₓ
        refine behindₓ r1ₓ _ (hₓ.blame (by omega) hwNₓ (by omega)) tp_hi (fun hzₓ => ?_) eₓ
        rw [tp_f] at hzₓ; omega
    · rw [c_isFull, mCall_s, tp_o (show qr ≠ 1 by omega), blm_0] at eₓ
      by_cases c12ₓ : σ qr 4 < 12
      · rw [if_pos c12ₓ, mIf_pos rfl] at eₓ
        refine behindₓ (-1) _ (hₓ.blame (by omega) hNₓ (by omega)) tp_hi (fun hzₓ => ?_) eₓ
        rw [tp_f] at hzₓ; omega
      · rw [if_neg c12ₓ, mIf_neg (show ¬ (1 : Int) = 0 by decide), mRd_e, tp_g, c_blame, mCall_s, blm_n (by omega)] at eₓ
        refine behindₓ (-1) _ (hₓ.blame (by omega) hNₓ (by omega)) tp_hi (fun hzₓ => ?_) eₓ
        rw [tp_f] at hzₓ; omega
theorem cx_readInto (hqₓ : 5 ≤ qr) (hcₓ : CV F N σ) (h0ₓ : 0 ≤ N) (hNₓ : N ≤ 400) (hz0ₓ : σ (qr + 2) 0 = 0) (eₓ : m_X3_readInto nₓ 3 qr σ = some (rₓ, σ')) : (∀ qₓ kₓ : Nat, 5 ≤ qₓ → (qₓ < qr ∨ qr + 4 ≤ qₓ) → σ' qₓ kₓ = σ qₓ kₓ) ∧ σ' (qr + 2) 0 = 0 ∧ (σ' 1 4 = 0 → FIN F N (0, sk F N 0, [], [], (0, 0), []) qr σ') := by
  unfold m_X3_readInto m_X2_clear m_X6_startReading at eₓ
  simp only [mWr_e, mSt_e, mRet_e, mCall_s] at eₓ
  obtain ⟨τ, hₓτ⟩ : ∃ τ, τ = upS (upS (upS (upS (upS (upS (upS σ qr 4 0) qr 3 0) qr 5 0) 3 2 0) 1 1 0) 1 3 0) 1 4 0 := ⟨_, rfl⟩
  rw [← hₓτ] at eₓ
  have hkₓ : K0 σ τ := by
    intro qₓ kₓ cₓ
    rw [hₓτ]
    have c1ₓ : ¬ (qₓ = 1 ∧ kₓ = 4) := by omega
    have c2ₓ : ¬ (qₓ = 1 ∧ kₓ = 3) := by omega
    have c3ₓ : ¬ (qₓ = 1 ∧ kₓ = 1) := by omega
    have n1ₓ : ∀ {sₓ : SS} {aₓ bₓ : Nat} {vₓ : Int}, ¬ (qₓ = aₓ ∧ kₓ = bₓ) → upS sₓ aₓ bₓ vₓ qₓ kₓ = sₓ qₓ kₓ := fun hₓ => if_neg hₓ
    rw [n1ₓ c1ₓ, n1ₓ c2ₓ, n1ₓ c3ₓ, upS_q (by omega), upS_q (by omega), upS_q (by omega), upS_q (by omega)]
  have t14ₓ : τ 1 4 = 0 := by rw [hₓτ]; exact upS_s
  have t11ₓ : τ 1 1 = 0 := by rw [hₓτ, upS_k (by decide), upS_k (by decide)]; exact upS_s
  have t32ₓ : τ 3 2 = 0 := by rw [hₓτ, upS_q (by decide), upS_q (by decide), upS_q (by decide)]; exact upS_s
  have tq4 : τ qr 4 = 0 := by rw [hₓτ, upS_q (by omega), upS_q (by omega), upS_q (by omega), upS_q (by omega), upS_k (by decide), upS_k (by decide)]; exact upS_s
  have tq3 : τ qr 3 = 0 := by rw [hₓτ, upS_q (by omega), upS_q (by omega), upS_q (by omega), upS_q (by omega), upS_k (by decide)]; exact upS_s
  have tot : ∀ qₓ kₓ : Nat, 5 ≤ qₓ → qₓ ≠ qr → τ qₓ kₓ = σ qₓ kₓ := fun qₓ kₓ h1ₓ h2ₓ => by rw [hₓτ, upS_q (by omega), upS_q (by omega), upS_q (by omega), upS_q (by omega), upS_q h2ₓ, upS_q h2ₓ, upS_q h2ₓ]
  have ts0 : τ (qr + 2) 0 = 0 := (tot _ _ (by omega) (by omega)).trans hz0ₓ
  have hokₓ : OKC F N τ := ⟨hcₓ.k0 hkₓ, ⟨by rw [t11ₓ]; decide, by rw [t11ₓ]; exact h0ₓ, hNₓ⟩, by rw [t32ₓ]; decide, by rw [t32ₓ]; decide, fun _ => by rw [t32ₓ]; decide⟩
  have hDₓ : DC qr τ [] [] := ⟨tq4, ⟨tq3, trivial, by rw [tq4]; exact ts0⟩, trivial, fun xₓ hxₓ => absurd hxₓ List.not_mem_nil⟩
  have hs0ₓ : (0 : Int) ≤ sk F N 0 := sk_ge
  obtain ⟨g1ₓ, g2ₓ⟩ := cx_readInto0 hqₓ (x0ₓ := (0, sk F N 0, [], [], (0, 0), [])) nₓ 1 0 τ hokₓ (by decide) (by rw [tq4]; decide) (Or.inr ⟨rfl, by decide, tq4, t14ₓ, [], (0, 0), [], hDₓ, by rw [t11ₓ]; exact hs0ₓ, by rw [t11ₓ]; exact XS.rf⟩) eₓ
  exact ⟨fun qₓ kₓ h1ₓ h2ₓ => (g1ₓ.1 qₓ kₓ h1ₓ h2ₓ).trans (tot qₓ kₓ h1ₓ (by omega)), (g1ₓ.2 (by rw [tq4]; decide)).2.trans ts0, g2ₓ⟩
end
