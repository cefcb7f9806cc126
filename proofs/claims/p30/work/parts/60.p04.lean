/-! sums, signs, facts, tests of the class goₓ by the machine -/
section
variable {F : Int → Int} {N : Int} {qr ℓ ℓ' : Nat} {S S' : List Bool} {σ σ' : SS} {pₓ gₓ φ rₓ tₓ : Int} {nₓ : Nat}
theorem byteIs_t {qₓ cₓ : Int} (h0ₓ : qₓ < N) (h1ₓ : F qₓ = cₓ) : byteIs F N qₓ cₓ = true := decide_eq_true ⟨h0ₓ, h1ₓ⟩
theorem byteIs_f {qₓ cₓ : Int} (hₓ : ¬ (qₓ < N ∧ F qₓ = cₓ)) : byteIs F N qₓ cₓ = false := decide_eq_false hₓ
theorem opAt_i {qₓ : Int} : opAt F N qₓ = true ↔ (qₓ < N ∧ (F qₓ = 43 ∨ F qₓ = 45 ∨ F qₓ = 42 ∨ F qₓ = 47)) := by
  unfold opAt byteIs
  simp only [Bool.or_eq_true, decide_eq_true_eq]
  constructor
  · rintro (((hₓ | hₓ) | hₓ) | hₓ) <;> exact ⟨hₓ.1, by omega⟩
  · rintro ⟨hₓ, h1ₓ | h1ₓ | h1ₓ | h1ₓ⟩
    · exact Or.inl (Or.inl (Or.inl ⟨hₓ, h1ₓ⟩))
    · exact Or.inl (Or.inl (Or.inr ⟨hₓ, h1ₓ⟩))
    · exact Or.inl (Or.inr ⟨hₓ, h1ₓ⟩)
    · exact Or.inr ⟨hₓ, h1ₓ⟩
theorem bt_lt {qₓ cₓ : Int} (hcₓ : 0 ≤ cₓ) (hₓ : bt F N qₓ = cₓ) : qₓ < N ∧ F qₓ = cₓ := (bt_is hcₓ).mp hₓ
theorem c_takeOperator (hₓ : CV F N σ) (hpₓ : 0 ≤ pₓ) {q0ₓ : Nat} (eₓ : m_X3_takeOperator nₓ q0ₓ (tp σ pₓ gₓ φ) = some (rₓ, σ')) : (opAt F N (sk F N pₓ) = true ∧ (rₓ = 10 ∨ rₓ = 11 ∨ rₓ = 12 ∨ rₓ = 13) ∧ sk F N pₓ < N ∧ σ' = tp σ (sk F N pₓ + 1) (sk F N pₓ) φ) ∨ (opAt F N (sk F N pₓ) = false ∧ rₓ = -1 ∧ σ' = tp σ (sk F N pₓ) (sk F N pₓ) φ) := by
  unfold m_X3_takeOperator at eₓ
  obtain ⟨r1ₓ, s1ₓ, e1ₓ, eₓ⟩ := mCall_el eₓ
  obtain ⟨rfl, rfl⟩ := c_lbbm hₓ hpₓ e1ₓ
  have passₓ : ∀ xₓ : Int, sk F N pₓ < N → mCall (m_X6_pass nₓ 1 (tp σ (sk F N pₓ) (sk F N pₓ) φ)) (fun _ sₓ => mRet xₓ sₓ) = some (xₓ, tp σ (sk F N pₓ + 1) (sk F N pₓ) φ) := by
    intro xₓ hxₓ; rw [c_pass hₓ, mCall_s, if_pos hxₓ]; rfl
  by_cases c1ₓ : bt F N (sk F N pₓ) = 42
  · rw [mIf_pos c1ₓ, passₓ _ (bt_lt (by decide) c1ₓ).1] at eₓ
    obtain ⟨rfl, rfl⟩ := some_el eₓ
    have h2ₓ := bt_lt (by decide) c1ₓ
    exact Or.inl ⟨opAt_i.mpr ⟨h2ₓ.1, by omega⟩, by omega, h2ₓ.1, rfl⟩
  rw [mIf_neg c1ₓ] at eₓ
  by_cases c2ₓ : bt F N (sk F N pₓ) = 43
  · rw [mIf_pos c2ₓ, passₓ _ (bt_lt (by decide) c2ₓ).1] at eₓ
    obtain ⟨rfl, rfl⟩ := some_el eₓ
    have h2ₓ := bt_lt (by decide) c2ₓ
    exact Or.inl ⟨opAt_i.mpr ⟨h2ₓ.1, by omega⟩, by omega, h2ₓ.1, rfl⟩
  rw [mIf_neg c2ₓ] at eₓ
  by_cases c3ₓ : bt F N (sk F N pₓ) = 44
  · rw [mIf_pos c3ₓ] at eₓ
    obtain ⟨rfl, rfl⟩ := some_el eₓ
    have h2ₓ := bt_lt (by decide) c3ₓ
    refine Or.inr ⟨Bool.eq_false_iff.mpr (fun qₓ => ?_), rfl, rfl⟩
    have := opAt_i.mp qₓ; omega
  rw [mIf_neg c3ₓ] at eₓ
  by_cases c4ₓ : bt F N (sk F N pₓ) = 45
  · rw [mIf_pos c4ₓ, passₓ _ (bt_lt (by decide) c4ₓ).1] at eₓ
    obtain ⟨rfl, rfl⟩ := some_el eₓ
    have h2ₓ := bt_lt (by decide) c4ₓ
    exact Or.inl ⟨opAt_i.mpr ⟨h2ₓ.1, by omega⟩, by omega, h2ₓ.1, rfl⟩
  rw [mIf_neg c4ₓ] at eₓ
  have noₓ : rₓ = -1 ∧ σ' = tp σ (sk F N pₓ) (sk F N pₓ) φ → bt F N (sk F N pₓ) ≠ 47 → (opAt F N (sk F N pₓ) = false ∧ rₓ = -1 ∧ σ' = tp σ (sk F N pₓ) (sk F N pₓ) φ) := by
    intro h1ₓ c6ₓ
    refine ⟨Bool.eq_false_iff.mpr (fun qₓ => ?_), h1ₓ⟩
    have h3ₓ := opAt_i.mp qₓ
    have h4ₓ : bt F N (sk F N pₓ) = F (sk F N pₓ) := if_pos h3ₓ.1
    rw [h4ₓ] at c1ₓ c2ₓ c4ₓ c6ₓ; omega
  by_cases c5ₓ : bt F N (sk F N pₓ) = 46
  · rw [mIf_pos c5ₓ] at eₓ
    exact Or.inr (noₓ (some_el eₓ) (by rw [c5ₓ]; decide))
  rw [mIf_neg c5ₓ] at eₓ
  by_cases c6ₓ : bt F N (sk F N pₓ) = 47
  · rw [mIf_pos c6ₓ, passₓ _ (bt_lt (by decide) c6ₓ).1] at eₓ
    obtain ⟨rfl, rfl⟩ := some_el eₓ
    have h2ₓ := bt_lt (by decide) c6ₓ
    exact Or.inl ⟨opAt_i.mpr ⟨h2ₓ.1, by omega⟩, by omega, h2ₓ.1, rfl⟩
  · rw [mIf_neg c6ₓ] at eₓ
    exact Or.inr (noₓ (some_el eₓ) c6ₓ)
/-- aₓ move of the tape's place alone -/
theorem OKC.mv (hₓ : OKC F N σ) (hfₓ : σ 1 4 = 0) (h0ₓ : 0 ≤ pₓ) (h1ₓ : pₓ ≤ N) : OKC F N (tp σ pₓ gₓ 0) := OKC.mk' hₓ.1 h0ₓ h1ₓ hₓ.2.1.2.2 hₓ.2.2.1 hₓ.2.2.2.1 (fun _ => hₓ.2.2.2.2 hfₓ)
theorem OKC.blame (hₓ : OKC F N σ) (h0ₓ : 0 ≤ pₓ) (h1ₓ : pₓ ≤ N) (hₓφ : φ ≠ 0) : OKC F N (tp σ pₓ gₓ φ) := OKC.mk' hₓ.1 h0ₓ h1ₓ hₓ.2.1.2.2 hₓ.2.2.1 hₓ.2.2.2.1 (fun qₓ => absurd qₓ hₓφ)
theorem cfg_tp0 (hqₓ : 5 ≤ qr) : cfgC F N qr ℓ S (tp σ pₓ gₓ 0) = (ℓ, sk F N pₓ, σ 3 2, σ qr 4, S) := by rw [cfg_tp hqₓ, if_pos rfl]
theorem cfg_tpn (hqₓ : 5 ≤ qr) (hₓ : φ ≠ 0) : cfgC F N qr ℓ S (tp σ pₓ gₓ φ) = halt φ := by rw [cfg_tp hqₓ, if_neg hₓ]
/-- the tape's place moves from σ to q2ₓ, and the machine takes aₓ step -/
theorem RS.step (hqₓ : 5 ≤ qr) (hₓ : OKC F N σ) (hfₓ : σ 1 4 = 0) {q2ₓ g2ₓ : Int} (h1ₓ : q2ₓ ≤ N) (hleₓ : σ 1 1 ≤ q2ₓ) (hsₓ : pstep F N (ℓ, sk F N (σ 1 1), σ 3 2, σ qr 4, S) = (ℓ', sk F N q2ₓ, σ 3 2, σ qr 4, S')) : RS F N qr ℓ ℓ' S S' σ (tp σ q2ₓ g2ₓ 0) :=
  ⟨hₓ.mv hfₓ (Int.le_trans hₓ.2.1.1 hleₓ) h1ₓ, tp_kp hqₓ, hleₓ, by rw [cfg_0 hfₓ, cfg_tp0 hqₓ]; exact St_one hsₓ⟩
/-- the machine stops at aₓ fault -/
theorem RS.halt (hqₓ : 5 ≤ qr) (hₓ : OKC F N σ) (hfₓ : σ 1 4 = 0) {q2ₓ g2ₓ φ2 : Int} (h1ₓ : q2ₓ ≤ N) (hleₓ : σ 1 1 ≤ q2ₓ) (hₓφ : φ2 ≠ 0) (hsₓ : pstep F N (ℓ, sk F N (σ 1 1), σ 3 2, σ qr 4, S) = halt φ2) : RS F N qr ℓ ℓ' S S' σ (tp σ q2ₓ g2ₓ φ2) :=
  ⟨hₓ.blame (Int.le_trans hₓ.2.1.1 hleₓ) h1ₓ hₓφ, tp_kp hqₓ, hleₓ, by rw [cfg_0 hfₓ, cfg_tpn hqₓ hₓφ]; exact St_one hsₓ⟩
theorem RS.stay (hqₓ : 5 ≤ qr) (hₓ : OKC F N σ) (hfₓ : σ 1 4 = 0) {g2ₓ : Int} : RS F N qr ℓ ℓ S S σ (tp σ (sk F N (σ 1 1)) g2ₓ 0) :=
  ⟨hₓ.mv hfₓ (Int.le_trans hₓ.2.1.1 sk_ge) (sk_ub hₓ.2.1.2.1), tp_kp hqₓ, sk_ge, by rw [cfg_0 hfₓ, cfg_tp0 hqₓ, sk_idem]; exact St_rf⟩
theorem c_readSum0 (hqₓ : 5 ≤ qr) (hlₓ : (ℓ = 3 ∧ ℓ' = 5) ∨ (ℓ = 4 ∧ ℓ' = 6)) : ∀ (nₓ : Nat) (wt iₓ : Int) (σ : SS), OKC F N σ → (σ 1 4 = 0 → iₓ ≤ σ 1 1) → j_X3_readSum qr 3 nₓ 8 [wt, iₓ] σ = some (rₓ, σ') → RS F N qr ℓ' ℓ' S S σ σ' ∧ (σ' 1 4 = 0 → opAt F N (sk F N (σ' 1 1)) = false) := by
  have hstₓ : ∀ qₓ kₓ L : Int, opAt F N qₓ = true → pstep F N (ℓ', qₓ, kₓ, L, S) = (ℓ, sk F N (qₓ + 1), kₓ, L, S) := by
    rcases hlₓ with ⟨rfl, rfl⟩ | ⟨rfl, rfl⟩
    · intro qₓ kₓ L hoₓ; show (if opAt F N qₓ = true then _ else _) = _; rw [if_pos hoₓ]
    · intro qₓ kₓ L hoₓ; show (if opAt F N qₓ = true then _ else _) = _; rw [if_pos hoₓ]
  intro nₓ
  induction nₓ with
  | zero => intro wt iₓ σ hₓ hiₓ eₓ; exact none_el eₓ
  | succ nₓ ihₓ =>
    intro wt iₓ σ hₓ hiₓ eₓ
    rw [e_X3_readSum_8] at eₓ
    unfold b_X3_readSum_8 at eₓ
    have finₓ : ∀ τ : SS, RS F N qr ℓ' ℓ' S S σ τ → (τ 1 4 = 0 → opAt F N (sk F N (τ 1 1)) = false) → b_X3_readSum_82 (j_X3_readSum qr 3 nₓ) nₓ qr 3 wt τ = some (rₓ, σ') → RS F N qr ℓ' ℓ' S S σ σ' ∧ (σ' 1 4 = 0 → opAt F N (sk F N (σ' 1 1)) = false) := by
      intro τ h1ₓ h2ₓ eₓ
      unfold b_X3_readSum_82 at eₓ
      obtain ⟨r1ₓ, s1ₓ, e1ₓ, eₓ⟩ := mCall_el eₓ
      obtain ⟨-, rfl⟩ := some_el eₓ
      have hsₓ := c_addWaiting hqₓ e1ₓ
      exact ⟨h1ₓ.sm hsₓ, by rw [hsₓ 1 4 (by omega), hsₓ 1 1 (by omega)]; exact h2ₓ⟩
    by_cases cₓ : 400 ≤ iₓ
    · rw [mIf_pos cₓ] at eₓ
      refine finₓ σ (RS.rf hₓ) (fun hfₓ => ?_) eₓ
      refine Bool.eq_false_iff.mpr (fun qₓ => ?_)
      have h3ₓ := opAt_i.mp qₓ
      have h4ₓ : σ 1 1 ≤ sk F N (σ 1 1) := sk_ge
      have h5ₓ := hiₓ hfₓ
      have h6ₓ := hₓ.2.1.2.2
      omega
    · rw [mIf_neg cₓ] at eₓ
      by_cases hfₓ : σ 1 4 = 0
      · have esₓ := es_0 hfₓ
        rw [← esₓ, c_isFaulty, if_pos rfl, mCall_s, mIf_neg (fun qₓ => qₓ rfl)] at eₓ
        obtain ⟨r1ₓ, s1ₓ, e1ₓ, eₓ⟩ := mCall_el eₓ
        rcases c_takeOperator hₓ.1 hₓ.2.1.1 e1ₓ with ⟨hoₓ, hrₓ, hNₓ, rfl⟩ | ⟨hoₓ, rfl, rfl⟩
        · have hleₓ : σ 1 1 ≤ sk F N (σ 1 1) := sk_ge
          have h1ₓ : RS F N qr ℓ' ℓ S S σ (tp σ (sk F N (σ 1 1) + 1) (sk F N (σ 1 1)) 0) := RS.step hqₓ hₓ hfₓ (by omega) (by omega) (hstₓ _ _ _ hoₓ)
          rw [mIf_pos (show ¬ r1ₓ = -1 by omega)] at eₓ
          have goₓ : ∀ (wt' : Int) (τ τ' : SS), RS F N qr ℓ ℓ' S S (tp σ (sk F N (σ 1 1) + 1) (sk F N (σ 1 1)) 0) τ → Sm qr τ τ' → j_X3_readSum qr 3 nₓ 8 [wt', iₓ + 1] τ' = some (rₓ, σ') → RS F N qr ℓ' ℓ' S S σ σ' ∧ (σ' 1 4 = 0 → opAt F N (sk F N (σ' 1 1)) = false) := by
            intro wt' τ τ' h2ₓ h3ₓ eₓ
            have h4ₓ := h2ₓ.sm h3ₓ
            have h5ₓ := h4ₓ.2.2.1
            rw [tp_p] at h5ₓ
            have h6ₓ := ihₓ wt' (iₓ + 1) τ' h4ₓ.1 (fun _ => by have := hiₓ hfₓ; omega) eₓ
            exact ⟨(h1ₓ.tr h4ₓ).tr h6ₓ.1, h6ₓ.2⟩
          by_cases c12ₓ : r1ₓ = 12
          · rw [mIf_pos c12ₓ] at eₓ
            unfold b_X3_readSum_50 b_X3_readSum_76 at eₓ
            obtain ⟨r2ₓ, s2ₓ, e2ₓ, eₓ⟩ := mCall_el eₓ
            obtain ⟨r3ₓ, s3ₓ, e3ₓ, eₓ⟩ := mCall_el eₓ
            exact goₓ _ s2ₓ s3ₓ (c_readValue hqₓ hlₓ h1ₓ.1 e2ₓ) (c_addToken hqₓ e3ₓ) eₓ
          · rw [mIf_neg c12ₓ] at eₓ
            by_cases c13ₓ : r1ₓ = 13
            · rw [mIf_neg (fun qₓ => qₓ c13ₓ)] at eₓ
              unfold b_X3_readSum_50 b_X3_readSum_76 at eₓ
              obtain ⟨r2ₓ, s2ₓ, e2ₓ, eₓ⟩ := mCall_el eₓ
              obtain ⟨r3ₓ, s3ₓ, e3ₓ, eₓ⟩ := mCall_el eₓ
              exact goₓ _ s2ₓ s3ₓ (c_readValue hqₓ hlₓ h1ₓ.1 e2ₓ) (c_addToken hqₓ e3ₓ) eₓ
            · rw [mIf_pos c13ₓ] at eₓ
              obtain ⟨r2ₓ, s2ₓ, e2ₓ, eₓ⟩ := mCall_el eₓ
              obtain ⟨r3ₓ, s3ₓ, e3ₓ, eₓ⟩ := mCall_el eₓ
              unfold b_X3_readSum_76 at eₓ
              have hs2ₓ := c_addWaiting hqₓ e2ₓ
              have h7ₓ : RS F N qr ℓ ℓ S S (tp σ (sk F N (σ 1 1) + 1) (sk F N (σ 1 1)) 0) s2ₓ := (RS.rf h1ₓ.1).sm hs2ₓ
              exact goₓ _ s3ₓ s3ₓ (h7ₓ.tr (c_readValue hqₓ hlₓ h7ₓ.1 e3ₓ)) Sm.rf eₓ
        · rw [mIf_neg (fun qₓ => qₓ rfl)] at eₓ
          refine finₓ _ (RS.stay hqₓ hₓ hfₓ) (fun _ => ?_) eₓ
          rw [tp_p, sk_idem]; exact hoₓ
      · rw [← tp_self (σ := σ), c_isFaulty, if_neg hfₓ, mCall_s, mIf_pos (show ¬ (1 : Int) = 0 by decide), tp_self] at eₓ
        exact finₓ σ (RS.bad hₓ hfₓ) (fun qₓ => absurd qₓ hfₓ) eₓ
theorem c_readSum (hqₓ : 5 ≤ qr) (hlₓ : (ℓ = 3 ∧ ℓ' = 5) ∨ (ℓ = 4 ∧ ℓ' = 6)) (hₓ : OKC F N σ) (eₓ : m_X3_readSum nₓ qr 3 σ = some (rₓ, σ')) : RS F N qr ℓ ℓ' S S σ σ' ∧ (σ' 1 4 = 0 → opAt F N (sk F N (σ' 1 1)) = false) := by
  unfold m_X3_readSum at eₓ
  obtain ⟨r1ₓ, s1ₓ, e1ₓ, eₓ⟩ := mCall_el eₓ
  have h1ₓ := c_readValue hqₓ hlₓ hₓ e1ₓ (S := S)
  have h2ₓ := c_readSum0 hqₓ hlₓ nₓ (-1) 0 s1ₓ h1ₓ.1 (fun _ => h1ₓ.1.2.1.1) eₓ (S := S)
  exact ⟨h1ₓ.tr h2ₓ.1, h2ₓ.2⟩
theorem cmpAt_i {qₓ : Int} : cmpAt F N qₓ = true ↔ (qₓ < N ∧ (F qₓ = 60 ∨ F qₓ = 61 ∨ F qₓ = 62)) := by
  unfold cmpAt byteIs
  simp only [Bool.or_eq_true, decide_eq_true_eq]
  constructor
  · rintro ((hₓ | hₓ) | hₓ) <;> exact ⟨hₓ.1, by omega⟩
  · rintro ⟨hₓ, h1ₓ | h1ₓ | h1ₓ⟩
    · exact Or.inl (Or.inl ⟨hₓ, h1ₓ⟩)
    · exact Or.inl (Or.inr ⟨hₓ, h1ₓ⟩)
    · exact Or.inr ⟨hₓ, h1ₓ⟩
theorem c_readSign98 {v1ₓ v2ₓ : Int} {q0ₓ : Nat} (eₓ : b_X3_readSign_98 nₓ q0ₓ v1ₓ v2ₓ σ = some (rₓ, σ')) : σ' = σ := by
  unfold b_X3_readSign_98 at eₓ
  by_cases cₓ : v1ₓ = 60
  · rw [mIf_neg (fun qₓ => qₓ cₓ)] at eₓ
    by_cases c2ₓ : v2ₓ = 0
    · rw [mIf_pos c2ₓ] at eₓ; exact (some_el eₓ).2
    · rw [mIf_neg c2ₓ] at eₓ; exact (some_el eₓ).2
  · rw [mIf_pos cₓ] at eₓ
    by_cases c2ₓ : v2ₓ = 0
    · rw [mIf_pos c2ₓ] at eₓ; exact (some_el eₓ).2
    · rw [mIf_neg c2ₓ] at eₓ; exact (some_el eₓ).2
theorem upS_kp (hqₓ : 5 ≤ qr) {vₓ : Int} : Kp qr σ (upS σ 3 2 vₓ) := fun qₓ kₓ cₓ => upS_q (by omega)
theorem c_readSign49 (hqₓ : 5 ≤ qr) (hₓ : OKC F N σ) (hfₓ : σ 1 4 = 0) {v1ₓ : Int} (hv : v1ₓ = F (sk F N (σ 1 1))) (hNₓ : sk F N (σ 1 1) < N) (hcₓ : v1ₓ = 60 ∨ v1ₓ = 61 ∨ v1ₓ = 62) (hoₓ : opAt F N (sk F N (σ 1 1)) = false) (eₓ : b_X3_readSign_49 nₓ 3 v1ₓ (tp σ (sk F N (σ 1 1)) (sk F N (σ 1 1)) 0) = some (rₓ, σ')) : RS F N qr 5 4 S S σ σ' := by
  obtain ⟨hcvₓ, ⟨hp0ₓ, hp1ₓ, hN4ₓ⟩, hk0ₓ, hk1ₓ, hk2ₓ⟩ := id hₓ
  have hkₓ := hk2ₓ hfₓ
  have hq0ₓ : 0 ≤ sk F N (σ 1 1) := Int.le_trans hp0ₓ sk_ge
  have hleₓ : σ 1 1 ≤ sk F N (σ 1 1) := sk_ge
  unfold b_X3_readSign_49 at eₓ
  rw [c_countItem hk0ₓ hk1ₓ, mCall_s] at eₓ
  have hcuₓ : CV F N (upS σ 3 2 (σ 3 2 + 1)) := hcvₓ.kp (qr := qr) (upS_kp hqₓ)
  rw [c_pass hcuₓ, mCall_s, if_pos hNₓ] at eₓ
  have hsₓ : pstep F N (5, sk F N (σ 1 1), σ 3 2, σ qr 4, S) = (if 60 ≤ σ 3 2 then halt (1 + 8 * sk F N (σ 1 1) + 3) else (4, sk F N (sk F N (σ 1 1) + cmpLen F N (sk F N (σ 1 1))), σ 3 2 + 1, σ qr 4, S)) := by
    show (if opAt F N (sk F N (σ 1 1)) = true then _ else if cmpAt F N (sk F N (σ 1 1)) = true then _ else _) = _
    rw [if_neg (by rw [hoₓ]; decide), if_pos (cmpAt_i.mpr ⟨hNₓ, by omega⟩)]
  have finₓ : ∀ q2ₓ : Int, sk F N (σ 1 1) ≤ q2ₓ → q2ₓ ≤ N → (q2ₓ = sk F N (σ 1 1) + cmpLen F N (sk F N (σ 1 1))) → σ' = tp (upS σ 3 2 (σ 3 2 + 1)) q2ₓ (sk F N (σ 1 1)) (if σ 3 2 < 60 then 0 else blm 0 (8 * sk F N (σ 1 1) + 3)) → RS F N qr 5 4 S S σ σ' := by
    intro q2ₓ h1ₓ h2ₓ h3ₓ h4ₓ
    subst h4ₓ
    have e3ₓ : upS σ 3 2 (σ 3 2 + 1) 3 2 = σ 3 2 + 1 := upS_s
    have e4ₓ : upS σ 3 2 (σ 3 2 + 1) qr 4 = σ qr 4 := upS_q (by omega)
    refine ⟨OKC.mk' hcuₓ (by omega) h2ₓ hN4ₓ (by rw [e3ₓ]; omega) (by rw [e3ₓ]; omega) ?_, (upS_kp hqₓ).tr (tp_kp hqₓ), by rw [tp_p]; omega, ?_⟩
    · intro hzₓ; rw [e3ₓ]
      by_cases cₓ : σ 3 2 < 60
      · omega
      · rw [if_neg cₓ, blm_0] at hzₓ; omega
    · rw [cfg_0 hfₓ]
      refine St_one ?_
      rw [hsₓ, cfg_tp hqₓ, e3ₓ, e4ₓ]
      by_cases cₓ : σ 3 2 < 60
      · rw [if_neg (by omega), if_pos cₓ, if_pos rfl, h3ₓ]
      · rw [if_pos (by omega), if_neg cₓ, blm_0, if_neg (by omega)]
        congr 1; omega
  have hlenₓ : cmpLen F N (sk F N (σ 1 1)) = if v1ₓ = 61 then 1 else if byteIs F N (sk F N (σ 1 1) + 1) 61 = true then 2 else 1 := by
    unfold cmpLen
    by_cases cₓ : v1ₓ = 61
    · rw [if_pos cₓ, if_neg]; intro qₓ; rw [byteIs_t hNₓ (by omega)] at qₓ; cases qₓ.1
    · rw [if_neg cₓ]
      by_cases c2ₓ : byteIs F N (sk F N (σ 1 1) + 1) 61 = true
      · rw [if_pos c2ₓ, if_pos ⟨byteIs_f (fun qₓ => cₓ (by omega)), c2ₓ⟩]
      · rw [if_neg c2ₓ, if_neg (fun qₓ => c2ₓ qₓ.2)]
  by_cases cₓ : v1ₓ = 61
  · rw [mIf_neg (fun qₓ => qₓ cₓ)] at eₓ
    obtain ⟨-, eₓ⟩ := some_el eₓ
    exact finₓ _ (by omega) (by omega) (by rw [hlenₓ, if_pos cₓ]) eₓ
  · rw [mIf_pos cₓ, c_look hcuₓ (by omega), mCall_s] at eₓ
    by_cases c2ₓ : bt F N (sk F N (σ 1 1) + 1) = 61
    · have h2ₓ := bt_lt (by decide) c2ₓ
      rw [mIf_neg (fun qₓ => qₓ c2ₓ), mIf_neg (by decide), c_pass hcuₓ, mCall_s, if_pos h2ₓ.1] at eₓ
      exact finₓ _ (by omega) (by omega) (by rw [hlenₓ, if_neg cₓ, if_pos (byteIs_t h2ₓ.1 h2ₓ.2)]; omega) (c_readSign98 eₓ)
    · rw [mIf_pos c2ₓ, mIf_pos rfl] at eₓ
      exact finₓ _ (by omega) (by omega) (by rw [hlenₓ, if_neg cₓ, if_neg (show ¬ byteIs F N (sk F N (σ 1 1) + 1) 61 = true from fun qₓ => c2ₓ ((bt_is (by decide)).mpr (of_decide_eq_true qₓ)))]) (c_readSign98 eₓ)
theorem c_readSign (hqₓ : 5 ≤ qr) (hₓ : OKC F N σ) (hoₓ : σ 1 4 = 0 → opAt F N (sk F N (σ 1 1)) = false) (eₓ : m_X3_readSign nₓ 3 σ = some (rₓ, σ')) : RS F N qr 5 4 S S σ σ' := by
  unfold m_X3_readSign at eₓ
  by_cases hfₓ : σ 1 4 = 0
  · have esₓ := es_0 hfₓ
    rw [← esₓ, c_isFaulty, if_pos rfl, mCall_s, mIf_pos rfl] at eₓ
    obtain ⟨r1ₓ, s1ₓ, e1ₓ, eₓ⟩ := mCall_el eₓ
    obtain ⟨rfl, rfl⟩ := c_lbbm hₓ.1 hₓ.2.1.1 e1ₓ
    have hleₓ : σ 1 1 ≤ sk F N (σ 1 1) := sk_ge
    have hNₓ : sk F N (σ 1 1) ≤ N := sk_ub hₓ.2.1.2.1
    have hp0ₓ := hₓ.2.1.1
    have yesₓ : (bt F N (sk F N (σ 1 1)) = 60 ∨ bt F N (sk F N (σ 1 1)) = 61 ∨ bt F N (sk F N (σ 1 1)) = 62) → b_X3_readSign_49 nₓ 3 (bt F N (sk F N (σ 1 1))) (tp σ (sk F N (σ 1 1)) (sk F N (σ 1 1)) 0) = some (rₓ, σ') → RS F N qr 5 4 S S σ σ' := by
      intro hcₓ eₓ
      have h2ₓ : sk F N (σ 1 1) < N := by
        rcases hcₓ with hcₓ | hcₓ | hcₓ
        · exact (bt_lt (by decide) hcₓ).1
        · exact (bt_lt (by decide) hcₓ).1
        · exact (bt_lt (by decide) hcₓ).1
      exact c_readSign49 hqₓ hₓ hfₓ (if_pos h2ₓ) h2ₓ hcₓ (hoₓ hfₓ) eₓ
    by_cases c1ₓ : bt F N (sk F N (σ 1 1)) = 60
    · rw [mIf_pos c1ₓ] at eₓ; exact yesₓ (Or.inl c1ₓ) eₓ
    rw [mIf_neg c1ₓ] at eₓ
    by_cases c2ₓ : bt F N (sk F N (σ 1 1)) = 61
    · rw [mIf_pos c2ₓ] at eₓ; exact yesₓ (Or.inr (Or.inl c2ₓ)) eₓ
    rw [mIf_neg c2ₓ] at eₓ
    by_cases c3ₓ : bt F N (sk F N (σ 1 1)) = 62
    · rw [mIf_pos c3ₓ] at eₓ; exact yesₓ (Or.inr (Or.inr c3ₓ)) eₓ
    rw [mIf_neg c3ₓ, c_blameHere, mCall_s, blm_0] at eₓ
    obtain ⟨-, rfl⟩ := some_el eₓ
    refine RS.halt hqₓ hₓ hfₓ hNₓ hleₓ (by omega) ?_
    show (if opAt F N (sk F N (σ 1 1)) = true then _ else if cmpAt F N (sk F N (σ 1 1)) = true then _ else _) = _
    rw [if_neg (by rw [hoₓ hfₓ]; decide), if_neg (fun qₓ => by
      have h3ₓ := cmpAt_i.mp qₓ
      have h4ₓ : bt F N (sk F N (σ 1 1)) = F (sk F N (σ 1 1)) := if_pos h3ₓ.1
      rw [h4ₓ] at c1ₓ c2ₓ c3ₓ; omega)]
  · rw [← tp_self (σ := σ), c_isFaulty, if_neg hfₓ, mCall_s, mIf_neg (show ¬ (1 : Int) = 0 by decide), tp_self] at eₓ
    obtain ⟨-, rfl⟩ := some_el eₓ
    exact RS.bad hₓ hfₓ
end
