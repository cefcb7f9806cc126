/-! what is done, at both sides; aₓ step -/
def aCT (nₓ : Nat) (xₓ : Int) (σ : SS) : RR := mIf (¬ xₓ = 0) (mIf (¬ xₓ = 1) (mIf (¬ xₓ = 2) (b_X1_takeStep_145 nₓ 149 152 xₓ σ) (mCall (m_X9_dayNow nₓ 152 σ) fun x3ₓ s4ₓ => mWr s4ₓ (152 + 1000) 8 x3ₓ fun s5ₓ => mRd s5ₓ 152 6 fun x6ₓ => mLet (mAdd x6ₓ 1) fun x7ₓ => mWr s5ₓ 152 6 x7ₓ fun s8ₓ => b_X1_takeStep_145 nₓ 149 152 xₓ s8ₓ)) (mRd σ 149 7 fun x9ₓ => mCall (m_X1_follow nₓ 149 152 x9ₓ σ) fun _ s10ₓ => b_X1_takeStep_155 nₓ 149 152 xₓ s10ₓ)) (mRd σ 149 5 fun x11ₓ => mCall (m_X1_follow nₓ 149 152 x11ₓ σ) fun _ s12ₓ => b_X1_takeStep_155 nₓ 149 152 xₓ s12ₓ)
def aRF (nₓ : Nat) (xₓ : Int) (τ : SS) : RR := mLet (9 * 0) fun x4ₓ => mLet (216 + x4ₓ) fun x5ₓ => mIf (¬ xₓ = 0) (mIf (¬ xₓ = 1) (mIf (¬ xₓ = 2) (b_X12_steps_92 nₓ 0 xₓ x5ₓ τ) (mLet (x5ₓ + 8) fun x6ₓ => mLet (x5ₓ + 4) fun x7ₓ => mRd τ 12 (x7ₓ : Int).toNat fun x8ₓ => mLet (x8ₓ / 24) fun x9ₓ => mWr τ 12 (x6ₓ : Int).toNat x9ₓ fun s10ₓ => mLet (x5ₓ + 6) fun x11ₓ => mRd s10ₓ 12 (x11ₓ : Int).toNat fun x12ₓ => mLet (mAdd x12ₓ 1) fun x13ₓ => mWr s10ₓ 12 (x11ₓ : Int).toNat x13ₓ fun s14ₓ => b_X12_steps_92 nₓ 0 xₓ x5ₓ s14ₓ)) (mCall (m_X12_asideOf nₓ 0 0 τ) fun x15ₓ s16ₓ => mCall (m_X12_takesStreet nₓ 0 0 x15ₓ s16ₓ) fun _ s17ₓ => b_X12_steps_104 nₓ 0 xₓ x5ₓ s17ₓ)) (mRd τ 0 31 fun x18ₓ => mCall (m_X12_takesStreet nₓ 0 0 x18ₓ τ) fun _ s19ₓ => b_X12_steps_104 nₓ 0 xₓ x5ₓ s19ₓ)
/-- aₓ walker alike at both sides -/
def WRl (K M : Nat) (σ τ : SS) : Prop := (σ 152 0 = τ 12 216 ∧ σ 152 1 = τ 12 217 ∧ σ 152 2 = τ 12 218 ∧ σ 152 3 = τ 12 219 ∧ σ 1152 4 = τ 12 220 ∧ σ 152 5 = τ 12 221 ∧ σ 152 6 = τ 12 222 ∧ σ 152 7 = τ 12 223 ∧ σ 1152 8 = τ 12 224) ∧ (0 ≤ τ 12 216 ∧ τ 12 216 < (K : Int)) ∧ (0 ≤ τ 12 217 ∧ τ 12 217 < (K : Int)) ∧ (0 ≤ τ 12 218 ∧ τ 12 218 < (M : Int)) ∧ (-1 ≤ τ 12 219 ∧ τ 12 219 < τ 0 2 ∧ τ 12 219 < 6) ∧ 0 ≤ τ 12 220 ∧ -1 ≤ τ 12 223
def FCs (σ σ' : SS) : Prop := ∀ qₓ kₓ : Nat, qₓ ≠ 152 → qₓ ≠ 1152 → qₓ ≠ 1150 → ¬ (qₓ = 149 ∧ kₓ ≠ 9) → σ' qₓ kₓ = σ qₓ kₓ
def FRs (τ τ' : SS) : Prop := ∀ qₓ kₓ : Nat, qₓ ≠ 13 → qₓ ≠ 14 → qₓ ≠ 1010 → qₓ ≠ 1011 → ¬ (qₓ = 0 ∧ (kₓ = 24 ∨ kₓ = 31)) → ¬ (qₓ = 12 ∧ 216 ≤ kₓ ∧ kₓ < 225) → τ' qₓ kₓ = τ qₓ kₓ
section
variable {D : Nat → Int} {σ σ' σ0 τ τ' τ0 : SS} {rₓ r'ₓ xₓ yₓ vₓ : Int} {nₓ n'ₓ iₓ cₓ sₓ aₓ gₓ tₓ N K M dₓ mₓ : Nat} {O : List Int} {R : List (Int × Nat × Bool × Nat)} {wv : Int → Int} {goₓ asd ask : Prop}
theorem FCs.rf : FCs σ σ := fun _ _ _ _ _ _ => rfl
theorem FCs.tr {σ'' : SS} (hₓ : FCs σ σ') (gₓ : FCs σ' σ'') : FCs σ σ'' := fun qₓ kₓ aₓ bₓ cₓ dₓ => (gₓ qₓ kₓ aₓ bₓ cₓ dₓ).trans (hₓ qₓ kₓ aₓ bₓ cₓ dₓ)
theorem FRs.rf : FRs τ τ := fun _ _ _ _ _ _ _ _ => rfl
theorem FRs.tr {τ'' : SS} (hₓ : FRs τ τ') (gₓ : FRs τ' τ'') : FRs τ τ'' := fun qₓ kₓ aₓ bₓ cₓ dₓ eₓ fₓ => (gₓ qₓ kₓ aₓ bₓ cₓ dₓ eₓ fₓ).trans (hₓ qₓ kₓ aₓ bₓ cₓ dₓ eₓ fₓ)
theorem other_K (hDₓ : DOK D K N M) (hsₓ : sₓ < N) : 0 ≤ (if D (10 + 10 * sₓ) = (aₓ : Int) then D (11 + 10 * sₓ) else D (10 + 10 * sₓ)) ∧ (if D (10 + 10 * sₓ) = (aₓ : Int) then D (11 + 10 * sₓ) else D (10 + 10 * sₓ)) < (K : Int) ∧ 1 ≤ D (12 + 10 * sₓ) ∧ D (12 + 10 * sₓ) ≤ 9 := by
  obtain ⟨⟨a1ₓ, a2ₓ, a3ₓ, a4ₓ, a5ₓ⟩, ⟨a6ₓ, a7ₓ⟩, -⟩ := hDₓ.1.2.1 sₓ (by have := hDₓ.2.2.1; omega)
  have := hDₓ.2.1
  by_cases cₓ : D (10 + 10 * sₓ) = (aₓ : Int)
  · rw [if_pos cₓ]; omega
  · rw [if_neg cₓ]; omega
theorem f_act (hDₓ : DOK D K N M) (hCₓ : ∀ sₓ : Nat, sₓ < N → COs D σ sₓ) (hEₓ : ∀ kₓ : Nat, kₓ < 216 → τ 12 kₓ = D kₓ) (hWₓ : WRl K M σ τ) (haₓ : τ 12 216 = (aₓ : Int)) (h0ₓ : xₓ = 0 → ∃ sₓ : Nat, sₓ < N ∧ σ 149 5 = (sₓ : Int) ∧ τ 0 31 = (sₓ : Int) ∧ OPA D sₓ aₓ tₓ) (h1ₓ : xₓ = 1 → ∃ sₓ : Nat, sₓ < N ∧ σ 149 7 = (sₓ : Int) ∧ OPA D sₓ aₓ tₓ ∧ ∀ (zₓ : Int) (τ3 : SS), m_X12_asideOf n'ₓ 0 0 τ = some (zₓ, τ3) → zₓ = (sₓ : Int) ∧ τ3 = τ) (e1ₓ : aCT nₓ xₓ σ = some (rₓ, σ')) (e2ₓ : aRF n'ₓ xₓ τ = some (r'ₓ, τ')) : rₓ = xₓ ∧ WRl K M σ' τ' ∧ FCs σ σ' ∧ FRs τ τ' ∧ τ 12 220 ≤ τ' 12 220 ∧ τ' 12 220 ≤ τ 12 220 + 9 ∧ τ' 12 217 = τ 12 217 := by
  obtain ⟨⟨w0ₓ, w1ₓ, w2ₓ, w3ₓ, w4ₓ, w5ₓ, w6ₓ, w7ₓ, w8ₓ⟩, k0ₓ, k1ₓ, k2ₓ, k3ₓ, k4ₓ, k5ₓ⟩ := id hWₓ
  have hkₓ := hDₓ.kn
  unfold aCT at e1ₓ
  unfold aRF at e2ₓ
  rw [mLet_e, mLet_e, show (216 : Int) + 9 * 0 = 216 from rfl] at e2ₓ
  -- aₓ street followed
  have walk : ∀ (sₓ : Nat) (n1ₓ n2ₓ : Nat) (s10ₓ s17ₓ : SS) (z1ₓ z2ₓ : Int), sₓ < N → OPA D sₓ aₓ tₓ → m_X1_follow n1ₓ 149 152 (sₓ : Int) σ = some (z1ₓ, s10ₓ) → m_X12_takesStreet n2ₓ 0 0 (sₓ : Int) τ = some (z2ₓ, s17ₓ) → b_X1_takeStep_155 nₓ 149 152 xₓ s10ₓ = some (rₓ, σ') → b_X12_steps_104 n'ₓ 0 xₓ 216 s17ₓ = some (r'ₓ, τ') → rₓ = xₓ ∧ WRl K M σ' τ' ∧ FCs σ σ' ∧ FRs τ τ' ∧ τ 12 220 ≤ τ' 12 220 ∧ τ' 12 220 ≤ τ 12 220 + 9 ∧ τ' 12 217 = τ 12 217 := by
    intro sₓ n1ₓ n2ₓ s10ₓ s17ₓ z1ₓ z2ₓ hsₓ hatₓ f1ₓ f2ₓ e1ₓ e2ₓ
    have g1ₓ := c_follow (hCₓ sₓ hsₓ) hatₓ (w0ₓ.trans haₓ) f1ₓ
    have g2ₓ := r_takesS (by omega) haₓ f2ₓ
    rw [hEₓ _ (by omega), hEₓ (11 + 10 * sₓ) (by omega), hEₓ (12 + 10 * sₓ) (by omega)] at g2ₓ
    obtain ⟨b1ₓ, b2ₓ, b3ₓ, b4ₓ⟩ := other_K (aₓ := aₓ) hDₓ hsₓ
    generalize (if D (10 + 10 * sₓ) = (aₓ : Int) then D (11 + 10 * sₓ) else D (10 + 10 * sₓ)) = bₓ at g1ₓ g2ₓ b1ₓ b2ₓ
    generalize D (12 + 10 * sₓ) = len at g1ₓ g2ₓ b3ₓ b4ₓ
    unfold b_X1_takeStep_155 at e1ₓ
    unfold b_X12_steps_104 b_X12_steps_125 at e2ₓ
    rw [mRd_e, mLet_e, mWr_e, mRet_e] at e1ₓ
    obtain ⟨rfl, q1ₓ⟩ := some_el e1ₓ
    rw [mLet_e, mRd_e, mLet_e, mWr_e, show ((216 : Int) + 5).toNat = 221 from rfl] at e2ₓ
    have q2ₓ : τ' = upS s17ₓ 12 221 (mAdd (s17ₓ 12 221) 1) := by
      by_cases c0ₓ : rₓ = 0
      · rw [mIf_pos c0ₓ, mRet_e] at e2ₓ; exact (some_el e2ₓ).2
      · rw [mIf_neg c0ₓ] at e2ₓ
        by_cases c1ₓ : rₓ = 1
        · rw [mIf_neg (fun qₓ => qₓ c1ₓ), mRet_e] at e2ₓ; exact (some_el e2ₓ).2
        · rw [mIf_pos c1ₓ, mRet_e] at e2ₓ; exact (some_el e2ₓ).2
    have s5ₓ : s10ₓ 152 5 = τ 12 221 := by rw [g1ₓ]; repeat (first | rw [upS_s] | rw [upS_k (by decide)] | rw [upS_q (by decide)]); exact w5ₓ
    have t5ₓ : s17ₓ 12 221 = τ 12 221 := by rw [g2ₓ]; repeat (first | rw [upS_s] | rw [upS_k (by decide)] | rw [upS_q (by decide)])
    rw [s5ₓ] at q1ₓ
    rw [t5ₓ] at q2ₓ
    have c216ₓ : τ' 12 216 = bₓ := by rw [q2ₓ, g2ₓ]; repeat (first | rw [upS_s] | rw [upS_k (by decide)] | rw [upS_q (by decide)])
    have c217ₓ : τ' 12 217 = τ 12 217 := by rw [q2ₓ, g2ₓ]; repeat (first | rw [upS_s] | rw [upS_k (by decide)] | rw [upS_q (by decide)])
    have c218ₓ : τ' 12 218 = τ 12 218 := by rw [q2ₓ, g2ₓ]; repeat (first | rw [upS_s] | rw [upS_k (by decide)] | rw [upS_q (by decide)])
    have c219ₓ : τ' 12 219 = τ 12 219 := by rw [q2ₓ, g2ₓ]; repeat (first | rw [upS_s] | rw [upS_k (by decide)] | rw [upS_q (by decide)])
    have c220ₓ : τ' 12 220 = τ 12 220 + len := by rw [q2ₓ, g2ₓ]; repeat (first | rw [upS_s] | rw [upS_k (by decide)] | rw [upS_q (by decide)])
    have c221ₓ : τ' 12 221 = mAdd (τ 12 221) 1 := by rw [q2ₓ, g2ₓ]; repeat (first | rw [upS_s] | rw [upS_k (by decide)] | rw [upS_q (by decide)])
    have c222ₓ : τ' 12 222 = τ 12 222 := by rw [q2ₓ, g2ₓ]; repeat (first | rw [upS_s] | rw [upS_k (by decide)] | rw [upS_q (by decide)])
    have c223ₓ : τ' 12 223 = (aₓ : Int) := by rw [q2ₓ, g2ₓ]; repeat (first | rw [upS_s] | rw [upS_k (by decide)] | rw [upS_q (by decide)])
    have c224ₓ : τ' 12 224 = τ 12 224 := by rw [q2ₓ, g2ₓ]; repeat (first | rw [upS_s] | rw [upS_k (by decide)] | rw [upS_q (by decide)])
    have c02ₓ : τ' 0 2 = τ 0 2 := by rw [q2ₓ, g2ₓ]; repeat (first | rw [upS_s] | rw [upS_k (by decide)] | rw [upS_q (by decide)])
    refine ⟨rfl, ⟨⟨?_, ?_, ?_, ?_, ?_, ?_, ?_, ?_, ?_⟩, by rw [c216ₓ]; exact ⟨b1ₓ, b2ₓ⟩, by rw [c217ₓ]; exact k1ₓ, by rw [c218ₓ]; exact k2ₓ, by rw [c219ₓ, c02ₓ]; exact k3ₓ, by rw [c220ₓ]; omega, by rw [c223ₓ]; omega⟩, fun qₓ kₓ p1ₓ p2ₓ p3ₓ p4ₓ => ?_, fun qₓ kₓ p1ₓ p2ₓ p3ₓ p4ₓ p5ₓ p6ₓ => ?_, by rw [c220ₓ]; omega, by rw [c220ₓ]; omega, c217ₓ⟩
    · rw [c216ₓ, q1ₓ, g1ₓ]; repeat (first | rw [upS_s] | rw [upS_k (by decide)] | rw [upS_q (by decide)])
    · rw [c217ₓ, q1ₓ, g1ₓ, ← w1ₓ]; repeat (first | rw [upS_s] | rw [upS_k (by decide)] | rw [upS_q (by decide)])
    · rw [c218ₓ, q1ₓ, g1ₓ, ← w2ₓ]; repeat (first | rw [upS_s] | rw [upS_k (by decide)] | rw [upS_q (by decide)])
    · rw [c219ₓ, q1ₓ, g1ₓ, ← w3ₓ]; repeat (first | rw [upS_s] | rw [upS_k (by decide)] | rw [upS_q (by decide)])
    · rw [c220ₓ, q1ₓ, g1ₓ, ← w4ₓ]; repeat (first | rw [upS_s] | rw [upS_k (by decide)] | rw [upS_q (by decide)])
    · rw [c221ₓ, q1ₓ, g1ₓ]; repeat (first | rw [upS_s] | rw [upS_k (by decide)] | rw [upS_q (by decide)])
    · rw [c222ₓ, q1ₓ, g1ₓ, ← w6ₓ]; repeat (first | rw [upS_s] | rw [upS_k (by decide)] | rw [upS_q (by decide)])
    · rw [c223ₓ, q1ₓ, g1ₓ]; repeat (first | rw [upS_s] | rw [upS_k (by decide)] | rw [upS_q (by decide)])
    · rw [c224ₓ, q1ₓ, g1ₓ, ← w8ₓ]; repeat (first | rw [upS_s] | rw [upS_k (by decide)] | rw [upS_q (by decide)])
    · rw [q1ₓ, g1ₓ, upS_q p1ₓ, upS_q p2ₓ, upS_q p1ₓ, upS_q p1ₓ]
    · rw [q2ₓ, g2ₓ, upS_n (by omega), upS_n (by omega), upS_n (by omega), upS_n (by omega)]
  -- time goes on
  have wait : ∀ (s8ₓ s14ₓ : SS) (v6ₓ v8ₓ : Int), s8ₓ 152 0 = σ 152 0 ∧ s8ₓ 152 1 = σ 152 1 ∧ s8ₓ 152 2 = σ 152 2 ∧ s8ₓ 152 3 = σ 152 3 ∧ s8ₓ 1152 4 = σ 1152 4 ∧ s8ₓ 152 5 = σ 152 5 ∧ s8ₓ 152 6 = v6ₓ ∧ s8ₓ 152 7 = σ 152 7 ∧ s8ₓ 1152 8 = v8ₓ → (∀ qₓ kₓ : Nat, qₓ ≠ 152 → qₓ ≠ 1152 → s8ₓ qₓ kₓ = σ qₓ kₓ) → s14ₓ 12 222 = v6ₓ ∧ s14ₓ 12 224 = v8ₓ → (∀ qₓ kₓ : Nat, ¬ (qₓ = 12 ∧ (kₓ = 222 ∨ kₓ = 224)) → s14ₓ qₓ kₓ = τ qₓ kₓ) → b_X1_takeStep_145 nₓ 149 152 xₓ s8ₓ = some (rₓ, σ') → b_X12_steps_92 n'ₓ 0 xₓ 216 s14ₓ = some (r'ₓ, τ') → rₓ = xₓ ∧ WRl K M σ' τ' ∧ FCs σ σ' ∧ FRs τ τ' ∧ τ 12 220 ≤ τ' 12 220 ∧ τ' 12 220 ≤ τ 12 220 + 9 ∧ τ' 12 217 = τ 12 217 := by
    intro s8ₓ s14ₓ v6ₓ v8ₓ ⟨z0ₓ, z1ₓ, z2ₓ, z3ₓ, z4ₓ, z5ₓ, z6ₓ, z7ₓ, z8ₓ⟩ zF ⟨y6ₓ, y8ₓ⟩ yF e1ₓ e2ₓ
    unfold b_X1_takeStep_145 b_X1_takeStep_155 at e1ₓ
    unfold b_X12_steps_92 b_X12_steps_104 b_X12_steps_125 at e2ₓ
    rw [mRd_e, mLet_e, mWr_e, mRd_e, mLet_e, mWr_e, mRet_e, upS_q (show (152 : Nat) ≠ 152 + 1000 by decide)] at e1ₓ
    obtain ⟨rfl, q1'ₓ⟩ := some_el e1ₓ
    have q1ₓ : σ' = upS (upS s8ₓ 1152 4 (s8ₓ 1152 4 + 1)) 152 5 (mAdd (s8ₓ 152 5) 1) := q1'ₓ
    rw [mLet_e, mRd_e, mLet_e, mWr_e, show ((216 : Int) + 4).toNat = 220 from rfl, mLet_e, mRd_e, mLet_e, mWr_e, show ((216 : Int) + 5).toNat = 221 from rfl, upS_k (show (221 : Nat) ≠ 220 by decide)] at e2ₓ
    have q2ₓ : τ' = upS (upS s14ₓ 12 220 (s14ₓ 12 220 + 1)) 12 221 (mAdd (s14ₓ 12 221) 1) := by
      by_cases c0ₓ : rₓ = 0
      · rw [mIf_pos c0ₓ, mRet_e] at e2ₓ; exact (some_el e2ₓ).2
      · rw [mIf_neg c0ₓ] at e2ₓ
        by_cases c1ₓ : rₓ = 1
        · rw [mIf_neg (fun qₓ => qₓ c1ₓ), mRet_e] at e2ₓ; exact (some_el e2ₓ).2
        · rw [mIf_pos c1ₓ, mRet_e] at e2ₓ; exact (some_el e2ₓ).2
    rw [z4ₓ, z5ₓ] at q1ₓ
    rw [yF 12 220 (by decide), yF 12 221 (by decide)] at q2ₓ
    have c216ₓ : τ' 12 216 = τ 12 216 := by rw [q2ₓ]; repeat (first | rw [upS_s] | rw [upS_k (by decide)] | rw [upS_q (by decide)]); exact yF _ _ (by decide)
    have c217ₓ : τ' 12 217 = τ 12 217 := by rw [q2ₓ]; repeat (first | rw [upS_s] | rw [upS_k (by decide)] | rw [upS_q (by decide)]); exact yF _ _ (by decide)
    have c218ₓ : τ' 12 218 = τ 12 218 := by rw [q2ₓ]; repeat (first | rw [upS_s] | rw [upS_k (by decide)] | rw [upS_q (by decide)]); exact yF _ _ (by decide)
    have c219ₓ : τ' 12 219 = τ 12 219 := by rw [q2ₓ]; repeat (first | rw [upS_s] | rw [upS_k (by decide)] | rw [upS_q (by decide)]); exact yF _ _ (by decide)
    have c220ₓ : τ' 12 220 = τ 12 220 + 1 := by rw [q2ₓ]; repeat (first | rw [upS_s] | rw [upS_k (by decide)] | rw [upS_q (by decide)])
    have c221ₓ : τ' 12 221 = mAdd (τ 12 221) 1 := by rw [q2ₓ]; repeat (first | rw [upS_s] | rw [upS_k (by decide)] | rw [upS_q (by decide)])
    have c222ₓ : τ' 12 222 = v6ₓ := by rw [q2ₓ]; repeat (first | rw [upS_s] | rw [upS_k (by decide)] | rw [upS_q (by decide)]); exact y6ₓ
    have c223ₓ : τ' 12 223 = τ 12 223 := by rw [q2ₓ]; repeat (first | rw [upS_s] | rw [upS_k (by decide)] | rw [upS_q (by decide)]); exact yF _ _ (by decide)
    have c224ₓ : τ' 12 224 = v8ₓ := by rw [q2ₓ]; repeat (first | rw [upS_s] | rw [upS_k (by decide)] | rw [upS_q (by decide)]); exact y8ₓ
    have c02ₓ : τ' 0 2 = τ 0 2 := by rw [q2ₓ]; repeat (first | rw [upS_s] | rw [upS_k (by decide)] | rw [upS_q (by decide)]); exact yF _ _ (by decide)
    refine ⟨rfl, ⟨⟨?_, ?_, ?_, ?_, ?_, ?_, ?_, ?_, ?_⟩, by rw [c216ₓ]; exact k0ₓ, by rw [c217ₓ]; exact k1ₓ, by rw [c218ₓ]; exact k2ₓ, by rw [c219ₓ, c02ₓ]; exact k3ₓ, by rw [c220ₓ]; omega, by rw [c223ₓ]; exact k5ₓ⟩, fun qₓ kₓ p1ₓ p2ₓ p3ₓ p4ₓ => ?_, fun qₓ kₓ p1ₓ p2ₓ p3ₓ p4ₓ p5ₓ p6ₓ => ?_, by rw [c220ₓ]; omega, by rw [c220ₓ]; omega, c217ₓ⟩
    · rw [c216ₓ, q1ₓ, ← w0ₓ, ← z0ₓ]; repeat (first | rw [upS_s] | rw [upS_k (by decide)] | rw [upS_q (by decide)])
    · rw [c217ₓ, q1ₓ, ← w1ₓ, ← z1ₓ]; repeat (first | rw [upS_s] | rw [upS_k (by decide)] | rw [upS_q (by decide)])
    · rw [c218ₓ, q1ₓ, ← w2ₓ, ← z2ₓ]; repeat (first | rw [upS_s] | rw [upS_k (by decide)] | rw [upS_q (by decide)])
    · rw [c219ₓ, q1ₓ, ← w3ₓ, ← z3ₓ]; repeat (first | rw [upS_s] | rw [upS_k (by decide)] | rw [upS_q (by decide)])
    · rw [c220ₓ, q1ₓ, ← w4ₓ]; repeat (first | rw [upS_s] | rw [upS_k (by decide)] | rw [upS_q (by decide)])
    · rw [c221ₓ, q1ₓ, ← w5ₓ]; repeat (first | rw [upS_s] | rw [upS_k (by decide)] | rw [upS_q (by decide)])
    · rw [c222ₓ, q1ₓ, ← z6ₓ]; repeat (first | rw [upS_s] | rw [upS_k (by decide)] | rw [upS_q (by decide)])
    · rw [c223ₓ, q1ₓ, ← w7ₓ, ← z7ₓ]; repeat (first | rw [upS_s] | rw [upS_k (by decide)] | rw [upS_q (by decide)])
    · rw [c224ₓ, q1ₓ, ← z8ₓ]; repeat (first | rw [upS_s] | rw [upS_k (by decide)] | rw [upS_q (by decide)])
    · rw [q1ₓ, upS_q p1ₓ, upS_q p2ₓ]; exact zF qₓ kₓ p1ₓ p2ₓ
    · rw [q2ₓ, upS_n (by omega), upS_n (by omega)]; exact yF qₓ kₓ (by omega)
  by_cases c0ₓ : xₓ = 0
  · rw [mIf_neg (fun qₓ => qₓ c0ₓ)] at e1ₓ e2ₓ
    obtain ⟨sₓ, hsₓ, g1ₓ, g2ₓ, g3ₓ⟩ := h0ₓ c0ₓ
    rw [mRd_e, g1ₓ] at e1ₓ
    rw [mRd_e, g2ₓ] at e2ₓ
    obtain ⟨z1ₓ, s10ₓ, f1ₓ, e1ₓ⟩ := mCall_el e1ₓ
    obtain ⟨z2ₓ, s17ₓ, f2ₓ, e2ₓ⟩ := mCall_el e2ₓ
    exact walk sₓ _ _ s10ₓ s17ₓ z1ₓ z2ₓ hsₓ g3ₓ f1ₓ f2ₓ e1ₓ e2ₓ
  rw [mIf_pos c0ₓ] at e1ₓ e2ₓ
  by_cases c1ₓ : xₓ = 1
  · rw [mIf_neg (fun qₓ => qₓ c1ₓ)] at e1ₓ e2ₓ
    obtain ⟨sₓ, hsₓ, g1ₓ, g2ₓ, g3ₓ⟩ := h1ₓ c1ₓ
    rw [mRd_e, g1ₓ] at e1ₓ
    obtain ⟨z1ₓ, s10ₓ, f1ₓ, e1ₓ⟩ := mCall_el e1ₓ
    obtain ⟨z3ₓ, s16ₓ, f3ₓ, e2ₓ⟩ := mCall_el e2ₓ
    obtain ⟨ez, esₓ⟩ := g3ₓ z3ₓ s16ₓ f3ₓ
    rw [ez, esₓ] at e2ₓ
    obtain ⟨z2ₓ, s17ₓ, f2ₓ, e2ₓ⟩ := mCall_el e2ₓ
    exact walk sₓ _ _ s10ₓ s17ₓ z1ₓ z2ₓ hsₓ g2ₓ f1ₓ f2ₓ e1ₓ e2ₓ
  rw [mIf_pos c1ₓ] at e1ₓ e2ₓ
  by_cases c2ₓ : xₓ = 2
  · rw [mIf_neg (fun qₓ => qₓ c2ₓ)] at e1ₓ e2ₓ
    unfold m_X9_dayNow at e1ₓ
    rw [mRd_e, mLet_e, mRet_e, mCall_s, mWr_e, mRd_e, upS_q (show (152 : Nat) ≠ 152 + 1000 by decide), mLet_e, mWr_e] at e1ₓ
    rw [mLet_e, mLet_e, mRd_e, mLet_e, mWr_e, show ((216 : Int) + 4).toNat = 220 from rfl, show ((216 : Int) + 8).toNat = 224 from rfl, mLet_e, mRd_e, show ((216 : Int) + 6).toNat = 222 from rfl, upS_k (show (222 : Nat) ≠ 224 by decide), mLet_e, mWr_e] at e2ₓ
    have e1'ₓ : b_X1_takeStep_145 nₓ 149 152 xₓ (upS (upS σ 1152 8 (σ 1152 4 / 24)) 152 6 (mAdd (σ 152 6) 1)) = some (rₓ, σ') := e1ₓ
    refine wait _ _ (mAdd (τ 12 222) 1) (τ 12 220 / 24) ⟨?_, ?_, ?_, ?_, ?_, ?_, ?_, ?_, ?_⟩ (fun qₓ kₓ p1ₓ p2ₓ => by rw [upS_q p1ₓ, upS_q p2ₓ]) ⟨upS_s, ?_⟩ (fun qₓ kₓ pₓ => by rw [upS_n (by omega), upS_n (by omega)]) e1'ₓ e2ₓ
    · repeat (first | rw [upS_s] | rw [upS_k (by decide)] | rw [upS_q (by decide)])
    · repeat (first | rw [upS_s] | rw [upS_k (by decide)] | rw [upS_q (by decide)])
    · repeat (first | rw [upS_s] | rw [upS_k (by decide)] | rw [upS_q (by decide)])
    · repeat (first | rw [upS_s] | rw [upS_k (by decide)] | rw [upS_q (by decide)])
    · repeat (first | rw [upS_s] | rw [upS_k (by decide)] | rw [upS_q (by decide)])
    · repeat (first | rw [upS_s] | rw [upS_k (by decide)] | rw [upS_q (by decide)])
    · rw [← w6ₓ]; repeat (first | rw [upS_s] | rw [upS_k (by decide)] | rw [upS_q (by decide)])
    · repeat (first | rw [upS_s] | rw [upS_k (by decide)] | rw [upS_q (by decide)])
    · rw [← w4ₓ]; repeat (first | rw [upS_s] | rw [upS_k (by decide)] | rw [upS_q (by decide)])
    · repeat (first | rw [upS_s] | rw [upS_k (by decide)] | rw [upS_q (by decide)])
  · rw [mIf_pos c2ₓ] at e1ₓ e2ₓ
    exact wait σ τ (τ 12 222) (τ 12 224) ⟨rfl, rfl, rfl, rfl, rfl, rfl, w6ₓ, rfl, w8ₓ⟩ (fun _ _ _ _ => rfl) ⟨rfl, rfl⟩ (fun _ _ _ => rfl) e1ₓ e2ₓ
theorem GOA_c {E : Nat → Int} {A : Int} (hₓ : ∀ kₓ : Nat, kₓ < 216 → E kₓ = D kₓ) (h2ₓ : D 2 ≤ 8) (h3ₓ : D 3 ≤ 4) (hAₓ : ∀ sₓ : Nat, A = (sₓ : Int) → sₓ < 12) : GOA E A aₓ tₓ ↔ GOA D A aₓ tₓ := by
  constructor
  · rintro ⟨sₓ, q1ₓ, q2ₓ⟩; exact ⟨sₓ, q1ₓ, (OPA_c hₓ h2ₓ h3ₓ (hAₓ sₓ q1ₓ)).mp q2ₓ⟩
  · rintro ⟨sₓ, q1ₓ, q2ₓ⟩; exact ⟨sₓ, q1ₓ, (OPA_c hₓ h2ₓ h3ₓ (hAₓ sₓ q1ₓ)).mpr q2ₓ⟩
theorem f_step (hDₓ : DOK D K N M) (hCₓ : ENVc D K N M σ) (hEₓ : ENVr D τ) (hRₓ : RRs σ τ) (hPₓ : DPs τ) (hWₓ : WRl K M σ τ) (hngₓ : ¬ τ 12 216 = τ 12 217) (e1ₓ : m_X1_takeStep nₓ 149 152 σ = some (rₓ, σ')) (e2ₓ : m_X12_steps n'ₓ 0 0 τ = some (r'ₓ, τ')) : ¬ rₓ = 4 ∧ WRl K M σ' τ' ∧ FCs σ σ' ∧ FRs τ τ' ∧ τ 12 220 ≤ τ' 12 220 ∧ τ' 12 220 ≤ τ 12 220 + 9 ∧ τ' 12 217 = τ 12 217 := by
  obtain ⟨⟨w0ₓ, w1ₓ, w2ₓ, w3ₓ, w4ₓ, w5ₓ, w6ₓ, w7ₓ, w8ₓ⟩, k0ₓ, k1ₓ, k2ₓ, k3ₓ, k4ₓ, k5ₓ⟩ := id hWₓ
  have hkₓ := hDₓ.kn
  have hM4ₓ := hDₓ.2.2.2.2
  obtain ⟨⟨-, -, ⟨-, hd2ₓ⟩, -, hd3ₓ⟩, -⟩ := id hDₓ.1
  obtain ⟨aₓ, haₓ⟩ : ∃ aₓ : Nat, τ 12 216 = (aₓ : Int) := ⟨(τ 12 216).toNat, by omega⟩
  obtain ⟨gₓ, hgₓ⟩ : ∃ gₓ : Nat, τ 12 217 = (gₓ : Int) := ⟨(τ 12 217).toNat, by omega⟩
  obtain ⟨mₓ, hmₓ⟩ : ∃ mₓ : Nat, τ 12 218 = (mₓ : Int) := ⟨(τ 12 218).toNat, by omega⟩
  obtain ⟨tₓ, htₓ⟩ : ∃ tₓ : Nat, τ 12 220 = (tₓ : Int) := ⟨(τ 12 220).toNat, by omega⟩
  obtain ⟨dₓ, hdₓ, hd11ₓ, hdMₓ⟩ : ∃ dₓ : Nat, (dₓ : Int) = chD (τ 12 224) (tₓ : Int) (mₓ : Int) ∧ dₓ < 11 ∧ (dₓ < M ∨ 4 ≤ dₓ) := by
    unfold chD
    by_cases cₓ : τ 12 224 = (tₓ : Int) / 24
    · rw [if_pos cₓ]; exact ⟨(4 + (tₓ : Int) / 24 % 7).toNat, by omega, by omega, by omega⟩
    · rw [if_neg cₓ]; exact ⟨mₓ, rfl, by omega, by omega⟩
  obtain ⟨p1ₓ, p2ₓ⟩ := hCₓ.2.1 dₓ hd11ₓ hdMₓ
  have haKₓ : aₓ < K := by omega
  have hgKₓ : gₓ < K := by omega
  have fst := p2ₓ aₓ gₓ haKₓ hgKₓ
  have hAₓ : ∀ sₓ : Nat, σ 147 (100 * dₓ + 10 * aₓ + gₓ) = (sₓ : Int) → sₓ < N := fun sₓ hsₓ => by
    rcases fst with ⟨q1ₓ, -⟩ | ⟨s'ₓ, q1ₓ, q2ₓ, -⟩
    · omega
    · omega
  have hA1ₓ : -1 ≤ σ 147 (100 * dₓ + 10 * aₓ + gₓ) := by
    rcases fst with ⟨q1ₓ, -⟩ | ⟨s'ₓ, q1ₓ, q2ₓ, -⟩
    · omega
    · omega
  have hMXₓ : 0 ≤ MX σ dₓ aₓ gₓ := ((p1ₓ gₓ hgKₓ).1.2.1 aₓ haKₓ).1
  have hCOₓ : ∀ sₓ : Nat, sₓ < N → COs D σ sₓ := fun sₓ hsₓ => hCₓ.co hDₓ hsₓ
  have hN9ₓ : σ 39 9 = (N : Int) := by
    have := hCₓ.1.2.1.1.2.1
    rw [hDₓ.2.2.1] at this; exact this
  have look := fun (vₓ : Int) (zₓ : Int) (σ1 : SS) (nₓ : Nat) (hv : vₓ = 0 ∨ vₓ = 1) (eₓ : m_X1_lookAround nₓ 149 152 vₓ σ = some (zₓ, σ1)) => c_lookW (dₓ := dₓ) (mₓ := mₓ) hCOₓ hN9ₓ (w0ₓ.trans haₓ) (w1ₓ.trans hgₓ) (w4ₓ.trans htₓ) hCₓ.2.2 (by rw [w8ₓ, w2ₓ, hmₓ]; exact hdₓ) hAₓ hA1ₓ hMXₓ hv eₓ
  -- the reference looks, and does
  unfold m_X12_steps at e2ₓ
  obtain ⟨z1ₓ, τ1, f1ₓ, e2ₓ⟩ := mCall_el e2ₓ
  obtain ⟨lF, l31ₓ, l14ₓ⟩ := r_looks hDₓ hEₓ hCₓ hmₓ (by omega) haₓ hgₓ htₓ haKₓ hgKₓ hdₓ f1ₓ
  obtain ⟨yₓ, τ2, f2ₓ, e2ₓ⟩ := mCall_el e2ₓ
  have e2'ₓ : aRF n'ₓ yₓ τ2 = some (r'ₓ, τ') := e2ₓ
  have h12ₓ : τ1 12 = τ 12 := funext fun kₓ => lF 12 kₓ (by omega) (by omega) (by omega)
  have hs1ₓ : ¬ τ1 0 27 = 0 := by rw [lF 0 27 (by omega) (by omega) (by omega)]; exact hEₓ.2.1
  have h301ₓ : τ1 0 30 = 0 := (lF 0 30 (by omega) (by omega) (by omega)).trans hEₓ.2.2
  have h1Nₓ : τ1 12 1 = (N : Int) := by rw [h12ₓ]; exact (hEₓ.1 1 (by decide)).trans hDₓ.2.2.1
  have ha1ₓ : τ1 12 216 = (aₓ : Int) := by rw [h12ₓ]; exact haₓ
  have ht1ₓ : τ1 12 220 = (tₓ : Int) := by rw [h12ₓ]; exact htₓ
  have hArₓ : -1 ≤ τ1 0 31 := by rw [l31ₓ]; exact hA1ₓ
  have goI : GOA (τ1 12) (τ1 0 31) aₓ tₓ ↔ GOA D (σ 147 (100 * dₓ + 10 * aₓ + gₓ)) aₓ tₓ := by
    rw [h12ₓ, l31ₓ]; exact GOA_c hEₓ.1 hd2ₓ hd3ₓ (fun sₓ hsₓ => by have := hAₓ sₓ hsₓ; omega)
  have opI : ∀ uₓ : Nat, uₓ < N → (OPA (τ1 12) uₓ aₓ tₓ ↔ OPA D uₓ aₓ tₓ) := fun uₓ huₓ => by
    rw [h12ₓ]; exact OPA_c hEₓ.1 hd2ₓ hd3ₓ (by omega)
  have asI : (∃ uₓ : Nat, uₓ < N ∧ OPA (τ1 12) uₓ aₓ tₓ) ↔ ∃ uₓ : Nat, uₓ < N ∧ OPA D uₓ aₓ tₓ := by
    constructor
    · rintro ⟨uₓ, q1ₓ, q2ₓ⟩; exact ⟨uₓ, q1ₓ, (opI uₓ q1ₓ).mp q2ₓ⟩
    · rintro ⟨uₓ, q1ₓ, q2ₓ⟩; exact ⟨uₓ, q1ₓ, (opI uₓ q1ₓ).mpr q2ₓ⟩
  -- the left hoursₓ, as both see them
  have hlfₓ : (if MX σ dₓ aₓ gₓ < 1000000 then MX σ dₓ aₓ gₓ else 0) = (if τ1 14 aₓ = 100000000 then 0 else τ1 14 aₓ) := by
    rcases l14ₓ with ⟨q1ₓ, q2ₓ⟩ | ⟨q1ₓ, q2ₓ⟩
    · rw [if_pos (by omega), if_neg (by omega), q2ₓ]
    · rw [if_neg (by omega), if_pos q2ₓ]
  -- the same deed done
  have done : ∀ (σ1 σ2 : SS) (wₓ vₓ : Int) (n1ₓ : Nat), FCl σ σ1 → σ1 149 5 = σ 147 (100 * dₓ + 10 * aₓ + gₓ) → (vₓ = 1 → LSS (fun uₓ => OPA D uₓ aₓ tₓ) N (σ1 149 7)) → FCt σ1 σ2 → (∀ qₓ kₓ : Nat, qₓ ≠ 1010 → qₓ ≠ 1011 → ¬ (qₓ = 0 ∧ kₓ = 24) → τ2 qₓ kₓ = τ1 qₓ kₓ) → wₓ = yₓ → (wₓ = 0 → GOA D (σ 147 (100 * dₓ + 10 * aₓ + gₓ)) aₓ tₓ) → (wₓ = 1 → vₓ = 1 ∧ ∃ uₓ : Nat, uₓ < N ∧ OPA D uₓ aₓ tₓ) → ¬ wₓ = 4 → aCT n1ₓ wₓ σ2 = some (rₓ, σ') → ¬ rₓ = 4 ∧ WRl K M σ' τ' ∧ FCs σ σ' ∧ FRs τ τ' ∧ τ 12 220 ≤ τ' 12 220 ∧ τ' 12 220 ≤ τ 12 220 + 9 ∧ τ' 12 217 = τ 12 217 := by
    intro σ1 σ2 wₓ vₓ n1ₓ hlₓ h5ₓ h7ₓ hFₓ hGₓ hwyₓ hw0ₓ hw1ₓ hw4ₓ e1ₓ
    subst hwyₓ
    have F1 : FCs σ σ2 := fun qₓ kₓ a1ₓ a2ₓ a3ₓ a4ₓ => (hFₓ qₓ kₓ a3ₓ (by omega)).trans (hlₓ qₓ kₓ (by omega))
    have F2 : FRs τ τ2 := fun qₓ kₓ a1ₓ a2ₓ a3ₓ a4ₓ a5ₓ a6ₓ => (hGₓ qₓ kₓ a3ₓ a4ₓ (by omega)).trans (lF qₓ kₓ a1ₓ a2ₓ (by omega))
    have c12ₓ : ∀ kₓ : Nat, τ2 12 kₓ = τ 12 kₓ := fun kₓ => (hGₓ 12 kₓ (by omega) (by omega) (by omega)).trans (by rw [h12ₓ])
    have c152ₓ : ∀ kₓ : Nat, σ2 152 kₓ = σ 152 kₓ := fun kₓ => (hFₓ 152 kₓ (by omega) (by omega)).trans (hlₓ 152 kₓ (by omega))
    have c1152ₓ : ∀ kₓ : Nat, σ2 1152 kₓ = σ 1152 kₓ := fun kₓ => (hFₓ 1152 kₓ (by omega) (by omega)).trans (hlₓ 1152 kₓ (by omega))
    have c02ₓ : τ2 0 2 = τ 0 2 := (hGₓ 0 2 (by omega) (by omega) (by omega)).trans (lF 0 2 (by omega) (by omega) (by omega))
    have hW2ₓ : WRl K M σ2 τ2 := by
      unfold WRl
      rw [c152ₓ, c152ₓ, c152ₓ, c152ₓ, c152ₓ, c152ₓ, c152ₓ, c1152ₓ, c1152ₓ, c12ₓ, c12ₓ, c12ₓ, c12ₓ, c12ₓ, c12ₓ, c12ₓ, c12ₓ, c12ₓ, c02ₓ]
      exact hWₓ
    have i12ₓ : τ2 12 = τ1 12 := funext fun kₓ => hGₓ 12 kₓ (by omega) (by omega) (by omega)
    obtain ⟨m1ₓ, m2ₓ, m3ₓ, m4ₓ, m5ₓ, m6ₓ, m7ₓ⟩ := f_act (aₓ := aₓ) (tₓ := tₓ) (nₓ := n1ₓ) (n'ₓ := n'ₓ) hDₓ (fun sₓ hsₓ => COs_keep (hCOₓ sₓ hsₓ) (fun qₓ kₓ hqₓ => F1 qₓ kₓ (by omega) (by omega) (by omega) (by omega))) (fun kₓ hkₓ => (c12ₓ kₓ).trans (hEₓ.1 kₓ hkₓ)) hW2ₓ ((c12ₓ _).trans haₓ) (fun qₓ => by
      obtain ⟨sₓ, g1ₓ, g2ₓ⟩ := hw0ₓ qₓ
      exact ⟨sₓ, hAₓ sₓ g1ₓ, ((hFₓ 149 5 (by omega) (by omega)).trans h5ₓ).trans g1ₓ, ((hGₓ 0 31 (by omega) (by omega) (by omega)).trans l31ₓ).trans g1ₓ, g2ₓ⟩) (fun qₓ => by
      obtain ⟨q1ₓ, uₓ, u1ₓ, u2ₓ⟩ := hw1ₓ qₓ
      have L := h7ₓ q1ₓ
      rcases L with ⟨b1ₓ, b2ₓ⟩ | ⟨sₓ, b1ₓ, b2ₓ, b3ₓ, b4ₓ⟩
      · exact absurd u2ₓ (b2ₓ uₓ u1ₓ)
      · refine ⟨sₓ, b2ₓ, (hFₓ 149 7 (by omega) (by omega)).trans b1ₓ, b3ₓ, fun zₓ τ3 ez => ?_⟩
        obtain ⟨o1ₓ, o2ₓ⟩ := r_asideOf (N := N) (aₓ := aₓ) (tₓ := tₓ) (by rw [hGₓ 0 27 (by omega) (by omega) (by omega)]; exact hs1ₓ) (by rw [i12ₓ]; exact h1Nₓ) (by rw [i12ₓ]; exact ha1ₓ) (by rw [i12ₓ]; exact ht1ₓ) ez
        rw [i12ₓ] at o2ₓ
        exact ⟨LSS_det (LSS_c o2ₓ (fun uₓ huₓ => (opI uₓ huₓ).symm)) (Or.inr ⟨sₓ, rfl, b2ₓ, b3ₓ, b4ₓ⟩), o1ₓ⟩) e1ₓ e2'ₓ
    rw [c12ₓ] at m5ₓ m6ₓ m7ₓ
    exact ⟨by rw [m1ₓ]; exact hw4ₓ, m2ₓ, F1.tr m3ₓ, F2.tr m4ₓ, m5ₓ, m6ₓ, m7ₓ⟩
  unfold m_X1_takeStep m_X9_isAtGoal at e1ₓ
  rw [mRd_e, mRd_e, w0ₓ, w1ₓ, mIf_pos hngₓ, mRet_e, mCall_s, mIf_pos rfl, mRd_e, w3ₓ] at e1ₓ
  unfold m_X12_doing at f2ₓ
  rw [r_wo3, mCall_s, show τ1 12 219 = τ 12 219 by rw [h12ₓ]] at f2ₓ
  by_cases cr : τ 12 219 < 0
  · -- noₓ rule
    rw [mIf_pos cr] at e1ₓ
    rw [mIf_neg (show ¬ 0 ≤ τ 12 219 by omega)] at f2ₓ
    unfold b_X1_takeStep_40 at e1ₓ
    obtain ⟨z2ₓ, σ1, g1ₓ, e1ₓ⟩ := mCall_el e1ₓ
    obtain ⟨j1ₓ, j2ₓ, j3ₓ, j4ₓ, j5ₓ, j6ₓ⟩ := look 0 z2ₓ σ1 nₓ (Or.inl rfl) g1ₓ
    obtain ⟨z3ₓ, s5ₓ, g2ₓ, f2ₓ⟩ := mCall_el f2ₓ
    obtain ⟨esₓ, g3ₓ⟩ := r_canGo hs1ₓ ha1ₓ ht1ₓ hArₓ g2ₓ
    rw [esₓ] at f2ₓ
    rw [goI] at g3ₓ
    rw [mRd_e] at e1ₓ
    rcases j3ₓ with ⟨j3ₓ, j3g⟩ | ⟨j3ₓ, j3g⟩
    · have hz3ₓ : z3ₓ = 1 := by rcases g3ₓ with ⟨qₓ, -⟩ | ⟨-, qₓ⟩; exact qₓ; exact absurd j3g qₓ
      rw [hz3ₓ, mIf_neg (by decide), mRet_e] at f2ₓ
      obtain ⟨rfl, rfl⟩ := some_el f2ₓ
      rw [j3ₓ, mIf_neg (by decide)] at e1ₓ
      exact done σ1 σ1 0 0 nₓ j1ₓ j2ₓ (fun qₓ => absurd qₓ (by decide)) FCt.rf (fun _ _ _ _ _ => rfl) rfl (fun _ => j3g) (fun qₓ => absurd qₓ (by decide)) (by decide) e1ₓ
    · have hz3ₓ : z3ₓ = 0 := by rcases g3ₓ with ⟨-, qₓ⟩ | ⟨qₓ, -⟩; exact absurd qₓ j3g; exact qₓ
      rw [hz3ₓ, mIf_pos rfl, mRet_e] at f2ₓ
      obtain ⟨rfl, rfl⟩ := some_el f2ₓ
      rw [j3ₓ, mIf_pos rfl] at e1ₓ
      exact done σ1 σ1 3 0 nₓ j1ₓ j2ₓ (fun qₓ => absurd qₓ (by decide)) FCt.rf (fun _ _ _ _ _ => rfl) rfl (fun qₓ => absurd qₓ (by decide)) (fun qₓ => absurd qₓ (by decide)) (by decide) e1ₓ
  · -- by aₓ rule
    obtain ⟨iₓ, hiₓ⟩ : ∃ iₓ : Nat, τ 12 219 = (iₓ : Int) := ⟨(τ 12 219).toNat, by omega⟩
    have hi6ₓ : iₓ < 6 := by omega
    obtain ⟨O, R, L12, L1, L2, hKₓ, hYₓ⟩ := (hRₓ.2 iₓ (by omega) hi6ₓ).un
    have helₓ : el 39 4 iₓ = 5 + 4 * iₓ := by unfold el; rw [if_neg (by decide), if_pos rfl]
    rw [mIf_neg cr, mRd_e, w3ₓ, hiₓ, mIf_neg (show ¬ (6 : Int) ≤ (iₓ : Int) by omega), mRd_e, w3ₓ, hiₓ, mIx_e, show ((iₓ : Int)).toNat = iₓ by omega, helₓ, mRd_e] at e1ₓ
    rw [hiₓ, mIf_pos (show (0 : Int) ≤ (iₓ : Int) by omega)] at f2ₓ
    obtain ⟨z3ₓ, τw, g2ₓ, f2ₓ⟩ := mCall_el f2ₓ
    obtain ⟨u1ₓ, cg, u2ₓ, u3ₓ⟩ := r_words hs1ₓ h301ₓ ha1ₓ ht1ₓ hArₓ (by rw [h12ₓ]; exact k5ₓ) g2ₓ
    rw [goI] at u2ₓ
    have w12ₓ : τw 12 = τ1 12 := funext fun kₓ => u1ₓ 12 kₓ (by decide)
    have wq : ∀ qₓ kₓ : Nat, qₓ ≠ 1011 → τw qₓ kₓ = τ1 qₓ kₓ := u1ₓ
    have hKwₓ : CODE (5 + 4 * iₓ) iₓ O σ τw := fun jₓ hjₓ => by
      obtain ⟨q1ₓ, q2ₓ, q3ₓ⟩ := hKₓ jₓ hjₓ
      exact ⟨q1ₓ, ((wq 2 _ (by omega)).trans (lF 2 _ (by omega) (by omega) (by omega))).trans q2ₓ, q3ₓ⟩
    have hYwₓ : ∀ cₓ : Nat, cₓ < R.length → CLZ (5 + 4 * iₓ) iₓ O σ τw cₓ (nthR R cₓ) ∧ YOK O (nthR R cₓ) := fun cₓ hcₓ => by
      obtain ⟨⟨q1ₓ, q2ₓ, q3ₓ, q4ₓ, q5ₓ, q6ₓ⟩, q7ₓ, -⟩ := hYₓ cₓ hcₓ
      have t4ₓ : ∀ kₓ : Nat, τw 4 kₓ = τ 4 kₓ := fun kₓ => (wq 4 kₓ (by omega)).trans (lF 4 kₓ (by omega) (by omega) (by omega))
      exact ⟨⟨q1ₓ, q2ₓ, q3ₓ, (t4ₓ _).trans q4ₓ, (t4ₓ _).trans q5ₓ, (t4ₓ _).trans q6ₓ⟩, q7ₓ⟩
    have h31wₓ : τw 0 31 = τ1 0 31 := wq 0 31 (by omega)
    obtain ⟨v1ₓ, v2ₓ⟩ := r_doing0 (wv := wvF (tₓ : Int) (aₓ : Int) (τ1 12 217) (if cg = 0 then 1 else 0) (if τ1 14 aₓ = 100000000 then 0 else τ1 14 aₓ) (τ1 12 221) (τ1 12 222) (τ1 12 223)) (L := R.length) (N := N) (aₓ := aₓ) (tₓ := tₓ) hKwₓ hYwₓ (((wq 5 iₓ (by omega)).trans (lF 5 iₓ (by omega) (by omega) (by omega))).trans L2) (by rw [wq 0 27 (by omega)]; exact hs1ₓ) ((wq 0 30 (by omega)).trans h301ₓ) (by rw [w12ₓ]; exact h1Nₓ) (by rw [w12ₓ]; exact ha1ₓ) (by rw [w12ₓ]; exact ht1ₓ) (by rw [h31wₓ]; exact hArₓ) u3ₓ n'ₓ 0 τw (Nat.zero_le _) FRt.rf f2ₓ
    rw [w12ₓ, h31wₓ] at v2ₓ
    -- the class chooses
    have cho : ∀ (vₓ : Int) (z2ₓ : Int) (σ1 : SS), (vₓ = 0 ∨ vₓ = 1) → (σ (5 + 4 * iₓ) 5 = 0 ↔ vₓ = 0) → m_X1_lookAround nₓ 149 152 vₓ σ = some (z2ₓ, σ1) → (mCall (m_X1_chooseDeed nₓ 149 152 (5 + 4 * iₓ) σ1) fun x9ₓ s10ₓ => aCT nₓ x9ₓ s10ₓ) = some (rₓ, σ') → ¬ rₓ = 4 ∧ WRl K M σ' τ' ∧ FCs σ σ' ∧ FRs τ τ' ∧ τ 12 220 ≤ τ' 12 220 ∧ τ' 12 220 ≤ τ 12 220 + 9 ∧ τ' 12 217 = τ 12 217 := by
      intro vₓ z2ₓ σ1 hv hvaₓ g1ₓ e1ₓ
      obtain ⟨j1ₓ, j2ₓ, j3ₓ, j4ₓ, j5ₓ, j6ₓ⟩ := look vₓ z2ₓ σ1 nₓ hv g1ₓ
      obtain ⟨w9ₓ, s10ₓ, g4ₓ, e1ₓ⟩ := mCall_el e1ₓ
      have hY1ₓ : ∀ cₓ : Nat, cₓ < R.length → CLZ (5 + 4 * iₓ) iₓ O σ1 τ cₓ (nthR R cₓ) ∧ YOK O (nthR R cₓ) := fun cₓ hcₓ => by
        obtain ⟨⟨q1ₓ, q2ₓ, q3ₓ, q4ₓ, q5ₓ, q6ₓ⟩, q7ₓ, -⟩ := hYₓ cₓ hcₓ
        exact ⟨⟨(j1ₓ _ _ (by omega)).trans q1ₓ, (j1ₓ _ _ (by omega)).trans q2ₓ, (j1ₓ _ _ (by omega)).trans q3ₓ, q4ₓ, q5ₓ, q6ₓ⟩, q7ₓ⟩
      have hK1ₓ : CODE (5 + 4 * iₓ) iₓ O σ1 τ := fun jₓ hjₓ => by
        obtain ⟨q1ₓ, q2ₓ, q3ₓ⟩ := hKₓ jₓ hjₓ
        exact ⟨(j1ₓ _ _ (by omega)).trans q1ₓ, q2ₓ, q3ₓ⟩
      have hshₓ : (if σ1 149 6 = 0 then (1 : Int) else 0) = (if cg = 0 then 1 else 0) := by
        rcases j3ₓ with ⟨q1ₓ, q2ₓ⟩ | ⟨q1ₓ, q2ₓ⟩
        · have : cg = 1 := by rcases u2ₓ with ⟨qₓ, -⟩ | ⟨-, qₓ⟩; exact qₓ; exact absurd q2ₓ qₓ
          rw [q1ₓ, this]
        · have : cg = 0 := by rcases u2ₓ with ⟨-, qₓ⟩ | ⟨qₓ, -⟩; exact absurd qₓ q2ₓ; exact qₓ
          rw [q1ₓ, this]
      unfold m_X1_chooseDeed at g4ₓ
      obtain ⟨x1ₓ, x2ₓ⟩ := c_choose0 (σ0 := σ1) (τ := τ) (iₓ := iₓ) (wv := wvF (tₓ : Int) (aₓ : Int) (τ1 12 217) (if cg = 0 then 1 else 0) (if τ1 14 aₓ = 100000000 then 0 else τ1 14 aₓ) (τ1 12 221) (τ1 12 222) (τ1 12 223)) (L := R.length) (goₓ := GOA D (σ 147 (100 * dₓ + 10 * aₓ + gₓ)) aₓ tₓ) (asd := ∃ uₓ : Nat, uₓ < N ∧ OPA D uₓ aₓ tₓ) (ask := τ 12 224 ≠ (tₓ : Int) / 24) (by omega) (by omega) ((j1ₓ _ _ (by omega)).trans L1) hK1ₓ hY1ₓ hi6ₓ L2 hPₓ ((j1ₓ 149 9 (by omega)).trans hCₓ.2.2) j3ₓ (fun cₓ hcₓ qₓ => by
        have hneₓ := (hYₓ cₓ hcₓ).2.2.2 qₓ
        have hv1ₓ : vₓ = 1 := by
          rcases hv with hv | hv
          · exact absurd (hvaₓ.mpr hv) hneₓ
          · exact hv
        rcases j5ₓ hv1ₓ with ⟨b1ₓ, b2ₓ⟩ | ⟨sₓ, b1ₓ, b2ₓ, b3ₓ, b4ₓ⟩
        · exact Or.inl ⟨b1ₓ, fun ⟨uₓ, c1ₓ, c2ₓ⟩ => b2ₓ uₓ c1ₓ c2ₓ⟩
        · exact Or.inr ⟨by rw [b1ₓ]; omega, sₓ, b2ₓ, b3ₓ⟩) (by
        rw [j1ₓ 1152 8 (by omega), j1ₓ 1152 4 (by omega), w8ₓ, w4ₓ, htₓ]
        by_cases cₓ : τ 12 224 = (tₓ : Int) / 24
        · exact Or.inl ⟨cₓ, fun qₓ => qₓ cₓ⟩
        · exact Or.inr ⟨cₓ, cₓ⟩) (fun kₓ b1ₓ b2ₓ => by
        rw [j1ₓ 1152 4 (by omega), j1ₓ 152 0 (by omega), j1ₓ 152 1 (by omega), hshₓ, j4ₓ, hlfₓ, j1ₓ 152 5 (by omega), j1ₓ 152 6 (by omega), j1ₓ 152 7 (by omega), w4ₓ, htₓ, w0ₓ, haₓ, w1ₓ, w5ₓ, w6ₓ, w7ₓ, h12ₓ]) nₓ 0 σ1 (Nat.zero_le _) FCt.rf g4ₓ
      have v3ₓ : CHO (fun cₓ => mayP (GOA D (σ 147 (100 * dₓ + 10 * aₓ + gₓ)) aₓ tₓ) (∃ uₓ : Nat, uₓ < N ∧ OPA D uₓ aₓ tₓ) (τ 12 224 ≠ (tₓ : Int) / 24) (nthR R cₓ).1 ∧ tstP (wvF (tₓ : Int) (aₓ : Int) (τ1 12 217) (if cg = 0 then 1 else 0) (if τ1 14 aₓ = 100000000 then 0 else τ1 14 aₓ) (τ1 12 221) (τ1 12 222) (τ1 12 223)) O (nthR R cₓ)) (fun cₓ => (nthR R cₓ).1) R.length 0 yₓ := by
        have hmIₓ : ∀ vₓ : Int, mayP (GOA (τ1 12) (τ1 0 31) aₓ tₓ) (∃ uₓ : Nat, uₓ < N ∧ OPA (τ1 12) uₓ aₓ tₓ) (τ1 12 224 ≠ (tₓ : Int) / 24) vₓ ↔ mayP (GOA D (σ 147 (100 * dₓ + 10 * aₓ + gₓ)) aₓ tₓ) (∃ uₓ : Nat, uₓ < N ∧ OPA D uₓ aₓ tₓ) (τ 12 224 ≠ (tₓ : Int) / 24) vₓ := fun vₓ => by
          unfold mayP; rw [goI, asI, show τ1 12 224 = τ 12 224 by rw [h12ₓ]]
        rcases v2ₓ with ⟨b1ₓ, b2ₓ⟩ | ⟨zₓ, b1ₓ, b2ₓ, b3ₓ, b4ₓ, b5ₓ⟩
        · exact Or.inl ⟨b1ₓ, fun zₓ c1ₓ c2ₓ qₓ => b2ₓ zₓ c1ₓ c2ₓ ⟨(hmIₓ _).mpr qₓ.1, qₓ.2⟩⟩
        · exact Or.inr ⟨zₓ, b1ₓ, b2ₓ, ⟨(hmIₓ _).mp b3ₓ.1, b3ₓ.2⟩, fun z'ₓ c1ₓ c2ₓ qₓ => b4ₓ z'ₓ c1ₓ c2ₓ ⟨(hmIₓ _).mpr qₓ.1, qₓ.2⟩, b5ₓ⟩
      have hwyₓ := CHO_det x2ₓ v3ₓ
      have hG2ₓ : ∀ qₓ kₓ : Nat, qₓ ≠ 1010 → qₓ ≠ 1011 → ¬ (qₓ = 0 ∧ kₓ = 24) → τ2 qₓ kₓ = τ1 qₓ kₓ := fun qₓ kₓ c1ₓ c2ₓ c3ₓ => (v1ₓ qₓ kₓ c1ₓ c3ₓ).trans (wq qₓ kₓ c2ₓ)
      refine done σ1 s10ₓ w9ₓ vₓ nₓ j1ₓ j2ₓ j5ₓ x1ₓ hG2ₓ hwyₓ (fun qₓ => ?_) (fun qₓ => ?_) (fun qₓ => ?_) e1ₓ
      · rcases x2ₓ with ⟨b1ₓ, -⟩ | ⟨zₓ, b1ₓ, b2ₓ, b3ₓ, b4ₓ, b5ₓ⟩
        · omega
        · exact b3ₓ.1.1 (b5ₓ.symm.trans qₓ)
      · rcases x2ₓ with ⟨b1ₓ, -⟩ | ⟨zₓ, b1ₓ, b2ₓ, b3ₓ, b4ₓ, b5ₓ⟩
        · omega
        · have hz1ₓ : (nthR R zₓ).1 = 1 := b5ₓ.symm.trans qₓ
          have hneₓ := (hYₓ zₓ b2ₓ).2.2.2 hz1ₓ
          have hv1ₓ : vₓ = 1 := by
            rcases hv with hv | hv
            · exact absurd (hvaₓ.mpr hv) hneₓ
            · exact hv
          exact ⟨hv1ₓ, b3ₓ.1.2.1 hz1ₓ⟩
      · rcases x2ₓ with ⟨b1ₓ, -⟩ | ⟨zₓ, b1ₓ, b2ₓ, b3ₓ, b4ₓ, b5ₓ⟩
        · omega
        · have hbₓ : w9ₓ = (nthR R zₓ).1 := b5ₓ
          have := (hYₓ zₓ b2ₓ).2.2.1
          omega
    by_cases c5ₓ : σ (5 + 4 * iₓ) 5 = 0
    · rw [mIf_pos c5ₓ] at e1ₓ
      obtain ⟨z2ₓ, σ1, g1ₓ, e1ₓ⟩ := mCall_el e1ₓ
      exact cho 0 z2ₓ σ1 (Or.inl rfl) ⟨fun _ => rfl, fun _ => c5ₓ⟩ g1ₓ e1ₓ
    · rw [mIf_neg c5ₓ] at e1ₓ
      obtain ⟨z2ₓ, σ1, g1ₓ, e1ₓ⟩ := mCall_el e1ₓ
      exact cho 1 z2ₓ σ1 (Or.inr rfl) ⟨fun qₓ => absurd qₓ c5ₓ, fun qₓ => absurd qₓ (by decide)⟩ g1ₓ e1ₓ
end
