/-! aₓ test reckoned out: what stands on aₓ stack, at both sides -/
def jn (tₓ xₓ yₓ : Int) : Int := if tₓ = 10 then mAddL xₓ yₓ else if tₓ = 11 then mSubL xₓ yₓ else if tₓ = 12 then mMulL xₓ yₓ else if tₓ = 13 then (if yₓ = 0 then 0 else mDivL xₓ yₓ) else if tₓ = 14 then (if yₓ ≤ xₓ then 0 else 1) else if tₓ = 15 then (if yₓ < xₓ then 0 else 1) else if tₓ = 16 then (if xₓ = yₓ then 1 else 0) else if tₓ = 17 then (if xₓ < yₓ then 0 else 1) else if tₓ = 18 then (if xₓ ≤ yₓ then 0 else 1) else if tₓ = 20 then mAndL xₓ yₓ else mOrL xₓ yₓ
def evT (wv : Int → Int) (tₓ : Int) (V : List Int) : List Int := if 32 ≤ tₓ then (tₓ - 32) :: V else if tₓ < 10 then wv tₓ :: V else if tₓ = 19 then (match V with
    | xₓ :: V' => mSubL 1 xₓ :: V'
    | [] => [])
  else (match V with
    | yₓ :: xₓ :: V' => jn tₓ xₓ yₓ :: V'
    | _ => V)
def evR (wv : Int → Int) (fₓ : Nat → Int) (sₓ : Nat) : Nat → List Int
  | 0 => []
  | kₓ + 1 => evT wv (fₓ (sₓ + kₓ)) (evR wv fₓ sₓ kₓ)
/-- aₓ fact is 0 or 1 -/
def VT : List Bool → List Int → Prop
  | [], [] => True
  | bₓ :: S, xₓ :: V => (bₓ = true → xₓ = 0 ∨ xₓ = 1) ∧ VT S V
  | _, _ => False
theorem jn_b {tₓ xₓ yₓ : Int} (htₓ : tₓ = 20 ∨ tₓ = 21) (hxₓ : xₓ = 0 ∨ xₓ = 1) (hyₓ : yₓ = 0 ∨ yₓ = 1) : jn tₓ xₓ yₓ = 0 ∨ jn tₓ xₓ yₓ = 1 := by
  rcases htₓ with rfl | rfl <;> rcases hxₓ with rfl | rfl <;> rcases hyₓ with rfl | rfl <;> decide
theorem jn_c {tₓ xₓ yₓ : Int} (h1ₓ : 14 ≤ tₓ) (h2ₓ : tₓ ≤ 18) : jn tₓ xₓ yₓ = 0 ∨ jn tₓ xₓ yₓ = 1 := by
  unfold jn
  rw [if_neg (by omega), if_neg (by omega), if_neg (by omega), if_neg (by omega)]
  by_cases c4ₓ : tₓ = 14
  · rw [if_pos c4ₓ]; split
    · exact Or.inl rfl
    · exact Or.inr rfl
  rw [if_neg c4ₓ]
  by_cases c5ₓ : tₓ = 15
  · rw [if_pos c5ₓ]; split
    · exact Or.inl rfl
    · exact Or.inr rfl
  rw [if_neg c5ₓ]
  by_cases c6ₓ : tₓ = 16
  · rw [if_pos c6ₓ]; split
    · exact Or.inr rfl
    · exact Or.inl rfl
  rw [if_neg c6ₓ]
  by_cases c7ₓ : tₓ = 17
  · rw [if_pos c7ₓ]; split
    · exact Or.inl rfl
    · exact Or.inr rfl
  rw [if_neg c7ₓ, if_pos (by omega)]
  split
  · exact Or.inl rfl
  · exact Or.inr rfl
theorem VT_1 {bₓ : Bool} {S : List Bool} {V : List Int} (hₓ : VT (bₓ :: S) V) : ∃ (xₓ : Int) (V' : List Int), V = xₓ :: V' ∧ (bₓ = true → xₓ = 0 ∨ xₓ = 1) ∧ VT S V' := by
  cases V with
  | nil => exact hₓ.elim
  | cons xₓ V' => exact ⟨xₓ, V', rfl, hₓ.1, hₓ.2⟩
theorem VT_len : ∀ {S : List Bool} {V : List Int}, VT S V → V.length = S.length
  | [], [], _ => rfl
  | bₓ :: S, xₓ :: V, hₓ => by rw [List.length_cons, List.length_cons, VT_len hₓ.2]
  | [], _ :: _, hₓ => hₓ.elim
  | _ :: _, [], hₓ => hₓ.elim
/-- aₓ token: the types say what it finds and leaves -/
theorem VT_step {wv : Int → Int} {tₓ : Int} {S S' : List Bool} {V : List Int} (hVₓ : VT S V) (htₓ : tyT tₓ S = some S') (hkₓ : okK tₓ) : VT S' (evT wv tₓ V) ∧ (tₓ = 19 → ∃ xₓ V', V = xₓ :: V') ∧ (10 ≤ tₓ → tₓ ≤ 21 → tₓ ≠ 19 → ∃ yₓ xₓ V', V = yₓ :: xₓ :: V') := by
  unfold tyT at htₓ
  unfold evT
  by_cases c1ₓ : 10 ≤ tₓ ∧ tₓ ≤ 13
  · rw [if_pos c1ₓ] at htₓ
    rw [if_neg (by omega), if_neg (by omega), if_neg (by omega)]
    match S, htₓ with
    | false :: false :: T, htₓ =>
      obtain rfl := Option.some.inj htₓ
      obtain ⟨yₓ, V1, rfl, -, h1ₓ⟩ := VT_1 hVₓ
      obtain ⟨xₓ, V2, rfl, -, h2ₓ⟩ := VT_1 h1ₓ
      exact ⟨⟨(fun qₓ => by cases qₓ), h2ₓ⟩, fun qₓ => by omega, fun _ _ _ => ⟨yₓ, xₓ, V2, rfl⟩⟩
  rw [if_neg c1ₓ] at htₓ
  by_cases c2ₓ : 14 ≤ tₓ ∧ tₓ ≤ 18
  · rw [if_pos c2ₓ] at htₓ
    rw [if_neg (by omega), if_neg (by omega), if_neg (by omega)]
    match S, htₓ with
    | false :: false :: T, htₓ =>
      obtain rfl := Option.some.inj htₓ
      obtain ⟨yₓ, V1, rfl, -, h1ₓ⟩ := VT_1 hVₓ
      obtain ⟨xₓ, V2, rfl, -, h2ₓ⟩ := VT_1 h1ₓ
      exact ⟨⟨fun _ => jn_c c2ₓ.1 c2ₓ.2, h2ₓ⟩, fun qₓ => by omega, fun _ _ _ => ⟨yₓ, xₓ, V2, rfl⟩⟩
  rw [if_neg c2ₓ] at htₓ
  by_cases c3ₓ : tₓ = 19
  · rw [if_pos c3ₓ] at htₓ
    rw [if_neg (by omega), if_neg (by omega), if_pos c3ₓ]
    match S, htₓ with
    | true :: T, htₓ =>
      obtain rfl := Option.some.inj htₓ
      obtain ⟨xₓ, V1, rfl, h0ₓ, h1ₓ⟩ := VT_1 hVₓ
      refine ⟨⟨fun _ => ?_, h1ₓ⟩, fun _ => ⟨xₓ, V1, rfl⟩, fun _ _ qₓ => absurd c3ₓ qₓ⟩
      rcases h0ₓ rfl with rfl | rfl
      · exact Or.inr (by decide)
      · exact Or.inl (by decide)
  rw [if_neg c3ₓ] at htₓ
  by_cases c4ₓ : tₓ = 20 ∨ tₓ = 21
  · rw [if_pos c4ₓ] at htₓ
    rw [if_neg (by omega), if_neg (by omega), if_neg c3ₓ]
    match S, htₓ with
    | true :: true :: T, htₓ =>
      obtain rfl := Option.some.inj htₓ
      obtain ⟨yₓ, V1, rfl, hyₓ, h1ₓ⟩ := VT_1 hVₓ
      obtain ⟨xₓ, V2, rfl, hxₓ, h2ₓ⟩ := VT_1 h1ₓ
      exact ⟨⟨fun _ => jn_b c4ₓ (hxₓ rfl) (hyₓ rfl), h2ₓ⟩, fun qₓ => absurd qₓ c3ₓ, fun _ _ _ => ⟨yₓ, xₓ, V2, rfl⟩⟩
  rw [if_neg c4ₓ] at htₓ
  obtain rfl := Option.some.inj htₓ
  rcases hkₓ with hkₓ | hkₓ
  · have h5ₓ : (0 ≤ tₓ ∧ tₓ < 10) ∨ (32 ≤ tₓ ∧ tₓ ≤ 100031) := of_decide_eq_true hkₓ
    by_cases c5ₓ : 32 ≤ tₓ
    · rw [if_pos c5ₓ]
      exact ⟨⟨(fun qₓ => by cases qₓ), hVₓ⟩, fun qₓ => absurd qₓ c3ₓ, fun _ _ _ => by omega⟩
    · rw [if_neg c5ₓ, if_pos (by omega)]
      exact ⟨⟨(fun qₓ => by cases qₓ), hVₓ⟩, fun qₓ => absurd qₓ c3ₓ, fun _ _ _ => by omega⟩
  · omega
def FCt (σ σ' : SS) : Prop := ∀ qₓ kₓ : Nat, qₓ ≠ 1150 → ¬ (qₓ = 149 ∧ kₓ = 4) → σ' qₓ kₓ = σ qₓ kₓ
def FRt (τ τ' : SS) : Prop := ∀ qₓ kₓ : Nat, qₓ ≠ 1010 → ¬ (qₓ = 0 ∧ kₓ = 24) → τ' qₓ kₓ = τ qₓ kₓ
def CSt (σ : SS) (V : List Int) : Prop := σ 149 4 = (V.length : Int) ∧ Put (fun tₓ => tₓ) (σ 1150) V
def RSt (τ : SS) (V : List Int) : Prop := τ 0 24 = (V.length : Int) ∧ Put (fun tₓ => tₓ) (τ 1010) V
section
variable {σ σ' σ'' τ τ' τ'' : SS} {rₓ tₓ xₓ yₓ : Int} {nₓ : Nat} {V : List Int}
theorem FCt.rf : FCt σ σ := fun _ _ _ _ => rfl
theorem FCt.tr (hₓ : FCt σ σ') (gₓ : FCt σ' σ'') : FCt σ σ'' := fun qₓ kₓ aₓ bₓ => (gₓ qₓ kₓ aₓ bₓ).trans (hₓ qₓ kₓ aₓ bₓ)
theorem FRt.rf : FRt τ τ := fun _ _ _ _ => rfl
theorem FRt.tr (hₓ : FRt τ τ') (gₓ : FRt τ' τ'') : FRt τ τ'' := fun qₓ kₓ aₓ bₓ => (gₓ qₓ kₓ aₓ bₓ).trans (hₓ qₓ kₓ aₓ bₓ)
theorem Put_up {qₓ : Nat} (hₓ : Put (fun tₓ => tₓ) (σ qₓ) V) {kₓ : Nat} {vₓ : Int} (hkₓ : kₓ = V.length) : Put (fun tₓ => tₓ) (upS σ qₓ kₓ vₓ qₓ) (vₓ :: V) := by
  subst hkₓ
  exact ⟨upS_s, Put_congr hₓ (fun jₓ hjₓ => upS_k (by omega))⟩
theorem c_joined : m_X1_joined nₓ tₓ xₓ yₓ σ = some (jn tₓ xₓ yₓ, σ) := by
  unfold m_X1_joined jn
  simp only [mLet_e, mRet_e]
  by_cases c0ₓ : tₓ = 10
  · rw [mIf_pos c0ₓ, if_pos c0ₓ]
  rw [mIf_neg c0ₓ, if_neg c0ₓ]
  by_cases c1ₓ : tₓ = 11
  · rw [mIf_pos c1ₓ, if_pos c1ₓ]
  rw [mIf_neg c1ₓ, if_neg c1ₓ]
  by_cases c2ₓ : tₓ = 12
  · rw [mIf_pos c2ₓ, if_pos c2ₓ]
  rw [mIf_neg c2ₓ, if_neg c2ₓ]
  by_cases c3ₓ : tₓ = 13
  · rw [mIf_pos c3ₓ, if_pos c3ₓ]
    by_cases dₓ : yₓ = 0
    · rw [mIf_neg (fun qₓ => qₓ dₓ), if_pos dₓ]
    · rw [mIf_pos dₓ, if_neg dₓ]
  rw [mIf_neg c3ₓ, if_neg c3ₓ]
  by_cases c4ₓ : tₓ = 14
  · rw [mIf_pos c4ₓ, if_pos c4ₓ]
    by_cases dₓ : yₓ ≤ xₓ
    · rw [mIf_pos dₓ, if_pos dₓ]
    · rw [mIf_neg dₓ, if_neg dₓ]
  rw [mIf_neg c4ₓ, if_neg c4ₓ]
  by_cases c5ₓ : tₓ = 15
  · rw [mIf_pos c5ₓ, if_pos c5ₓ]
    by_cases dₓ : yₓ < xₓ
    · rw [mIf_pos dₓ, if_pos dₓ]
    · rw [mIf_neg dₓ, if_neg dₓ]
  rw [mIf_neg c5ₓ, if_neg c5ₓ]
  by_cases c6ₓ : tₓ = 16
  · rw [mIf_pos c6ₓ, if_pos c6ₓ]
    by_cases dₓ : xₓ = yₓ
    · rw [mIf_neg (fun qₓ => qₓ dₓ), if_pos dₓ]
    · rw [mIf_pos dₓ, if_neg dₓ]
  rw [mIf_neg c6ₓ, if_neg c6ₓ]
  by_cases c7ₓ : tₓ = 17
  · rw [mIf_pos c7ₓ, if_pos c7ₓ]
    by_cases dₓ : xₓ < yₓ
    · rw [mIf_pos dₓ, if_pos dₓ]
    · rw [mIf_neg dₓ, if_neg dₓ]
  rw [mIf_neg c7ₓ, if_neg c7ₓ]
  by_cases c8ₓ : tₓ = 18
  · rw [mIf_pos c8ₓ, if_pos c8ₓ]
    by_cases dₓ : xₓ ≤ yₓ
    · rw [mIf_pos dₓ, if_pos dₓ]
    · rw [mIf_neg dₓ, if_neg dₓ]
  rw [mIf_neg c8ₓ, if_neg c8ₓ]
  by_cases c9ₓ : tₓ = 19
  · rw [mIf_pos c9ₓ, if_neg (show ¬ tₓ = 20 by omega)]
  rw [mIf_neg c9ₓ]
  by_cases ca : tₓ = 20
  · rw [mIf_pos ca, if_pos ca]
  · rw [mIf_neg ca, if_neg ca]
theorem r_one : m_X12_one nₓ (tₓ - 8) xₓ yₓ τ = some (jn tₓ xₓ yₓ, τ) := by
  unfold m_X12_one b_X12_one_85 b_X12_one_97 b_X12_one_109 b_X12_one_121 b_X12_one_133 b_X12_one_145 jn
  simp only [mLet_e, mRet_e]
  by_cases c0ₓ : tₓ = 10
  · rw [mIf_pos (show tₓ - 8 = 2 by omega), if_pos c0ₓ]
  rw [mIf_neg (show ¬ tₓ - 8 = 2 by omega), if_neg c0ₓ]
  by_cases c1ₓ : tₓ = 11
  · rw [mIf_pos (show tₓ - 8 = 3 by omega), if_pos c1ₓ]
  rw [mIf_neg (show ¬ tₓ - 8 = 3 by omega), if_neg c1ₓ]
  by_cases c2ₓ : tₓ = 12
  · rw [mIf_pos (show tₓ - 8 = 4 by omega), if_pos c2ₓ]
  rw [mIf_neg (show ¬ tₓ - 8 = 4 by omega), if_neg c2ₓ]
  by_cases c3ₓ : tₓ = 13
  · rw [mIf_pos (show tₓ - 8 = 5 by omega), if_pos c3ₓ]
    by_cases dₓ : yₓ = 0
    · rw [mIf_neg (fun qₓ => qₓ dₓ), if_pos dₓ]
    · rw [mIf_pos dₓ, if_neg dₓ]
  rw [mIf_neg (show ¬ tₓ - 8 = 5 by omega), if_neg c3ₓ]
  by_cases c4ₓ : tₓ = 14
  · rw [mIf_pos (show tₓ - 8 = 6 by omega), if_pos c4ₓ]
    by_cases dₓ : yₓ ≤ xₓ
    · rw [mIf_pos dₓ, if_pos dₓ]
    · rw [mIf_neg dₓ, if_neg dₓ]
  rw [mIf_neg (show ¬ tₓ - 8 = 6 by omega), if_neg c4ₓ]
  by_cases c5ₓ : tₓ = 15
  · rw [mIf_pos (show tₓ - 8 = 7 by omega), if_pos c5ₓ]
    by_cases dₓ : yₓ < xₓ
    · rw [mIf_pos dₓ, if_pos dₓ]
    · rw [mIf_neg dₓ, if_neg dₓ]
  rw [mIf_neg (show ¬ tₓ - 8 = 7 by omega), if_neg c5ₓ]
  by_cases c6ₓ : tₓ = 16
  · rw [mIf_pos (show tₓ - 8 = 8 by omega), if_pos c6ₓ]
    by_cases dₓ : xₓ = yₓ
    · rw [mIf_neg (fun qₓ => qₓ dₓ), if_pos dₓ]
    · rw [mIf_pos dₓ, if_neg dₓ]
  rw [mIf_neg (show ¬ tₓ - 8 = 8 by omega), if_neg c6ₓ]
  by_cases c7ₓ : tₓ = 17
  · rw [mIf_pos (show tₓ - 8 = 9 by omega), if_pos c7ₓ]
    by_cases dₓ : xₓ < yₓ
    · rw [mIf_pos dₓ, if_pos dₓ]
    · rw [mIf_neg dₓ, if_neg dₓ]
  rw [mIf_neg (show ¬ tₓ - 8 = 9 by omega), if_neg c7ₓ]
  by_cases c8ₓ : tₓ = 18
  · rw [mIf_pos (show tₓ - 8 = 10 by omega), if_pos c8ₓ]
    by_cases dₓ : xₓ ≤ yₓ
    · rw [mIf_pos dₓ, if_pos dₓ]
    · rw [mIf_neg dₓ, if_neg dₓ]
  rw [mIf_neg (show ¬ tₓ - 8 = 10 by omega), if_neg c8ₓ]
  by_cases c9ₓ : tₓ = 19
  · rw [mIf_pos (show tₓ - 8 = 11 by omega), if_neg (show ¬ tₓ = 20 by omega)]
  rw [mIf_neg (show ¬ tₓ - 8 = 11 by omega)]
  by_cases ca : tₓ = 20
  · rw [mIf_pos (show tₓ - 8 = 12 by omega), if_pos ca]
  · rw [mIf_neg (show ¬ tₓ - 8 = 12 by omega), if_neg ca]
theorem c_push (hₓ : CSt σ V) (hlₓ : V.length < 64) (eₓ : m_X1_push nₓ 149 xₓ σ = some (rₓ, σ')) : CSt σ' (xₓ :: V) ∧ FCt σ σ' := by
  obtain ⟨h1ₓ, h2ₓ⟩ := hₓ
  unfold m_X1_push b_X1_push_29 at eₓ
  rw [mRd_e, h1ₓ, mIf_neg (show ¬ (64 : Int) ≤ (V.length : Int) by omega), mRd_e, h1ₓ, mWr_e, mRd_e, upS_q (show (149 : Nat) ≠ 1150 by decide), h1ₓ, mLet_e, mWr_e, mRet_e, show ((V.length : Int)).toNat = V.length by omega] at eₓ
  obtain ⟨-, rfl⟩ := some_el eₓ
  refine ⟨⟨?_, ?_⟩, fun qₓ kₓ aₓ bₓ => ?_⟩
  · rw [upS_s, List.length_cons]; omega
  · have := Put_up (vₓ := xₓ) h2ₓ rfl
    exact Put_congr this (fun jₓ _ => upS_q (by decide))
  · rw [upS_n bₓ, upS_q aₓ]
theorem c_turn (hₓ : CSt σ (xₓ :: V)) (eₓ : m_X1_turn nₓ 149 σ = some (rₓ, σ')) : CSt σ' (mSubL 1 xₓ :: V) ∧ FCt σ σ' := by
  obtain ⟨h1ₓ, h2ₓ, h3ₓ⟩ := hₓ
  rw [List.length_cons] at h1ₓ
  unfold m_X1_turn b_X1_turn_31 at eₓ
  rw [mRd_e, mIf_neg (show ¬ σ 149 4 ≤ 0 by omega), mRd_e, mLet_e, mRd_e, mLet_e, mRd_e, mLet_e, mWr_e, mRet_e, show (σ 149 4 - 1).toNat = V.length by omega, h2ₓ] at eₓ
  obtain ⟨-, rfl⟩ := some_el eₓ
  refine ⟨⟨?_, ?_⟩, fun qₓ kₓ aₓ bₓ => upS_q aₓ⟩
  · rw [upS_q (by decide), List.length_cons]; omega
  · exact Put_up h3ₓ rfl
theorem c_join (hₓ : CSt σ (yₓ :: xₓ :: V)) (eₓ : m_X1_join nₓ 149 tₓ σ = some (rₓ, σ')) : CSt σ' (jn tₓ xₓ yₓ :: V) ∧ FCt σ σ' := by
  obtain ⟨h1ₓ, h2ₓ, h3ₓ, h4ₓ⟩ := hₓ
  rw [List.length_cons] at h2ₓ
  rw [List.length_cons, List.length_cons] at h1ₓ
  unfold m_X1_join b_X1_join_53 at eₓ
  rw [mRd_e, mIf_neg (show ¬ σ 149 4 ≤ 1 by omega), mRd_e, mLet_e, mWr_e, mRd_e, mLet_e, mRd_e, mLet_e, mRd_e, mRd_e, mRd_e, upS_s, c_joined, mCall_s, mWr_e, mRet_e, upS_q (show (1150 : Nat) ≠ 149 by decide), upS_q (show (1150 : Nat) ≠ 149 by decide), show (σ 149 4 - 1 - 1).toNat = V.length by omega, show (σ 149 4 - 1).toNat = V.length + 1 by omega, h2ₓ, h3ₓ] at eₓ
  obtain ⟨-, rfl⟩ := some_el eₓ
  refine ⟨⟨?_, ?_⟩, fun qₓ kₓ aₓ bₓ => ?_⟩
  · rw [upS_q (by decide), upS_s, List.length_cons]; omega
  · have h5ₓ : Put (fun tₓ => tₓ) (upS σ 149 4 (σ 149 4 - 1) 1150) V := Put_congr h4ₓ (fun jₓ _ => upS_q (by decide))
    exact Put_up h5ₓ rfl
  · rw [upS_q aₓ, upS_n bₓ]
theorem r_push (hₓ : RSt τ V) (eₓ : m_X12_push nₓ 0 xₓ τ = some (rₓ, τ')) : RSt τ' (xₓ :: V) ∧ FRt τ τ' := by
  obtain ⟨h1ₓ, h2ₓ⟩ := hₓ
  unfold m_X12_push at eₓ
  rw [mRd_e, h1ₓ, mWr_e, mRd_e, upS_q (show (0 : Nat) ≠ 1010 by decide), h1ₓ, mLet_e, mWr_e, mRet_e, show ((V.length : Int)).toNat = V.length by omega] at eₓ
  obtain ⟨-, rfl⟩ := some_el eₓ
  refine ⟨⟨?_, ?_⟩, fun qₓ kₓ aₓ bₓ => ?_⟩
  · rw [upS_s, List.length_cons]; omega
  · have := Put_up (vₓ := xₓ) h2ₓ rfl
    exact Put_congr this (fun jₓ _ => upS_q (by decide))
  · rw [upS_n bₓ, upS_q aₓ]
theorem r_pop (hₓ : RSt τ (xₓ :: V)) (eₓ : m_X12_pop nₓ 0 τ = some (rₓ, τ')) : rₓ = xₓ ∧ RSt τ' V ∧ FRt τ τ' := by
  obtain ⟨h1ₓ, h2ₓ, h3ₓ⟩ := hₓ
  rw [List.length_cons] at h1ₓ
  unfold m_X12_pop at eₓ
  rw [mRd_e, mLet_e, mWr_e, mRd_e, upS_s, mRd_e, upS_q (show (1010 : Nat) ≠ 0 by decide), mRet_e, show (τ 0 24 - 1).toNat = V.length by omega, h2ₓ] at eₓ
  obtain ⟨rfl, rfl⟩ := some_el eₓ
  refine ⟨rfl, ⟨?_, Put_congr h3ₓ (fun jₓ _ => upS_q (by decide))⟩, fun qₓ kₓ aₓ bₓ => upS_n bₓ⟩
  rw [upS_s]; omega
theorem mAnd_15 {xₓ : Int} (h0ₓ : 0 ≤ xₓ) (h1ₓ : xₓ ≤ 2147483647) : mAnd xₓ 15 = xₓ % 16 := by
  have h2ₓ : (Int32.ofInt xₓ).toInt = xₓ % 16 + 16 * (xₓ / 16) := by rw [i32_of (by omega) (by omega)]; omega
  show (Int32.ofInt xₓ &&& Int32.ofInt 15).toInt = xₓ % 16
  rw [show Int32.ofInt 15 = (15 : Int32) by decide]
  exact and15 h2ₓ (by omega) (by omega) (by omega)
theorem mShr_4 {xₓ : Int} (h0ₓ : 0 ≤ xₓ) (h1ₓ : xₓ ≤ 2147483647) : mShr xₓ 4 = xₓ / 16 := by
  have h2ₓ : (Int32.ofInt xₓ).toInt = xₓ % 16 + 16 * (xₓ / 16) := by rw [i32_of (by omega) (by omega)]; omega
  show (Int32.ofInt xₓ >>> (Int32.ofInt 4 &&& 31)).toInt = xₓ / 16
  rw [show Int32.ofInt 4 = (4 : Int32) by decide]
  exact shr4 h2ₓ (by omega) (by omega) (by omega)
theorem enc_num {tₓ : Int} (hₓ : 32 ≤ tₓ) (h1ₓ : tₓ ≤ 100100) : mAnd (encM tₓ) 15 = 0 ∧ mShr (encM tₓ) 4 = tₓ - 32 := by
  have heₓ : encM tₓ = 16 * (tₓ - 32) := if_pos hₓ
  rw [heₓ, mAnd_15 (by omega) (by omega), mShr_4 (by omega) (by omega)]
  omega
theorem enc_word {tₓ : Int} (hₓ : 0 ≤ tₓ) (h1ₓ : tₓ < 10) : mAnd (encM tₓ) 15 = 1 ∧ mShr (encM tₓ) 4 = tₓ := by
  rw [encM_w h1ₓ, mAnd_15 (by omega) (by omega), mShr_4 (by omega) (by omega)]
  omega
theorem enc_op {tₓ : Int} (hₓ : 10 ≤ tₓ) (h1ₓ : tₓ ≤ 21) : mAnd (encM tₓ) 15 = tₓ - 8 := by
  rw [encM_o ⟨hₓ, h1ₓ⟩, mAnd_15 (by omega) (by omega)]
  omega
theorem tyT_ne {tₓ : Int} {S : List Bool} (hₓ : tyT tₓ S = some []) : False := by
  unfold tyT at hₓ
  by_cases c1ₓ : 10 ≤ tₓ ∧ tₓ ≤ 13
  · rw [if_pos c1ₓ] at hₓ
    split at hₓ <;> cases hₓ
  rw [if_neg c1ₓ] at hₓ
  by_cases c2ₓ : 14 ≤ tₓ ∧ tₓ ≤ 18
  · rw [if_pos c2ₓ] at hₓ
    split at hₓ <;> cases hₓ
  rw [if_neg c2ₓ] at hₓ
  by_cases c3ₓ : tₓ = 19
  · rw [if_pos c3ₓ] at hₓ
    split at hₓ <;> cases hₓ
  rw [if_neg c3ₓ] at hₓ
  by_cases c4ₓ : tₓ = 20 ∨ tₓ = 21
  · rw [if_pos c4ₓ] at hₓ
    split at hₓ <;> cases hₓ
  rw [if_neg c4ₓ] at hₓ
  cases hₓ
/-! the loops -/
theorem c_holds0 {wv : Int → Int} {fₓ : Nat → Int} {qr sₓ ed cₓ : Nat} {σ0 : SS} {D : Nat → List Bool} (hq0ₓ : 5 ≤ qr) (hq1ₓ : qr < 100) (hstₓ : σ0 (qr + 2) (cₓ + 1) = (ed : Int)) (hcodeₓ : ∀ jₓ : Nat, sₓ ≤ jₓ → jₓ < ed → σ0 (qr + 3) jₓ = fₓ jₓ ∧ okK (fₓ jₓ)) (hD0ₓ : D sₓ = []) (hDₓ : ∀ jₓ : Nat, sₓ ≤ jₓ → jₓ < ed → tyT (fₓ jₓ) (D jₓ) = some (D (jₓ + 1))) (hlenₓ : ∀ kₓ : Nat, sₓ + kₓ ≤ ed → (D (sₓ + kₓ)).length ≤ 64) (hv : ∀ (nₓ : Nat) (σ : SS) (tₓ : Int), FCt σ0 σ → 0 ≤ tₓ → tₓ < 10 → m_X1_valueOf nₓ 149 152 tₓ σ = some (wv tₓ, σ)) : ∀ (nₓ kₓ : Nat) (σ : SS), sₓ + kₓ ≤ ed → FCt σ0 σ → CSt σ (evR wv fₓ sₓ kₓ) → VT (D (sₓ + kₓ)) (evR wv fₓ sₓ kₓ) → j_X1_holds 149 152 qr nₓ 12 [(cₓ : Int), ((sₓ + kₓ : Nat) : Int)] σ = some (rₓ, σ') → FCt σ0 σ' ∧ VT (D ed) (evR wv fₓ sₓ (ed - sₓ)) ∧ rₓ = (if ed = sₓ then 1 else if (evR wv fₓ sₓ (ed - sₓ)).headD 0 = 0 then 0 else 1) := by
  intro nₓ
  induction nₓ with
  | zero => intro kₓ σ hkₓ hFₓ hSₓ hTₓ eₓ; exact none_el eₓ
  | succ nₓ ihₓ =>
    intro kₓ σ hkₓ hFₓ hSₓ hTₓ eₓ
    rw [e_X1_holds_12] at eₓ
    unfold b_X1_holds_12 m_X2_firstToken at eₓ
    have h1ₓ : σ (qr + 2) (cₓ + 1) = (ed : Int) := (hFₓ _ _ (by omega) (by omega)).trans hstₓ
    rw [mLet_e, mRd_e, show ((cₓ : Int) + 1).toNat = cₓ + 1 by omega, h1ₓ, mRet_e, mCall_s] at eₓ
    by_cases c1ₓ : (ed : Int) ≤ ((sₓ + kₓ : Nat) : Int)
    · have hekₓ : ed - sₓ = kₓ := by omega
      have hedₓ : sₓ + kₓ = ed := by omega
      rw [mIf_pos c1ₓ, mRd_e, hSₓ.1] at eₓ
      rw [hedₓ] at hTₓ
      unfold b_X1_holds_123 at eₓ
      rw [hekₓ]
      by_cases c2ₓ : ed = sₓ
      · have k0ₓ : kₓ = 0 := by omega
        subst k0ₓ
        rw [mIf_pos (show (((evR wv fₓ sₓ 0).length : Nat) : Int) < 1 by show ((0 : Nat) : Int) < 1; omega), mRet_e] at eₓ
        obtain ⟨rfl, rfl⟩ := some_el eₓ
        exact ⟨hFₓ, hTₓ, by rw [if_pos c2ₓ]⟩
      · have hlₓ : (evR wv fₓ sₓ kₓ).length = (D ed).length := VT_len hTₓ
        rw [if_neg c2ₓ]
        cases hVₓ : evR wv fₓ sₓ kₓ with
        | nil =>
          exfalso
          rw [hVₓ] at hlₓ hTₓ
          have h2ₓ := hDₓ (ed - 1) (by omega) (by omega)
          rw [show ed - 1 + 1 = ed by omega] at h2ₓ
          have h3ₓ : D ed = [] := List.length_eq_zero_iff.mp (by rw [← hlₓ]; rfl)
          rw [h3ₓ] at h2ₓ
          exact tyT_ne h2ₓ
        | cons xₓ V =>
          rw [hVₓ] at hSₓ
          rw [mIf_neg (show ¬ (((evR wv fₓ sₓ kₓ).length : Nat) : Int) < 1 by rw [hVₓ, List.length_cons]; omega), mRd_e, hSₓ.1, mLet_e, mRd_e, List.length_cons, show ((((V.length + 1 : Nat)) : Int) - 1).toNat = V.length by omega, hSₓ.2.1] at eₓ
          rw [hVₓ] at hTₓ
          refine ⟨?_, hTₓ, ?_⟩
          · by_cases c3ₓ : xₓ = 0
            · rw [mIf_pos c3ₓ, mRet_e] at eₓ; rw [(some_el eₓ).2]; exact hFₓ
            · rw [mIf_neg c3ₓ, mRet_e] at eₓ; rw [(some_el eₓ).2]; exact hFₓ
          · show rₓ = if xₓ = 0 then 0 else 1
            by_cases c3ₓ : xₓ = 0
            · rw [mIf_pos c3ₓ, mRet_e] at eₓ; rw [if_pos c3ₓ]; exact (some_el eₓ).1
            · rw [mIf_neg c3ₓ, mRet_e] at eₓ; rw [if_neg c3ₓ]; exact (some_el eₓ).1
    · rw [mIf_neg c1ₓ] at eₓ
      obtain ⟨g1ₓ, g2ₓ⟩ := hcodeₓ (sₓ + kₓ) (by omega) (by omega)
      have h2ₓ : σ (qr + 3) (sₓ + kₓ) = fₓ (sₓ + kₓ) := (hFₓ _ _ (by omega) (by omega)).trans g1ₓ
      unfold m_X2_tokenAt at eₓ
      rw [mRd_e, show (((sₓ + kₓ : Nat) : Int)).toNat = sₓ + kₓ by omega, h2ₓ, mRet_e, mCall_s] at eₓ
      obtain ⟨v1ₓ, v2ₓ, v3ₓ⟩ := VT_step (wv := wv) hTₓ (hDₓ (sₓ + kₓ) (by omega) (by omega)) g2ₓ
      have hleₓ := hlenₓ (kₓ + 1) (by omega)
      have hl1ₓ : (evT wv (fₓ (sₓ + kₓ)) (evR wv fₓ sₓ kₓ)).length ≤ 64 := by rw [VT_len v1ₓ]; exact hleₓ
      have goₓ : ∀ σ1 : SS, FCt σ σ1 → CSt σ1 (evT wv (fₓ (sₓ + kₓ)) (evR wv fₓ sₓ kₓ)) → b_X1_holds_93 (j_X1_holds 149 152 qr nₓ) nₓ 149 152 qr (cₓ : Int) ((sₓ + kₓ : Nat) : Int) σ1 = some (rₓ, σ') → FCt σ0 σ' ∧ VT (D ed) (evR wv fₓ sₓ (ed - sₓ)) ∧ rₓ = (if ed = sₓ then 1 else if (evR wv fₓ sₓ (ed - sₓ)).headD 0 = 0 then 0 else 1) := by
        intro σ1 hF1ₓ hS1ₓ eₓ
        unfold b_X1_holds_93 at eₓ
        rw [mLet_e, show (((sₓ + kₓ : Nat) : Int)) + 1 = ((sₓ + (kₓ + 1) : Nat) : Int) by omega] at eₓ
        exact ihₓ (kₓ + 1) σ1 (by omega) (hFₓ.tr hF1ₓ) hS1ₓ v1ₓ eₓ
      by_cases c2ₓ : fₓ (sₓ + kₓ) < 32
      · rw [mIf_pos c2ₓ] at eₓ
        by_cases c3ₓ : 10 ≤ fₓ (sₓ + kₓ)
        · rw [mIf_pos c3ₓ] at eₓ
          have hrₓ : fₓ (sₓ + kₓ) ≤ 21 := by
            rcases g2ₓ with g2ₓ | g2ₓ
            · have : (0 ≤ fₓ (sₓ + kₓ) ∧ fₓ (sₓ + kₓ) < 10) ∨ (32 ≤ fₓ (sₓ + kₓ) ∧ fₓ (sₓ + kₓ) ≤ 100031) := of_decide_eq_true g2ₓ
              omega
            · exact g2ₓ.2
          by_cases c4ₓ : fₓ (sₓ + kₓ) = 19
          · rw [mIf_neg (fun qₓ => qₓ c4ₓ)] at eₓ
            obtain ⟨r1ₓ, s1ₓ, e1ₓ, eₓ⟩ := mCall_el eₓ
            obtain ⟨xₓ, V', hxₓ⟩ := v2ₓ c4ₓ
            rw [hxₓ] at hSₓ
            obtain ⟨y1ₓ, y2ₓ⟩ := c_turn hSₓ e1ₓ
            refine goₓ s1ₓ y2ₓ ?_ eₓ
            unfold evT
            rw [if_neg (by omega), if_neg (by omega), if_pos c4ₓ, hxₓ]; exact y1ₓ
          · rw [mIf_pos c4ₓ] at eₓ
            obtain ⟨r1ₓ, s1ₓ, e1ₓ, eₓ⟩ := mCall_el eₓ
            obtain ⟨yₓ, xₓ, V', hxₓ⟩ := v3ₓ c3ₓ hrₓ c4ₓ
            rw [hxₓ] at hSₓ
            obtain ⟨y1ₓ, y2ₓ⟩ := c_join hSₓ e1ₓ
            refine goₓ s1ₓ y2ₓ ?_ eₓ
            unfold evT
            rw [if_neg (by omega), if_neg (by omega), if_neg c4ₓ, hxₓ]; exact y1ₓ
        · rw [mIf_neg c3ₓ] at eₓ
          have h0ₓ : 0 ≤ fₓ (sₓ + kₓ) := by
            rcases g2ₓ with g2ₓ | g2ₓ
            · have : (0 ≤ fₓ (sₓ + kₓ) ∧ fₓ (sₓ + kₓ) < 10) ∨ (32 ≤ fₓ (sₓ + kₓ) ∧ fₓ (sₓ + kₓ) ≤ 100031) := of_decide_eq_true g2ₓ
              omega
            · omega
          rw [hv nₓ σ _ hFₓ h0ₓ (by omega), mCall_s] at eₓ
          obtain ⟨r1ₓ, s1ₓ, e1ₓ, eₓ⟩ := mCall_el eₓ
          have htₓ : evT wv (fₓ (sₓ + kₓ)) (evR wv fₓ sₓ kₓ) = wv (fₓ (sₓ + kₓ)) :: evR wv fₓ sₓ kₓ := by unfold evT; rw [if_neg (by omega), if_pos (by omega)]
          rw [htₓ, List.length_cons] at hl1ₓ
          obtain ⟨y1ₓ, y2ₓ⟩ := c_push hSₓ (by omega) e1ₓ
          exact goₓ s1ₓ y2ₓ (by rw [htₓ]; exact y1ₓ) eₓ
      · rw [mIf_neg c2ₓ, mLet_e, mLet_e] at eₓ
        obtain ⟨r1ₓ, s1ₓ, e1ₓ, eₓ⟩ := mCall_el eₓ
        have htₓ : evT wv (fₓ (sₓ + kₓ)) (evR wv fₓ sₓ kₓ) = (fₓ (sₓ + kₓ) - 32) :: evR wv fₓ sₓ kₓ := by unfold evT; rw [if_pos (by omega)]
        rw [htₓ, List.length_cons] at hl1ₓ
        obtain ⟨y1ₓ, y2ₓ⟩ := c_push hSₓ (by omega) e1ₓ
        exact goₓ s1ₓ y2ₓ (by rw [htₓ]; exact y1ₓ) eₓ
theorem r_reckons0 {wv : Int → Int} {fₓ : Nat → Int} {iₓ sₓ ed : Nat} {τ0 : SS} {D : Nat → List Bool} (hcodeₓ : ∀ jₓ : Nat, sₓ ≤ jₓ → jₓ < ed → τ0 2 (400 * iₓ + jₓ) = encM (fₓ jₓ) ∧ okK (fₓ jₓ) ∧ fₓ jₓ ≤ 100100) (hD0ₓ : D sₓ = []) (hDₓ : ∀ jₓ : Nat, sₓ ≤ jₓ → jₓ < ed → tyT (fₓ jₓ) (D jₓ) = some (D (jₓ + 1))) (hD1ₓ : D ed = [true]) (hv : ∀ kₓ : Nat, kₓ < 10 → τ0 1011 kₓ = wv (kₓ : Int)) : ∀ (nₓ kₓ : Nat) (τ : SS), sₓ + kₓ ≤ ed → FRt τ0 τ → RSt τ (evR wv fₓ sₓ kₓ) → VT (D (sₓ + kₓ)) (evR wv fₓ sₓ kₓ) → j_X12_reckons 0 nₓ 8 [(iₓ : Int), (ed : Int), ((sₓ + kₓ : Nat) : Int)] τ = some (rₓ, τ') → FRt τ0 τ' ∧ rₓ = (evR wv fₓ sₓ (ed - sₓ)).headD 0 := by
  intro nₓ
  induction nₓ with
  | zero => intro kₓ τ hkₓ hFₓ hSₓ hTₓ eₓ; exact none_el eₓ
  | succ nₓ ihₓ =>
    intro kₓ τ hkₓ hFₓ hSₓ hTₓ eₓ
    rw [e_X12_reckons_8] at eₓ
    unfold b_X12_reckons_8 at eₓ
    by_cases c1ₓ : (ed : Int) ≤ ((sₓ + kₓ : Nat) : Int)
    · have hekₓ : ed - sₓ = kₓ := by omega
      have hedₓ : sₓ + kₓ = ed := by omega
      rw [mIf_pos c1ₓ] at eₓ
      obtain ⟨r1ₓ, s1ₓ, e1ₓ, eₓ⟩ := mCall_el eₓ
      obtain ⟨rfl, rfl⟩ := some_el eₓ
      rw [hedₓ, hD1ₓ] at hTₓ
      obtain ⟨xₓ, V', hxₓ, -, -⟩ := VT_1 hTₓ
      rw [hxₓ] at hSₓ
      obtain ⟨y1ₓ, -, y3ₓ⟩ := r_pop hSₓ e1ₓ
      exact ⟨hFₓ.tr y3ₓ, by rw [hekₓ, hxₓ]; exact y1ₓ⟩
    · obtain ⟨g1ₓ, g2ₓ, g3ₓ⟩ := hcodeₓ (sₓ + kₓ) (by omega) (by omega)
      have h2ₓ : τ 2 (400 * iₓ + (sₓ + kₓ)) = encM (fₓ (sₓ + kₓ)) := (hFₓ _ _ (by decide) (by omega)).trans g1ₓ
      have hkkₓ : (400 * (iₓ : Int) + ((sₓ + kₓ : Nat) : Int)).toNat = 400 * iₓ + (sₓ + kₓ) := by omega
      rw [mIf_neg c1ₓ, mLet_e, mLet_e, mRd_e, mLet_e, mLet_e, mLet_e, mRd_e, mLet_e, hkkₓ, h2ₓ] at eₓ
      obtain ⟨v1ₓ, v2ₓ, v3ₓ⟩ := VT_step (wv := wv) hTₓ (hDₓ (sₓ + kₓ) (by omega) (by omega)) g2ₓ
      have g4ₓ : (0 ≤ fₓ (sₓ + kₓ) ∧ fₓ (sₓ + kₓ) < 10) ∨ 32 ≤ fₓ (sₓ + kₓ) ∨ (10 ≤ fₓ (sₓ + kₓ) ∧ fₓ (sₓ + kₓ) ≤ 21) := by
        rcases g2ₓ with g2ₓ | g2ₓ
        · have : (0 ≤ fₓ (sₓ + kₓ) ∧ fₓ (sₓ + kₓ) < 10) ∨ (32 ≤ fₓ (sₓ + kₓ) ∧ fₓ (sₓ + kₓ) ≤ 100031) := of_decide_eq_true g2ₓ
          omega
        · omega
      have goₓ : ∀ τ1 : SS, FRt τ τ1 → RSt τ1 (evT wv (fₓ (sₓ + kₓ)) (evR wv fₓ sₓ kₓ)) → b_X12_reckons_129 (j_X12_reckons 0 nₓ) nₓ 0 (iₓ : Int) (ed : Int) ((sₓ + kₓ : Nat) : Int) τ1 = some (rₓ, τ') → FRt τ0 τ' ∧ rₓ = (evR wv fₓ sₓ (ed - sₓ)).headD 0 := by
        intro τ1 hF1ₓ hS1ₓ eₓ
        unfold b_X12_reckons_129 at eₓ
        rw [mLet_e, show (((sₓ + kₓ : Nat) : Int)) + 1 = ((sₓ + (kₓ + 1) : Nat) : Int) by omega] at eₓ
        exact ihₓ (kₓ + 1) τ1 (by omega) (hFₓ.tr hF1ₓ) hS1ₓ v1ₓ eₓ
      by_cases c32ₓ : 32 ≤ fₓ (sₓ + kₓ)
      · obtain ⟨m1ₓ, m2ₓ⟩ := enc_num c32ₓ g3ₓ
        rw [m1ₓ, m2ₓ, mIf_neg (fun qₓ => qₓ rfl), mLet_e] at eₓ
        obtain ⟨r1ₓ, s1ₓ, e1ₓ, eₓ⟩ := mCall_el eₓ
        obtain ⟨y1ₓ, y2ₓ⟩ := r_push hSₓ e1ₓ
        refine goₓ s1ₓ y2ₓ ?_ eₓ
        unfold evT
        rw [if_pos c32ₓ]; exact y1ₓ
      by_cases c10ₓ : fₓ (sₓ + kₓ) < 10
      · obtain ⟨m1ₓ, m2ₓ⟩ := enc_word (by omega) c10ₓ
        have hwₓ : τ 1011 (fₓ (sₓ + kₓ)).toNat = wv (fₓ (sₓ + kₓ)) := by
          rw [hFₓ 1011 _ (by decide) (by omega), hv _ (by omega)]
          congr 1; omega
        rw [m1ₓ, m2ₓ, mIf_pos (show ¬ (1 : Int) = 0 by decide), mIf_neg (fun qₓ => qₓ rfl), mRd_e, hwₓ] at eₓ
        obtain ⟨r1ₓ, s1ₓ, e1ₓ, eₓ⟩ := mCall_el eₓ
        obtain ⟨y1ₓ, y2ₓ⟩ := r_push hSₓ e1ₓ
        refine goₓ s1ₓ y2ₓ ?_ eₓ
        unfold evT
        rw [if_neg c32ₓ, if_pos c10ₓ]; exact y1ₓ
      have m1ₓ := enc_op (tₓ := fₓ (sₓ + kₓ)) (by omega) (by omega)
      rw [m1ₓ, mIf_pos (show ¬ fₓ (sₓ + kₓ) - 8 = 0 by omega), mIf_pos (show ¬ fₓ (sₓ + kₓ) - 8 = 1 by omega)] at eₓ
      by_cases c19ₓ : fₓ (sₓ + kₓ) = 19
      · rw [mIf_neg (show ¬ ¬ fₓ (sₓ + kₓ) - 8 = 11 by omega)] at eₓ
        obtain ⟨xₓ, V', hxₓ⟩ := v2ₓ c19ₓ
        rw [hxₓ] at hSₓ
        obtain ⟨r1ₓ, s1ₓ, e1ₓ, eₓ⟩ := mCall_el eₓ
        obtain ⟨rfl, y1ₓ, y2ₓ⟩ := r_pop hSₓ e1ₓ
        rw [mLet_e] at eₓ
        obtain ⟨r2ₓ, s2ₓ, e2ₓ, eₓ⟩ := mCall_el eₓ
        obtain ⟨z1ₓ, z2ₓ⟩ := r_push y1ₓ e2ₓ
        refine goₓ s2ₓ (y2ₓ.tr z2ₓ) ?_ eₓ
        unfold evT
        rw [if_neg c32ₓ, if_neg c10ₓ, if_pos c19ₓ, hxₓ]; exact z1ₓ
      · rw [mIf_pos (show ¬ fₓ (sₓ + kₓ) - 8 = 11 by omega)] at eₓ
        obtain ⟨yₓ, xₓ, V', hxₓ⟩ := v3ₓ (by omega) (by omega) c19ₓ
        rw [hxₓ] at hSₓ
        obtain ⟨r1ₓ, s1ₓ, e1ₓ, eₓ⟩ := mCall_el eₓ
        obtain ⟨rfl, y1ₓ, y2ₓ⟩ := r_pop hSₓ e1ₓ
        obtain ⟨r2ₓ, s2ₓ, e2ₓ, eₓ⟩ := mCall_el eₓ
        obtain ⟨rfl, z1ₓ, z2ₓ⟩ := r_pop y1ₓ e2ₓ
        rw [r_one, mCall_s] at eₓ
        obtain ⟨r3ₓ, s3ₓ, e3ₓ, eₓ⟩ := mCall_el eₓ
        obtain ⟨u1ₓ, u2ₓ⟩ := r_push z1ₓ e3ₓ
        refine goₓ s3ₓ ((y2ₓ.tr z2ₓ).tr u2ₓ) ?_ eₓ
        unfold evT
        rw [if_neg c32ₓ, if_neg c10ₓ, if_neg c19ₓ, hxₓ]; exact u1ₓ
end
