/-! what is written, by places -/
def PF (aₓ bₓ : Nat) (σ : SS) (X : RR) : Prop := ∀ (rₓ : Int) (σ' : SS), X = some (rₓ, σ') → ∀ qₓ kₓ : Nat, qₓ ≠ aₓ → qₓ ≠ bₓ → σ' qₓ kₓ = σ qₓ kₓ
section
variable {aₓ bₓ : Nat} {σ : SS}
theorem PF.none : PF aₓ bₓ σ none := fun _ _ eₓ => none_el eₓ
theorem PF.ret {vₓ : Int} : PF aₓ bₓ σ (mRet vₓ σ) := fun _ _ eₓ _ _ _ _ => by
  obtain ⟨-, rfl⟩ := some_el eₓ
  rfl
theorem PF.lt {vₓ : Int} {K : Int → RR} (hₓ : PF aₓ bₓ σ (K vₓ)) : PF aₓ bₓ σ (mLet vₓ K) := hₓ
theorem PF.rd {qₓ kₓ : Nat} {K : Int → RR} (hₓ : PF aₓ bₓ σ (K (σ qₓ kₓ))) : PF aₓ bₓ σ (mRd σ qₓ kₓ K) := hₓ
theorem PF.ite {cₓ : Prop} [Decidable cₓ] {A B : RR} (h1ₓ : PF aₓ bₓ σ A) (h2ₓ : PF aₓ bₓ σ B) : PF aₓ bₓ σ (mIf cₓ A B) := by
  by_cases hcₓ : cₓ
  · rw [mIf_pos hcₓ]; exact h1ₓ
  · rw [mIf_neg hcₓ]; exact h2ₓ
theorem PF.wr {qₓ kₓ : Nat} {vₓ : Int} {K : SS → RR} (hqₓ : qₓ = aₓ ∨ qₓ = bₓ) (hₓ : PF aₓ bₓ (upS σ qₓ kₓ vₓ) (K (upS σ qₓ kₓ vₓ))) : PF aₓ bₓ σ (mWr σ qₓ kₓ vₓ K) := fun rₓ σ' eₓ pₓ jₓ h1ₓ h2ₓ => (hₓ rₓ σ' eₓ pₓ jₓ h1ₓ h2ₓ).trans (upS_q (by omega))
theorem PF.call {A : RR} {K : Int → SS → RR} (h1ₓ : PF aₓ bₓ σ A) (h2ₓ : ∀ (rₓ : Int) (sₓ : SS), PF aₓ bₓ sₓ (K rₓ sₓ)) : PF aₓ bₓ σ (mCall A K) := fun rₓ σ' eₓ pₓ jₓ g1ₓ g2ₓ => by
  obtain ⟨xₓ, sₓ, e1ₓ, e2ₓ⟩ := mCall_el eₓ
  exact (h2ₓ xₓ sₓ rₓ σ' e2ₓ pₓ jₓ g1ₓ g2ₓ).trans (h1ₓ xₓ sₓ e1ₓ pₓ jₓ g1ₓ g2ₓ)
end
theorem pf_X7_sideOf {nₓ : Nat} {q0ₓ : Nat} {a1ₓ : Int} {a2ₓ : Int} {σ : SS} : PF 156 157 σ (m_X7_sideOf nₓ q0ₓ a1ₓ a2ₓ σ) := by
  unfold m_X7_sideOf
  repeat' (with_reducible first | exact PF.ret | refine PF.lt ?_ | refine PF.rd ?_ | refine PF.ite ?_ ?_ | refine PF.wr (Or.inl rfl) ?_ | refine PF.wr (Or.inr rfl) ?_ | refine PF.call ?_ (fun _ _ => ?_))
theorem pf_X7_cornerAcross {nₓ : Nat} {q0ₓ : Nat} {a1ₓ : Int} {a2ₓ : Int} {σ : SS} : PF 156 157 σ (m_X7_cornerAcross nₓ q0ₓ a1ₓ a2ₓ σ) := by
  unfold m_X7_cornerAcross
  repeat' (with_reducible first | exact PF.ret | exact pf_X7_sideOf | refine PF.lt ?_ | refine PF.rd ?_ | refine PF.ite ?_ ?_ | refine PF.wr (Or.inl rfl) ?_ | refine PF.wr (Or.inr rfl) ?_ | refine PF.call ?_ (fun _ _ => ?_))
theorem pf_X7_isNeverOpen {nₓ : Nat} {q0ₓ : Nat} {a1ₓ : Int} {a2ₓ : Int} {σ : SS} : PF 156 157 σ (m_X7_isNeverOpen nₓ q0ₓ a1ₓ a2ₓ σ) := by
  unfold m_X7_isNeverOpen b_X7_isNeverOpen_24
  repeat' (with_reducible first | exact PF.ret | exact pf_X7_sideOf | exact pf_X7_cornerAcross | refine PF.lt ?_ | refine PF.rd ?_ | refine PF.ite ?_ ?_ | refine PF.wr (Or.inl rfl) ?_ | refine PF.wr (Or.inr rfl) ?_ | refine PF.call ?_ (fun _ _ => ?_))
theorem pj_X7_openHours {q0ₓ : Nat} : ∀ nₓ : Nat, (∀ (v1ₓ : Int) (v3ₓ : Int) (v6ₓ : Int) (v7ₓ : Int) (σ : SS), PF 156 157 σ (j_X7_openHours q0ₓ nₓ 44 [v1ₓ, v3ₓ, v6ₓ, v7ₓ] σ)) := by
  intro nₓ
  induction nₓ with
  | zero => exact fun _ _ _ _ _ => PF.none
  | succ nₓ ihₓ =>
    refine ?_
    · intro v1ₓ v3ₓ v6ₓ v7ₓ σ
      rw [e_X7_openHours_44]
      unfold b_X7_openHours_44 b_X7_openHours_81 b_X7_openHours_93
      repeat' (with_reducible first | exact PF.ret | exact pf_X7_sideOf | exact pf_X7_cornerAcross | exact pf_X7_isNeverOpen | exact ihₓ _ _ _ _ _  | refine PF.lt ?_ | refine PF.rd ?_ | refine PF.ite ?_ ?_ | refine PF.wr (Or.inl rfl) ?_ | refine PF.wr (Or.inr rfl) ?_ | refine PF.call ?_ (fun _ _ => ?_))
theorem pf_X7_openHours {nₓ : Nat} {q0ₓ : Nat} {a1ₓ : Int} {a2ₓ : Int} {a3ₓ : Int} {a4ₓ : Int} {σ : SS} : PF 156 157 σ (m_X7_openHours nₓ q0ₓ a1ₓ a2ₓ a3ₓ a4ₓ σ) := by
  unfold m_X7_openHours
  repeat' (with_reducible first | exact PF.ret | exact pf_X7_sideOf | exact pf_X7_cornerAcross | exact pf_X7_isNeverOpen | exact (pj_X7_openHours nₓ) _ _ _ _ _  | refine PF.lt ?_ | refine PF.rd ?_ | refine PF.ite ?_ ?_ | refine PF.wr (Or.inl rfl) ?_ | refine PF.wr (Or.inr rfl) ?_ | refine PF.call ?_ (fun _ _ => ?_))
theorem pj_X7_firstOpen {q0ₓ : Nat} : ∀ nₓ : Nat, (∀ (v1ₓ : Int) (v2ₓ : Int) (v4ₓ : Int) (v5ₓ : Int) (v6ₓ : Int) (σ : SS), PF 156 157 σ (j_X7_firstOpen q0ₓ nₓ 25 [v1ₓ, v2ₓ, v4ₓ, v5ₓ, v6ₓ] σ)) ∧ (∀ (v1ₓ : Int) (v2ₓ : Int) (v4ₓ : Int) (v5ₓ : Int) (v6ₓ : Int) (v7ₓ : Int) (v8ₓ : Int) (σ : SS), PF 156 157 σ (j_X7_firstOpen q0ₓ nₓ 56 [v1ₓ, v2ₓ, v4ₓ, v5ₓ, v6ₓ, v7ₓ, v8ₓ] σ)) := by
  intro nₓ
  induction nₓ with
  | zero => exact ⟨fun _ _ _ _ _ _ => PF.none, fun _ _ _ _ _ _ _ _ => PF.none⟩
  | succ nₓ ihₓ =>
    refine ⟨?_, ?_⟩
    · intro v1ₓ v2ₓ v4ₓ v5ₓ v6ₓ σ
      rw [e_X7_firstOpen_25]
      unfold b_X7_firstOpen_25
      repeat' (with_reducible first | exact PF.ret | exact pf_X7_sideOf | exact pf_X7_cornerAcross | exact pf_X7_isNeverOpen | exact pf_X7_openHours | exact ihₓ.1 _ _ _ _ _ _  | exact ihₓ.2 _ _ _ _ _ _ _ _  | refine PF.lt ?_ | refine PF.rd ?_ | refine PF.ite ?_ ?_ | refine PF.wr (Or.inl rfl) ?_ | refine PF.wr (Or.inr rfl) ?_ | refine PF.call ?_ (fun _ _ => ?_))
    · intro v1ₓ v2ₓ v4ₓ v5ₓ v6ₓ v7ₓ v8ₓ σ
      rw [e_X7_firstOpen_56]
      unfold b_X7_firstOpen_56 b_X7_firstOpen_108
      repeat' (with_reducible first | exact PF.ret | exact pf_X7_sideOf | exact pf_X7_cornerAcross | exact pf_X7_isNeverOpen | exact pf_X7_openHours | exact ihₓ.1 _ _ _ _ _ _  | exact ihₓ.2 _ _ _ _ _ _ _ _  | refine PF.lt ?_ | refine PF.rd ?_ | refine PF.ite ?_ ?_ | refine PF.wr (Or.inl rfl) ?_ | refine PF.wr (Or.inr rfl) ?_ | refine PF.call ?_ (fun _ _ => ?_))
theorem pf_X7_firstOpen {nₓ : Nat} {q0ₓ : Nat} {a1ₓ : Int} {a2ₓ : Int} {a3ₓ : Int} {a4ₓ : Int} {σ : SS} : PF 156 157 σ (m_X7_firstOpen nₓ q0ₓ a1ₓ a2ₓ a3ₓ a4ₓ σ) := by
  unfold m_X7_firstOpen
  repeat' (with_reducible first | exact PF.ret | exact pf_X7_sideOf | exact pf_X7_cornerAcross | exact pf_X7_isNeverOpen | exact pf_X7_openHours | exact (pj_X7_firstOpen nₓ).1 _ _ _ _ _ _  | exact (pj_X7_firstOpen nₓ).2 _ _ _ _ _ _ _ _  | refine PF.lt ?_ | refine PF.rd ?_ | refine PF.ite ?_ ?_ | refine PF.wr (Or.inl rfl) ?_ | refine PF.wr (Or.inr rfl) ?_ | refine PF.call ?_ (fun _ _ => ?_))
theorem pj_X4_clear {q0ₓ : Nat} : ∀ nₓ : Nat, (∀ (v1ₓ : Int) (σ : SS), PF 156 157 σ (j_X4_clear q0ₓ nₓ 2 [v1ₓ] σ)) := by
  intro nₓ
  induction nₓ with
  | zero => exact fun _ _ => PF.none
  | succ nₓ ihₓ =>
    refine ?_
    · intro v1ₓ σ
      rw [e_X4_clear_2]
      unfold b_X4_clear_2
      repeat' (with_reducible first | exact PF.ret | exact pf_X7_sideOf | exact pf_X7_cornerAcross | exact pf_X7_isNeverOpen | exact pf_X7_openHours | exact pf_X7_firstOpen | exact ihₓ _ _  | refine PF.lt ?_ | refine PF.rd ?_ | refine PF.ite ?_ ?_ | refine PF.wr (Or.inl rfl) ?_ | refine PF.wr (Or.inr rfl) ?_ | refine PF.call ?_ (fun _ _ => ?_))
theorem pf_X4_clear {nₓ : Nat} {q0ₓ : Nat} {σ : SS} : PF 156 157 σ (m_X4_clear nₓ q0ₓ σ) := by
  unfold m_X4_clear
  repeat' (with_reducible first | exact PF.ret | exact pf_X7_sideOf | exact pf_X7_cornerAcross | exact pf_X7_isNeverOpen | exact pf_X7_openHours | exact pf_X7_firstOpen | exact (pj_X4_clear nₓ) _ _  | refine PF.lt ?_ | refine PF.rd ?_ | refine PF.ite ?_ ?_ | refine PF.wr (Or.inl rfl) ?_ | refine PF.wr (Or.inr rfl) ?_ | refine PF.call ?_ (fun _ _ => ?_))
theorem pj_X4_earliestUnsettled {q0ₓ : Nat} : ∀ nₓ : Nat, (∀ (v1ₓ : Int) (v2ₓ : Int) (σ : SS), PF 156 157 σ (j_X4_earliestUnsettled q0ₓ nₓ 4 [v1ₓ, v2ₓ] σ)) := by
  intro nₓ
  induction nₓ with
  | zero => exact fun _ _ _ => PF.none
  | succ nₓ ihₓ =>
    refine ?_
    · intro v1ₓ v2ₓ σ
      rw [e_X4_earliestUnsettled_4]
      unfold b_X4_earliestUnsettled_4 b_X4_earliestUnsettled_54 b_X4_earliestUnsettled_56
      repeat' (with_reducible first | exact PF.ret | exact pf_X7_sideOf | exact pf_X7_cornerAcross | exact pf_X7_isNeverOpen | exact pf_X7_openHours | exact pf_X7_firstOpen | exact pf_X4_clear | exact ihₓ _ _ _  | refine PF.lt ?_ | refine PF.rd ?_ | refine PF.ite ?_ ?_ | refine PF.wr (Or.inl rfl) ?_ | refine PF.wr (Or.inr rfl) ?_ | refine PF.call ?_ (fun _ _ => ?_))
theorem pf_X4_earliestUnsettled {nₓ : Nat} {q0ₓ : Nat} {σ : SS} : PF 156 157 σ (m_X4_earliestUnsettled nₓ q0ₓ σ) := by
  unfold m_X4_earliestUnsettled
  repeat' (with_reducible first | exact PF.ret | exact pf_X7_sideOf | exact pf_X7_cornerAcross | exact pf_X7_isNeverOpen | exact pf_X7_openHours | exact pf_X7_firstOpen | exact pf_X4_clear | exact (pj_X4_earliestUnsettled nₓ) _ _ _  | refine PF.lt ?_ | refine PF.rd ?_ | refine PF.ite ?_ ?_ | refine PF.wr (Or.inl rfl) ?_ | refine PF.wr (Or.inr rfl) ?_ | refine PF.call ?_ (fun _ _ => ?_))
theorem pf_X4_reachBy {nₓ : Nat} {q0ₓ : Nat} {a1ₓ : Int} {a2ₓ : Int} {a3ₓ : Int} {σ : SS} : PF 156 157 σ (m_X4_reachBy nₓ q0ₓ a1ₓ a2ₓ a3ₓ σ) := by
  unfold m_X4_reachBy b_X4_reachBy_113 b_X4_reachBy_125 b_X4_reachBy_35
  repeat' (with_reducible first | exact PF.ret | exact pf_X7_sideOf | exact pf_X7_cornerAcross | exact pf_X7_isNeverOpen | exact pf_X7_openHours | exact pf_X7_firstOpen | exact pf_X4_clear | exact pf_X4_earliestUnsettled | refine PF.lt ?_ | refine PF.rd ?_ | refine PF.ite ?_ ?_ | refine PF.wr (Or.inl rfl) ?_ | refine PF.wr (Or.inr rfl) ?_ | refine PF.call ?_ (fun _ _ => ?_))
theorem pj_X4_firstArrival {q0ₓ : Nat} : ∀ nₓ : Nat, (∀ (v1ₓ : Int) (v3ₓ : Int) (v4ₓ : Int) (v5ₓ : Int) (σ : SS), PF 156 157 σ (j_X4_firstArrival q0ₓ nₓ 15 [v1ₓ, v3ₓ, v4ₓ, v5ₓ] σ)) ∧ (∀ (v1ₓ : Int) (v3ₓ : Int) (v4ₓ : Int) (v5ₓ : Int) (v6ₓ : Int) (v7ₓ : Int) (σ : SS), PF 156 157 σ (j_X4_firstArrival q0ₓ nₓ 65 [v1ₓ, v3ₓ, v4ₓ, v5ₓ, v6ₓ, v7ₓ] σ)) := by
  intro nₓ
  induction nₓ with
  | zero => exact ⟨fun _ _ _ _ _ => PF.none, fun _ _ _ _ _ _ _ => PF.none⟩
  | succ nₓ ihₓ =>
    refine ⟨?_, ?_⟩
    · intro v1ₓ v3ₓ v4ₓ v5ₓ σ
      rw [e_X4_firstArrival_15]
      unfold b_X4_firstArrival_15
      repeat' (with_reducible first | exact PF.ret | exact pf_X7_sideOf | exact pf_X7_cornerAcross | exact pf_X7_isNeverOpen | exact pf_X7_openHours | exact pf_X7_firstOpen | exact pf_X4_clear | exact pf_X4_earliestUnsettled | exact pf_X4_reachBy | exact ihₓ.1 _ _ _ _ _  | exact ihₓ.2 _ _ _ _ _ _ _  | refine PF.lt ?_ | refine PF.rd ?_ | refine PF.ite ?_ ?_ | refine PF.wr (Or.inl rfl) ?_ | refine PF.wr (Or.inr rfl) ?_ | refine PF.call ?_ (fun _ _ => ?_))
    · intro v1ₓ v3ₓ v4ₓ v5ₓ v6ₓ v7ₓ σ
      rw [e_X4_firstArrival_65]
      unfold b_X4_firstArrival_65
      repeat' (with_reducible first | exact PF.ret | exact pf_X7_sideOf | exact pf_X7_cornerAcross | exact pf_X7_isNeverOpen | exact pf_X7_openHours | exact pf_X7_firstOpen | exact pf_X4_clear | exact pf_X4_earliestUnsettled | exact pf_X4_reachBy | exact ihₓ.1 _ _ _ _ _  | exact ihₓ.2 _ _ _ _ _ _ _  | refine PF.lt ?_ | refine PF.rd ?_ | refine PF.ite ?_ ?_ | refine PF.wr (Or.inl rfl) ?_ | refine PF.wr (Or.inr rfl) ?_ | refine PF.call ?_ (fun _ _ => ?_))
theorem pf_X4_firstArrival {nₓ : Nat} {q0ₓ : Nat} {a1ₓ : Int} {a2ₓ : Int} {a3ₓ : Int} {a4ₓ : Int} {σ : SS} : PF 156 157 σ (m_X4_firstArrival nₓ q0ₓ a1ₓ a2ₓ a3ₓ a4ₓ σ) := by
  unfold m_X4_firstArrival
  repeat' (with_reducible first | exact PF.ret | exact pf_X7_sideOf | exact pf_X7_cornerAcross | exact pf_X7_isNeverOpen | exact pf_X7_openHours | exact pf_X7_firstOpen | exact pf_X4_clear | exact pf_X4_earliestUnsettled | exact pf_X4_reachBy | exact (pj_X4_firstArrival nₓ).1 _ _ _ _ _  | exact (pj_X4_firstArrival nₓ).2 _ _ _ _ _ _ _  | refine PF.lt ?_ | refine PF.rd ?_ | refine PF.ite ?_ ?_ | refine PF.wr (Or.inl rfl) ?_ | refine PF.wr (Or.inr rfl) ?_ | refine PF.call ?_ (fun _ _ => ?_))
theorem pj_X4_sumOfErrands {q0ₓ : Nat} : ∀ nₓ : Nat, (∀ (v1ₓ : Int) (v2ₓ : Int) (v3ₓ : Int) (v4ₓ : Int) (σ : SS), PF 156 157 σ (j_X4_sumOfErrands q0ₓ nₓ 5 [v1ₓ, v2ₓ, v3ₓ, v4ₓ] σ)) := by
  intro nₓ
  induction nₓ with
  | zero => exact fun _ _ _ _ _ => PF.none
  | succ nₓ ihₓ =>
    refine ?_
    · intro v1ₓ v2ₓ v3ₓ v4ₓ σ
      rw [e_X4_sumOfErrands_5]
      unfold b_X4_sumOfErrands_5 b_X4_sumOfErrands_83
      repeat' (with_reducible first | exact PF.ret | exact pf_X7_sideOf | exact pf_X7_cornerAcross | exact pf_X7_isNeverOpen | exact pf_X7_openHours | exact pf_X7_firstOpen | exact pf_X4_clear | exact pf_X4_earliestUnsettled | exact pf_X4_reachBy | exact pf_X4_firstArrival | exact ihₓ _ _ _ _ _  | refine PF.lt ?_ | refine PF.rd ?_ | refine PF.ite ?_ ?_ | refine PF.wr (Or.inl rfl) ?_ | refine PF.wr (Or.inr rfl) ?_ | refine PF.call ?_ (fun _ _ => ?_))
theorem pf_X4_sumOfErrands {nₓ : Nat} {q0ₓ : Nat} {a1ₓ : Int} {a2ₓ : Int} {σ : SS} : PF 156 157 σ (m_X4_sumOfErrands nₓ q0ₓ a1ₓ a2ₓ σ) := by
  unfold m_X4_sumOfErrands
  repeat' (with_reducible first | exact PF.ret | exact pf_X7_sideOf | exact pf_X7_cornerAcross | exact pf_X7_isNeverOpen | exact pf_X7_openHours | exact pf_X7_firstOpen | exact pf_X4_clear | exact pf_X4_earliestUnsettled | exact pf_X4_reachBy | exact pf_X4_firstArrival | exact (pj_X4_sumOfErrands nₓ) _ _ _ _ _  | refine PF.lt ?_ | refine PF.rd ?_ | refine PF.ite ?_ ?_ | refine PF.wr (Or.inl rfl) ?_ | refine PF.wr (Or.inr rfl) ?_ | refine PF.call ?_ (fun _ _ => ?_))
theorem pf_X12_streetOf {nₓ : Nat} {q0ₓ : Nat} {a1ₓ : Int} {a2ₓ : Int} {σ : SS} : PF 18 19 σ (m_X12_streetOf nₓ q0ₓ a1ₓ a2ₓ σ) := by
  unfold m_X12_streetOf
  repeat' (with_reducible first | exact PF.ret | refine PF.lt ?_ | refine PF.rd ?_ | refine PF.ite ?_ ?_ | refine PF.wr (Or.inl rfl) ?_ | refine PF.wr (Or.inr rfl) ?_ | refine PF.call ?_ (fun _ _ => ?_))
theorem pf_X12_isAt {nₓ : Nat} {q0ₓ : Nat} {a1ₓ : Int} {a2ₓ : Int} {σ : SS} : PF 18 19 σ (m_X12_isAt nₓ q0ₓ a1ₓ a2ₓ σ) := by
  unfold m_X12_isAt b_X12_isAt_20
  repeat' (with_reducible first | exact PF.ret | exact pf_X12_streetOf | refine PF.lt ?_ | refine PF.rd ?_ | refine PF.ite ?_ ?_ | refine PF.wr (Or.inl rfl) ?_ | refine PF.wr (Or.inr rfl) ?_ | refine PF.call ?_ (fun _ _ => ?_))
theorem pf_X12_isOf {nₓ : Nat} {a0ₓ : Int} {a1ₓ : Int} {σ : SS} : PF 18 19 σ (m_X12_isOf nₓ a0ₓ a1ₓ σ) := by
  unfold m_X12_isOf
  repeat' (with_reducible first | exact PF.ret | exact pf_X12_streetOf | exact pf_X12_isAt | refine PF.lt ?_ | refine PF.rd ?_ | refine PF.ite ?_ ?_ | refine PF.wr (Or.inl rfl) ?_ | refine PF.wr (Or.inr rfl) ?_ | refine PF.call ?_ (fun _ _ => ?_))
theorem pf_X12_hasSign {nₓ : Nat} {q0ₓ : Nat} {a1ₓ : Int} {a2ₓ : Int} {a3ₓ : Int} {σ : SS} : PF 18 19 σ (m_X12_hasSign nₓ q0ₓ a1ₓ a2ₓ a3ₓ σ) := by
  unfold m_X12_hasSign b_X12_hasSign_16
  repeat' (with_reducible first | exact PF.ret | exact pf_X12_streetOf | exact pf_X12_isAt | exact pf_X12_isOf | refine PF.lt ?_ | refine PF.rd ?_ | refine PF.ite ?_ ?_ | refine PF.wr (Or.inl rfl) ?_ | refine PF.wr (Or.inr rfl) ?_ | refine PF.call ?_ (fun _ _ => ?_))
theorem pj_X12_isClosed {q0ₓ : Nat} : ∀ nₓ : Nat, (∀ (v1ₓ : Int) (v2ₓ : Int) (v3ₓ : Int) (σ : SS), PF 18 19 σ (j_X12_isClosed q0ₓ nₓ 2 [v1ₓ, v2ₓ, v3ₓ] σ)) := by
  intro nₓ
  induction nₓ with
  | zero => exact fun _ _ _ _ => PF.none
  | succ nₓ ihₓ =>
    refine ?_
    · intro v1ₓ v2ₓ v3ₓ σ
      rw [e_X12_isClosed_2]
      unfold b_X12_isClosed_2 b_X12_isClosed_55 b_X12_isClosed_61
      repeat' (with_reducible first | exact PF.ret | exact pf_X12_streetOf | exact pf_X12_isAt | exact pf_X12_isOf | exact pf_X12_hasSign | exact ihₓ _ _ _ _  | refine PF.lt ?_ | refine PF.rd ?_ | refine PF.ite ?_ ?_ | refine PF.wr (Or.inl rfl) ?_ | refine PF.wr (Or.inr rfl) ?_ | refine PF.call ?_ (fun _ _ => ?_))
theorem pf_X12_isClosed {nₓ : Nat} {q0ₓ : Nat} {a1ₓ : Int} {a2ₓ : Int} {σ : SS} : PF 18 19 σ (m_X12_isClosed nₓ q0ₓ a1ₓ a2ₓ σ) := by
  unfold m_X12_isClosed
  repeat' (with_reducible first | exact PF.ret | exact pf_X12_streetOf | exact pf_X12_isAt | exact pf_X12_isOf | exact pf_X12_hasSign | exact (pj_X12_isClosed nₓ) _ _ _ _  | refine PF.lt ?_ | refine PF.rd ?_ | refine PF.ite ?_ ?_ | refine PF.wr (Or.inl rfl) ?_ | refine PF.wr (Or.inr rfl) ?_ | refine PF.call ?_ (fun _ _ => ?_))
theorem pf_X12_isDayFor {nₓ : Nat} {q0ₓ : Nat} {a1ₓ : Int} {a2ₓ : Int} {a3ₓ : Int} {σ : SS} : PF 18 19 σ (m_X12_isDayFor nₓ q0ₓ a1ₓ a2ₓ a3ₓ σ) := by
  unfold m_X12_isDayFor b_X12_isDayFor_62
  repeat' (with_reducible first | exact PF.ret | exact pf_X12_streetOf | exact pf_X12_isAt | exact pf_X12_isOf | exact pf_X12_hasSign | exact pf_X12_isClosed | refine PF.lt ?_ | refine PF.rd ?_ | refine PF.ite ?_ ?_ | refine PF.wr (Or.inl rfl) ?_ | refine PF.wr (Or.inr rfl) ?_ | refine PF.call ?_ (fun _ _ => ?_))
theorem pj_X12_isLifted {q0ₓ : Nat} : ∀ nₓ : Nat, (∀ (v1ₓ : Int) (v2ₓ : Int) (v3ₓ : Int) (σ : SS), PF 18 19 σ (j_X12_isLifted q0ₓ nₓ 2 [v1ₓ, v2ₓ, v3ₓ] σ)) := by
  intro nₓ
  induction nₓ with
  | zero => exact fun _ _ _ _ => PF.none
  | succ nₓ ihₓ =>
    refine ?_
    · intro v1ₓ v2ₓ v3ₓ σ
      rw [e_X12_isLifted_2]
      unfold b_X12_isLifted_2 b_X12_isLifted_66
      repeat' (with_reducible first | exact PF.ret | exact pf_X12_streetOf | exact pf_X12_isAt | exact pf_X12_isOf | exact pf_X12_hasSign | exact pf_X12_isClosed | exact pf_X12_isDayFor | exact ihₓ _ _ _ _  | refine PF.lt ?_ | refine PF.rd ?_ | refine PF.ite ?_ ?_ | refine PF.wr (Or.inl rfl) ?_ | refine PF.wr (Or.inr rfl) ?_ | refine PF.call ?_ (fun _ _ => ?_))
theorem pf_X12_isLifted {nₓ : Nat} {q0ₓ : Nat} {a1ₓ : Int} {a2ₓ : Int} {σ : SS} : PF 18 19 σ (m_X12_isLifted nₓ q0ₓ a1ₓ a2ₓ σ) := by
  unfold m_X12_isLifted
  repeat' (with_reducible first | exact PF.ret | exact pf_X12_streetOf | exact pf_X12_isAt | exact pf_X12_isOf | exact pf_X12_hasSign | exact pf_X12_isClosed | exact pf_X12_isDayFor | exact (pj_X12_isLifted nₓ) _ _ _ _  | refine PF.lt ?_ | refine PF.rd ?_ | refine PF.ite ?_ ?_ | refine PF.wr (Or.inl rfl) ?_ | refine PF.wr (Or.inr rfl) ?_ | refine PF.call ?_ (fun _ _ => ?_))
theorem pj_X12_firstOpen {q0ₓ : Nat} : ∀ nₓ : Nat, (∀ (v1ₓ : Int) (v2ₓ : Int) (v4ₓ : Int) (v5ₓ : Int) (σ : SS), PF 18 19 σ (j_X12_firstOpen q0ₓ nₓ 3 [v1ₓ, v2ₓ, v4ₓ, v5ₓ] σ)) := by
  intro nₓ
  induction nₓ with
  | zero => exact fun _ _ _ _ _ => PF.none
  | succ nₓ ihₓ =>
    refine ?_
    · intro v1ₓ v2ₓ v4ₓ v5ₓ σ
      rw [e_X12_firstOpen_3]
      unfold b_X12_firstOpen_3
      repeat' (with_reducible first | exact PF.ret | exact pf_X12_streetOf | exact pf_X12_isAt | exact pf_X12_isOf | exact pf_X12_hasSign | exact pf_X12_isClosed | exact pf_X12_isDayFor | exact pf_X12_isLifted | exact ihₓ _ _ _ _ _  | refine PF.lt ?_ | refine PF.rd ?_ | refine PF.ite ?_ ?_ | refine PF.wr (Or.inl rfl) ?_ | refine PF.wr (Or.inr rfl) ?_ | refine PF.call ?_ (fun _ _ => ?_))
theorem pf_X12_firstOpen {nₓ : Nat} {q0ₓ : Nat} {a1ₓ : Int} {a2ₓ : Int} {a3ₓ : Int} {a4ₓ : Int} {σ : SS} : PF 18 19 σ (m_X12_firstOpen nₓ q0ₓ a1ₓ a2ₓ a3ₓ a4ₓ σ) := by
  unfold m_X12_firstOpen
  repeat' (with_reducible first | exact PF.ret | exact pf_X12_streetOf | exact pf_X12_isAt | exact pf_X12_isOf | exact pf_X12_hasSign | exact pf_X12_isClosed | exact pf_X12_isDayFor | exact pf_X12_isLifted | exact (pj_X12_firstOpen nₓ) _ _ _ _ _  | refine PF.lt ?_ | refine PF.rd ?_ | refine PF.ite ?_ ?_ | refine PF.wr (Or.inl rfl) ?_ | refine PF.wr (Or.inr rfl) ?_ | refine PF.call ?_ (fun _ _ => ?_))
theorem pf_X12_otherOf {nₓ : Nat} {q0ₓ : Nat} {a1ₓ : Int} {a2ₓ : Int} {σ : SS} : PF 18 19 σ (m_X12_otherOf nₓ q0ₓ a1ₓ a2ₓ σ) := by
  unfold m_X12_otherOf
  repeat' (with_reducible first | exact PF.ret | exact pf_X12_streetOf | exact pf_X12_isAt | exact pf_X12_isOf | exact pf_X12_hasSign | exact pf_X12_isClosed | exact pf_X12_isDayFor | exact pf_X12_isLifted | exact pf_X12_firstOpen | refine PF.lt ?_ | refine PF.rd ?_ | refine PF.ite ?_ ?_ | refine PF.wr (Or.inl rfl) ?_ | refine PF.wr (Or.inr rfl) ?_ | refine PF.call ?_ (fun _ _ => ?_))
theorem pj_X12_reaches {q0ₓ : Nat} : ∀ nₓ : Nat, (∀ (v1ₓ : Int) (v2ₓ : Int) (v3ₓ : Int) (v4ₓ : Int) (v5ₓ : Int) (σ : SS), PF 18 19 σ (j_X12_reaches q0ₓ nₓ 3 [v1ₓ, v2ₓ, v3ₓ, v4ₓ, v5ₓ] σ)) ∧ (∀ (v2ₓ : Int) (v4ₓ : Int) (σ : SS), PF 18 19 σ (j_X12_reaches q0ₓ nₓ 44 [v2ₓ, v4ₓ] σ)) ∧ (∀ (v2ₓ : Int) (v4ₓ : Int) (v5ₓ : Int) (v6ₓ : Int) (σ : SS), PF 18 19 σ (j_X12_reaches q0ₓ nₓ 59 [v2ₓ, v4ₓ, v5ₓ, v6ₓ] σ)) ∧ (∀ (v2ₓ : Int) (v4ₓ : Int) (v5ₓ : Int) (v6ₓ : Int) (σ : SS), PF 18 19 σ (j_X12_reaches q0ₓ nₓ 145 [v2ₓ, v4ₓ, v5ₓ, v6ₓ] σ)) := by
  intro nₓ
  induction nₓ with
  | zero => exact ⟨fun _ _ _ _ _ _ => PF.none, fun _ _ _ => PF.none, fun _ _ _ _ _ => PF.none, fun _ _ _ _ _ => PF.none⟩
  | succ nₓ ihₓ =>
    refine ⟨?_, ?_, ?_, ?_⟩
    · intro v1ₓ v2ₓ v3ₓ v4ₓ v5ₓ σ
      rw [e_X12_reaches_3]
      unfold b_X12_reaches_3 b_X12_reaches_29
      repeat' (with_reducible first | exact PF.ret | exact pf_X12_streetOf | exact pf_X12_isAt | exact pf_X12_isOf | exact pf_X12_hasSign | exact pf_X12_isClosed | exact pf_X12_isDayFor | exact pf_X12_isLifted | exact pf_X12_firstOpen | exact pf_X12_otherOf | exact ihₓ.1 _ _ _ _ _ _  | exact ihₓ.2.1 _ _ _  | exact ihₓ.2.2.1 _ _ _ _ _  | exact ihₓ.2.2.2 _ _ _ _ _  | refine PF.lt ?_ | refine PF.rd ?_ | refine PF.ite ?_ ?_ | refine PF.wr (Or.inl rfl) ?_ | refine PF.wr (Or.inr rfl) ?_ | refine PF.call ?_ (fun _ _ => ?_))
    · intro v2ₓ v4ₓ σ
      rw [e_X12_reaches_44]
      unfold b_X12_reaches_44
      repeat' (with_reducible first | exact PF.ret | exact pf_X12_streetOf | exact pf_X12_isAt | exact pf_X12_isOf | exact pf_X12_hasSign | exact pf_X12_isClosed | exact pf_X12_isDayFor | exact pf_X12_isLifted | exact pf_X12_firstOpen | exact pf_X12_otherOf | exact ihₓ.1 _ _ _ _ _ _  | exact ihₓ.2.1 _ _ _  | exact ihₓ.2.2.1 _ _ _ _ _  | exact ihₓ.2.2.2 _ _ _ _ _  | refine PF.lt ?_ | refine PF.rd ?_ | refine PF.ite ?_ ?_ | refine PF.wr (Or.inl rfl) ?_ | refine PF.wr (Or.inr rfl) ?_ | refine PF.call ?_ (fun _ _ => ?_))
    · intro v2ₓ v4ₓ v5ₓ v6ₓ σ
      rw [e_X12_reaches_59]
      unfold b_X12_reaches_59 b_X12_reaches_115 b_X12_reaches_119
      repeat' (with_reducible first | exact PF.ret | exact pf_X12_streetOf | exact pf_X12_isAt | exact pf_X12_isOf | exact pf_X12_hasSign | exact pf_X12_isClosed | exact pf_X12_isDayFor | exact pf_X12_isLifted | exact pf_X12_firstOpen | exact pf_X12_otherOf | exact ihₓ.1 _ _ _ _ _ _  | exact ihₓ.2.1 _ _ _  | exact ihₓ.2.2.1 _ _ _ _ _  | exact ihₓ.2.2.2 _ _ _ _ _  | refine PF.lt ?_ | refine PF.rd ?_ | refine PF.ite ?_ ?_ | refine PF.wr (Or.inl rfl) ?_ | refine PF.wr (Or.inr rfl) ?_ | refine PF.call ?_ (fun _ _ => ?_))
    · intro v2ₓ v4ₓ v5ₓ v6ₓ σ
      rw [e_X12_reaches_145]
      unfold b_X12_reaches_145 b_X12_reaches_259
      repeat' (with_reducible first | exact PF.ret | exact pf_X12_streetOf | exact pf_X12_isAt | exact pf_X12_isOf | exact pf_X12_hasSign | exact pf_X12_isClosed | exact pf_X12_isDayFor | exact pf_X12_isLifted | exact pf_X12_firstOpen | exact pf_X12_otherOf | exact ihₓ.1 _ _ _ _ _ _  | exact ihₓ.2.1 _ _ _  | exact ihₓ.2.2.1 _ _ _ _ _  | exact ihₓ.2.2.2 _ _ _ _ _  | refine PF.lt ?_ | refine PF.rd ?_ | refine PF.ite ?_ ?_ | refine PF.wr (Or.inl rfl) ?_ | refine PF.wr (Or.inr rfl) ?_ | refine PF.call ?_ (fun _ _ => ?_))
theorem pf_X12_reaches {nₓ : Nat} {q0ₓ : Nat} {a1ₓ : Int} {a2ₓ : Int} {a3ₓ : Int} {a4ₓ : Int} {σ : SS} : PF 18 19 σ (m_X12_reaches nₓ q0ₓ a1ₓ a2ₓ a3ₓ a4ₓ σ) := by
  unfold m_X12_reaches
  repeat' (with_reducible first | exact PF.ret | exact pf_X12_streetOf | exact pf_X12_isAt | exact pf_X12_isOf | exact pf_X12_hasSign | exact pf_X12_isClosed | exact pf_X12_isDayFor | exact pf_X12_isLifted | exact pf_X12_firstOpen | exact pf_X12_otherOf | exact (pj_X12_reaches nₓ).1 _ _ _ _ _ _  | exact (pj_X12_reaches nₓ).2.1 _ _ _  | exact (pj_X12_reaches nₓ).2.2.1 _ _ _ _ _  | exact (pj_X12_reaches nₓ).2.2.2 _ _ _ _ _  | refine PF.lt ?_ | refine PF.rd ?_ | refine PF.ite ?_ ?_ | refine PF.wr (Or.inl rfl) ?_ | refine PF.wr (Or.inr rfl) ?_ | refine PF.call ?_ (fun _ _ => ?_))
theorem pj_X12_sumOf {q0ₓ : Nat} : ∀ nₓ : Nat, (∀ (v1ₓ : Int) (v2ₓ : Int) (v3ₓ : Int) (σ : SS), PF 18 19 σ (j_X12_sumOf q0ₓ nₓ 4 [v1ₓ, v2ₓ, v3ₓ] σ)) := by
  intro nₓ
  induction nₓ with
  | zero => exact fun _ _ _ _ => PF.none
  | succ nₓ ihₓ =>
    refine ?_
    · intro v1ₓ v2ₓ v3ₓ σ
      rw [e_X12_sumOf_4]
      unfold b_X12_sumOf_4 b_X12_sumOf_72
      repeat' (with_reducible first | exact PF.ret | exact pf_X12_streetOf | exact pf_X12_isAt | exact pf_X12_isOf | exact pf_X12_hasSign | exact pf_X12_isClosed | exact pf_X12_isDayFor | exact pf_X12_isLifted | exact pf_X12_firstOpen | exact pf_X12_otherOf | exact pf_X12_reaches | exact ihₓ _ _ _ _  | refine PF.lt ?_ | refine PF.rd ?_ | refine PF.ite ?_ ?_ | refine PF.wr (Or.inl rfl) ?_ | refine PF.wr (Or.inr rfl) ?_ | refine PF.call ?_ (fun _ _ => ?_))
theorem pf_X12_sumOf {nₓ : Nat} {q0ₓ : Nat} {a1ₓ : Int} {σ : SS} : PF 18 19 σ (m_X12_sumOf nₓ q0ₓ a1ₓ σ) := by
  unfold m_X12_sumOf
  repeat' (with_reducible first | exact PF.ret | exact pf_X12_streetOf | exact pf_X12_isAt | exact pf_X12_isOf | exact pf_X12_hasSign | exact pf_X12_isClosed | exact pf_X12_isDayFor | exact pf_X12_isLifted | exact pf_X12_firstOpen | exact pf_X12_otherOf | exact pf_X12_reaches | exact (pj_X12_sumOf nₓ) _ _ _ _  | refine PF.lt ?_ | refine PF.rd ?_ | refine PF.ite ?_ ?_ | refine PF.wr (Or.inl rfl) ?_ | refine PF.wr (Or.inr rfl) ?_ | refine PF.call ?_ (fun _ _ => ?_))
