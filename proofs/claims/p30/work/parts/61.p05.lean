section
variable {F : Int → Int} {N : Int} {ℓ ℓ' ℓ'' : Nat} {S S' S'' : List Bool} {σ σ' σ'' : SS} {pₓ rₓ aₓ bₓ wₓ xₓ : Int} {nₓ : Nat}
theorem byteIs_n {qₓ cₓ : Int} (hₓ : ¬ bt F N qₓ = cₓ) (hcₓ : 0 ≤ cₓ) : ¬ byteIs F N qₓ cₓ = true := fun zₓ => hₓ ((bt_is hcₓ).mpr (of_decide_eq_true zₓ))
theorem r_closes0 : ∀ (nₓ : Nat) (σ : SS), OKM F N σ → OKS σ → TN σ → j_X12_closes 0 nₓ 5 [] σ = some (rₓ, σ') → OKM F N σ' ∧ OKS σ' ∧ TN σ' ∧ KU σ σ' ∧ St F N (cfgM F N 7 (SM σ) σ) (cfgM F N 7 (SM σ') σ') ∧ ¬ (byteIs F N (sk F N (σ' 0 14)) 93 = true ∧ INS σ') := by
  intro nₓ
  induction nₓ with
  | zero => intro σ hₓ hsₓ htₓ eₓ; exact none_el eₓ
  | succ nₓ ihₓ =>
    intro σ hₓ hsₓ htₓ eₓ
    rw [e_X12_closes_5] at eₓ
    unfold b_X12_closes_5 b_X12_closes_64 at eₓ
    have hq0ₓ : 0 ≤ sk F N (σ 0 14) := Int.le_trans hₓ.2.1.1 sk_ge
    obtain ⟨r1ₓ, s1ₓ, e1ₓ, eₓ⟩ := mCall_el eₓ
    obtain ⟨rfl, rfl⟩ := r_seem hₓ.1 hₓ.2.1.1 e1ₓ
    obtain ⟨h1ₓ, hc1ₓ⟩ := OKM.stay (ℓ := 7) (S := SM σ) hₓ
    have k1ₓ : KS σ (upS σ 0 14 (sk F N (σ 0 14))) := KS.up (Or.inl rfl)
    obtain ⟨x22ₓ, x9ₓ, x19ₓ⟩ := k1ₓ.s
    have hs1ₓ := hsₓ.eq x22ₓ x9ₓ x19ₓ
    have ht1ₓ := htₓ.eq x22ₓ x9ₓ
    have eS1 := SM_eq x22ₓ x9ₓ
    have n1ₓ : upS σ 0 14 (sk F N (σ 0 14)) 0 14 = sk F N (σ 0 14) := upS_s
    by_cases c93ₓ : bt F N (sk F N (σ 0 14)) = 93
    · rw [mIf_neg (fun qₓ => qₓ c93ₓ)] at eₓ
      have hbₓ := bt_lt (by decide) c93ₓ
      obtain ⟨r2ₓ, s2ₓ, e2ₓ, eₓ⟩ := mCall_el eₓ
      obtain ⟨hiₓ, rfl⟩ := r_isInside e2ₓ
      rcases hiₓ with ⟨rfl, hiₓ⟩ | ⟨rfl, hiₓ⟩
      · rw [mIf_neg (show ¬ (1 : Int) = 0 by decide)] at eₓ
        obtain ⟨r3ₓ, s3ₓ, e3ₓ, eₓ⟩ := mCall_el eₓ
        obtain ⟨j1ₓ, j2ₓ, j3ₓ, j4ₓ, j5ₓ, j6ₓ⟩ := r_settles (by decide) (by decide) h1ₓ hs1ₓ e3ₓ
        obtain ⟨a1ₓ, a2ₓ, a3ₓ, a4ₓ, a5ₓ⟩ := id j1ₓ
        obtain ⟨kₓ, kk1, kk2⟩ := j5ₓ hiₓ
        have hoₓ : 0 < s3ₓ 0 22 := by omega
        have htopₓ : s3ₓ 9 (s3ₓ 0 22 - 1).toNat = 91 := by
          rcases j4ₓ with j4ₓ | j4ₓ
          · omega
          · have := a4ₓ (s3ₓ 0 22 - 1).toNat (by omega)
            unfold str at j4ₓ
            rcases this with zₓ | zₓ | zₓ | zₓ
            · rw [zₓ, if_neg (by decide), if_neg (by decide), if_pos rfl] at j4ₓ; omega
            · exact zₓ
            · rw [zₓ, if_neg (by decide), if_pos rfl] at j4ₓ; omega
            · rw [zₓ, if_pos rfl] at j4ₓ; omega
        have n3ₓ : s3ₓ 0 14 = sk F N (σ 0 14) := (j2ₓ 0 14 (by omega)).trans n1ₓ
        rw [mRd_e, mLet_e, mWr_e, mRd_e, mLet_e, mWr_e, mRd_e, mLet_e, mWr_e, upS_n (show ¬ ((0 : Nat) = 0 ∧ (19 : Nat) = 22) by decide), upS_n (show ¬ ((0 : Nat) = 0 ∧ (14 : Nat) = 19) by decide), upS_n (show ¬ ((0 : Nat) = 0 ∧ (14 : Nat) = 22) by decide), n3ₓ] at eₓ
        obtain ⟨τ, hₓτ⟩ : ∃ τ, τ = upS (upS (upS s3ₓ 0 22 (s3ₓ 0 22 - 1)) 0 19 (s3ₓ 0 19 - 1)) 0 14 (sk F N (σ 0 14) + 1) := ⟨_, rfl⟩
        rw [← hₓτ] at eₓ
        have t22ₓ : τ 0 22 = s3ₓ 0 22 - 1 := by rw [hₓτ, upS_n (by omega), upS_n (by omega)]; exact upS_s
        have t19ₓ : τ 0 19 = s3ₓ 0 19 - 1 := by rw [hₓτ, upS_n (by omega)]; exact upS_s
        have t14ₓ : τ 0 14 = sk F N (σ 0 14) + 1 := by rw [hₓτ]; exact upS_s
        have t9ₓ : ∀ kₓ : Nat, τ 9 kₓ = s3ₓ 9 kₓ := fun kₓ => by rw [hₓτ, upS_n (by omega), upS_n (by omega), upS_n (by omega)]
        have tq : ∀ qₓ kₓ : Nat, ¬ (qₓ = 0 ∧ kₓ = 14) → ¬ (qₓ = 0 ∧ kₓ = 19) → ¬ (qₓ = 0 ∧ kₓ = 22) → τ qₓ kₓ = s3ₓ qₓ kₓ := fun qₓ kₓ z1ₓ z2ₓ z3ₓ => by rw [hₓτ, upS_n z1ₓ, upS_n z2ₓ, upS_n z3ₓ]
        have eT : SM s3ₓ = true :: SM τ := by
          rw [SM_top hoₓ, htopₓ, if_neg (by decide), if_pos rfl]
          congr 1
          unfold SM; rw [t22ₓ]; exact (opS_congr _ (fun jₓ _ => t9ₓ jₓ)).symm
        have hsₓτ : OKS τ := by
          unfold OKS
          rw [t22ₓ, t19ₓ]
          rw [eT, List.length_cons] at a2ₓ
          exact ⟨by omega, by omega, by omega, fun kₓ hkₓ => by rw [t9ₓ]; exact a4ₓ kₓ (by omega), fun kₓ hkₓ => by rw [t9ₓ, t9ₓ]; exact a5ₓ kₓ (by omega)⟩
        have h3ₓ := h1ₓ.kw j2ₓ
        have hokₓτ : OKM F N τ := by
          obtain ⟨b1ₓ, b2ₓ, b3ₓ, b4ₓ, b5ₓ⟩ := h3ₓ
          refine ⟨⟨(tq 0 1 (by omega) (by omega) (by omega)).trans b1ₓ.1, fun jₓ z0ₓ z1ₓ => by rw [tq 1 jₓ.toNat (by omega) (by omega) (by omega)]; exact b1ₓ.2 jₓ z0ₓ z1ₓ⟩, by rw [t14ₓ]; omega, ?_, ?_, ?_⟩
          · rw [tq 0 15 (by omega) (by omega) (by omega)]; exact b3ₓ
          · rw [tq 0 18 (by omega) (by omega) (by omega)]; exact b4ₓ
          · rw [tq 0 18 (by omega) (by omega) (by omega)]; exact b5ₓ
        have kuτ : KU σ τ := (k1ₓ.ku.tr j2ₓ.ku).tr (fun qₓ kₓ cₓ => tq qₓ kₓ (by omega) (by omega) (by omega))
        have stₓτ : St F N (cfgM F N 7 (SM σ) σ) (cfgM F N 7 (SM τ) τ) := by
          rw [← hc1ₓ, ← eS1]
          refine j3ₓ.tr (St_one ?_)
          rw [eT]
          unfold cfgM
          rw [n3ₓ, sk_idem, t14ₓ, tq 0 18 (by omega) (by omega) (by omega), tq 0 20 (by omega) (by omega) (by omega)]
          show (if byteIs F N (sk F N (σ 0 14)) 93 = true then _ else _) = _
          rw [if_pos (byteIs_t hbₓ.1 hbₓ.2)]
        obtain ⟨r4ₓ, s4ₓ, e4ₓ, eₓ⟩ := mCall_el eₓ
        obtain ⟨l1ₓ, l2ₓ, l3ₓ, l4ₓ, l5ₓ, l6ₓ⟩ := r_settles (by decide) (by decide) hokₓτ hsₓτ e4ₓ
        obtain ⟨i1ₓ, i2ₓ, i3ₓ, i4ₓ, i5ₓ, i6ₓ⟩ := ihₓ s4ₓ (hokₓτ.kw l2ₓ) l1ₓ (str_tn (by decide) l4ₓ) eₓ
        exact ⟨i1ₓ, i2ₓ, i3ₓ, (kuτ.tr l2ₓ.ku).tr i4ₓ, (stₓτ.tr l3ₓ).tr i5ₓ, i6ₓ⟩
      · rw [mIf_pos rfl] at eₓ
        obtain ⟨rfl, rfl⟩ := some_el eₓ
        exact ⟨h1ₓ, hs1ₓ, ht1ₓ, k1ₓ.ku, by rw [eS1, hc1ₓ]; exact St_rf, fun zₓ => hiₓ zₓ.2⟩
    · rw [mIf_pos c93ₓ] at eₓ
      obtain ⟨rfl, rfl⟩ := some_el eₓ
      exact ⟨h1ₓ, hs1ₓ, ht1ₓ, k1ₓ.ku, by rw [eS1, hc1ₓ]; exact St_rf, fun zₓ => byteIs_n c93ₓ (by decide) (by rw [n1ₓ, sk_idem] at zₓ; exact zₓ.1)⟩
theorem r_closes (hₓ : OKM F N σ) (hsₓ : OKS σ) (eₓ : m_X12_closes nₓ 0 σ = some (rₓ, σ')) : OKM F N σ' ∧ OKS σ' ∧ TN σ' ∧ KU σ σ' ∧ St F N (cfgM F N 7 (SM σ) σ) (cfgM F N 7 (SM σ') σ') ∧ ¬ (byteIs F N (sk F N (σ' 0 14)) 93 = true ∧ INS σ') := by
  unfold m_X12_closes at eₓ
  obtain ⟨r1ₓ, s1ₓ, e1ₓ, eₓ⟩ := mCall_el eₓ
  obtain ⟨l1ₓ, l2ₓ, l3ₓ, l4ₓ, l5ₓ, l6ₓ⟩ := r_settles (by decide) (by decide) hₓ hsₓ e1ₓ
  obtain ⟨i1ₓ, i2ₓ, i3ₓ, i4ₓ, i5ₓ, i6ₓ⟩ := r_closes0 nₓ s1ₓ (hₓ.kw l2ₓ) l1ₓ (str_tn (by decide) l4ₓ) eₓ
  exact ⟨i1ₓ, i2ₓ, i3ₓ, l2ₓ.ku.tr i4ₓ, l3ₓ.tr i5ₓ, i6ₓ⟩
/-- aₓ joining word passed, what binds as strong settled, it waits -/
theorem r_join {J : Nat → List Int → SS → RR} {vₓ : Int} {W : List Int} (hₓ : OKM F N σ) (hsₓ : OKS σ) (htₓ : TN σ) (hjₓ : joinAt F N (σ 0 14) = true) (hqₓ : sk F N (σ 0 14) = σ 0 14) (hwₓ : wₓ = 12 ∨ wₓ = 13) (eₓ : b_X12_tested_76 J nₓ 0 vₓ wₓ σ = some (rₓ, σ')) : ∃ τ : SS, OKM F N τ ∧ OKS τ ∧ KU σ τ ∧ St F N (cfgM F N 7 (SM σ) σ) (cfgM F N 2 (SM τ) τ) ∧ J 12 [vₓ] τ = some (rₓ, σ') := by
  unfold b_X12_tested_76 at eₓ
  obtain ⟨r1ₓ, s1ₓ, e1ₓ, eₓ⟩ := mCall_el eₓ
  have hs1ₓ := r_passWordm hₓ.1 hₓ.2.1.1 e1ₓ
  subst hs1ₓ
  have hw0ₓ : 0 ≤ wd F N (σ 0 14) := Int.le_trans hₓ.2.1.1 wd_ge
  have hwNₓ : wd F N (σ 0 14) ≤ N := wd_ub hₓ.2.1.2
  have k1ₓ : KS σ (upS σ 0 14 (wd F N (σ 0 14))) := KS.up (Or.inl rfl)
  obtain ⟨x22ₓ, x9ₓ, x19ₓ⟩ := k1ₓ.s
  have hS1ₓ := SM_eq x22ₓ x9ₓ
  have h1ₓ := hₓ.mv hw0ₓ hwNₓ
  rw [r_strength, mCall_s] at eₓ
  obtain ⟨r2ₓ, s2ₓ, e2ₓ, eₓ⟩ := mCall_el eₓ
  have hstrₓ : 1 ≤ str wₓ ∧ str wₓ ≤ 2 := by
    rcases hwₓ with rfl | rfl
    · decide
    · decide
  obtain ⟨l1ₓ, l2ₓ, l3ₓ, l4ₓ, l5ₓ, l6ₓ⟩ := r_settles hstrₓ.1 (by omega) h1ₓ (hsₓ.eq x22ₓ x9ₓ x19ₓ) e2ₓ
  have eS2 : SM s2ₓ = SM σ := (l6ₓ (htₓ.eq x22ₓ x9ₓ)).trans hS1ₓ
  obtain ⟨a1ₓ, a2ₓ, a3ₓ, a4ₓ, a5ₓ⟩ := id l1ₓ
  rw [mRd_e, mWr_e, mRd_e, upS_q (show (0 : Nat) ≠ 9 by decide), mLet_e, mWr_e] at eₓ
  have b9ₓ : ∀ kₓ : Nat, upS (upS s2ₓ 9 (s2ₓ 0 22).toNat wₓ) 0 22 (s2ₓ 0 22 + 1) 9 kₓ = if kₓ = (s2ₓ 0 22).toNat then wₓ else s2ₓ 9 kₓ := by
    intro kₓ
    rw [upS_q (by decide)]
    by_cases ck : kₓ = (s2ₓ 0 22).toNat
    · rw [if_pos ck, ck]; exact upS_s
    · rw [if_neg ck, upS_k ck]
  have b22ₓ : upS (upS s2ₓ 9 (s2ₓ 0 22).toNat wₓ) 0 22 (s2ₓ 0 22 + 1) 0 22 = s2ₓ 0 22 + 1 := upS_s
  have bq : ∀ qₓ kₓ : Nat, qₓ ≠ 9 → ¬ (qₓ = 0 ∧ kₓ = 22) → upS (upS s2ₓ 9 (s2ₓ 0 22).toNat wₓ) 0 22 (s2ₓ 0 22 + 1) qₓ kₓ = s2ₓ qₓ kₓ := fun qₓ kₓ z1ₓ z2ₓ => by rw [upS_n z2ₓ, upS_q z1ₓ]
  have eS : SM (upS (upS s2ₓ 9 (s2ₓ 0 22).toNat wₓ) 0 22 (s2ₓ 0 22 + 1)) = SM s2ₓ := by
    rw [SM_top (by rw [b22ₓ]; omega), b22ₓ, show (s2ₓ 0 22 + 1 - 1).toNat = (s2ₓ 0 22).toNat by omega, b9ₓ, if_pos rfl, if_neg (by omega), if_neg (by omega)]
    exact opS_congr _ (fun jₓ hjₓ => by rw [b9ₓ, if_neg (by omega)])
  have hs2ₓ : OKS (upS (upS s2ₓ 9 (s2ₓ 0 22).toNat wₓ) 0 22 (s2ₓ 0 22 + 1)) := by
    unfold OKS
    rw [b22ₓ, eS, bq 0 19 (by decide) (by decide)]
    refine ⟨by omega, a2ₓ, a3ₓ, fun kₓ hkₓ => ?_, fun kₓ hkₓ => ?_⟩
    · rw [b9ₓ]
      by_cases ck : kₓ = (s2ₓ 0 22).toNat
      · rw [if_pos ck]; omega
      · rw [if_neg ck]; exact a4ₓ kₓ (by omega)
    · rw [b9ₓ, b9ₓ]
      by_cases ck : kₓ + 1 = (s2ₓ 0 22).toNat
      · rw [if_neg (show ¬ kₓ = (s2ₓ 0 22).toNat by omega)]
        intro _
        rcases str_tn (by omega) l4ₓ with zₓ | zₓ
        · omega
        · rw [show (s2ₓ 0 22 - 1).toNat = kₓ by omega] at zₓ; exact zₓ
      · rw [if_neg ck, if_neg (by omega)]; exact a5ₓ kₓ (by omega)
  have h2ₓ := h1ₓ.kw l2ₓ
  refine ⟨_, ?_, hs2ₓ, ?_, ?_, eₓ⟩
  · obtain ⟨c1ₓ, c2ₓ, c3ₓ, c4ₓ, c5ₓ⟩ := h2ₓ
    refine ⟨⟨(bq 0 1 (by decide) (by decide)).trans c1ₓ.1, fun jₓ z0ₓ z1ₓ => by rw [bq 1 jₓ.toNat (by decide) (by omega)]; exact c1ₓ.2 jₓ z0ₓ z1ₓ⟩, ?_, ?_, ?_, ?_⟩
    · rw [bq 0 14 (by decide) (by decide)]; exact c2ₓ
    · rw [bq 0 15 (by decide) (by decide)]; exact c3ₓ
    · rw [bq 0 18 (by decide) (by decide)]; exact c4ₓ
    · rw [bq 0 18 (by decide) (by decide)]; exact c5ₓ
  · exact (k1ₓ.ku.tr l2ₓ.ku).tr (fun qₓ kₓ cₓ => bq qₓ kₓ (by omega) (by omega))
  · rw [eS, eS2]
    refine St_one ?_
    unfold cfgM
    rw [bq 0 14 (by decide) (by decide), bq 0 18 (by decide) (by decide), bq 0 20 (by decide) (by decide), l2ₓ 0 14 (by omega), l2ₓ 0 18 (by omega), l2ₓ 0 20 (by omega), upS_s, upS_n (by omega), upS_n (by omega), hqₓ]
    exact step7_join (hsₓ.ts htₓ) hjₓ
theorem r_tested0 {c0ₓ : Cfg} : ∀ (nₓ : Nat) (vₓ : Int) (σ : SS), OKM F N σ → OKS σ → ((vₓ = 1 ∧ St F N c0ₓ (cfgM F N 2 (SM σ) σ)) ∨ (vₓ = 0 ∧ TN σ ∧ joinAt F N (sk F N (σ 0 14)) = false ∧ ¬ (byteIs F N (sk F N (σ 0 14)) 93 = true ∧ INS σ) ∧ St F N c0ₓ (cfgM F N 7 (SM σ) σ))) → j_X12_tested 0 nₓ 12 [vₓ] σ = some (rₓ, σ') → KU σ σ' ∧ ((rₓ = 1 ∧ OKM F N σ' ∧ St F N c0ₓ (cfgM F N 8 [] σ')) ∨ (rₓ = 0 ∧ σ' 0 15 ≠ 0 ∧ St F N c0ₓ (halt (σ' 0 15)))) := by
  intro nₓ
  induction nₓ with
  | zero => intro vₓ σ hₓ hsₓ hv eₓ; exact none_el eₓ
  | succ nₓ ihₓ =>
    intro vₓ σ hₓ hsₓ hv eₓ
    rw [e_X12_tested_12] at eₓ
    unfold b_X12_tested_12 at eₓ
    rcases hv with ⟨rfl, stₓ⟩ | ⟨rfl, htₓ, hjₓ, hbₓ, stₓ⟩
    · rw [mIf_neg (show ¬ (1 : Int) = 0 by decide)] at eₓ
      obtain ⟨r1ₓ, s1ₓ, e1ₓ, eₓ⟩ := mCall_el eₓ
      obtain ⟨k1ₓ, h1ₓ⟩ := r_fact hₓ hsₓ e1ₓ
      rcases h1ₓ with ⟨rfl, h1ₓ, hs1ₓ, st1ₓ⟩ | ⟨rfl, h1ₓ, st1ₓ⟩
      · rw [mIf_pos (show ¬ (1 : Int) = 0 by decide)] at eₓ
        obtain ⟨r2ₓ, s2ₓ, e2ₓ, eₓ⟩ := mCall_el eₓ
        obtain ⟨h2ₓ, hs2ₓ, ht2ₓ, k2ₓ, st2ₓ, hb2ₓ⟩ := r_closes h1ₓ hs1ₓ e2ₓ
        have st7ₓ := (stₓ.tr st1ₓ).tr st2ₓ
        have hq0ₓ : 0 ≤ sk F N (s2ₓ 0 14) := Int.le_trans h2ₓ.2.1.1 sk_ge
        obtain ⟨h3ₓ, hc3ₓ⟩ := OKM.stay (ℓ := 7) (S := SM s2ₓ) h2ₓ
        have k3ₓ : KS s2ₓ (upS s2ₓ 0 14 (sk F N (s2ₓ 0 14))) := KS.up (Or.inl rfl)
        obtain ⟨x22ₓ, x9ₓ, x19ₓ⟩ := k3ₓ.s
        have hs3ₓ := hs2ₓ.eq x22ₓ x9ₓ x19ₓ
        have ht3ₓ := ht2ₓ.eq x22ₓ x9ₓ
        have eS3 := SM_eq x22ₓ x9ₓ
        have n3ₓ : upS s2ₓ 0 14 (sk F N (s2ₓ 0 14)) 0 14 = sk F N (s2ₓ 0 14) := upS_s
        have ku3 : KU σ (upS s2ₓ 0 14 (sk F N (s2ₓ 0 14))) := (k1ₓ.tr k2ₓ).tr k3ₓ.ku
        have st3ₓ : St F N c0ₓ (cfgM F N 7 (SM (upS s2ₓ 0 14 (sk F N (s2ₓ 0 14)))) (upS s2ₓ 0 14 (sk F N (s2ₓ 0 14)))) := by rw [eS3, hc3ₓ]; exact st7ₓ
        have isW : ∀ {wₓ : Int} {W : List Int} {r'ₓ : Int} {s'ₓ : SS}, WD wₓ W → m_X12_isWord nₓ 0 wₓ (upS s2ₓ 0 14 (sk F N (s2ₓ 0 14))) = some (r'ₓ, s'ₓ) → ((isWd F N (sk F N (s2ₓ 0 14)) W = true ∧ r'ₓ = 1) ∨ (isWd F N (sk F N (s2ₓ 0 14)) W = false ∧ r'ₓ = 0)) ∧ s'ₓ = upS s2ₓ 0 14 (sk F N (s2ₓ 0 14)) := by
          intro wₓ W r'ₓ s'ₓ hWₓ eₓ
          have hzₓ := r_isWord hWₓ h3ₓ.1 h3ₓ.2.1.1 eₓ
          rw [n3ₓ, sk_idem, upS_upS] at hzₓ
          exact hzₓ
        have join : ∀ (wₓ : Int), joinAt F N (sk F N (s2ₓ 0 14)) = true → (wₓ = 12 ∨ wₓ = 13) → b_X12_tested_76 (j_X12_tested 0 nₓ) nₓ 0 1 wₓ (upS s2ₓ 0 14 (sk F N (s2ₓ 0 14))) = some (rₓ, σ') → KU σ σ' ∧ ((rₓ = 1 ∧ OKM F N σ' ∧ St F N c0ₓ (cfgM F N 8 [] σ')) ∨ (rₓ = 0 ∧ σ' 0 15 ≠ 0 ∧ St F N c0ₓ (halt (σ' 0 15)))) := by
          intro wₓ hjwₓ hwₓ eₓ
          obtain ⟨τ, t1ₓ, t2ₓ, t3ₓ, t4ₓ, t5ₓ⟩ := r_join (W := []) h3ₓ hs3ₓ ht3ₓ (by rw [n3ₓ]; exact hjwₓ) (by rw [n3ₓ, sk_idem]) hwₓ eₓ
          obtain ⟨i1ₓ, i2ₓ⟩ := ihₓ 1 τ t1ₓ t2ₓ (Or.inl ⟨rfl, st3ₓ.tr t4ₓ⟩) t5ₓ
          exact ⟨(ku3.tr t3ₓ).tr i1ₓ, i2ₓ⟩
        have more : joinAt F N (sk F N (s2ₓ 0 14)) = true → b_X12_tested_49 (j_X12_tested 0 nₓ) nₓ 0 (upS s2ₓ 0 14 (sk F N (s2ₓ 0 14))) = some (rₓ, σ') → KU σ σ' ∧ ((rₓ = 1 ∧ OKM F N σ' ∧ St F N c0ₓ (cfgM F N 8 [] σ')) ∨ (rₓ = 0 ∧ σ' 0 15 ≠ 0 ∧ St F N c0ₓ (halt (σ' 0 15)))) := by
          intro hjwₓ eₓ
          unfold b_X12_tested_49 b_X12_tested_54 at eₓ
          rw [mIf_neg (show ¬ (1 : Int) = 0 by decide)] at eₓ
          obtain ⟨r3ₓ, s3ₓ, e3ₓ, eₓ⟩ := mCall_el eₓ
          obtain ⟨hw3ₓ, rfl⟩ := isW (W := wAnd) (by unfold WD; decide) e3ₓ
          rcases hw3ₓ with ⟨-, rfl⟩ | ⟨-, rfl⟩
          · rw [mIf_neg (show ¬ (1 : Int) = 0 by decide)] at eₓ; exact join 12 hjwₓ (Or.inl rfl) eₓ
          · rw [mIf_pos rfl] at eₓ; exact join 13 hjwₓ (Or.inr rfl) eₓ
        obtain ⟨r3ₓ, s3ₓ, e3ₓ, eₓ⟩ := mCall_el eₓ
        have hw3ₓ := r_isWord (W := wAnd) (by unfold WD; decide) h2ₓ.1 h2ₓ.2.1.1 e3ₓ
        obtain ⟨hw3ₓ, rfl⟩ := hw3ₓ
        rcases hw3ₓ with ⟨haₓ, rfl⟩ | ⟨haₓ, rfl⟩
        · rw [mIf_pos (show ¬ (1 : Int) = 0 by decide)] at eₓ
          exact more (joinAt_i.mpr (Or.inl haₓ)) eₓ
        · rw [mIf_neg (fun qₓ => qₓ rfl)] at eₓ
          obtain ⟨r4ₓ, s4ₓ, e4ₓ, eₓ⟩ := mCall_el eₓ
          obtain ⟨hw4ₓ, rfl⟩ := isW (W := wOr) (by unfold WD; decide) e4ₓ
          rcases hw4ₓ with ⟨hoₓ, rfl⟩ | ⟨hoₓ, rfl⟩
          · rw [mIf_neg (show ¬ (1 : Int) = 0 by decide)] at eₓ
            exact more (joinAt_i.mpr (Or.inr hoₓ)) eₓ
          · rw [mIf_pos rfl] at eₓ
            unfold b_X12_tested_54 at eₓ
            rw [mIf_pos rfl] at eₓ
            have hjfₓ : joinAt F N (sk F N (s2ₓ 0 14)) = false := by unfold joinAt; rw [haₓ, hoₓ]; rfl
            obtain ⟨i1ₓ, i2ₓ⟩ := ihₓ 0 _ h3ₓ hs3ₓ (Or.inr ⟨rfl, ht3ₓ, by rw [n3ₓ, sk_idem]; exact hjfₓ, fun zₓ => hb2ₓ ⟨by rw [n3ₓ, sk_idem] at zₓ; exact zₓ.1, zₓ.2.eq x22ₓ.symm (fun kₓ => (x9ₓ kₓ).symm)⟩, st3ₓ⟩) eₓ
            exact ⟨ku3.tr i1ₓ, i2ₓ⟩
      · rw [mIf_neg (fun qₓ => qₓ rfl)] at eₓ
        obtain ⟨rfl, rfl⟩ := some_el eₓ
        exact ⟨k1ₓ, Or.inr ⟨rfl, h1ₓ, stₓ.tr st1ₓ⟩⟩
    · rw [mIf_pos rfl] at eₓ
      obtain ⟨r1ₓ, s1ₓ, e1ₓ, eₓ⟩ := mCall_el eₓ
      obtain ⟨hiₓ, hqₓ⟩ := r_isInside e1ₓ
      have hqₓ := hqₓ.symm
      subst hqₓ
      rcases hiₓ with ⟨rfl, hiₓ⟩ | ⟨rfl, hiₓ⟩
      · rw [mIf_neg (show ¬ (1 : Int) = 0 by decide)] at eₓ
        obtain ⟨r2ₓ, s2ₓ, e2ₓ, eₓ⟩ := mCall_el eₓ
        obtain ⟨rfl, rfl⟩ := r_seem hₓ.1 hₓ.2.1.1 e2ₓ
        rw [mRd_e, upS_s, r_fails ((upS_n (by omega)).trans hₓ.2.2.1), mCall_s, Int.add_zero] at eₓ
        obtain ⟨rfl, rfl⟩ := some_el eₓ
        have hq0ₓ : 0 ≤ sk F N (σ 0 14) := Int.le_trans hₓ.2.1.1 sk_ge
        refine ⟨((KS.up (Or.inl rfl)).tr (KS.up (Or.inr (Or.inl rfl)))).ku, Or.inr ⟨rfl, by rw [upS_s]; omega, ?_⟩⟩
        rw [upS_s]
        have hTₓ := hsₓ.ts htₓ
        have hmₓ := (INS_iff hsₓ.1).mp hiₓ
        rcases hTₓ with hTₓ | ⟨T, hTₓ⟩
        · rw [hTₓ] at hmₓ; cases hmₓ
        · refine stₓ.tr (St_one ?_)
          rw [hTₓ]
          show (if byteIs F N (sk F N (σ 0 14)) 93 = true then _ else if joinAt F N (sk F N (σ 0 14)) = true then _ else _) = _
          rw [if_neg (fun zₓ => hbₓ ⟨zₓ, hiₓ⟩), hjₓ, if_neg (by decide)]
      · rw [mIf_pos rfl] at eₓ
        obtain ⟨r2ₓ, s2ₓ, e2ₓ, eₓ⟩ := mCall_el eₓ
        obtain ⟨rfl, rfl⟩ := some_el eₓ
        obtain ⟨l1ₓ, l2ₓ, l3ₓ, l4ₓ, l5ₓ, l6ₓ⟩ := r_settles (by decide) (by decide) hₓ hsₓ e2ₓ
        refine ⟨l2ₓ.ku, Or.inl ⟨rfl, hₓ.kw l2ₓ, ?_⟩⟩
        have hTₓ := hsₓ.ts htₓ
        have hmₓ : ¬ true ∈ SM σ := fun zₓ => hiₓ ((INS_iff hsₓ.1).mpr zₓ)
        rcases hTₓ with hTₓ | ⟨T, hTₓ⟩
        · rw [hTₓ] at stₓ
          rw [cfgM_kw l2ₓ]
          exact stₓ.tr (St_one (step7e hjₓ))
        · rw [hTₓ] at hmₓ; exact absurd List.mem_cons_self hmₓ
theorem r_tested (hₓ : OKM F N σ) (eₓ : m_X12_tested nₓ 0 σ = some (rₓ, σ')) : KU σ σ' ∧ ((rₓ = 1 ∧ OKM F N σ' ∧ St F N (cfgM F N 2 [] σ) (cfgM F N 8 [] σ')) ∨ (rₓ = 0 ∧ σ' 0 15 ≠ 0 ∧ St F N (cfgM F N 2 [] σ) (halt (σ' 0 15)))) := by
  unfold m_X12_tested at eₓ
  rw [mWr_e, mWr_e] at eₓ
  have bq : ∀ qₓ kₓ : Nat, ¬ (qₓ = 0 ∧ kₓ = 22) → ¬ (qₓ = 0 ∧ kₓ = 19) → upS (upS σ 0 22 0) 0 19 0 qₓ kₓ = σ qₓ kₓ := fun qₓ kₓ z1ₓ z2ₓ => by rw [upS_n z2ₓ, upS_n z1ₓ]
  have b22ₓ : upS (upS σ 0 22 0) 0 19 0 0 22 = 0 := by rw [upS_n (by omega)]; exact upS_s
  have b19ₓ : upS (upS σ 0 22 0) 0 19 0 0 19 = 0 := upS_s
  have kw : KW σ (upS (upS σ 0 22 0) 0 19 0) := fun qₓ kₓ cₓ => bq qₓ kₓ (by omega) (by omega)
  have eS : SM (upS (upS σ 0 22 0) 0 19 0) = [] := by unfold SM; rw [b22ₓ]; rfl
  have hsₓ : OKS (upS (upS σ 0 22 0) 0 19 0) := by
    unfold OKS; rw [b22ₓ, b19ₓ, eS]
    exact ⟨by decide, rfl, by decide, fun kₓ hkₓ => absurd hkₓ (by omega), fun kₓ hkₓ => absurd hkₓ (by omega)⟩
  obtain ⟨i1ₓ, i2ₓ⟩ := r_tested0 (c0ₓ := cfgM F N 2 [] σ) nₓ 1 _ (hₓ.kw kw) hsₓ (Or.inl ⟨rfl, by rw [eS, cfgM_kw kw]; exact St_rf⟩) eₓ
  exact ⟨kw.ku.tr i1ₓ, i2ₓ⟩
end
