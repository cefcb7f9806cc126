section
variable {F : Int → Int} {N : Int} {qr ℓ ℓ' : Nat} {S S' : List Bool} {σ σ' : SS} {p g φ r t : Int} {n : Nat}
/-- cells that reading a rule leaves: the object's own, the tape's bytes -/
def K0 (σ σ' : SS) : Prop := ∀ q k : Nat, (q = 0 ∨ q = 2 ∨ (q = 1 ∧ k = 2)) → σ' q k = σ q k
theorem K0.rf : K0 σ σ := fun _ _ _ => rfl
theorem K0.tr {σ'' : SS} (h : K0 σ σ') (g : K0 σ' σ'') : K0 σ σ'' := fun q k e => (g q k e).trans (h q k e)
theorem Kp.k0 (h : Kp qr σ σ') : K0 σ σ' := fun q k e => h q k (by omega)
theorem CV.k0 (h : CV F N σ) (e : K0 σ σ') : CV F N σ' := ⟨(e 1 2 (by omega)).trans h.1, fun j h0 h1 => (e 2 _ (by omega)).trans (h.2.1 j h0 h1), h.2.2⟩
theorem c_isFull : m_X2_isFull n qr σ = some (if σ qr 4 < 12 then 0 else 1, σ) := by
  unfold m_X2_isFull
  rw [mRd_e]
  by_cases c : σ qr 4 < 12
  · rw [mIf_pos c, if_pos c, mRet_e]
  · rw [mIf_neg c, if_neg c, mRet_e]
/-- what a clause added changes: the rule alone -/
theorem c_addClause (hq : 5 ≤ qr) (e : m_X2_addClause n qr t σ = some (r, σ')) : (∀ q k : Nat, q < 5 → σ' q k = σ q k) ∧ σ' qr 4 = if σ qr 4 < 12 then σ qr 4 + 1 else σ qr 4 := by
  unfold m_X2_addClause at e
  rw [c_isFull, mCall_s] at e
  unfold b_X2_addClause_61 at e
  by_cases c : σ qr 4 < 12
  · rw [if_pos c, mIf_neg (fun q => q rfl)] at e
    simp only [mRd_e, mWr_e, mLet_e, mRet_e] at e
    rw [if_pos c]
    have fin : ∀ (z : Int), some ((0 : Int), upS (upS (upS (upS σ (qr + 1) (σ qr 4).toNat t) qr 5 z) qr 4 (upS (upS σ (qr + 1) (σ qr 4).toNat t) qr 5 z qr 4 + 1)) (qr + 2) (upS (upS (upS σ (qr + 1) (σ qr 4).toNat t) qr 5 z) qr 4 (upS (upS σ (qr + 1) (σ qr 4).toNat t) qr 5 z qr 4 + 1) qr 4).toNat (upS (upS (upS σ (qr + 1) (σ qr 4).toNat t) qr 5 z) qr 4 (upS (upS σ (qr + 1) (σ qr 4).toNat t) qr 5 z qr 4 + 1) qr 3)) = some (r, σ') → (∀ q k : Nat, q < 5 → σ' q k = σ q k) ∧ σ' qr 4 = σ qr 4 + 1 := by
      intro z e
      obtain ⟨-, rfl⟩ := some_el e
      refine ⟨fun q k h => ?_, ?_⟩
      · rw [upS_q (by omega), upS_q (by omega), upS_q (by omega), upS_q (by omega)]
      · rw [upS_q (by omega), upS_s, upS_k (by decide), upS_q (by omega)]
    by_cases c5 : upS σ (qr + 1) (σ qr 4).toNat t qr 5 = 0
    · rw [mIf_neg (fun q => q c5)] at e
      by_cases ct : t = 1
      · rw [mIf_neg (fun q => q ct)] at e; exact fin 1 e
      · rw [mIf_pos ct] at e; exact fin 0 e
    · rw [mIf_pos c5] at e; exact fin 1 e
  · rw [if_neg c, mIf_pos (show ¬ (1 : Int) = 0 by decide)] at e
    obtain ⟨-, rfl⟩ := some_el e
    exact ⟨fun _ _ _ => rfl, by rw [if_neg c]⟩
theorem step0 {q k L : Int} : pstep F N (0, q, k, L, []) = if wDeeds.any (fun W => isWd F N q W) = true then (if 12 ≤ L then halt (1 + 8 * q + 4) else (1, sk F N (wd F N q), k, L + 1, [])) else halt (1 + 8 * q) := rfl
theorem step1 {q k L : Int} : pstep F N (1, q, k, L, []) = if isWd F N q wIf = true then (2, sk F N (wd F N q), k, L, []) else (8, q, k, L, []) := rfl
theorem step8 {q k L : Int} : pstep F N (8, q, k, L, []) = if byteIs F N q 59 = true then (0, sk F N (q + 1), k, L, []) else if q < N then halt (1 + 8 * q) else halt 0 := rfl
theorem step7e {q k L : Int} (h : joinAt F N q = false) : pstep F N (7, q, k, L, []) = (8, q, k, L, []) := by
  show (if joinAt F N q = true then _ else _) = _
  rw [h, if_neg (by decide)]
/-- behind a clause: a semicolon, the end, or a fault -/
theorem c_clauseEnd (hq : 5 ≤ qr) (h : OKC F N σ) (e : m_X6_takeSemicolon n 1 σ = some (r, σ')) : OKC F N σ' ∧ Kp qr σ σ' ∧ ((r = 1 ∧ σ' 1 4 = 0 ∧ St F N (cfgC F N qr 8 [] σ) (cfgC F N qr 0 [] σ')) ∨ (r = 0 ∧ St F N (cfgC F N qr 8 [] σ) (halt (σ' 1 4)))) := by
  rw [← tp_self (σ := σ)] at e
  have hle : σ 1 1 ≤ sk F N (σ 1 1) := sk_ge
  have hp0 := h.2.1.1
  have hN : sk F N (σ 1 1) ≤ N := sk_ub h.2.1.2.1
  rcases c_takeSemicolon h.1 h.2.1.1 e with ⟨hf, rfl, rfl⟩ | ⟨hf, hb, rfl, rfl⟩ | ⟨hf, hb, rfl, rfl⟩
  · rw [tp_self]
    refine ⟨h, Kp.rf, Or.inr ⟨rfl, ?_⟩⟩
    rw [cfg_n hf]; exact St_rf
  · have hbN := (of_decide_eq_true hb).1
    refine ⟨h.mv hf (by omega) (by omega), tp_kp hq, Or.inl ⟨rfl, tp_f, ?_⟩⟩
    rw [cfg_0 hf, cfg_tp0 hq]
    exact St_one (by rw [step8, if_pos hb])
  · rw [cfg_0 hf]
    by_cases c : sk F N (σ 1 1) < N
    · rw [if_pos c]
      refine ⟨h.blame (by omega) hN (by omega), tp_kp hq, Or.inr ⟨rfl, ?_⟩⟩
      rw [tp_f]
      exact St_one (by rw [step8, hb, if_neg (by decide), if_pos c])
    · rw [if_neg c]
      refine ⟨h.mv hf (by omega) hN, tp_kp hq, Or.inr ⟨rfl, ?_⟩⟩
      rw [tp_f]
      exact St_one (by rw [step8, hb, if_neg (by decide), if_neg c])
theorem OKC.lo (h : OKC F N σ) (e : ∀ q k : Nat, q < 5 → σ' q k = σ q k) : OKC F N σ' := by
  obtain ⟨h1, h2, h3, h4, h5⟩ := h
  unfold OKC
  rw [e 1 1 (by omega), e 3 2 (by omega), e 1 4 (by omega)]
  exact ⟨⟨(e 1 2 (by omega)).trans h1.1, fun j h0 h1' => (e 2 _ (by omega)).trans (h1.2.1 j h0 h1'), h1.2.2⟩, h2, h3, h4, h5⟩
theorem c_readInto0 (hq : 5 ≤ qr) {c0 : Cfg} : ∀ (n : Nat) (more i : Int) (σ : SS), OKC F N σ → 0 ≤ i → ((more = 0 ∧ St F N c0 (halt (σ 1 4))) ∨ (more = 1 ∧ i ≤ 12 ∧ σ qr 4 = i ∧ σ 1 4 = 0 ∧ St F N c0 (cfgC F N qr 0 [] σ))) → j_X3_readInto 3 qr n 28 [more, i] σ = some (r, σ') → K0 σ σ' ∧ St F N c0 (halt (σ' 1 4)) := by
  intro n
  induction n with
  | zero => intro more i σ h hi hm e; exact none_el e
  | succ n ih =>
    intro more i σ h hi hm e
    rw [e_X3_readInto_28] at e
    unfold b_X3_readInto_28 at e
    rcases hm with ⟨rfl, hst⟩ | ⟨rfl, hi12, hL, hf, hst⟩
    · rw [mIf_pos rfl] at e
      obtain ⟨-, rfl⟩ := some_el e
      exact ⟨K0.rf, hst⟩
    rw [mIf_neg (show ¬ (1 : Int) = 0 by decide), mIf_neg (show ¬ 12 < i by omega)] at e
    have es := es_0 hf
    rw [← es] at e
    have hp0 := h.2.1.1
    have hle : σ 1 1 ≤ sk F N (σ 1 1) := sk_ge
    have hN : sk F N (σ 1 1) ≤ N := sk_ub h.2.1.2.1
    have hq0 : 0 ≤ sk F N (σ 1 1) := Int.le_trans hp0 hle
    have hwN : wd F N (sk F N (σ 1 1)) ≤ N := wd_ub hN
    have hwq : sk F N (σ 1 1) ≤ wd F N (sk F N (σ 1 1)) := wd_ge
    rw [cfg_0 hf] at hst
    -- behind the clause's word
    have behind : ∀ (v4 : Int) (τ : SS), OKC F N τ → K0 σ τ → (τ qr 4 = σ qr 4 ∨ τ 1 4 ≠ 0) → (τ 1 4 ≠ 0 → St F N c0 (halt (τ 1 4))) → (τ 1 4 = 0 → St F N c0 (1, sk F N (τ 1 1), τ 3 2, σ qr 4 + 1, []) ∧ σ qr 4 < 12) → b_X3_readInto_74 (j_X3_readInto 3 qr n) n 3 qr i v4 τ = some (r, σ') → K0 σ σ' ∧ St F N c0 (halt (σ' 1 4)) := by
      intro v4 τ hτ hk hcl hbad hgood e
      unfold b_X3_readInto_74 at e
      obtain ⟨r1, s1, e1, e⟩ := mCall_el e
      obtain ⟨a1, a2⟩ := c_addClause hq e1
      have hs1 : OKC F N s1 := hτ.lo a1
      have hk1 : K0 σ s1 := hk.tr (fun q k c => a1 q k (by omega))
      have f14 : s1 1 4 = τ 1 4 := a1 1 4 (by omega)
      have endc : ∀ (s2 : SS), OKC F N s2 → K0 σ s2 → (s2 1 4 ≠ 0 → St F N c0 (halt (s2 1 4))) → (s2 1 4 = 0 → s2 qr 4 = i + 1 ∧ i + 1 ≤ 12 ∧ St F N c0 (cfgC F N qr 8 [] s2)) → b_X3_readInto_110 (j_X3_readInto 3 qr n) n 3 qr i s2 = some (r, σ') → K0 σ σ' ∧ St F N c0 (halt (σ' 1 4)) := by
        intro s2 h2 hk2 hb2 hg2 e
        unfold b_X3_readInto_110 at e
        obtain ⟨r3, s3, e3, e⟩ := mCall_el e
        rw [mLet_e] at e
        obtain ⟨h3, hk3, h4⟩ := c_clauseEnd hq h2 e3
        have st8 : St F N c0 (cfgC F N qr 8 [] s2) := by
          by_cases c : s2 1 4 = 0
          · exact (hg2 c).2.2
          · rw [cfg_n c]; exact hb2 c
        rcases h4 with ⟨rfl, hz, hst3⟩ | ⟨rfl, hst3⟩
        · have c : s2 1 4 = 0 := by
            by_cases c : s2 1 4 = 0
            · exact c
            · rw [cfg_n c] at hst3
              obtain ⟨j, hj⟩ := hst3
              rw [halt_stays, cfg_0 hz] at hj
              have := congrArg (fun c : Cfg => c.1) hj
              exact absurd this (by decide)
          obtain ⟨g1, g2, g3⟩ := hg2 c
          have h5 := ih 1 (i + 1) s3 h3 (by omega) (Or.inr ⟨rfl, g2, by rw [hk3 qr 4 (by omega)]; exact g1, hz, st8.tr hst3⟩) e
          exact ⟨(hk2.tr hk3.k0).tr h5.1, h5.2⟩
        · have h5 := ih 0 (i + 1) s3 h3 (by omega) (Or.inl ⟨rfl, st8.tr hst3⟩) e
          exact ⟨(hk2.tr hk3.k0).tr h5.1, h5.2⟩
      by_cases c : τ 1 4 = 0
      · obtain ⟨hst1, hlt⟩ := hgood c
        have hcl' : τ qr 4 = σ qr 4 := by rcases hcl with h | h; exact h; exact absurd c h
        rw [hcl', if_pos hlt] at a2
        have c1 : s1 1 4 = 0 := f14.trans c
        have es1 := es_0 c1
        rw [← es1, c_isFaulty, if_pos rfl, mCall_s, mIf_neg (fun q => q rfl)] at e
        obtain ⟨r2, s2, e2, e⟩ := mCall_el e
        have p1 : s1 1 1 = τ 1 1 := a1 1 1 (by omega)
        have k1 : s1 3 2 = τ 3 2 := a1 3 2 (by omega)
        have hst1' : St F N c0 (cfgC F N qr 1 [] s1) := by rw [cfg_0 c1, p1, k1, a2]; exact hst1
        rcases c_takeWord hs1.1 (k := 3) (by decide) (by decide) hs1.2.1.1 hs1.2.1.2.1 e2 with ⟨hw, rfl, rfl⟩ | ⟨hw, rfl, rfl⟩
        · rw [mIf_neg (show ¬ (1 : Int) = 0 by decide)] at e
          obtain ⟨r3, s3, e3, e⟩ := mCall_el e
          have hw' : isWd F N (sk F N (s1 1 1)) wIf = true := hw
          have hl := isWd_len hw'
          rw [show (wIf.length : Int) = 2 from rfl] at hl
          have hle1 : s1 1 1 ≤ sk F N (s1 1 1) := sk_ge
          have h1 : RS F N qr 1 2 [] [] s1 (tp s1 (wd F N (sk F N (s1 1 1))) (sk F N (s1 1 1)) 0) := RS.step hq hs1 c1 (wd_ub (sk_ub hs1.2.1.2.1)) (by omega) (by rw [step1, if_pos hw'])
          have h2 := c_readTest hq h1.1 e3
          have h3 := h1.tr h2.1
          refine endc s3 h3.1 (hk1.tr h3.2.1.k0) (fun hb => ?_) (fun hz => ?_) e
          · have := h3.2.2.2; rw [cfg_n hb] at this; exact hst1'.tr this
          · refine ⟨by rw [h3.2.1 qr 4 (by omega), a2]; omega, by omega, ?_⟩
            have h7 := hst1'.tr h3.2.2.2
            rw [cfg_0 hz] at h7 ⊢
            exact h7.tr (St_one (step7e (h2.2 hz)))
        · rw [mIf_pos rfl] at e
          have h1 : RS F N qr 1 1 [] [] s1 (tp s1 (sk F N (s1 1 1)) (sk F N (s1 1 1)) 0) := RS.stay hq hs1 c1
          refine endc _ h1.1 (hk1.tr h1.2.1.k0) (fun hb => absurd tp_f hb) (fun hz => ?_) e
          refine ⟨by rw [h1.2.1 qr 4 (by omega), a2]; omega, by omega, ?_⟩
          rw [cfg_tp0 hq, sk_idem]
          have h8 := hst1'
          rw [cfg_0 c1] at h8
          refine h8.tr (St_one ?_)
          rw [step1, if_neg (by rw [show wIf = txt 3 from rfl, hw]; decide)]
      · have c1 : s1 1 4 ≠ 0 := by rw [f14]; exact c
        rw [← tp_self (σ := s1), c_isFaulty, if_neg c1, mCall_s, mIf_pos (show ¬ (1 : Int) = 0 by decide), tp_self] at e
        refine endc s1 hs1 hk1 (fun _ => ?_) (fun hz => absurd hz c1) e
        rw [f14]; exact hbad c
    obtain ⟨r1, s1, e1, e⟩ := mCall_el e
    rcases c_readWord h.1 (k := 2) (by decide) (by decide) wls_enc.2.1 hp0 h.2.1.2.1 e1 with ⟨hr, hr0, rfl⟩ | ⟨rfl, hr, rfl⟩
    · have hany : wDeeds.any (fun W => isWd F N (sk F N (σ 1 1)) W) = true := idx_any.mp (by rw [← show wls 2 = wDeeds from rfl, ← hr]; exact hr0)
      rw [c_isFull, mCall_s, tp_o (show qr ≠ 1 by omega)] at e
      by_cases c12 : σ qr 4 < 12
      · rw [if_pos c12, mIf_pos rfl] at e
        refine behind r1 _ (h.mv hf (by omega) hwN) (tp_kp (qr := qr) hq).k0 (Or.inl (tp_o (by omega))) (fun hb => absurd tp_f hb) (fun _ => ⟨?_, c12⟩) e
        rw [tp_p, tp_o (show (3 : Nat) ≠ 1 by decide)]
        exact hst.tr (St_one (by rw [step0, if_pos hany, if_neg (by omega)]))
      · rw [if_neg c12, mIf_neg (show ¬ (1 : Int) = 0 by decide), mRd_e, tp_g, c_blame, mCall_s, blm_0] at e
        refine behind r1 _ (h.blame (by omega) hwN (by omega)) (tp_kp (qr := qr) hq).k0 (Or.inl (tp_o (by omega))) (fun _ => ?_) (fun hz => ?_) e
        · rw [tp_f]
          refine hst.tr (St_one ?_)
          rw [step0, if_pos hany, if_pos (by omega)]
          congr 1; omega
        · rw [tp_f] at hz; omega
    · have hany : ¬ wDeeds.any (fun W => isWd F N (sk F N (σ 1 1)) W) = true := fun q => by have h9 := (idx_any (F := F) (N := N) (Ws := wDeeds)).mpr q; rw [← show wls 2 = wDeeds from rfl, hr] at h9; omega
      rw [c_isFull, mCall_s, tp_o (show qr ≠ 1 by omega), blm_0] at e
      have st : St F N c0 (halt (1 + 8 * sk F N (σ 1 1))) := hst.tr (St_one (by rw [step0, if_neg hany]))
      by_cases c12 : σ qr 4 < 12
      · rw [if_pos c12, mIf_pos rfl] at e
        refine behind (-1) _ (h.blame (by omega) hN (by omega)) (tp_kp (qr := qr) hq).k0 (Or.inl (tp_o (by omega))) (fun _ => ?_) (fun hz => ?_) e
        · rw [tp_f]; exact st
        · rw [tp_f] at hz; omega
      · rw [if_neg c12, mIf_neg (show ¬ (1 : Int) = 0 by decide), mRd_e, tp_g, c_blame, mCall_s, blm_n (by omega)] at e
        refine behind (-1) _ (h.blame (by omega) hN (by omega)) (tp_kp (qr := qr) hq).k0 (Or.inl (tp_o (by omega))) (fun _ => ?_) (fun hz => ?_) e
        · rw [tp_f]; exact st
        · rw [tp_f] at hz; omega
theorem c_readInto (hq : 5 ≤ qr) (hc : CV F N σ) (h0 : 0 ≤ N) (hN : N ≤ 400) (e : m_X3_readInto n 3 qr σ = some (r, σ')) : K0 σ σ' ∧ St F N (0, sk F N 0, 0, 0, []) (halt (σ' 1 4)) := by
  unfold m_X3_readInto m_X2_clear m_X6_startReading at e
  simp only [mWr_e, mRet_e, mCall_s] at e
  obtain ⟨τ, hτ⟩ : ∃ τ, τ = upS (upS (upS (upS (upS (upS (upS σ qr 4 0) qr 3 0) qr 5 0) 3 2 0) 1 1 0) 1 3 0) 1 4 0 := ⟨_, rfl⟩
  rw [← hτ] at e
  have hk : K0 σ τ := by
    intro q k c
    rw [hτ]
    have c1 : ¬ (q = 1 ∧ k = 4) := by omega
    have c2 : ¬ (q = 1 ∧ k = 3) := by omega
    have c3 : ¬ (q = 1 ∧ k = 1) := by omega
    have n1 : ∀ {s : SS} {a b : Nat} {v : Int}, ¬ (q = a ∧ k = b) → upS s a b v q k = s q k := fun h => if_neg h
    rw [n1 c1, n1 c2, n1 c3, upS_q (by omega), upS_q (by omega), upS_q (by omega), upS_q (by omega)]
  have t14 : τ 1 4 = 0 := by rw [hτ]; exact upS_s
  have t11 : τ 1 1 = 0 := by rw [hτ, upS_k (by decide), upS_k (by decide)]; exact upS_s
  have t32 : τ 3 2 = 0 := by rw [hτ, upS_q (by decide), upS_q (by decide), upS_q (by decide)]; exact upS_s
  have tq4 : τ qr 4 = 0 := by rw [hτ, upS_q (by omega), upS_q (by omega), upS_q (by omega), upS_q (by omega), upS_k (by decide), upS_k (by decide)]; exact upS_s
  have hok : OKC F N τ := ⟨hc.k0 hk, ⟨by rw [t11]; decide, by rw [t11]; exact h0, hN⟩, by rw [t32]; decide, by rw [t32]; decide, fun _ => by rw [t32]; decide⟩
  have h1 := c_readInto0 hq (c0 := (0, sk F N 0, 0, 0, [])) n 1 0 τ hok (by decide) (Or.inr ⟨rfl, by decide, tq4, t14, by rw [cfg_0 t14, t11, t32, tq4]; exact St_rf⟩) e
  exact ⟨hk.tr h1.1, h1.2⟩
/-- rule(), of the class -/
theorem c_rule (hc : CV F N σ) (h0 : 0 ≤ N) (hN : N ≤ 400) (hr0 : 0 ≤ σ 0 12) (e : m_X11_rule n 0 σ = some (r, σ')) : (6 ≤ σ 0 12 ∧ r = -1 ∧ σ' = σ) ∨ (σ 0 12 < 6 ∧ σ' 1 2 = 0 ∧ ∃ φ : Int, St F N (0, sk F N 0, 0, 0, []) (halt φ) ∧ ((φ = 0 ∧ r = σ 0 12 ∧ σ' 0 12 = σ 0 12 + 1) ∨ (φ ≠ 0 ∧ r = -2 - φ ∧ σ' 0 12 = σ 0 12))) := by
  unfold m_X11_rule at e
  rw [mRd_e] at e
  by_cases c : σ 0 12 < 6
  · rw [mIf_pos c, mRd_e, mIx_e] at e
    have hq : 5 ≤ el 39 4 (σ 0 12).toNat := by unfold el; simp only [if_neg (show ¬ (39 : Nat) = 33 by decide), if_pos]; omega
    obtain ⟨r1, s1, e1, e⟩ := mCall_el e
    obtain ⟨hk, hst⟩ := c_readInto hq hc h0 hN e1
    have h12 : s1 0 12 = σ 0 12 := hk 0 12 (by omega)
    rw [mRd_e, mWr_e] at e
    refine Or.inr ⟨c, ?_⟩
    by_cases cf : s1 1 4 = 0
    · rw [mIf_pos cf] at e
      simp only [mRd_e, mLet_e, mWr_e, mRet_e] at e
      obtain ⟨rfl, rfl⟩ := some_el e
      rw [upS_s, upS_q (show (0 : Nat) ≠ 1 by decide), h12]
      exact ⟨by rw [upS_q (by decide)]; exact upS_s, 0, by rw [← cf]; exact hst, Or.inl ⟨rfl, by omega, rfl⟩⟩
    · rw [mIf_neg cf] at e
      simp only [mLet_e, mRet_e] at e
      obtain ⟨rfl, rfl⟩ := some_el e
      exact ⟨upS_s, s1 1 4, hst, Or.inr ⟨cf, rfl, by rw [upS_q (by decide)]; exact h12⟩⟩
  · rw [mIf_neg c] at e
    obtain ⟨rfl, rfl⟩ := some_el e
    exact Or.inl ⟨by omega, rfl, rfl⟩
end
