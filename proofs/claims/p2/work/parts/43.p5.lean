/-! the class's facts and tests, its clauses, and rule() -/
section
variable {F : Int → Int} {N : Int} {qr ℓ ℓ' : Nat} {S S' : List Bool} {σ σ' : SS} {p g φ r t : Int} {n : Nat}
theorem isWd_len {q : Int} {W : List Int} (h : isWd F N q W = true) : wd F N q = q + W.length := by
  unfold isWd at h; simp only [Bool.and_eq_true, decide_eq_true_eq] at h; exact h.1
theorem isWd_hd {q c : Int} {W : List Int} (h : isWd F N q (c :: W) = true) : F q = c := by
  unfold isWd at h; simp only [Bool.and_eq_true, decide_eq_true_eq, wEq_cons] at h; exact h.2.1
theorem wd_N {q : Int} (h : N ≤ q) : wd F N q = q := runE_stop (fun c => by omega)
theorem joinAt_N {q : Int} (h : N ≤ q) : joinAt F N q = false := by
  unfold joinAt
  have no : ∀ W : List Int, 0 < W.length → isWd F N q W = false := by
    intro W hW; refine Bool.eq_false_iff.mpr (fun c => ?_); have := isWd_len c; rw [wd_N h] at this; omega
  rw [no wAnd (by decide), no wOr (by decide)]; rfl
theorem joinAt_i {q : Int} : joinAt F N q = true ↔ (isWd F N q wAnd = true ∨ isWd F N q wOr = true) := by unfold joinAt; rw [Bool.or_eq_true]
theorem joinAt_b {q : Int} (h : joinAt F N q = true) : byteIs F N q 93 = false := by
  refine byteIs_f (fun c => ?_)
  rcases joinAt_i.mp h with h | h
  · have := isWd_hd h; omega
  · have := isWd_hd h; omega
/-- a test's brackets: none waits but a bracket that is open -/
def TS (S : List Bool) : Prop := S = [] ∨ ∃ T, S = true :: T
theorem step7_join {q k L : Int} (hS : TS S) (h : joinAt F N q = true) : pstep F N (7, q, k, L, S) = (2, sk F N (wd F N q), k, L, S) := by
  rcases hS with rfl | ⟨T, rfl⟩
  · show (if joinAt F N q = true then _ else _) = _; rw [if_pos h]
  · show (if byteIs F N q 93 = true then _ else if joinAt F N q = true then _ else _) = _
    rw [joinAt_b h, if_neg (by decide), if_pos h]
theorem RS.to7 (h : OKC F N σ) (ho : σ 1 4 = 0 → opAt F N (sk F N (σ 1 1)) = false) : RS F N qr 6 7 S S σ σ := by
  by_cases hf : σ 1 4 = 0
  · refine ⟨h, Kp.rf, Int.le_refl _, ?_⟩
    rw [cfg_0 hf, cfg_0 hf]
    refine St_one ?_
    show (if opAt F N (sk F N (σ 1 1)) = true then _ else _) = _
    rw [ho hf, if_neg (by decide)]
  · exact RS.bad h hf
theorem RS.unnot (h : OKC F N σ) : RS F N qr 7 7 (false :: S) S σ σ := by
  by_cases hf : σ 1 4 = 0
  · exact ⟨h, Kp.rf, Int.le_refl _, by rw [cfg_0 hf, cfg_0 hf]; exact St_one rfl⟩
  · exact RS.bad h hf
theorem c_compare (hq : 5 ≤ qr) (h : OKC F N σ) (e : (mCall (m_X3_readSum n qr 3 σ) fun _ s1 => mCall (m_X3_readSign n 3 s1) fun x2 s3 => mCall (m_X3_readSum n qr 3 s3) fun _ s4 => mCall (m_X2_addToken n qr x2 s4) fun _ s5 => mRet 0 s5) = some (r, σ')) : RS F N qr 3 7 S S σ σ' := by
  obtain ⟨r1, s1, e1, e⟩ := mCall_el e
  obtain ⟨r2, s2, e2, e⟩ := mCall_el e
  obtain ⟨r3, s3, e3, e⟩ := mCall_el e
  obtain ⟨r4, s4, e4, e⟩ := mCall_el e
  obtain ⟨-, rfl⟩ := some_el e
  have h1 := c_readSum hq (Or.inl ⟨rfl, rfl⟩) h e1 (S := S)
  have h2 := c_readSign hq h1.1.1 h1.2 e2 (S := S)
  have h3 := c_readSum hq (Or.inr ⟨rfl, rfl⟩) h2.1 e3 (S := S)
  exact (((h1.1.tr h2).tr h3.1).tr (RS.to7 h3.1.1 h3.2)).sm (c_addToken hq e4)
theorem c_facts (hq : 5 ≤ qr) : ∀ n : Nat,
    (∀ (d : Int) (S : List Bool) (σ σ' : SS) (r : Int), (S.length : Int) = d → OKC F N σ → j_X3_readFact_X3_readTest qr 3 n 1000 [d] σ = some (r, σ') → RS F N qr 2 7 S S σ σ') ∧
    (∀ (d : Int) (S : List Bool) (σ σ' : SS) (r : Int), (S.length : Int) = d → TS S → OKC F N σ → j_X3_readFact_X3_readTest qr 3 n 2000 [d] σ = some (r, σ') → RS F N qr 2 7 S S σ σ' ∧ (σ' 1 4 = 0 → joinAt F N (sk F N (σ' 1 1)) = false)) ∧
    (∀ (d wt i : Int) (S : List Bool) (σ σ' : SS) (r : Int), (S.length : Int) = d → TS S → OKC F N σ → (σ 1 4 = 0 → i ≤ σ 1 1) → j_X3_readFact_X3_readTest qr 3 n 2009 [d, wt, i] σ = some (r, σ') → RS F N qr 7 7 S S σ σ' ∧ (σ' 1 4 = 0 → joinAt F N (sk F N (σ' 1 1)) = false)) := by
  intro n
  induction n with
  | zero => exact ⟨fun _ _ _ _ _ _ _ e => none_el e, fun _ _ _ _ _ _ _ _ e => none_el e, fun _ _ _ _ _ _ _ _ _ _ _ e => none_el e⟩
  | succ n ih =>
    obtain ⟨ihF, ihT, ihL⟩ := ih
    refine ⟨?_, ?_, ?_⟩
    · -- a fact
      intro d S σ σ' r hd h e
      rw [e_X3_readFact_e] at e
      unfold b_X3_readFact_e at e
      by_cases hf : σ 1 4 = 0
      · have es := es_0 hf
        rw [← es, c_isFaulty, if_pos rfl, mCall_s, mIf_pos rfl] at e
        have hp0 := h.2.1.1
        have hle : σ 1 1 ≤ sk F N (σ 1 1) := sk_ge
        have hN : sk F N (σ 1 1) ≤ N := sk_ub h.2.1.2.1
        have hq0 : 0 ≤ sk F N (σ 1 1) := Int.le_trans hp0 hle
        obtain ⟨r1, s1, e1, e⟩ := mCall_el e
        have s2a : ∀ k L : Int, pstep F N (2, sk F N (σ 1 1), k, L, S) = if isWd F N (sk F N (σ 1 1)) wNot = true then (if 10 ≤ S.length then halt (1 + 8 * sk F N (σ 1 1) + 2) else (2, sk F N (wd F N (sk F N (σ 1 1))), k, L, false :: S)) else if byteIs F N (sk F N (σ 1 1)) 91 = true then (if 10 ≤ S.length then halt (1 + 8 * sk F N (σ 1 1) + 2) else (2, sk F N (sk F N (σ 1 1) + 1), k, L, true :: S)) else (3, sk F N (σ 1 1), k, L, S) := fun _ _ => rfl
        rcases c_takeWord h.1 (k := 4) (by decide) (by decide) hp0 h.2.1.2.1 e1 with ⟨hw, rfl, rfl⟩ | ⟨hw, rfl, rfl⟩
        · -- not
          have hw' : isWd F N (sk F N (σ 1 1)) wNot = true := hw
          have hwl := isWd_len hw'
          have hwN : wd F N (sk F N (σ 1 1)) ≤ N := wd_ub hN
          rw [show (wNot.length : Int) = 3 from rfl] at hwl
          unfold b_X3_readFact_41 b_X3_readFact_77 b_X3_readFact_160 at e
          rw [mIf_pos (show ¬ (1 : Int) = 0 by decide), mIf_pos (show ¬ (1 : Int) = 0 by decide)] at e
          by_cases c : d < 10
          · rw [mIf_pos c, mIf_neg (show ¬ (1 : Int) = 0 by decide)] at e
            rw [mLet_e] at e
            obtain ⟨r2, s2, e2, e⟩ := mCall_el e
            obtain ⟨r3, s3, e3, e⟩ := mCall_el e
            obtain ⟨-, rfl⟩ := some_el e
            have h1 : RS F N qr 2 2 S (false :: S) σ (tp σ (wd F N (sk F N (σ 1 1))) (sk F N (σ 1 1)) 0) := RS.step hq h hf hwN (by omega) (by rw [s2a, if_pos hw', if_neg (by omega)])
            have h2 := ihF (d + 1) (false :: S) _ _ _ (by rw [List.length_cons]; omega) h1.1 e2
            exact ((h1.tr h2).tr (RS.unnot h2.1)).sm (c_addToken hq e3)
          · rw [mIf_neg c] at e
            rw [mRd_e, tp_g] at e
            rw [c_blame, mCall_s, blm_0] at e
            obtain ⟨-, rfl⟩ := some_el e
            exact RS.halt hq h hf hwN (by omega) (by omega) (by rw [s2a, if_pos hw', if_pos (by omega)]; congr 1; omega)
        · have hw' : ¬ isWd F N (sk F N (σ 1 1)) wNot = true := by rw [show wNot = txt 4 from rfl, hw]; decide
          rw [mIf_neg (fun q => q rfl)] at e
          obtain ⟨r2, s2, e2, e⟩ := mCall_el e
          rcases c_takeByte h.1 hq0 (by decide) e2 with ⟨hb, rfl, rfl⟩ | ⟨hb, rfl, rfl⟩
          · -- a bracket
            rw [sk_idem] at hb
            have hbN := (of_decide_eq_true hb).1
            rw [sk_idem, mIf_neg (show ¬ (1 : Int) = 0 by decide), mIf_neg (fun q => q rfl), mIf_pos (show ¬ (1 : Int) = 0 by decide)] at e
            unfold b_X3_readFact_77 b_X3_readFact_160 at e
            by_cases c : d < 10
            · rw [mIf_pos c, mIf_pos rfl] at e
              rw [mLet_e] at e
              obtain ⟨r3, s3, e3, e⟩ := mCall_el e
              have h1 : RS F N qr 2 2 S (true :: S) σ (tp σ (sk F N (σ 1 1) + 1) (sk F N (σ 1 1)) 0) := RS.step hq h hf (by omega) (by omega) (by rw [s2a, if_neg hw', if_pos hb, if_neg (by omega)])
              have h2 := ihT (d + 1) (true :: S) _ _ _ (by rw [List.length_cons]; omega) (Or.inr ⟨S, rfl⟩) h1.1 e3
              have h3 := h1.tr h2.1
              by_cases hf3 : s3 1 4 = 0
              · have es3 := es_0 hf3
                rw [← es3, c_isFaulty, if_pos rfl, mCall_s, mIf_neg (fun q => q rfl)] at e
                obtain ⟨r4, s4, e4, e⟩ := mCall_el e
                rcases c_takeByte h3.1.1 h3.1.2.1.1 (by decide) e4 with ⟨hb2, rfl, rfl⟩ | ⟨hb2, rfl, rfl⟩
                · rw [mIf_pos (show ¬ (1 : Int) = 0 by decide)] at e
                  obtain ⟨-, rfl⟩ := some_el e
                  have hbN2 := (of_decide_eq_true hb2).1
                  have hle3 : s3 1 1 ≤ sk F N (s3 1 1) := sk_ge
                  refine h3.tr (RS.step hq h3.1 hf3 (by omega) (by omega) ?_)
                  show (if byteIs F N (sk F N (s3 1 1)) 93 = true then _ else _) = _
                  rw [if_pos hb2]
                · rw [mIf_neg (fun q => q rfl), c_blameHere, mCall_s, blm_0] at e
                  obtain ⟨-, rfl⟩ := some_el e
                  have hle3 : s3 1 1 ≤ sk F N (s3 1 1) := sk_ge
                  have hp3 := h3.1.2.1.1
                  refine h3.tr (RS.halt hq h3.1 hf3 (sk_ub h3.1.2.1.2.1) hle3 (by omega) ?_)
                  show (if byteIs F N (sk F N (s3 1 1)) 93 = true then _ else if joinAt F N (sk F N (s3 1 1)) = true then _ else _) = _
                  rw [hb2, if_neg (by decide), h2.2 hf3, if_neg (by decide)]
              · rw [← tp_self (σ := s3), c_isFaulty, if_neg hf3, mCall_s, mIf_pos (show ¬ (1 : Int) = 0 by decide), tp_self] at e
                obtain ⟨-, rfl⟩ := some_el e
                exact h3.tr (RS.bad h3.1 hf3)
            · rw [mIf_neg c] at e
              rw [mRd_e, tp_g] at e
              rw [c_blame, mCall_s, blm_0] at e
              obtain ⟨-, rfl⟩ := some_el e
              exact RS.halt hq h hf (by omega) (by omega) (by omega) (by rw [s2a, if_neg hw', if_pos hb, if_pos (by omega)]; congr 1; omega)
          · -- two sums
            rw [sk_idem] at hb
            rw [sk_idem, mIf_pos rfl] at e
            unfold b_X3_readFact_41 b_X3_readFact_160 at e
            rw [mIf_neg (fun q => q rfl), mIf_neg (fun q => q rfl)] at e
            have h1 : RS F N qr 2 3 S S σ (tp σ (sk F N (σ 1 1)) (sk F N (σ 1 1)) 0) := RS.step hq h hf hN hle (by rw [s2a, if_neg hw', hb, if_neg (by decide), sk_idem])
            exact h1.tr (c_compare hq h1.1 e)
      · rw [← tp_self (σ := σ), c_isFaulty, if_neg hf, mCall_s, mIf_neg (show ¬ (1 : Int) = 0 by decide), tp_self] at e
        obtain ⟨-, rfl⟩ := some_el e
        exact RS.bad h hf
    · -- a test
      intro d S σ σ' r hd hS h e
      rw [e_X3_readTest_e] at e
      unfold b_X3_readTest_e at e
      obtain ⟨r1, s1, e1, e⟩ := mCall_el e
      have h1 := ihF d S _ _ _ hd h e1
      have h2 := ihL d (-1) 0 S _ _ _ hd hS h1.1 (fun _ => h1.1.2.1.1) e
      exact ⟨h1.tr h2.1, h2.2⟩
    · -- what joins
      intro d wt i S σ σ' r hd hS h hi e
      rw [e_X3_readTest_9] at e
      unfold b_X3_readTest_9 at e
      have fin : ∀ τ : SS, RS F N qr 7 7 S S σ τ → (τ 1 4 = 0 → joinAt F N (sk F N (τ 1 1)) = false) → b_X3_readTest_86 (j_X3_readFact_X3_readTest qr 3 n) n qr 3 wt τ = some (r, σ') → RS F N qr 7 7 S S σ σ' ∧ (σ' 1 4 = 0 → joinAt F N (sk F N (σ' 1 1)) = false) := by
        intro τ h1 h2 e
        unfold b_X3_readTest_86 at e
        obtain ⟨r1, s1, e1, e⟩ := mCall_el e
        obtain ⟨-, rfl⟩ := some_el e
        have hs := c_addWaiting hq e1
        exact ⟨h1.sm hs, by rw [hs 1 4 (by omega), hs 1 1 (by omega)]; exact h2⟩
      by_cases c : 400 ≤ i
      · rw [mIf_pos c] at e
        refine fin σ (RS.rf h) (fun hf => joinAt_N ?_) e
        have h4 : σ 1 1 ≤ sk F N (σ 1 1) := sk_ge
        have h5 := hi hf
        have h6 := h.2.1.2.2
        omega
      · rw [mIf_neg c] at e
        by_cases hf : σ 1 4 = 0
        · have es := es_0 hf
          rw [← es, c_isFaulty, if_pos rfl, mCall_s, mIf_neg (fun q => q rfl)] at e
          have hp0 := h.2.1.1
          have hle : σ 1 1 ≤ sk F N (σ 1 1) := sk_ge
          have hN : sk F N (σ 1 1) ≤ N := sk_ub h.2.1.2.1
          have hq0 : 0 ≤ sk F N (σ 1 1) := Int.le_trans hp0 hle
          have hwN : wd F N (sk F N (σ 1 1)) ≤ N := wd_ub hN
          have go : ∀ (wt' : Int) (τ0 τ τ' : SS) (r' : Int), sk F N (σ 1 1) + 1 ≤ wd F N (sk F N (σ 1 1)) → joinAt F N (sk F N (σ 1 1)) = true → Sm qr (tp σ (wd F N (sk F N (σ 1 1))) (sk F N (σ 1 1)) 0) τ0 → j_X3_readFact_X3_readTest qr 3 n 1000 [d] τ0 = some (r', τ) → Sm qr τ τ' → j_X3_readFact_X3_readTest qr 3 n 2009 [d, wt', i + 1] τ' = some (r, σ') → RS F N qr 7 7 S S σ σ' ∧ (σ' 1 4 = 0 → joinAt F N (sk F N (σ' 1 1)) = false) := by
            intro wt' τ0 τ τ' r' hw hj hs0 eF hs e
            have h1 : RS F N qr 7 2 S S σ (tp σ (wd F N (sk F N (σ 1 1))) (sk F N (σ 1 1)) 0) := RS.step hq h hf hwN (by omega) (step7_join hS hj)
            have h1' := h1.sm hs0
            have h2 := (ihF d S _ _ _ hd h1'.1 eF).sm hs
            have h5 := h2.2.2.1
            rw [hs0 1 1 (by omega), tp_p] at h5
            have h6 := ihL d wt' (i + 1) S _ _ _ hd hS h2.1 (fun _ => by have := hi hf; omega) e
            exact ⟨(h1'.tr h2).tr h6.1, h6.2⟩
          obtain ⟨r1, s1, e1, e⟩ := mCall_el e
          rcases c_takeWord h.1 (k := 6) (by decide) (by decide) hp0 h.2.1.2.1 e1 with ⟨hw, rfl, rfl⟩ | ⟨hw, rfl, rfl⟩
          · rw [mIf_neg (show ¬ (1 : Int) = 0 by decide)] at e
            obtain ⟨r2, s2, e2, e⟩ := mCall_el e
            obtain ⟨r3, s3, e3, e⟩ := mCall_el e
            unfold b_X3_readTest_80 at e
            have hw' : isWd F N (sk F N (σ 1 1)) wAnd = true := hw
            have hl := isWd_len hw'
            rw [show (wAnd.length : Int) = 3 from rfl] at hl
            exact go wt _ s2 s3 r2 (by omega) (joinAt_i.mpr (Or.inl hw')) Sm.rf e2 (c_addToken hq e3) e
          · rw [mIf_pos rfl] at e
            obtain ⟨r2, s2, e2, e⟩ := mCall_el e
            rcases c_takeWord h.1 (k := 7) (by decide) (by decide) hq0 hN e2 with ⟨hw2, rfl, rfl⟩ | ⟨hw2, rfl, rfl⟩
            · rw [sk_idem] at hw2 e
              rw [mIf_neg (show ¬ (1 : Int) = 0 by decide)] at e
              obtain ⟨r3, s3, e3, e⟩ := mCall_el e
              obtain ⟨r4, s4, e4, e⟩ := mCall_el e
              unfold b_X3_readTest_80 at e
              have hw' : isWd F N (sk F N (σ 1 1)) wOr = true := hw2
              have hl := isWd_len hw'
              rw [show (wOr.length : Int) = 2 from rfl] at hl
              exact go 21 s3 s4 s4 r4 (by omega) (joinAt_i.mpr (Or.inr hw')) (c_addWaiting hq e3) e4 Sm.rf e
            · rw [sk_idem] at hw2 e
              rw [mIf_pos rfl] at e
              refine fin _ (RS.stay hq h hf) (fun _ => ?_) e
              rw [tp_p, sk_idem]
              unfold joinAt
              rw [show wAnd = txt 6 from rfl, hw, show wOr = txt 7 from rfl, hw2]; rfl
        · rw [← tp_self (σ := σ), c_isFaulty, if_neg hf, mCall_s, mIf_pos (show ¬ (1 : Int) = 0 by decide), tp_self] at e
          exact fin σ (RS.bad h hf) (fun q => absurd q hf) e
theorem c_readTest (hq : 5 ≤ qr) (h : OKC F N σ) (e : m_X3_readTest n qr 3 0 σ = some (r, σ')) : RS F N qr 2 7 [] [] σ σ' ∧ (σ' 1 4 = 0 → joinAt F N (sk F N (σ' 1 1)) = false) := (c_facts hq n).2.1 0 [] σ σ' r rfl (Or.inl rfl) h e
end
