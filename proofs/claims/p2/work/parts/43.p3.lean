/-! the class's reader of RULES goes by the machine -/
/-- cells that a rule's own code doesn't touch -/
def Sm (qr : Nat) (σ σ' : SS) : Prop := ∀ q k : Nat, (q < 5 ∨ (q = qr ∧ k = 4)) → σ' q k = σ q k
/-- cells that reading leaves -/
def Kp (qr : Nat) (σ σ' : SS) : Prop := ∀ q k : Nat, (q = 0 ∨ q = 2 ∨ (q = 1 ∧ k = 2) ∨ (q = qr ∧ k = 4)) → σ' q k = σ q k
def cfgC (F : Int → Int) (N : Int) (qr ℓ : Nat) (S : List Bool) (σ : SS) : Cfg := if σ 1 4 = 0 then (ℓ, sk F N (σ 1 1), σ 3 2, σ qr 4, S) else halt (σ 1 4)
def OKC (F : Int → Int) (N : Int) (σ : SS) : Prop := CV F N σ ∧ (0 ≤ σ 1 1 ∧ σ 1 1 ≤ N ∧ N ≤ 400) ∧ 0 ≤ σ 3 2 ∧ σ 3 2 ≤ 61 ∧ (σ 1 4 = 0 → σ 3 2 ≤ 60)
theorem Sm.rf {qr : Nat} {σ : SS} : Sm qr σ σ := fun _ _ _ => rfl
theorem Sm.tr {qr : Nat} {σ σ' σ'' : SS} (h : Sm qr σ σ') (g : Sm qr σ' σ'') : Sm qr σ σ'' := fun q k e => (g q k e).trans (h q k e)
theorem Kp.rf {qr : Nat} {σ : SS} : Kp qr σ σ := fun _ _ _ => rfl
theorem Kp.tr {qr : Nat} {σ σ' σ'' : SS} (h : Kp qr σ σ') (g : Kp qr σ' σ'') : Kp qr σ σ'' := fun q k e => (g q k e).trans (h q k e)
theorem Sm.kp {qr : Nat} {σ σ' : SS} (h : Sm qr σ σ') : Kp qr σ σ' := fun q k e => h q k (by omega)
section
variable {F : Int → Int} {N : Int} {qr ℓ ℓ' : Nat} {S S' : List Bool} {σ σ' : SS} {p g φ r t : Int} {n : Nat}
theorem CV.sm (h : CV F N σ) (e : Sm qr σ σ') : CV F N σ' := ⟨(e 1 2 (by omega)).trans h.1, fun j h0 h1 => (e 2 _ (by omega)).trans (h.2.1 j h0 h1), h.2.2⟩
theorem CV.kp (h : CV F N σ) (e : Kp qr σ σ') : CV F N σ' := ⟨(e 1 2 (by omega)).trans h.1, fun j h0 h1 => (e 2 _ (by omega)).trans (h.2.1 j h0 h1), h.2.2⟩
theorem CV.tp (h : CV F N σ) : CV F N (tp σ p g φ) := ⟨h.1, fun j h0 h1 => tp_b.trans (h.2.1 j h0 h1), h.2.2⟩
theorem CV.tpi (h : CV F N (tp σ p g φ)) : CV F N σ := ⟨h.1, fun j h0 h1 => tp_b.symm.trans (h.2.1 j h0 h1), h.2.2⟩
theorem OKC.sm (h : OKC F N σ) (e : Sm qr σ σ') : OKC F N σ' := by
  obtain ⟨h1, h2, h3, h4, h5⟩ := h
  unfold OKC
  rw [e 1 1 (by omega), e 3 2 (by omega), e 1 4 (by omega)]
  exact ⟨h1.sm e, h2, h3, h4, h5⟩
theorem cfg_sm (e : Sm qr σ σ') : cfgC F N qr ℓ S σ' = cfgC F N qr ℓ S σ := by
  unfold cfgC; rw [e 1 1 (by omega), e 3 2 (by omega), e 1 4 (by omega), e qr 4 (by omega)]
theorem tp_kp (hq : 5 ≤ qr) : Kp qr σ (tp σ p g φ) := by
  intro q k e
  rcases e with rfl | rfl | ⟨rfl, rfl⟩ | ⟨rfl, rfl⟩
  · exact tp_o (by decide)
  · exact tp_o (by decide)
  · rfl
  · exact tp_o (by omega)
/-- one reading goes on from label to label -/
def RS (F : Int → Int) (N : Int) (qr ℓ ℓ' : Nat) (S S' : List Bool) (σ σ' : SS) : Prop := OKC F N σ' ∧ Kp qr σ σ' ∧ σ 1 1 ≤ σ' 1 1 ∧ St F N (cfgC F N qr ℓ S σ) (cfgC F N qr ℓ' S' σ')
theorem RS.tr {ℓ'' : Nat} {S'' : List Bool} {σ'' : SS} (h : RS F N qr ℓ ℓ' S S' σ σ') (g : RS F N qr ℓ' ℓ'' S' S'' σ' σ'') : RS F N qr ℓ ℓ'' S S'' σ σ'' := ⟨g.1, h.2.1.tr g.2.1, Int.le_trans h.2.2.1 g.2.2.1, h.2.2.2.tr g.2.2.2⟩
theorem RS.sm {σ'' : SS} (h : RS F N qr ℓ ℓ' S S' σ σ') (e : Sm qr σ' σ'') : RS F N qr ℓ ℓ' S S' σ σ'' := ⟨h.1.sm e, h.2.1.tr e.kp, by rw [e 1 1 (by omega)]; exact h.2.2.1, by rw [cfg_sm e]; exact h.2.2.2⟩
theorem RS.bad (h : OKC F N σ) (hf : σ 1 4 ≠ 0) : RS F N qr ℓ ℓ' S S' σ σ := by
  refine ⟨h, Kp.rf, Int.le_refl _, ?_⟩
  unfold cfgC; rw [if_neg hf, if_neg hf]; exact St_rf
theorem RS.rf (h : OKC F N σ) : RS F N qr ℓ ℓ S S σ σ := ⟨h, Kp.rf, Int.le_refl _, St_rf⟩
theorem c_addToken (hq : 5 ≤ qr) (e : m_X2_addToken n qr t σ = some (r, σ')) : Sm qr σ σ' := by
  simp only [m_X2_addToken, b_X2_addToken_43, mRd, mIf, mRet, mWr, mLet] at e
  by_cases c : 400 ≤ σ qr 3
  · rw [if_pos c] at e
    obtain ⟨-, rfl⟩ := some_el e
    exact Sm.rf
  · rw [if_neg c] at e
    obtain ⟨-, rfl⟩ := some_el e
    intro q k h
    rcases h with h | ⟨rfl, rfl⟩
    · rw [upS_q (by omega), upS_q (by omega), upS_q (by omega)]
    · rw [upS_q (by omega), upS_k (by decide), upS_q (by omega)]
theorem c_addWaiting (hq : 5 ≤ qr) {q0 : Nat} (e : m_X3_addWaiting n qr q0 t σ = some (r, σ')) : Sm qr σ σ' := by
  simp only [m_X3_addWaiting, b_X3_addWaiting_13, mIf] at e
  by_cases c : t = -1
  · rw [if_pos c] at e
    obtain ⟨-, rfl⟩ := some_el e
    exact Sm.rf
  · rw [if_neg c] at e
    obtain ⟨r1, s1, e1, e⟩ := mCall_el e
    obtain ⟨-, rfl⟩ := some_el e
    exact c_addToken hq e1
theorem c_countItem (h0 : 0 ≤ σ 3 2) (h1 : σ 3 2 ≤ 61) : m_X3_countItem n 3 (tp σ p g φ) = some (0, tp (upS σ 3 2 (σ 3 2 + 1)) p g (if σ 3 2 < 60 then φ else blm φ (8 * g + 3))) := by
  simp only [m_X3_countItem, b_X3_countItem_34, mRd, mIf, mRet, mWr, mLet, mCall, tp_up_o (show (3 : Nat) ≠ 1 by decide), tp_o (show (3 : Nat) ≠ 1 by decide), upS_s, tp_g, c_blame]
  rw [mAdd_x (by omega) (by omega) (by decide) (by decide) (by omega) (by omega)]
  by_cases c : σ 3 2 < 60
  · rw [if_pos (by omega), if_pos c]
  · rw [if_neg (by omega), if_neg c]
theorem blm_0 {a : Int} : blm 0 a = 1 + a := if_pos rfl
theorem blm_n {a : Int} (h : φ ≠ 0) : blm φ a = φ := if_neg h
theorem cfg_tp (hq : 5 ≤ qr) : cfgC F N qr ℓ S (tp σ p g φ) = if φ = 0 then (ℓ, sk F N p, σ 3 2, σ qr 4, S) else halt φ := by
  unfold cfgC; rw [tp_f, tp_p, tp_o (show (3 : Nat) ≠ 1 by decide), tp_o (show qr ≠ 1 by omega)]
theorem cfg_0 (h : σ 1 4 = 0) : cfgC F N qr ℓ S σ = (ℓ, sk F N (σ 1 1), σ 3 2, σ qr 4, S) := if_pos h
theorem cfg_n (h : σ 1 4 ≠ 0) : cfgC F N qr ℓ S σ = halt (σ 1 4) := if_neg h
theorem sk_idem : sk F N (sk F N p) = sk F N p := runE_idem
theorem OKC.mk' (h : CV F N σ) (h0 : 0 ≤ p) (h1 : p ≤ N) (hN : N ≤ 400) (h2 : 0 ≤ σ 3 2) (h3 : σ 3 2 ≤ 61) (h4 : φ = 0 → σ 3 2 ≤ 60) : OKC F N (tp σ p g φ) := ⟨h.tp, ⟨h0, h1, hN⟩, by rw [tp_o (by decide)]; exact h2, by rw [tp_o (by decide)]; exact h3, by rw [tp_o (by decide)]; exact h4⟩
theorem es_0 (h : σ 1 4 = 0) : tp σ (σ 1 1) (σ 1 3) 0 = σ := by rw [← h]; exact tp_self
theorem idx_any {Ws : List (List Int)} {q : Int} : (0 ≤ idxW F (wd F N q) q Ws 0) ↔ Ws.any (fun W => isWd F N q W) = true := idxW_any Ws 0 (Int.le_refl 0)
theorem c_readValue (hq : 5 ≤ qr) (hl : (ℓ = 3 ∧ ℓ' = 5) ∨ (ℓ = 4 ∧ ℓ' = 6)) (h : OKC F N σ) (e : m_X3_readValue n qr 3 σ = some (r, σ')) : RS F N qr ℓ ℓ' S S σ σ' := by
  have hps : ∀ q k L : Int, pstep F N (ℓ, q, k, L, S) = valStep F N ℓ' q k L S := by
    rcases hl with ⟨rfl, rfl⟩ | ⟨rfl, rfl⟩ <;> (intro q k L; rfl)
  by_cases hf : σ 1 4 = 0
  · have es := es_0 hf
    rw [← es] at e
    obtain ⟨hc, ⟨hp0, hp1, hN⟩, hk0, hk1, hk2⟩ := id h
    have hq0 : 0 ≤ sk F N (σ 1 1) := Int.le_trans hp0 sk_ge
    have hqN : sk F N (σ 1 1) ≤ N := sk_ub hp1
    unfold m_X3_readValue at e
    rw [c_isFaulty, if_pos rfl, mCall_s, mIf_pos rfl] at e
    obtain ⟨r1, s1, e1, e⟩ := mCall_el e
    obtain ⟨rfl, rfl⟩ := c_lbbm hc hp0 e1
    rw [c_isDigit, mCall_s] at e
    unfold RS
    rw [cfg_0 hf]
    by_cases cd : sk F N (σ 1 1) < N ∧ isDg F (sk F N (σ 1 1)) = true
    · have c2 : 48 ≤ F (sk F N (σ 1 1)) ∧ F (sk F N (σ 1 1)) ≤ 57 := of_decide_eq_true cd.2
      rw [show bt F N (sk F N (σ 1 1)) = F (sk F N (σ 1 1)) from if_pos cd.1, if_pos c2, mIf_neg (show ¬ (1 : Int) = 0 by decide)] at e
      obtain ⟨r2, s2, e2, e⟩ := mCall_el e
      rw [mLet_e] at e
      obtain ⟨r3, s3, e3, e⟩ := mCall_el e
      unfold b_X3_readValue_63 at e
      obtain ⟨r4, s4, e4, e⟩ := mCall_el e
      obtain ⟨-, rfl⟩ := some_el e
      have hs := c_addToken hq e3
      rcases c_readNumber hc hq0 hqN e2 with ⟨hn, -, -⟩ | ⟨-, hI, hB⟩
      · rw [sk_idem] at hn; exact absurd cd hn
      · rw [sk_idem] at hI hB
        have hd0 : 0 ≤ dg F N (sk F N (σ 1 1)) := Int.le_trans hq0 dg_ge
        have hdN : dg F N (sk F N (σ 1 1)) ≤ N := dg_ub hqN
        have hv : pstep F N (ℓ, sk F N (σ 1 1), σ 3 2, σ qr 4, S) = if 5 < dg F N (sk F N (σ 1 1)) - sk F N (σ 1 1) then halt (1 + 8 * sk F N (σ 1 1) + 1) else if 60 ≤ σ 3 2 then halt (1 + 8 * sk F N (σ 1 1) + 3) else (ℓ', sk F N (dg F N (sk F N (σ 1 1))), σ 3 2 + 1, σ qr 4, S) := by
          rw [hps]; unfold valStep; rw [if_pos cd]
        have fin : ∀ φ2 : Int, s2 = tp σ (dg F N (sk F N (σ 1 1))) (sk F N (σ 1 1)) φ2 → OKC F N s4 ∧ Kp qr σ s4 ∧ s4 1 1 = dg F N (sk F N (σ 1 1)) ∧ s4 1 4 = (if σ 3 2 < 60 then φ2 else blm φ2 (8 * sk F N (σ 1 1) + 3)) ∧ s4 3 2 = σ 3 2 + 1 ∧ s4 qr 4 = σ qr 4 := by
          intro φ2 hs2
          have h1 : s3 = tp s3 (dg F N (sk F N (σ 1 1))) (sk F N (σ 1 1)) φ2 := by
            have a1 := hs 1 1 (by omega)
            have a2 := hs 1 3 (by omega)
            have a3 := hs 1 4 (by omega)
            rw [hs2, tp_p] at a1
            rw [hs2, tp_g] at a2
            rw [hs2, tp_f] at a3
            rw [← a1, ← a2, ← a3]; exact tp_self.symm
          rw [h1] at e4
          have hm : Sm qr (tp σ (dg F N (sk F N (σ 1 1))) (sk F N (σ 1 1)) φ2) s3 := by rw [← hs2]; exact hs
          have hk : Kp qr σ s3 := (tp_kp hq).tr hm.kp
          have h3 : s3 3 2 = σ 3 2 := (hm 3 2 (by omega)).trans (tp_o (by decide))
          rw [c_countItem (by rw [h3]; exact hk0) (by rw [h3]; exact hk1), h3] at e4
          obtain ⟨-, rfl⟩ := some_el e4
          have hk2' := hk2 hf
          refine ⟨OKC.mk' ⟨?_, ?_, hc.2.2⟩ hd0 hdN hN (by rw [upS_s]; omega) (by rw [upS_s]; omega) ?_, ?_, tp_p, tp_f, ?_, ?_⟩
          · rw [upS_q (by decide)]; exact (hk 1 2 (by omega)).trans hc.1
          · intro j j0 j1; rw [upS_q (by decide)]; exact (hk 2 _ (by omega)).trans (hc.2.1 j j0 j1)
          · rw [upS_s]; intro hz
            by_cases c : σ 3 2 < 60
            · omega
            · rw [if_neg c] at hz; unfold blm at hz; split at hz
              · omega
              · exact absurd hz (by assumption)
          · intro q k c
            have c' := c
            rw [show tp (upS s3 3 2 (σ 3 2 + 1)) (dg F N (sk F N (σ 1 1))) (sk F N (σ 1 1)) (if σ 3 2 < 60 then φ2 else blm φ2 (8 * sk F N (σ 1 1) + 3)) q k = upS s3 3 2 (σ 3 2 + 1) q k from tp_kp hq q k c, upS_q (by omega)]
            exact hk q k c'
          · rw [tp_o (by decide), upS_s]
          · rw [tp_o (by omega), upS_q (by omega)]; exact hk qr 4 (by omega)
        have hle : σ 1 1 ≤ dg F N (sk F N (σ 1 1)) := Int.le_trans sk_ge dg_ge
        rcases hB with ⟨hbad, -, hs2⟩ | ⟨hgood, -, hs2⟩
        · have h5 : 5 < dg F N (sk F N (σ 1 1)) - sk F N (σ 1 1) := by obtain ⟨b0, b1, -⟩ := hI; omega
          obtain ⟨f1, f2, f3, f4, f5, f6⟩ := fin _ hs2
          have f4' : s4 1 4 = 1 + 8 * sk F N (σ 1 1) + 1 := by
            rw [f4]; split
            · rfl
            · rw [blm_n (by omega)]
          refine ⟨f1, f2, by rw [f3]; exact hle, St_one ?_⟩
          rw [hv, if_pos h5, cfg_n (by rw [f4']; omega), f4']
        · obtain ⟨f1, f2, f3, f4, f5, f6⟩ := fin _ hs2
          refine ⟨f1, f2, by rw [f3]; exact hle, St_one ?_⟩
          rw [hv, if_neg hgood.1]
          by_cases c60 : 60 ≤ σ 3 2
          · rw [if_pos c60]
            have f4' : s4 1 4 = 1 + 8 * sk F N (σ 1 1) + 3 := by rw [f4, if_neg (by omega), blm_0]; omega
            rw [cfg_n (by rw [f4']; omega), f4']
          · rw [if_neg c60]
            have f4' : s4 1 4 = 0 := by rw [f4, if_pos (by omega)]
            rw [cfg_0 f4', f3, f5, f6]
    · have c2 : ¬ (48 ≤ bt F N (sk F N (σ 1 1)) ∧ bt F N (sk F N (σ 1 1)) ≤ 57) := by
        intro q
        by_cases c3 : sk F N (σ 1 1) < N
        · rw [show bt F N (sk F N (σ 1 1)) = F (sk F N (σ 1 1)) from if_pos c3] at q; exact cd ⟨c3, decide_eq_true q⟩
        · rw [show bt F N (sk F N (σ 1 1)) = -1 from if_neg c3] at q; omega
      rw [if_neg c2, mIf_pos rfl] at e
      obtain ⟨r2, s2, e2, e⟩ := mCall_el e
      obtain ⟨r3, s3, e3, e⟩ := mCall_el e
      unfold b_X3_readValue_63 at e
      obtain ⟨r4, s4, e4, e⟩ := mCall_el e
      obtain ⟨-, rfl⟩ := some_el e
      have hs := c_addToken hq e3
      have hv : pstep F N (ℓ, sk F N (σ 1 1), σ 3 2, σ qr 4, S) = if wVals.any (fun W => isWd F N (sk F N (σ 1 1)) W) = true then (if 60 ≤ σ 3 2 then halt (1 + 8 * sk F N (σ 1 1) + 3) else (ℓ', sk F N (wd F N (sk F N (σ 1 1))), σ 3 2 + 1, σ qr 4, S)) else halt (1 + 8 * sk F N (σ 1 1)) := by
        rw [hps]; unfold valStep; rw [if_neg cd]
      have fin : ∀ p2 φ2 : Int, 0 ≤ p2 → p2 ≤ N → s2 = tp σ p2 (sk F N (σ 1 1)) φ2 → OKC F N s4 ∧ Kp qr σ s4 ∧ s4 1 1 = p2 ∧ s4 1 4 = (if σ 3 2 < 60 then φ2 else blm φ2 (8 * sk F N (σ 1 1) + 3)) ∧ s4 3 2 = σ 3 2 + 1 ∧ s4 qr 4 = σ qr 4 := by
        intro p2 φ2 hd0 hdN hs2
        have h1 : s3 = tp s3 p2 (sk F N (σ 1 1)) φ2 := by
          have a1 := hs 1 1 (by omega)
          have a2 := hs 1 3 (by omega)
          have a3 := hs 1 4 (by omega)
          rw [hs2, tp_p] at a1
          rw [hs2, tp_g] at a2
          rw [hs2, tp_f] at a3
          rw [← a1, ← a2, ← a3]; exact tp_self.symm
        rw [h1] at e4
        have hm : Sm qr (tp σ p2 (sk F N (σ 1 1)) φ2) s3 := by rw [← hs2]; exact hs
        have hk : Kp qr σ s3 := (tp_kp hq).tr hm.kp
        have h3 : s3 3 2 = σ 3 2 := (hm 3 2 (by omega)).trans (tp_o (by decide))
        rw [c_countItem (by rw [h3]; exact hk0) (by rw [h3]; exact hk1), h3] at e4
        obtain ⟨-, rfl⟩ := some_el e4
        have hk2' := hk2 hf
        refine ⟨OKC.mk' ⟨?_, ?_, hc.2.2⟩ hd0 hdN hN (by rw [upS_s]; omega) (by rw [upS_s]; omega) ?_, ?_, tp_p, tp_f, ?_, ?_⟩
        · rw [upS_q (by decide)]; exact (hk 1 2 (by omega)).trans hc.1
        · intro j j0 j1; rw [upS_q (by decide)]; exact (hk 2 _ (by omega)).trans (hc.2.1 j j0 j1)
        · rw [upS_s]; intro hz
          by_cases c : σ 3 2 < 60
          · omega
          · rw [if_neg c] at hz; unfold blm at hz; split at hz
            · omega
            · exact absurd hz (by assumption)
        · intro q k c
          have c' := c
          rw [show tp (upS s3 3 2 (σ 3 2 + 1)) p2 (sk F N (σ 1 1)) (if σ 3 2 < 60 then φ2 else blm φ2 (8 * sk F N (σ 1 1) + 3)) q k = upS s3 3 2 (σ 3 2 + 1) q k from tp_kp hq q k c, upS_q (by omega)]
          exact hk q k c'
        · rw [tp_o (by decide), upS_s]
        · rw [tp_o (by omega), upS_q (by omega)]; exact hk qr 4 (by omega)
      have hw0 : 0 ≤ wd F N (sk F N (σ 1 1)) := Int.le_trans hq0 wd_ge
      have hwN : wd F N (sk F N (σ 1 1)) ≤ N := wd_ub hqN
      rcases c_readWord hc (k := 5) (by decide) (by decide) wls_enc.2.2 hq0 hqN e2 with ⟨hr, hr0, hs2⟩ | ⟨-, hr, hs2⟩
      · rw [sk_idem] at hr hs2
        obtain ⟨f1, f2, f3, f4, f5, f6⟩ := fin _ _ hw0 hwN hs2
        have hle : σ 1 1 ≤ wd F N (sk F N (σ 1 1)) := Int.le_trans sk_ge wd_ge
        refine ⟨f1, f2, by rw [f3]; exact hle, St_one ?_⟩
        rw [hv, if_pos (idx_any.mp (by rw [← show wls 5 = wVals from rfl, ← hr]; exact hr0))]
        by_cases c60 : 60 ≤ σ 3 2
        · rw [if_pos c60]
          have f4' : s4 1 4 = 1 + 8 * sk F N (σ 1 1) + 3 := by rw [f4, if_neg (by omega), blm_0]; omega
          rw [cfg_n (by rw [f4']; omega), f4']
        · rw [if_neg c60]
          have f4' : s4 1 4 = 0 := by rw [f4, if_pos (by omega)]
          rw [cfg_0 f4', f3, f5, f6]
      · rw [sk_idem] at hr hs2
        obtain ⟨f1, f2, f3, f4, f5, f6⟩ := fin _ _ hq0 hqN hs2
        have hle : σ 1 1 ≤ sk F N (σ 1 1) := sk_ge
        have f4' : s4 1 4 = 1 + 8 * sk F N (σ 1 1) := by
          rw [f4, blm_0]; split
          · rfl
          · rw [blm_n (by omega)]
        refine ⟨f1, f2, by rw [f3]; exact hle, St_one ?_⟩
        rw [hv, if_neg (fun q => by have h9 := idx_any.mpr q; rw [← show wls 5 = wVals from rfl, hr] at h9; omega), cfg_n (by rw [f4']; omega), f4']
  · unfold m_X3_readValue at e
    rw [← tp_self (σ := σ), c_isFaulty, if_neg hf, mCall_s, mIf_neg (show ¬ (1 : Int) = 0 by decide), tp_self] at e
    obtain ⟨-, rfl⟩ := some_el e
    exact RS.bad h hf
end
