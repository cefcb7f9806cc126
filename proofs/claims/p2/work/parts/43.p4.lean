/-! sums, signs, facts, tests of the class go by the machine -/
section
variable {F : Int → Int} {N : Int} {qr ℓ ℓ' : Nat} {S S' : List Bool} {σ σ' : SS} {p g φ r t : Int} {n : Nat}
theorem byteIs_t {q c : Int} (h0 : q < N) (h1 : F q = c) : byteIs F N q c = true := decide_eq_true ⟨h0, h1⟩
theorem byteIs_f {q c : Int} (h : ¬ (q < N ∧ F q = c)) : byteIs F N q c = false := decide_eq_false h
theorem opAt_i {q : Int} : opAt F N q = true ↔ (q < N ∧ (F q = 43 ∨ F q = 45 ∨ F q = 42 ∨ F q = 47)) := by
  unfold opAt byteIs
  simp only [Bool.or_eq_true, decide_eq_true_eq]
  constructor
  · rintro (((h | h) | h) | h) <;> exact ⟨h.1, by omega⟩
  · rintro ⟨h, h1 | h1 | h1 | h1⟩
    · exact Or.inl (Or.inl (Or.inl ⟨h, h1⟩))
    · exact Or.inl (Or.inl (Or.inr ⟨h, h1⟩))
    · exact Or.inl (Or.inr ⟨h, h1⟩)
    · exact Or.inr ⟨h, h1⟩
theorem bt_lt {q c : Int} (hc : 0 ≤ c) (h : bt F N q = c) : q < N ∧ F q = c := (bt_is hc).mp h
theorem c_takeOperator (h : CV F N σ) (hp : 0 ≤ p) {q0 : Nat} (e : m_X3_takeOperator n q0 (tp σ p g φ) = some (r, σ')) : (opAt F N (sk F N p) = true ∧ (r = 10 ∨ r = 11 ∨ r = 12 ∨ r = 13) ∧ sk F N p < N ∧ σ' = tp σ (sk F N p + 1) (sk F N p) φ) ∨ (opAt F N (sk F N p) = false ∧ r = -1 ∧ σ' = tp σ (sk F N p) (sk F N p) φ) := by
  unfold m_X3_takeOperator at e
  obtain ⟨r1, s1, e1, e⟩ := mCall_el e
  obtain ⟨rfl, rfl⟩ := c_lbbm h hp e1
  have pass : ∀ x : Int, sk F N p < N → mCall (m_X6_pass n 1 (tp σ (sk F N p) (sk F N p) φ)) (fun _ s => mRet x s) = some (x, tp σ (sk F N p + 1) (sk F N p) φ) := by
    intro x hx; rw [c_pass h, mCall_s, if_pos hx]; rfl
  by_cases c1 : bt F N (sk F N p) = 42
  · rw [mIf_pos c1, pass _ (bt_lt (by decide) c1).1] at e
    obtain ⟨rfl, rfl⟩ := some_el e
    have h2 := bt_lt (by decide) c1
    exact Or.inl ⟨opAt_i.mpr ⟨h2.1, by omega⟩, by omega, h2.1, rfl⟩
  rw [mIf_neg c1] at e
  by_cases c2 : bt F N (sk F N p) = 43
  · rw [mIf_pos c2, pass _ (bt_lt (by decide) c2).1] at e
    obtain ⟨rfl, rfl⟩ := some_el e
    have h2 := bt_lt (by decide) c2
    exact Or.inl ⟨opAt_i.mpr ⟨h2.1, by omega⟩, by omega, h2.1, rfl⟩
  rw [mIf_neg c2] at e
  by_cases c3 : bt F N (sk F N p) = 44
  · rw [mIf_pos c3] at e
    obtain ⟨rfl, rfl⟩ := some_el e
    have h2 := bt_lt (by decide) c3
    refine Or.inr ⟨Bool.eq_false_iff.mpr (fun q => ?_), rfl, rfl⟩
    have := opAt_i.mp q; omega
  rw [mIf_neg c3] at e
  by_cases c4 : bt F N (sk F N p) = 45
  · rw [mIf_pos c4, pass _ (bt_lt (by decide) c4).1] at e
    obtain ⟨rfl, rfl⟩ := some_el e
    have h2 := bt_lt (by decide) c4
    exact Or.inl ⟨opAt_i.mpr ⟨h2.1, by omega⟩, by omega, h2.1, rfl⟩
  rw [mIf_neg c4] at e
  have no : r = -1 ∧ σ' = tp σ (sk F N p) (sk F N p) φ → bt F N (sk F N p) ≠ 47 → (opAt F N (sk F N p) = false ∧ r = -1 ∧ σ' = tp σ (sk F N p) (sk F N p) φ) := by
    intro h1 c6
    refine ⟨Bool.eq_false_iff.mpr (fun q => ?_), h1⟩
    have h3 := opAt_i.mp q
    have h4 : bt F N (sk F N p) = F (sk F N p) := if_pos h3.1
    rw [h4] at c1 c2 c4 c6; omega
  by_cases c5 : bt F N (sk F N p) = 46
  · rw [mIf_pos c5] at e
    exact Or.inr (no (some_el e) (by rw [c5]; decide))
  rw [mIf_neg c5] at e
  by_cases c6 : bt F N (sk F N p) = 47
  · rw [mIf_pos c6, pass _ (bt_lt (by decide) c6).1] at e
    obtain ⟨rfl, rfl⟩ := some_el e
    have h2 := bt_lt (by decide) c6
    exact Or.inl ⟨opAt_i.mpr ⟨h2.1, by omega⟩, by omega, h2.1, rfl⟩
  · rw [mIf_neg c6] at e
    exact Or.inr (no (some_el e) c6)
/-- a move of the tape's place alone -/
theorem OKC.mv (h : OKC F N σ) (hf : σ 1 4 = 0) (h0 : 0 ≤ p) (h1 : p ≤ N) : OKC F N (tp σ p g 0) := OKC.mk' h.1 h0 h1 h.2.1.2.2 h.2.2.1 h.2.2.2.1 (fun _ => h.2.2.2.2 hf)
theorem OKC.blame (h : OKC F N σ) (h0 : 0 ≤ p) (h1 : p ≤ N) (hφ : φ ≠ 0) : OKC F N (tp σ p g φ) := OKC.mk' h.1 h0 h1 h.2.1.2.2 h.2.2.1 h.2.2.2.1 (fun q => absurd q hφ)
theorem cfg_tp0 (hq : 5 ≤ qr) : cfgC F N qr ℓ S (tp σ p g 0) = (ℓ, sk F N p, σ 3 2, σ qr 4, S) := by rw [cfg_tp hq, if_pos rfl]
theorem cfg_tpn (hq : 5 ≤ qr) (h : φ ≠ 0) : cfgC F N qr ℓ S (tp σ p g φ) = halt φ := by rw [cfg_tp hq, if_neg h]
/-- the tape's place moves from σ to q2, and the machine takes a step -/
theorem RS.step (hq : 5 ≤ qr) (h : OKC F N σ) (hf : σ 1 4 = 0) {q2 g2 : Int} (h1 : q2 ≤ N) (hle : σ 1 1 ≤ q2) (hs : pstep F N (ℓ, sk F N (σ 1 1), σ 3 2, σ qr 4, S) = (ℓ', sk F N q2, σ 3 2, σ qr 4, S')) : RS F N qr ℓ ℓ' S S' σ (tp σ q2 g2 0) :=
  ⟨h.mv hf (Int.le_trans h.2.1.1 hle) h1, tp_kp hq, hle, by rw [cfg_0 hf, cfg_tp0 hq]; exact St_one hs⟩
/-- the machine stops at a fault -/
theorem RS.halt (hq : 5 ≤ qr) (h : OKC F N σ) (hf : σ 1 4 = 0) {q2 g2 φ2 : Int} (h1 : q2 ≤ N) (hle : σ 1 1 ≤ q2) (hφ : φ2 ≠ 0) (hs : pstep F N (ℓ, sk F N (σ 1 1), σ 3 2, σ qr 4, S) = halt φ2) : RS F N qr ℓ ℓ' S S' σ (tp σ q2 g2 φ2) :=
  ⟨h.blame (Int.le_trans h.2.1.1 hle) h1 hφ, tp_kp hq, hle, by rw [cfg_0 hf, cfg_tpn hq hφ]; exact St_one hs⟩
theorem RS.stay (hq : 5 ≤ qr) (h : OKC F N σ) (hf : σ 1 4 = 0) {g2 : Int} : RS F N qr ℓ ℓ S S σ (tp σ (sk F N (σ 1 1)) g2 0) :=
  ⟨h.mv hf (Int.le_trans h.2.1.1 sk_ge) (sk_ub h.2.1.2.1), tp_kp hq, sk_ge, by rw [cfg_0 hf, cfg_tp0 hq, sk_idem]; exact St_rf⟩
theorem c_readSum0 (hq : 5 ≤ qr) (hl : (ℓ = 3 ∧ ℓ' = 5) ∨ (ℓ = 4 ∧ ℓ' = 6)) : ∀ (n : Nat) (wt i : Int) (σ : SS), OKC F N σ → (σ 1 4 = 0 → i ≤ σ 1 1) → j_X3_readSum qr 3 n 8 [wt, i] σ = some (r, σ') → RS F N qr ℓ' ℓ' S S σ σ' ∧ (σ' 1 4 = 0 → opAt F N (sk F N (σ' 1 1)) = false) := by
  have hst : ∀ q k L : Int, opAt F N q = true → pstep F N (ℓ', q, k, L, S) = (ℓ, sk F N (q + 1), k, L, S) := by
    rcases hl with ⟨rfl, rfl⟩ | ⟨rfl, rfl⟩
    · intro q k L ho; show (if opAt F N q = true then _ else _) = _; rw [if_pos ho]
    · intro q k L ho; show (if opAt F N q = true then _ else _) = _; rw [if_pos ho]
  intro n
  induction n with
  | zero => intro wt i σ h hi e; exact none_el e
  | succ n ih =>
    intro wt i σ h hi e
    rw [e_X3_readSum_8] at e
    unfold b_X3_readSum_8 at e
    have fin : ∀ τ : SS, RS F N qr ℓ' ℓ' S S σ τ → (τ 1 4 = 0 → opAt F N (sk F N (τ 1 1)) = false) → b_X3_readSum_82 (j_X3_readSum qr 3 n) n qr 3 wt τ = some (r, σ') → RS F N qr ℓ' ℓ' S S σ σ' ∧ (σ' 1 4 = 0 → opAt F N (sk F N (σ' 1 1)) = false) := by
      intro τ h1 h2 e
      unfold b_X3_readSum_82 at e
      obtain ⟨r1, s1, e1, e⟩ := mCall_el e
      obtain ⟨-, rfl⟩ := some_el e
      have hs := c_addWaiting hq e1
      exact ⟨h1.sm hs, by rw [hs 1 4 (by omega), hs 1 1 (by omega)]; exact h2⟩
    by_cases c : 400 ≤ i
    · rw [mIf_pos c] at e
      refine fin σ (RS.rf h) (fun hf => ?_) e
      refine Bool.eq_false_iff.mpr (fun q => ?_)
      have h3 := opAt_i.mp q
      have h4 : σ 1 1 ≤ sk F N (σ 1 1) := sk_ge
      have h5 := hi hf
      have h6 := h.2.1.2.2
      omega
    · rw [mIf_neg c] at e
      by_cases hf : σ 1 4 = 0
      · have es := es_0 hf
        rw [← es, c_isFaulty, if_pos rfl, mCall_s, mIf_neg (fun q => q rfl)] at e
        obtain ⟨r1, s1, e1, e⟩ := mCall_el e
        rcases c_takeOperator h.1 h.2.1.1 e1 with ⟨ho, hr, hN, rfl⟩ | ⟨ho, rfl, rfl⟩
        · have hle : σ 1 1 ≤ sk F N (σ 1 1) := sk_ge
          have h1 : RS F N qr ℓ' ℓ S S σ (tp σ (sk F N (σ 1 1) + 1) (sk F N (σ 1 1)) 0) := RS.step hq h hf (by omega) (by omega) (hst _ _ _ ho)
          rw [mIf_pos (show ¬ r1 = -1 by omega)] at e
          have go : ∀ (wt' : Int) (τ τ' : SS), RS F N qr ℓ ℓ' S S (tp σ (sk F N (σ 1 1) + 1) (sk F N (σ 1 1)) 0) τ → Sm qr τ τ' → j_X3_readSum qr 3 n 8 [wt', i + 1] τ' = some (r, σ') → RS F N qr ℓ' ℓ' S S σ σ' ∧ (σ' 1 4 = 0 → opAt F N (sk F N (σ' 1 1)) = false) := by
            intro wt' τ τ' h2 h3 e
            have h4 := h2.sm h3
            have h5 := h4.2.2.1
            rw [tp_p] at h5
            have h6 := ih wt' (i + 1) τ' h4.1 (fun _ => by have := hi hf; omega) e
            exact ⟨(h1.tr h4).tr h6.1, h6.2⟩
          by_cases c12 : r1 = 12
          · rw [mIf_pos c12] at e
            unfold b_X3_readSum_50 b_X3_readSum_76 at e
            obtain ⟨r2, s2, e2, e⟩ := mCall_el e
            obtain ⟨r3, s3, e3, e⟩ := mCall_el e
            exact go _ s2 s3 (c_readValue hq hl h1.1 e2) (c_addToken hq e3) e
          · rw [mIf_neg c12] at e
            by_cases c13 : r1 = 13
            · rw [mIf_neg (fun q => q c13)] at e
              unfold b_X3_readSum_50 b_X3_readSum_76 at e
              obtain ⟨r2, s2, e2, e⟩ := mCall_el e
              obtain ⟨r3, s3, e3, e⟩ := mCall_el e
              exact go _ s2 s3 (c_readValue hq hl h1.1 e2) (c_addToken hq e3) e
            · rw [mIf_pos c13] at e
              obtain ⟨r2, s2, e2, e⟩ := mCall_el e
              obtain ⟨r3, s3, e3, e⟩ := mCall_el e
              unfold b_X3_readSum_76 at e
              have hs2 := c_addWaiting hq e2
              have h7 : RS F N qr ℓ ℓ S S (tp σ (sk F N (σ 1 1) + 1) (sk F N (σ 1 1)) 0) s2 := (RS.rf h1.1).sm hs2
              exact go _ s3 s3 (h7.tr (c_readValue hq hl h7.1 e3)) Sm.rf e
        · rw [mIf_neg (fun q => q rfl)] at e
          refine fin _ (RS.stay hq h hf) (fun _ => ?_) e
          rw [tp_p, sk_idem]; exact ho
      · rw [← tp_self (σ := σ), c_isFaulty, if_neg hf, mCall_s, mIf_pos (show ¬ (1 : Int) = 0 by decide), tp_self] at e
        exact fin σ (RS.bad h hf) (fun q => absurd q hf) e
theorem c_readSum (hq : 5 ≤ qr) (hl : (ℓ = 3 ∧ ℓ' = 5) ∨ (ℓ = 4 ∧ ℓ' = 6)) (h : OKC F N σ) (e : m_X3_readSum n qr 3 σ = some (r, σ')) : RS F N qr ℓ ℓ' S S σ σ' ∧ (σ' 1 4 = 0 → opAt F N (sk F N (σ' 1 1)) = false) := by
  unfold m_X3_readSum at e
  obtain ⟨r1, s1, e1, e⟩ := mCall_el e
  have h1 := c_readValue hq hl h e1 (S := S)
  have h2 := c_readSum0 hq hl n (-1) 0 s1 h1.1 (fun _ => h1.1.2.1.1) e (S := S)
  exact ⟨h1.tr h2.1, h2.2⟩
theorem cmpAt_i {q : Int} : cmpAt F N q = true ↔ (q < N ∧ (F q = 60 ∨ F q = 61 ∨ F q = 62)) := by
  unfold cmpAt byteIs
  simp only [Bool.or_eq_true, decide_eq_true_eq]
  constructor
  · rintro ((h | h) | h) <;> exact ⟨h.1, by omega⟩
  · rintro ⟨h, h1 | h1 | h1⟩
    · exact Or.inl (Or.inl ⟨h, h1⟩)
    · exact Or.inl (Or.inr ⟨h, h1⟩)
    · exact Or.inr ⟨h, h1⟩
theorem c_readSign98 {v1 v2 : Int} {q0 : Nat} (e : b_X3_readSign_98 n q0 v1 v2 σ = some (r, σ')) : σ' = σ := by
  unfold b_X3_readSign_98 at e
  by_cases c : v1 = 60
  · rw [mIf_neg (fun q => q c)] at e
    by_cases c2 : v2 = 0
    · rw [mIf_pos c2] at e; exact (some_el e).2
    · rw [mIf_neg c2] at e; exact (some_el e).2
  · rw [mIf_pos c] at e
    by_cases c2 : v2 = 0
    · rw [mIf_pos c2] at e; exact (some_el e).2
    · rw [mIf_neg c2] at e; exact (some_el e).2
theorem upS_kp (hq : 5 ≤ qr) {v : Int} : Kp qr σ (upS σ 3 2 v) := fun q k c => upS_q (by omega)
theorem c_readSign49 (hq : 5 ≤ qr) (h : OKC F N σ) (hf : σ 1 4 = 0) {v1 : Int} (hv : v1 = F (sk F N (σ 1 1))) (hN : sk F N (σ 1 1) < N) (hc : v1 = 60 ∨ v1 = 61 ∨ v1 = 62) (ho : opAt F N (sk F N (σ 1 1)) = false) (e : b_X3_readSign_49 n 3 v1 (tp σ (sk F N (σ 1 1)) (sk F N (σ 1 1)) 0) = some (r, σ')) : RS F N qr 5 4 S S σ σ' := by
  obtain ⟨hcv, ⟨hp0, hp1, hN4⟩, hk0, hk1, hk2⟩ := id h
  have hk := hk2 hf
  have hq0 : 0 ≤ sk F N (σ 1 1) := Int.le_trans hp0 sk_ge
  have hle : σ 1 1 ≤ sk F N (σ 1 1) := sk_ge
  unfold b_X3_readSign_49 at e
  rw [c_countItem hk0 hk1, mCall_s] at e
  have hcu : CV F N (upS σ 3 2 (σ 3 2 + 1)) := hcv.kp (qr := qr) (upS_kp hq)
  rw [c_pass hcu, mCall_s, if_pos hN] at e
  have hs : pstep F N (5, sk F N (σ 1 1), σ 3 2, σ qr 4, S) = (if 60 ≤ σ 3 2 then halt (1 + 8 * sk F N (σ 1 1) + 3) else (4, sk F N (sk F N (σ 1 1) + cmpLen F N (sk F N (σ 1 1))), σ 3 2 + 1, σ qr 4, S)) := by
    show (if opAt F N (sk F N (σ 1 1)) = true then _ else if cmpAt F N (sk F N (σ 1 1)) = true then _ else _) = _
    rw [if_neg (by rw [ho]; decide), if_pos (cmpAt_i.mpr ⟨hN, by omega⟩)]
  have fin : ∀ q2 : Int, sk F N (σ 1 1) ≤ q2 → q2 ≤ N → (q2 = sk F N (σ 1 1) + cmpLen F N (sk F N (σ 1 1))) → σ' = tp (upS σ 3 2 (σ 3 2 + 1)) q2 (sk F N (σ 1 1)) (if σ 3 2 < 60 then 0 else blm 0 (8 * sk F N (σ 1 1) + 3)) → RS F N qr 5 4 S S σ σ' := by
    intro q2 h1 h2 h3 h4
    subst h4
    have e3 : upS σ 3 2 (σ 3 2 + 1) 3 2 = σ 3 2 + 1 := upS_s
    have e4 : upS σ 3 2 (σ 3 2 + 1) qr 4 = σ qr 4 := upS_q (by omega)
    refine ⟨OKC.mk' hcu (by omega) h2 hN4 (by rw [e3]; omega) (by rw [e3]; omega) ?_, (upS_kp hq).tr (tp_kp hq), by rw [tp_p]; omega, ?_⟩
    · intro hz; rw [e3]
      by_cases c : σ 3 2 < 60
      · omega
      · rw [if_neg c, blm_0] at hz; omega
    · rw [cfg_0 hf]
      refine St_one ?_
      rw [hs, cfg_tp hq, e3, e4]
      by_cases c : σ 3 2 < 60
      · rw [if_neg (by omega), if_pos c, if_pos rfl, h3]
      · rw [if_pos (by omega), if_neg c, blm_0, if_neg (by omega)]
        congr 1; omega
  have hlen : cmpLen F N (sk F N (σ 1 1)) = if v1 = 61 then 1 else if byteIs F N (sk F N (σ 1 1) + 1) 61 = true then 2 else 1 := by
    unfold cmpLen
    by_cases c : v1 = 61
    · rw [if_pos c, if_neg]; intro q; rw [byteIs_t hN (by omega)] at q; cases q.1
    · rw [if_neg c]
      by_cases c2 : byteIs F N (sk F N (σ 1 1) + 1) 61 = true
      · rw [if_pos c2, if_pos ⟨byteIs_f (fun q => c (by omega)), c2⟩]
      · rw [if_neg c2, if_neg (fun q => c2 q.2)]
  by_cases c : v1 = 61
  · rw [mIf_neg (fun q => q c)] at e
    obtain ⟨-, e⟩ := some_el e
    exact fin _ (by omega) (by omega) (by rw [hlen, if_pos c]) e
  · rw [mIf_pos c, c_look hcu (by omega), mCall_s] at e
    by_cases c2 : bt F N (sk F N (σ 1 1) + 1) = 61
    · have h2 := bt_lt (by decide) c2
      rw [mIf_neg (fun q => q c2), mIf_neg (by decide), c_pass hcu, mCall_s, if_pos h2.1] at e
      exact fin _ (by omega) (by omega) (by rw [hlen, if_neg c, if_pos (byteIs_t h2.1 h2.2)]; omega) (c_readSign98 e)
    · rw [mIf_pos c2, mIf_pos rfl] at e
      exact fin _ (by omega) (by omega) (by rw [hlen, if_neg c, if_neg (fun q => c2 ((bt_is (by decide)).mpr (of_decide_eq_true q)))]) (c_readSign98 e)
theorem c_readSign (hq : 5 ≤ qr) (h : OKC F N σ) (ho : σ 1 4 = 0 → opAt F N (sk F N (σ 1 1)) = false) (e : m_X3_readSign n 3 σ = some (r, σ')) : RS F N qr 5 4 S S σ σ' := by
  unfold m_X3_readSign at e
  by_cases hf : σ 1 4 = 0
  · have es := es_0 hf
    rw [← es, c_isFaulty, if_pos rfl, mCall_s, mIf_pos rfl] at e
    obtain ⟨r1, s1, e1, e⟩ := mCall_el e
    obtain ⟨rfl, rfl⟩ := c_lbbm h.1 h.2.1.1 e1
    have hle : σ 1 1 ≤ sk F N (σ 1 1) := sk_ge
    have hN : sk F N (σ 1 1) ≤ N := sk_ub h.2.1.2.1
    have hp0 := h.2.1.1
    have yes : (bt F N (sk F N (σ 1 1)) = 60 ∨ bt F N (sk F N (σ 1 1)) = 61 ∨ bt F N (sk F N (σ 1 1)) = 62) → b_X3_readSign_49 n 3 (bt F N (sk F N (σ 1 1))) (tp σ (sk F N (σ 1 1)) (sk F N (σ 1 1)) 0) = some (r, σ') → RS F N qr 5 4 S S σ σ' := by
      intro hc e
      have h2 : sk F N (σ 1 1) < N := by
        rcases hc with hc | hc | hc
        · exact (bt_lt (by decide) hc).1
        · exact (bt_lt (by decide) hc).1
        · exact (bt_lt (by decide) hc).1
      exact c_readSign49 hq h hf (if_pos h2) h2 hc (ho hf) e
    by_cases c1 : bt F N (sk F N (σ 1 1)) = 60
    · rw [mIf_pos c1] at e; exact yes (Or.inl c1) e
    rw [mIf_neg c1] at e
    by_cases c2 : bt F N (sk F N (σ 1 1)) = 61
    · rw [mIf_pos c2] at e; exact yes (Or.inr (Or.inl c2)) e
    rw [mIf_neg c2] at e
    by_cases c3 : bt F N (sk F N (σ 1 1)) = 62
    · rw [mIf_pos c3] at e; exact yes (Or.inr (Or.inr c3)) e
    rw [mIf_neg c3, c_blameHere, mCall_s, blm_0] at e
    obtain ⟨-, rfl⟩ := some_el e
    refine RS.halt hq h hf hN hle (by omega) ?_
    show (if opAt F N (sk F N (σ 1 1)) = true then _ else if cmpAt F N (sk F N (σ 1 1)) = true then _ else _) = _
    rw [if_neg (by rw [ho hf]; decide), if_neg (fun q => by
      have h3 := cmpAt_i.mp q
      have h4 : bt F N (sk F N (σ 1 1)) = F (sk F N (σ 1 1)) := if_pos h3.1
      rw [h4] at c1 c2 c3; omega)]
  · rw [← tp_self (σ := σ), c_isFaulty, if_neg hf, mCall_s, mIf_neg (show ¬ (1 : Int) = 0 by decide), tp_self] at e
    obtain ⟨-, rfl⟩ := some_el e
    exact RS.bad h hf
end
