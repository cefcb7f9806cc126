/-! a code that grows -/
def okPart (w : va_W) (t b L d : Int) : Prop := ∃ D : Int → Int, D b = 0 ∧ D L = d ∧ ∀ i : Int, b ≤ i → i < L → okT (gi w 2 (400 * t + 1 * i + 0).toNat) (D i) (D (i + 1)) ∧ 0 ≤ D (i + 1) ∧ D (i + 1) ≤ 64
theorem okPart_nil {w : va_W} {t b : Int} : okPart w t b b 0 := ⟨fun _ => 0, rfl, rfl, fun i h1 h2 => absurd h1 (by omega)⟩
theorem okPart_C {w : va_W} {t b e : Int} (h : okPart w t b e 1) : okC w t b e := h
theorem okPart_put {w u : va_W} {t b L d d' : Int} {x : Int32} (h : okPart w t b L d) (ht : 0 ≤ t) (hb : 0 ≤ b) (hbL : b ≤ L) (hF : ∀ j : Nat, j ≠ (400 * t + 1 * L + 0).toNat → gi u 2 j = gi w 2 j) (hx : gi u 2 (400 * t + 1 * L + 0).toNat = x) (hT : okT x d d') (h0 : 0 ≤ d') (h64 : d' ≤ 64) : okPart u t b (L + 1) d' := by
  obtain ⟨D, hD0, hD1, hDs⟩ := h
  refine ⟨fun i => if i = L + 1 then d' else D i, ?_, ?_, fun i h1 h2 => ?_⟩
  · show (if b = L + 1 then d' else D b) = 0
    rw [if_neg (by omega)]; exact hD0
  · show (if L + 1 = L + 1 then d' else D (L + 1)) = d'
    rw [if_pos rfl]
  · show okT _ (if i = L + 1 then d' else D i) (if i + 1 = L + 1 then d' else D (i + 1)) ∧ 0 ≤ (if i + 1 = L + 1 then d' else D (i + 1)) ∧ (if i + 1 = L + 1 then d' else D (i + 1)) ≤ 64
    rw [if_neg (by omega : ¬ i = L + 1)]
    by_cases e : i = L
    · subst e
      rw [if_pos rfl, hx, hD1]
      exact ⟨hT, h0, h64⟩
    · rw [if_neg (by omega : ¬ i + 1 = L + 1), hF _ (by omega)]
      exact hDs i h1 (by omega)
theorem okPart_eq {w u : va_W} {t b L d : Int} (h2 : ∀ j : Nat, gi u 2 j = gi w 2 j) (h : okPart w t b L d) : okPart u t b L d := by
  unfold okPart at h ⊢
  simp only [h2]
  exact h
theorem and15 {x : Int32} {s v : Int} (hx : x.toInt = s + 16 * v) (hs : 0 ≤ s) (hs2 : s ≤ 15) (hv : 0 ≤ v) : (x &&& 15).toInt = s := by
  have h0 : 0 ≤ x.toInt := by omega
  obtain ⟨e1, e2⟩ := wk_bvp h0
  have e3 : (x &&& 15).toBitVec.toNat = x.toBitVec.toNat &&& 15 := by
    rw [Int32.toBitVec_and, BitVec.toNat_and]; rfl
  have e4 : x.toBitVec.toNat &&& 15 = x.toBitVec.toNat % 16 := Nat.and_two_pow_sub_one_eq_mod _ 4
  have e5 := wk_bvi (x := x &&& 15) (by omega)
  omega
theorem shr4 {x : Int32} {s v : Int} (hx : x.toInt = s + 16 * v) (hs : 0 ≤ s) (hs2 : s ≤ 15) (hv : 0 ≤ v) : (x >>> (4 &&& 31)).toInt = v := by
  have e : (x >>> (4 &&& 31)).toInt = x.toInt >>> (4 : Nat) := by
    show (x.toBitVec.sshiftRight' _).toInt = _
    rw [BitVec.sshiftRight', BitVec.toInt_sshiftRight]
    rfl
  rw [e, Int.shiftRight_eq_div_pow, hx]
  show (s + 16 * v) / (16 : Int) = v
  omega
theorem okT_num {x : Int32} {v d : Int} (hx : x.toInt = 0 + 16 * v) (hv : 0 ≤ v) : okT x d (d + 1) := Or.inl ⟨and15 hx (by omega) (by omega) hv, rfl⟩
theorem okT_word {x : Int32} {v d : Int} (hx : x.toInt = 1 + 16 * v) (hv : 0 ≤ v) (hv2 : v ≤ 9) : okT x d (d + 1) := by
  have e := shr4 hx (by omega) (by omega) hv
  exact Or.inr (Or.inl ⟨and15 hx (by omega) (by omega) hv, by omega, by omega, rfl⟩)
theorem okT_not {x : Int32} {d : Int} (hx : x.toInt = 11) (hd : 1 ≤ d) : okT x d d := Or.inr (Or.inr (Or.inl ⟨and15 (v := 0) (by omega) (by omega) (by omega) (by omega), hd, rfl⟩))
theorem okT_bin {x : Int32} {d : Int} (hx : 2 ≤ x.toInt) (hx2 : x.toInt ≤ 15) (hn : ¬ x.toInt = 11) (hd : 2 ≤ d) : okT x d (d - 1) := by
  have e := and15 (x := x) (s := x.toInt) (v := 0) (by omega) (by omega) (by omega) (by omega)
  exact Or.inr (Or.inr (Or.inr ⟨by omega, by omega, by omega, hd, rfl⟩))
