/-! a code that grows -/
def okPart (w : va_W) (t b L d : Int) : Prop := ∃ D : Int → Int, D b = 0 ∧ D L = d ∧ ∀ i : Int, b ≤ i → i < L → okT (gi w 2 (400 * t + 1 * i + 0).toNat) (D i) (D (i + 1)) ∧ 0 ≤ D (i + 1) ∧ D (i + 1) ≤ 64
theorem okPart_nil {w : va_W} {t b : Int} : okPart w t b b 0 := ⟨fun _ => 0, rfl, rfl, fun i h1 h2 => absurd h1 (by omega)⟩
theorem okPart_C {w : va_W} {t b e : Int} (h : okPart w t b e 1) : okC w t b e := h
theorem okPart_put {w u : va_W} {t b L d d' : Int} {x : Int32} (h : okPart w t b L d) (ht : 0 ≤ t) (hb : 0 ≤ b) (hbL : b ≤ L) (hF : ∀ j : Nat, j ≠ (400 * t + 1 * L + 0).toNat → gi u 2 j = gi w 2 j) (hx : gi u 2 (400 * t + 1 * L + 0).toNat = x) (hT : okT x d d') (h0 : 0 ≤ d') (h64 : d' ≤ 64) : okPart u t b (L + 1) d' := by
  obtain ⟨D, hD0, hD1, hDs⟩ := h
  refine ⟨fun i => if i = L + 1 then d' else D i, ?_, ?_, fun i h1 h2 => ?_⟩
  · show (if b = L + 1 then d' else D b) = 0
    rw [if_neg (by omega)]; exact hD0
  · show (if L + 1 = L + 1 then d' else D (L + 1)) = d'
    rw [if_pos rfl]
  · show okT _ (if i = L + 1 then d' else D i) (if i + 1 = L + 1 then d' else D (i + 1)) ∧ 0 ≤ (if i + 1 = L + 1 then d' else D (i + 1)) ∧ (if i + 1 = L + 1 then d' else D (i + 1)) ≤ 64
    rw [if_neg (by omega : ¬ i = L + 1)]
    by_cases e : i = L
    · subst e
      rw [if_pos rfl, hx, hD1]
      exact ⟨hT, h0, h64⟩
    · rw [if_neg (by omega : ¬ i + 1 = L + 1), hF _ (by omega)]
      exact hDs i h1 (by omega)
theorem okPart_eq {w u : va_W} {t b L d : Int} (h2 : ∀ j : Nat, gi u 2 j = gi w 2 j) (h : okPart w t b L d) : okPart u t b L d := by
  unfold okPart at h ⊢
  simp only [h2]
  exact h
theorem and15 {x : Int32} {s v : Int} (hx : x.toInt = s + 16 * v) (hs : 0 ≤ s) (hs2 : s ≤ 15) (hv : 0 ≤ v) : (x &&& 15).toInt = s := by
  have h0 : 0 ≤ x.toInt := by omega
  obtain ⟨e1, e2⟩ := wk_bvp h0
  have e3 : (x &&& 15).toBitVec.toNat = x.toBitVec.toNat &&& 15 := by
    rw [Int32.toBitVec_and, BitVec.toNat_and]; rfl
  have e4 : x.toBitVec.toNat &&& 15 = x.toBitVec.toNat % 16 := Nat.and_two_pow_sub_one_eq_mod _ 4
  have e5 := wk_bvi (x := x &&& 15) (by omega)
  omega
theorem shr4 {x : Int32} {s v : Int} (hx : x.toInt = s + 16 * v) (hs : 0 ≤ s) (hs2 : s ≤ 15) (hv : 0 ≤ v) : (x >>> (4 &&& 31)).toInt = v := by
  have e : (x >>> (4 &&& 31)).toInt = x.toInt >>> (4 : Nat) := by
    show (x.toBitVec.sshiftRight' _).toInt = _
    rw [BitVec.sshiftRight', BitVec.toInt_sshiftRight]
    rfl
  rw [e, Int.shiftRight_eq_div_pow, hx]
  show (s + 16 * v) / (16 : Int) = v
  omega
theorem okT_num {x : Int32} {v d : Int} (hx : x.toInt = 0 + 16 * v) (hv : 0 ≤ v) : okT x d (d + 1) := Or.inl ⟨and15 hx (by omega) (by omega) hv, rfl⟩
theorem okT_word {x : Int32} {v d : Int} (hx : x.toInt = 1 + 16 * v) (hv : 0 ≤ v) (hv2 : v ≤ 9) : okT x d (d + 1) := by
  have e := shr4 hx (by omega) (by omega) hv
  exact Or.inr (Or.inl ⟨and15 hx (by omega) (by omega) hv, by omega, by omega, rfl⟩)
theorem okT_not {x : Int32} {d : Int} (hx : x.toInt = 11) (hd : 1 ≤ d) : okT x d d := Or.inr (Or.inr (Or.inl ⟨and15 (v := 0) (by omega) (by omega) (by omega) (by omega), hd, rfl⟩))
theorem okT_bin {x : Int32} {d : Int} (hx : 2 ≤ x.toInt) (hx2 : x.toInt ≤ 15) (hn : ¬ x.toInt = 11) (hd : 2 ≤ d) : okT x d (d - 1) := by
  have e := and15 (x := x) (s := x.toInt) (v := 0) (by omega) (by omega) (by omega) (by omega)
  exact Or.inr (Or.inr (Or.inr ⟨by omega, by omega, by omega, hd, rfl⟩))
/-! rules that are read: what stands of the older clauses, and the one that grows -/
def RLc (w : va_W) (t : Int) : Prop := (0 ≤ t ∧ t ≤ 5) ∧ RW w ∧ ∀ c : Int, 0 ≤ c → c < (gi w 5 t.toNat).toInt → (gi w 4 (36 * t + 3 * c + 1).toNat).toInt < 0 ∨ (gi w 4 (36 * t + 3 * c + 2).toNat).toInt ≤ (gi w 3 t.toNat).toInt
def OKW (w : va_W) (t b d : Int) : Prop := RLc w t ∧ (0 ≤ b ∧ b ≤ (gi w 3 t.toNat).toInt) ∧ okPart w t b (gi w 3 t.toNat).toInt d
def putP (w u : va_W) (t s v : Int) : Prop := (∀ j : Nat, j ≠ (400 * t + (gi w 3 t.toNat).toInt).toNat → gi u 2 j = gi w 2 j) ∧ (gi u 2 (400 * t + (gi w 3 t.toNat).toInt).toNat).toInt = s + 16 * v ∧ (gi u 3 t.toNat).toInt = (gi w 3 t.toNat).toInt + 1 ∧ (∀ j : Nat, gi u 4 j = gi w 4 j) ∧ (∀ j : Nat, gi u 5 j = gi w 5 j)
theorem RL_eq {w u : va_W} {t : Int} (h2 : ∀ j : Nat, gi u 2 j = gi w 2 j) (h3 : ∀ j : Nat, gi u 3 j = gi w 3 j) (h4 : ∀ j : Nat, gi u 4 j = gi w 4 j) (h5 : ∀ j : Nat, gi u 5 j = gi w 5 j) (h : RLc w t) : RLc u t := by
  obtain ⟨ht, hR, hc⟩ := h
  refine ⟨ht, RW_eq h2 h4 h5 hR, ?_⟩
  simp only [h3, h4, h5]
  exact hc
theorem RL_FE {E : List (Nat × Nat × Nat)} {w u : va_W} {t : Int} (h : FE ksM E w u) (e2 : ∀ j : Nat, inE E 61 j = false) (e3 : ∀ j : Nat, inE E 62 j = false) (e4 : ∀ j : Nat, inE E 63 j = false) (e5 : ∀ j : Nat, inE E 64 j = false) (hq : RLc w t) : RLc u t :=
  RL_eq (fun j => h.gi kM_at2 (e2 j) rfl) (fun j => h.gi kM_at3 (e3 j) rfl) (fun j => h.gi kM_at4 (e4 j) rfl) (fun j => h.gi kM_at5 (e5 j) rfl) hq
theorem RL_F1 {w u : va_W} {q k : Nat} {t : Int} (h : F1 w u q k) (n2 : 2 ≠ q) (n3 : 3 ≠ q) (n4 : 4 ≠ q) (n5 : 5 ≠ q) (hq : RLc w t) : RLc u t :=
  RL_eq (fun _ => h.gi (Or.inl n2) rfl) (fun _ => h.gi (Or.inl n3) rfl) (fun _ => h.gi (Or.inl n4) rfl) (fun _ => h.gi (Or.inl n5) rfl) hq
theorem OKW_eq {w u : va_W} {t b d : Int} (h2 : ∀ j : Nat, gi u 2 j = gi w 2 j) (h3 : ∀ j : Nat, gi u 3 j = gi w 3 j) (h4 : ∀ j : Nat, gi u 4 j = gi w 4 j) (h5 : ∀ j : Nat, gi u 5 j = gi w 5 j) (h : OKW w t b d) : OKW u t b d := by
  obtain ⟨hR, hb, hp⟩ := h
  refine ⟨RL_eq h2 h3 h4 h5 hR, ?_, ?_⟩
  · rw [h3]; exact hb
  · rw [h3]; exact okPart_eq h2 hp
theorem OKW_FE {E : List (Nat × Nat × Nat)} {w u : va_W} {t b d : Int} (h : FE ksM E w u) (e2 : ∀ j : Nat, inE E 61 j = false) (e3 : ∀ j : Nat, inE E 62 j = false) (e4 : ∀ j : Nat, inE E 63 j = false) (e5 : ∀ j : Nat, inE E 64 j = false) (hq : OKW w t b d) : OKW u t b d :=
  OKW_eq (fun j => h.gi kM_at2 (e2 j) rfl) (fun j => h.gi kM_at3 (e3 j) rfl) (fun j => h.gi kM_at4 (e4 j) rfl) (fun j => h.gi kM_at5 (e5 j) rfl) hq
theorem OKW_F1 {w u : va_W} {q k : Nat} {t b d : Int} (h : F1 w u q k) (n2 : 2 ≠ q) (n3 : 3 ≠ q) (n4 : 4 ≠ q) (n5 : 5 ≠ q) (hq : OKW w t b d) : OKW u t b d :=
  OKW_eq (fun _ => h.gi (Or.inl n2) rfl) (fun _ => h.gi (Or.inl n3) rfl) (fun _ => h.gi (Or.inl n4) rfl) (fun _ => h.gi (Or.inl n5) rfl) hq
theorem OKW_cast {w : va_W} {t b d d' : Int} (h : OKW w t b d) (e : d = d') : OKW w t b d' := e ▸ h
theorem OKW_nil {w : va_W} {t b : Int} (h : RLc w t) (hb : b = (gi w 3 t.toNat).toInt) (h0 : 0 ≤ b) : OKW w t b 0 := ⟨h, ⟨h0, by omega⟩, by rw [← hb]; exact okPart_nil⟩
theorem RW_put {w u : va_W} {t s v : Int} (h : RLc w t) (hp : putP w u t s v) (hL0 : 0 ≤ (gi w 3 t.toNat).toInt) (hL : (gi w 3 t.toNat).toInt ≤ 399) : RW u := by
  obtain ⟨⟨ht0, ht5⟩, hR, hc⟩ := h
  obtain ⟨p2, px, p3, p4, p5⟩ := hp
  intro r c hr0 hr5 hc0 hcl
  rw [p5] at hcl
  rw [p4, p4]
  rcases hR r c hr0 hr5 hc0 hcl with h1 | ⟨h1, h2, D, hD0, hD1, hDs⟩
  · exact Or.inl h1
  by_cases hn : (gi w 4 (36 * r + 3 * c + 1).toNat).toInt < 0
  · exact Or.inl hn
  refine Or.inr ⟨h1, h2, D, hD0, hD1, fun i hi1 hi2 => ?_⟩
  have hne : (400 * r + 1 * i + 0).toNat ≠ (400 * t + (gi w 3 t.toNat).toInt).toNat := by
    by_cases e : r = t
    · subst e
      rcases hc c hc0 hcl with h3 | h3
      · exact absurd h3 hn
      · omega
    · omega
  rw [p2 _ hne]
  exact hDs i hi1 hi2
theorem OKW_put {w u : va_W} {t b d d' s v : Int} (h : OKW w t b d) (hp : putP w u t s v) (hL : (gi w 3 t.toNat).toInt ≤ 399) (hT : ∀ x : Int32, x.toInt = s + 16 * v → okT x d d') (h0 : 0 ≤ d') (h64 : d' ≤ 64) : OKW u t b d' := by
  have hw := RW_put h.1 hp (by have := h.2.1; omega) hL
  obtain ⟨⟨ht, hR, hc⟩, hb, hk⟩ := h
  obtain ⟨p2, px, p3, p4, p5⟩ := hp
  refine ⟨⟨ht, hw, ?_⟩, ⟨hb.1, by omega⟩, ?_⟩
  · intro c hc0 hcl
    rw [p5] at hcl
    rw [p4, p4]
    rcases hc c hc0 hcl with h3 | h3
    · exact Or.inl h3
    · exact Or.inr (by omega)
  · rw [p3]
    have e : (400 * t + 1 * (gi w 3 t.toNat).toInt + 0).toNat = (400 * t + (gi w 3 t.toNat).toInt).toNat := by omega
    refine okPart_put hk ht.1 hb.1 hb.2 (fun j hj => p2 j (by rw [← e]; exact hj)) rfl (hT _ ?_) h0 h64
    rw [e]; exact px
theorem RL_clause {w u : va_W} {t : Int} {i : Nat} (h : RLc w t) (h1 : F1 w u 4 i) (hi : 36 * t + 3 * (gi w 5 t.toNat).toInt ≤ i) (hi2 : (i : Int) < 36 * t + 36) (hk : ∀ r : Nat, r < 6 → 0 ≤ (gi u 5 r).toInt ∧ (gi u 5 r).toInt ≤ 12) : RLc u t := by
  have e2 : ∀ j : Nat, gi u 2 j = gi w 2 j := fun _ => h1.gi (Or.inl (by decide)) rfl
  have e3 : ∀ j : Nat, gi u 3 j = gi w 3 j := fun _ => h1.gi (Or.inl (by decide)) rfl
  have e5 : ∀ j : Nat, gi u 5 j = gi w 5 j := fun _ => h1.gi (Or.inl (by decide)) rfl
  have e4 : ∀ j : Nat, j ≠ i → gi u 4 j = gi w 4 j := fun j hj => h1.gi (Or.inr hj) rfl
  obtain ⟨⟨ht0, ht5⟩, hR, hc⟩ := h
  refine ⟨⟨ht0, ht5⟩, ?_, ?_⟩
  · intro r c hr0 hr5 hc0 hcl
    rw [e5] at hcl
    have hk1 := hk r.toNat (by omega)
    have hk3 := hk t.toNat (by omega)
    rw [e5] at hk1 hk3
    have hn : ∀ k : Int, 0 ≤ k → k ≤ 2 → (36 * r + 3 * c + k).toNat ≠ i := by
      intro k hk0 hk2
      by_cases e : r = t
      · subst e; omega
      · omega
    rw [e4 _ (hn 1 (by omega) (by omega)), e4 _ (hn 2 (by omega) (by omega))]
    have h3 := hR r c hr0 hr5 hc0 hcl
    unfold okC at h3 ⊢
    simp only [e2]
    exact h3
  · intro c hc0 hcl
    rw [e5] at hcl
    rw [e4 _ (by omega), e4 _ (by omega), e3]
    exact hc c hc0 hcl
theorem OKW_clause {w u : va_W} {t b d : Int} {i : Nat} (h : OKW w t b d) (h1 : F1 w u 4 i) (hi : 36 * t + 3 * (gi w 5 t.toNat).toInt ≤ i) (hi2 : (i : Int) < 36 * t + 36) (hk : ∀ r : Nat, r < 6 → 0 ≤ (gi u 5 r).toInt ∧ (gi u 5 r).toInt ≤ 12) : OKW u t b d := by
  obtain ⟨hR, hb, hp⟩ := h
  refine ⟨RL_clause hR h1 hi hi2 hk, ?_, ?_⟩
  · rw [show gi u 3 t.toNat = gi w 3 t.toNat from h1.gi (Or.inl (by decide)) rfl]; exact hb
  · rw [show gi u 3 t.toNat = gi w 3 t.toNat from h1.gi (Or.inl (by decide)) rfl]; exact okPart_eq (fun _ => h1.gi (Or.inl (by decide)) rfl) hp
theorem RL_add {w u : va_W} {t : Int} {K b : Int32} (h : RLc w t) (h1 : F1 w u 5 t.toNat) (hK : gi w 5 t.toNat = K) (hK1 : (gi u 5 t.toNat).toInt = K.toInt + 1) (hK0 : 0 ≤ K.toInt) (hb : gi w 4 (36 * t + 3 * K.toInt + 1).toNat = b) (he : gi w 4 (36 * t + 3 * K.toInt + 2).toNat = gi w 3 t.toNat) (hL : (gi w 3 t.toNat).toInt ≤ 400) (hok : b.toInt < 0 ∨ OKW w t b.toInt 1) : RLc u t := by
  have e2 : ∀ j : Nat, gi u 2 j = gi w 2 j := fun _ => h1.gi (Or.inl (by decide)) rfl
  have e3 : ∀ j : Nat, gi u 3 j = gi w 3 j := fun _ => h1.gi (Or.inl (by decide)) rfl
  have e4 : ∀ j : Nat, gi u 4 j = gi w 4 j := fun _ => h1.gi (Or.inl (by decide)) rfl
  have e5 : ∀ j : Nat, j ≠ t.toNat → gi u 5 j = gi w 5 j := fun j hj => h1.gi (Or.inr hj) rfl
  obtain ⟨⟨ht0, ht5⟩, hR, hc⟩ := h
  refine ⟨⟨ht0, ht5⟩, ?_, ?_⟩
  · intro r c hr0 hr5 hc0 hcl
    unfold okC
    simp only [e2, e4]
    by_cases e : r = t
    · subst e
      rw [hK1] at hcl
      by_cases e6 : c = K.toInt
      · subst e6
        rw [hb, he]
        rcases hok with h3 | ⟨-, h4, h5⟩
        · exact Or.inl h3
        · exact Or.inr ⟨h4.2, hL, okPart_C h5⟩
      · exact hR r c hr0 hr5 hc0 (by rw [hK]; omega)
    · rw [e5 _ (by omega)] at hcl
      exact hR r c hr0 hr5 hc0 hcl
  · intro c hc0 hcl
    simp only [e3, e4]
    rw [hK1] at hcl
    by_cases e6 : c = K.toInt
    · subst e6
      rw [he]; exact Or.inr (Int.le_refl _)
    · exact hc c hc0 (by rw [hK]; omega)
theorem RL_new {w u : va_W} {t : Int} (h : RW w) (ht0 : 0 ≤ t) (ht5 : t ≤ 5) (h1 : F1 w u 5 t.toNat) (hz : (gi u 5 t.toNat).toInt = 0) : RW u := by
  have e2 : ∀ j : Nat, gi u 2 j = gi w 2 j := fun _ => h1.gi (Or.inl (by decide)) rfl
  have e4 : ∀ j : Nat, gi u 4 j = gi w 4 j := fun _ => h1.gi (Or.inl (by decide)) rfl
  have e5 : ∀ j : Nat, j ≠ t.toNat → gi u 5 j = gi w 5 j := fun j hj => h1.gi (Or.inr hj) rfl
  intro r c hr0 hr5 hc0 hcl
  unfold okC
  simp only [e2, e4]
  by_cases e : r = t
  · subst e; omega
  · rw [e5 _ (by omega)] at hcl
    exact h r c hr0 hr5 hc0 hcl
theorem RL_start {w u : va_W} {t : Int} {k : Nat} (h : RW w) (ht0 : 0 ≤ t) (ht5 : t ≤ 5) (hz : (gi w 5 t.toNat).toInt = 0) (h1 : F1 w u 3 k) : RLc u t := by
  have e5 : ∀ j : Nat, gi u 5 j = gi w 5 j := fun _ => h1.gi (Or.inl (by decide)) rfl
  refine ⟨⟨ht0, ht5⟩, RW_F1 h1 (by decide) (by decide) (by decide) h, fun c hc0 hcl => ?_⟩
  rw [e5] at hcl; omega
/-! what may wait -/
def e9 (x : Int) : Prop := x = 11 ∨ x = 12 ∨ x = 13 ∨ x = 91
def E9 (w : va_W) (o : Int) : Prop := ∀ j : Nat, (j : Int) < o → e9 (gi w 9 j).toInt
theorem E9_le {w : va_W} {o o' : Int} (h : E9 w o) (hl : o' ≤ o) : E9 w o' := fun j hj => h j (by omega)
theorem E9_FE {E : List (Nat × Nat × Nat)} {w u : va_W} {o : Int} (h : FE ksM E w u) (hE : ∀ j : Nat, inE E 68 j = false) (h9 : E9 w o) : E9 u o := fun j hj => by
  rw [show gi u 9 j = gi w 9 j from h.gi kM_at9 (hE j) rfl]; exact h9 j hj
theorem E9_F1 {w u : va_W} {q k : Nat} {o : Int} (h : F1 w u q k) (hn : 9 ≠ q) (h9 : E9 w o) : E9 u o := fun j hj => by
  rw [show gi u 9 j = gi w 9 j from h.gi (Or.inl hn) rfl]; exact h9 j hj
theorem E9_put {w u : va_W} {i : Nat} {o o' : Int} (h : F1 w u 9 i) (hi : (i : Int) = o) (ho : o' = o + 1) (hx : e9 (gi u 9 i).toInt) (h9 : E9 w o) : E9 u o' := fun j hj => by
  by_cases e : j = i
  · rw [e]; exact hx
  · rw [show gi u 9 j = gi w 9 j from h.gi (Or.inr e) rfl]; exact h9 j (by omega)
theorem E9_end {w : va_W} {o : Int} (h : E9 w o) (h0 : 0 ≤ o) (hn : ∀ j : Int, 0 ≤ j → j < o → ¬ (gi w 9 j.toNat).toInt = 91) (hs : o = 0 ∨ (¬ (gi w 9 (o - 1).toNat).toInt = 11 ∧ ¬ (gi w 9 (o - 1).toNat).toInt = 12 ∧ ¬ (gi w 9 (o - 1).toNat).toInt = 13)) : o = 0 := by
  rcases hs with h1 | ⟨h1, h2, h3⟩
  · exact h1
  by_cases e : o = 0
  · exact e
  · have h4 := h (o - 1).toNat (by omega)
    have h5 := hn (o - 1) (by omega) (by omega)
    unfold e9 at h4
    omega
