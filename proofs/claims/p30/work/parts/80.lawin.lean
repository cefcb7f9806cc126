theorem wl_i {t big : List Cond} {w : Cond} (ht : ∀ v ∈ t, v ∈ big) (i : Nat) (h : t[i]? = some w) : w ∈ big := ht w (List.mem_of_getElem? h)
theorem wl_q {big l : List Cond} {a : Cond} (h : a ∈ big) (g : ∀ w ∈ l, w ∈ big) : ∀ w ∈ a :: l, w ∈ big := List.forall_mem_cons.mpr ⟨h, g⟩
theorem wl_n {big : List Cond} : ∀ w ∈ ([] : List Cond), w ∈ big := fun _ h => absurd h List.not_mem_nil
theorem wl_c0 : ∀ w ∈ k2_sels lw_privs, w ∈ lw_tbl := fun w h => List.mem_append_left _ h
theorem wl_c1 : ∀ w ∈ tables_1_1, w ∈ lw_tbl := fun w h => List.mem_append_right _ (List.mem_append_left _ h)
theorem wl_c2 : ∀ w ∈ tables_1_2, w ∈ lw_tbl := fun w h => List.mem_append_right _ (List.mem_append_right _ (List.mem_append_left _ h))
theorem wl_c3 : ∀ w ∈ tables_1_3, w ∈ lw_tbl := fun w h => List.mem_append_right _ (List.mem_append_right _ (List.mem_append_right _ (List.mem_append_left _ h)))
theorem wl_c4 : ∀ w ∈ tables_1_4, w ∈ lw_tbl := fun w h => List.mem_append_right _ (List.mem_append_right _ (List.mem_append_right _ (List.mem_append_right _ (List.mem_append_left _ h))))
theorem wl_c5 : ∀ w ∈ tables_1_5, w ∈ lw_tbl := fun w h => List.mem_append_right _ (List.mem_append_right _ (List.mem_append_right _ (List.mem_append_right _ (List.mem_append_right _ (List.mem_append_left _ h)))))
theorem wl_c6 : ∀ w ∈ tables_1_6, w ∈ lw_tbl := fun w h => List.mem_append_right _ (List.mem_append_right _ (List.mem_append_right _ (List.mem_append_right _ (List.mem_append_right _ (List.mem_append_right _ (List.mem_append_left _ h))))))
theorem wl_c7 : ∀ w ∈ tables_1_7, w ∈ lw_tbl := fun w h => List.mem_append_right _ (List.mem_append_right _ (List.mem_append_right _ (List.mem_append_right _ (List.mem_append_right _ (List.mem_append_right _ (List.mem_append_right _ (List.mem_append_left _ h)))))))
theorem wl_c8 : ∀ w ∈ tables_1_8, w ∈ lw_tbl := fun w h => List.mem_append_right _ (List.mem_append_right _ (List.mem_append_right _ (List.mem_append_right _ (List.mem_append_right _ (List.mem_append_right _ (List.mem_append_right _ (List.mem_append_right _ (List.mem_append_left _ h))))))))
theorem wl_c9 : ∀ w ∈ tables_1_9, w ∈ lw_tbl := fun w h => List.mem_append_right _ (List.mem_append_right _ (List.mem_append_right _ (List.mem_append_right _ (List.mem_append_right _ (List.mem_append_right _ (List.mem_append_right _ (List.mem_append_right _ (List.mem_append_right _ (h)))))))))
set_option maxRecDepth 20000 in
theorem wl_r1 : ∀ w ∈ wsL_law_r1, w ∈ lw_tbl := by
  unfold wsL_law_r1
  exact wl_q (wl_i wl_c1 22 rfl) (wl_q (wl_i wl_c1 23 rfl) (wl_q (wl_i wl_c1 1 rfl) (wl_q (wl_i wl_c6 120 rfl) (wl_q (wl_i wl_c6 121 rfl) (wl_q (wl_i wl_c1 13 rfl) (wl_q (wl_i wl_c1 24 rfl) (wl_q (wl_i wl_c1 25 rfl) (wl_q (wl_i wl_c1 26 rfl) (wl_q (wl_i wl_c1 27 rfl) (wl_q (wl_i wl_c1 28 rfl) (wl_q (wl_i wl_c1 29 rfl) (wl_q (wl_i wl_c1 30 rfl) (wl_q (wl_i wl_c1 31 rfl) (wl_q (wl_i wl_c1 2 rfl) (wl_q (wl_i wl_c2 192 rfl) (wl_q (wl_i wl_c1 57 rfl) (wl_q (wl_i wl_c1 58 rfl) (wl_q (wl_i wl_c1 3 rfl) (wl_q (wl_i wl_c2 193 rfl) (wl_q (wl_i wl_c1 121 rfl) (wl_q (wl_i wl_c2 194 rfl) (wl_q (wl_i wl_c1 123 rfl) (wl_q (wl_i wl_c1 4 rfl) (wl_n))))))))))))))))))))))))
set_option maxRecDepth 20000 in
theorem wl_r2 : ∀ w ∈ wsL_law_r2, w ∈ lw_tbl := by
  unfold wsL_law_r2
  exact wl_q (wl_i wl_c1 149 rfl) (wl_q (wl_i wl_c1 150 rfl) (wl_q (wl_i wl_c1 5 rfl) (wl_q (wl_i wl_c2 195 rfl) (wl_q (wl_i wl_c1 165 rfl) (wl_q (wl_i wl_c1 166 rfl) (wl_q (wl_i wl_c1 6 rfl) (wl_q (wl_i wl_c2 196 rfl) (wl_q (wl_i wl_c2 197 rfl) (wl_q (wl_i wl_c2 78 rfl) (wl_q (wl_i wl_c2 198 rfl) (wl_q (wl_i wl_c2 59 rfl) (wl_q (wl_i wl_c2 60 rfl) (wl_q (wl_i wl_c1 8 rfl) (wl_q (wl_i wl_c2 199 rfl) (wl_q (wl_i wl_c2 79 rfl) (wl_q (wl_i wl_c2 80 rfl) (wl_q (wl_i wl_c1 9 rfl) (wl_q (wl_i wl_c2 200 rfl) (wl_q (wl_i wl_c2 118 rfl) (wl_q (wl_i wl_c2 119 rfl) (wl_q (wl_i wl_c1 10 rfl) (wl_q (wl_i wl_c2 201 rfl) (wl_q (wl_i wl_c2 151 rfl) (wl_n))))))))))))))))))))))))
set_option maxRecDepth 20000 in
theorem wl_r3 : ∀ w ∈ wsL_law_r3, w ∈ lw_tbl := by
  unfold wsL_law_r3
  exact wl_q (wl_i wl_c2 152 rfl) (wl_q (wl_i wl_c1 11 rfl) (wl_q (wl_i wl_c2 202 rfl) (wl_q (wl_i wl_c2 170 rfl) (wl_q (wl_i wl_c2 171 rfl) (wl_q (wl_i wl_c1 12 rfl) (wl_q (wl_i wl_c2 203 rfl) (wl_q (wl_i wl_c1 32 rfl) (wl_q (wl_i wl_c1 33 rfl) (wl_q (wl_i wl_c1 34 rfl) (wl_q (wl_i wl_c1 35 rfl) (wl_q (wl_i wl_c1 56 rfl) (wl_q (wl_i wl_c1 36 rfl) (wl_q (wl_i wl_c1 59 rfl) (wl_q (wl_i wl_c1 60 rfl) (wl_q (wl_i wl_c1 61 rfl) (wl_q (wl_i wl_c1 62 rfl) (wl_q (wl_i wl_c1 63 rfl) (wl_q (wl_i wl_c1 66 rfl) (wl_q (wl_i wl_c1 72 rfl) (wl_q (wl_i wl_c1 73 rfl) (wl_q (wl_i wl_c1 74 rfl) (wl_q (wl_i wl_c1 75 rfl) (wl_q (wl_i wl_c1 76 rfl) (wl_n))))))))))))))))))))))))
set_option maxRecDepth 20000 in
theorem wl_r4 : ∀ w ∈ wsL_law_r4, w ∈ lw_tbl := by
  unfold wsL_law_r4
  exact wl_q (wl_i wl_c1 77 rfl) (wl_q (wl_i wl_c1 124 rfl) (wl_q (wl_i wl_c1 125 rfl) (wl_q (wl_i wl_c1 126 rfl) (wl_q (wl_i wl_c1 127 rfl) (wl_q (wl_i wl_c1 128 rfl) (wl_q (wl_i wl_c1 129 rfl) (wl_q (wl_i wl_c1 130 rfl) (wl_q (wl_i wl_c1 151 rfl) (wl_q (wl_i wl_c1 152 rfl) (wl_q (wl_i wl_c1 153 rfl) (wl_q (wl_i wl_c1 154 rfl) (wl_q (wl_i wl_c1 155 rfl) (wl_q (wl_i wl_c1 167 rfl) (wl_q (wl_i wl_c1 168 rfl) (wl_q (wl_i wl_c1 169 rfl) (wl_q (wl_i wl_c1 170 rfl) (wl_q (wl_i wl_c1 171 rfl) (wl_q (wl_i wl_c1 224 rfl) (wl_q (wl_i wl_c1 231 rfl) (wl_q (wl_i wl_c1 173 rfl) (wl_q (wl_i wl_c1 234 rfl) (wl_q (wl_i wl_c1 236 rfl) (wl_q (wl_i wl_c2 0 rfl) (wl_n))))))))))))))))))))))))
set_option maxRecDepth 20000 in
theorem wl_r5 : ∀ w ∈ wsL_law_r5, w ∈ lw_tbl := by
  unfold wsL_law_r5
  exact wl_q (wl_i wl_c2 4 rfl) (wl_q (wl_i wl_c2 6 rfl) (wl_q (wl_i wl_c2 8 rfl) (wl_q (wl_i wl_c1 175 rfl) (wl_q (wl_i wl_c1 7 rfl) (wl_q (wl_i wl_c1 172 rfl) (wl_q (wl_i wl_c1 176 rfl) (wl_q (wl_i wl_c1 177 rfl) (wl_q (wl_i wl_c1 178 rfl) (wl_q (wl_i wl_c1 179 rfl) (wl_q (wl_i wl_c2 61 rfl) (wl_q (wl_i wl_c2 62 rfl) (wl_q (wl_i wl_c2 63 rfl) (wl_q (wl_i wl_c2 64 rfl) (wl_q (wl_i wl_c2 66 rfl) (wl_q (wl_i wl_c2 67 rfl) (wl_q (wl_i wl_c2 68 rfl) (wl_q (wl_i wl_c2 65 rfl) (wl_q (wl_i wl_c2 81 rfl) (wl_q (wl_i wl_c2 82 rfl) (wl_q (wl_i wl_c2 83 rfl) (wl_q (wl_i wl_c2 84 rfl) (wl_q (wl_i wl_c2 117 rfl) (wl_q (wl_i wl_c2 88 rfl) (wl_n))))))))))))))))))))))))
set_option maxRecDepth 20000 in
theorem wl_r6 : ∀ w ∈ wsL_law_r6, w ∈ lw_tbl := by
  unfold wsL_law_r6
  exact wl_q (wl_i wl_c2 85 rfl) (wl_q (wl_i wl_c2 86 rfl) (wl_q (wl_i wl_c2 87 rfl) (wl_q (wl_i wl_c2 120 rfl) (wl_q (wl_i wl_c2 121 rfl) (wl_q (wl_i wl_c2 122 rfl) (wl_q (wl_i wl_c2 123 rfl) (wl_q (wl_i wl_c2 124 rfl) (wl_q (wl_i wl_c2 129 rfl) (wl_q (wl_i wl_c2 130 rfl) (wl_q (wl_i wl_c2 131 rfl) (wl_q (wl_i wl_c2 126 rfl) (wl_q (wl_i wl_c2 127 rfl) (wl_q (wl_i wl_c2 128 rfl) (wl_q (wl_i wl_c2 125 rfl) (wl_q (wl_i wl_c2 153 rfl) (wl_q (wl_i wl_c2 154 rfl) (wl_q (wl_i wl_c2 155 rfl) (wl_q (wl_i wl_c2 156 rfl) (wl_q (wl_i wl_c2 159 rfl) (wl_q (wl_i wl_c2 160 rfl) (wl_q (wl_i wl_c2 157 rfl) (wl_q (wl_i wl_c1 225 rfl) (wl_q (wl_i wl_c2 158 rfl) (wl_n))))))))))))))))))))))))
set_option maxRecDepth 20000 in
theorem wl_r7 : ∀ w ∈ wsL_law_r7, w ∈ lw_tbl := by
  unfold wsL_law_r7
  exact wl_q (wl_i wl_c2 172 rfl) (wl_q (wl_i wl_c2 173 rfl) (wl_q (wl_i wl_c2 174 rfl) (wl_q (wl_i wl_c2 175 rfl) (wl_q (wl_i wl_c2 178 rfl) (wl_q (wl_i wl_c2 179 rfl) (wl_q (wl_i wl_c2 176 rfl) (wl_q (wl_i wl_c1 226 rfl) (wl_q (wl_i wl_c2 177 rfl) (wl_q (wl_i wl_c6 122 rfl) (wl_q (wl_i wl_c6 123 rfl) (wl_q (wl_i wl_c6 124 rfl) (wl_q (wl_i wl_c6 125 rfl) (wl_q (wl_i wl_c3 237 rfl) (wl_q (wl_i wl_c6 126 rfl) (wl_q (wl_i wl_c6 129 rfl) (wl_q (wl_i wl_c6 130 rfl) (wl_q (wl_i wl_c6 131 rfl) (wl_q (wl_i wl_c6 132 rfl) (wl_q (wl_i wl_c6 137 rfl) (wl_q (wl_i wl_c6 138 rfl) (wl_q (wl_i wl_c6 139 rfl) (wl_q (wl_i wl_c6 147 rfl) (wl_q (wl_i wl_c6 149 rfl) (wl_n))))))))))))))))))))))))
set_option maxRecDepth 20000 in
theorem wl_r8 : ∀ w ∈ wsL_law_r8, w ∈ lw_tbl := by
  unfold wsL_law_r8
  exact wl_q (wl_i wl_c6 151 rfl) (wl_q (wl_i wl_c6 152 rfl) (wl_q (wl_i wl_c6 153 rfl) (wl_q (wl_i wl_c6 154 rfl) (wl_q (wl_i wl_c6 155 rfl) (wl_q (wl_i wl_c6 158 rfl) (wl_q (wl_i wl_c6 159 rfl) (wl_q (wl_i wl_c6 160 rfl) (wl_q (wl_i wl_c6 161 rfl) (wl_q (wl_i wl_c6 162 rfl) (wl_q (wl_i wl_c6 164 rfl) (wl_q (wl_i wl_c6 166 rfl) (wl_q (wl_i wl_c6 167 rfl) (wl_q (wl_i wl_c2 232 rfl) (wl_q (wl_i wl_c2 233 rfl) (wl_q (wl_i wl_c2 234 rfl) (wl_q (wl_i wl_c2 235 rfl) (wl_q (wl_i wl_c1 39 rfl) (wl_q (wl_i wl_c2 236 rfl) (wl_q (wl_i wl_c2 237 rfl) (wl_q (wl_i wl_c2 238 rfl) (wl_q (wl_i wl_c2 239 rfl) (wl_q (wl_i wl_c1 38 rfl) (wl_q (wl_i wl_c3 0 rfl) (wl_n))))))))))))))))))))))))
set_option maxRecDepth 20000 in
theorem wl_r9 : ∀ w ∈ wsL_law_r9, w ∈ lw_tbl := by
  unfold wsL_law_r9
  exact wl_q (wl_i wl_c3 1 rfl) (wl_q (wl_i wl_c3 2 rfl) (wl_q (wl_i wl_c3 3 rfl) (wl_q (wl_i wl_c7 13 rfl) (wl_q (wl_i wl_c7 14 rfl) (wl_q (wl_i wl_c7 15 rfl) (wl_q (wl_i wl_c7 16 rfl) (wl_q (wl_i wl_c6 127 rfl) (wl_q (wl_i wl_c7 17 rfl) (wl_q (wl_i wl_c7 19 rfl) (wl_q (wl_i wl_c0 62 rfl) (wl_q (wl_i wl_c7 20 rfl) (wl_q (wl_i wl_c3 4 rfl) (wl_q (wl_i wl_c3 5 rfl) (wl_q (wl_i wl_c3 6 rfl) (wl_q (wl_i wl_c3 7 rfl) (wl_q (wl_i wl_c7 21 rfl) (wl_q (wl_i wl_c7 22 rfl) (wl_q (wl_i wl_c7 23 rfl) (wl_q (wl_i wl_c7 24 rfl) (wl_q (wl_i wl_c3 8 rfl) (wl_q (wl_i wl_c3 9 rfl) (wl_q (wl_i wl_c3 10 rfl) (wl_q (wl_i wl_c3 11 rfl) (wl_n))))))))))))))))))))))))
set_option maxRecDepth 20000 in
theorem wl_r10 : ∀ w ∈ wsL_law_r10, w ∈ lw_tbl := by
  unfold wsL_law_r10
  exact wl_q (wl_i wl_c1 44 rfl) (wl_q (wl_i wl_c1 227 rfl) (wl_q (wl_i wl_c1 87 rfl) (wl_q (wl_i wl_c3 12 rfl) (wl_q (wl_i wl_c3 13 rfl) (wl_q (wl_i wl_c3 14 rfl) (wl_q (wl_i wl_c3 15 rfl) (wl_q (wl_i wl_c1 80 rfl) (wl_q (wl_i wl_c1 86 rfl) (wl_q (wl_i wl_c1 92 rfl) (wl_q (wl_i wl_c1 94 rfl) (wl_q (wl_i wl_c1 41 rfl) (wl_q (wl_i wl_c3 16 rfl) (wl_q (wl_i wl_c3 17 rfl) (wl_q (wl_i wl_c3 18 rfl) (wl_q (wl_i wl_c3 19 rfl) (wl_q (wl_i wl_c1 37 rfl) (wl_q (wl_i wl_c1 42 rfl) (wl_q (wl_i wl_c1 43 rfl) (wl_q (wl_i wl_c3 21 rfl) (wl_q (wl_i wl_c3 22 rfl) (wl_q (wl_i wl_c3 23 rfl) (wl_q (wl_i wl_c3 24 rfl) (wl_q (wl_i wl_c3 25 rfl) (wl_n))))))))))))))))))))))))
set_option maxRecDepth 20000 in
theorem wl_r11 : ∀ w ∈ wsL_law_r11, w ∈ lw_tbl := by
  unfold wsL_law_r11
  exact wl_q (wl_i wl_c3 26 rfl) (wl_q (wl_i wl_c3 27 rfl) (wl_q (wl_i wl_c3 28 rfl) (wl_q (wl_i wl_c3 29 rfl) (wl_q (wl_i wl_c3 31 rfl) (wl_q (wl_i wl_c0 0 rfl) (wl_q (wl_i wl_c3 32 rfl) (wl_q (wl_i wl_c3 33 rfl) (wl_q (wl_i wl_c3 34 rfl) (wl_q (wl_i wl_c3 35 rfl) (wl_q (wl_i wl_c1 14 rfl) (wl_q (wl_i wl_c3 36 rfl) (wl_q (wl_i wl_c9 57 rfl) (wl_q (wl_i wl_c3 37 rfl) (wl_q (wl_i wl_c3 38 rfl) (wl_q (wl_i wl_c3 39 rfl) (wl_q (wl_i wl_c3 40 rfl) (wl_q (wl_i wl_c3 41 rfl) (wl_q (wl_i wl_c9 58 rfl) (wl_q (wl_i wl_c3 43 rfl) (wl_q (wl_i wl_c3 44 rfl) (wl_q (wl_i wl_c3 45 rfl) (wl_q (wl_i wl_c3 46 rfl) (wl_q (wl_i wl_c3 47 rfl) (wl_n))))))))))))))))))))))))
set_option maxRecDepth 20000 in
theorem wl_r12 : ∀ w ∈ wsL_law_r12, w ∈ lw_tbl := by
  unfold wsL_law_r12
  exact wl_q (wl_i wl_c3 48 rfl) (wl_q (wl_i wl_c3 49 rfl) (wl_q (wl_i wl_c3 50 rfl) (wl_q (wl_i wl_c3 51 rfl) (wl_q (wl_i wl_c3 52 rfl) (wl_q (wl_i wl_c1 15 rfl) (wl_q (wl_i wl_c3 53 rfl) (wl_q (wl_i wl_c3 54 rfl) (wl_q (wl_i wl_c3 55 rfl) (wl_q (wl_i wl_c3 56 rfl) (wl_q (wl_i wl_c3 57 rfl) (wl_q (wl_i wl_c3 59 rfl) (wl_q (wl_i wl_c3 60 rfl) (wl_q (wl_i wl_c1 16 rfl) (wl_q (wl_i wl_c3 61 rfl) (wl_q (wl_i wl_c3 62 rfl) (wl_q (wl_i wl_c3 63 rfl) (wl_q (wl_i wl_c1 17 rfl) (wl_q (wl_i wl_c3 64 rfl) (wl_q (wl_i wl_c3 65 rfl) (wl_q (wl_i wl_c3 66 rfl) (wl_q (wl_i wl_c3 67 rfl) (wl_q (wl_i wl_c3 68 rfl) (wl_q (wl_i wl_c3 69 rfl) (wl_n))))))))))))))))))))))))
set_option maxRecDepth 20000 in
theorem wl_r13 : ∀ w ∈ wsL_law_r13, w ∈ lw_tbl := by
  unfold wsL_law_r13
  exact wl_q (wl_i wl_c3 70 rfl) (wl_q (wl_i wl_c3 71 rfl) (wl_q (wl_i wl_c3 72 rfl) (wl_q (wl_i wl_c3 73 rfl) (wl_q (wl_i wl_c3 74 rfl) (wl_q (wl_i wl_c3 75 rfl) (wl_q (wl_i wl_c3 77 rfl) (wl_q (wl_i wl_c3 79 rfl) (wl_q (wl_i wl_c3 81 rfl) (wl_q (wl_i wl_c3 82 rfl) (wl_q (wl_i wl_c3 83 rfl) (wl_q (wl_i wl_c3 84 rfl) (wl_q (wl_i wl_c3 85 rfl) (wl_q (wl_i wl_c3 87 rfl) (wl_q (wl_i wl_c0 1 rfl) (wl_q (wl_i wl_c3 88 rfl) (wl_q (wl_i wl_c3 89 rfl) (wl_q (wl_i wl_c3 90 rfl) (wl_q (wl_i wl_c3 92 rfl) (wl_q (wl_i wl_c0 2 rfl) (wl_q (wl_i wl_c3 93 rfl) (wl_q (wl_i wl_c3 94 rfl) (wl_q (wl_i wl_c3 95 rfl) (wl_q (wl_i wl_c3 96 rfl) (wl_n))))))))))))))))))))))))
set_option maxRecDepth 20000 in
theorem wl_r14 : ∀ w ∈ wsL_law_r14, w ∈ lw_tbl := by
  unfold wsL_law_r14
  exact wl_q (wl_i wl_c3 97 rfl) (wl_q (wl_i wl_c3 98 rfl) (wl_q (wl_i wl_c3 99 rfl) (wl_q (wl_i wl_c3 100 rfl) (wl_q (wl_i wl_c3 101 rfl) (wl_q (wl_i wl_c3 102 rfl) (wl_q (wl_i wl_c3 103 rfl) (wl_q (wl_i wl_c3 104 rfl) (wl_q (wl_i wl_c3 105 rfl) (wl_q (wl_i wl_c3 106 rfl) (wl_q (wl_i wl_c3 108 rfl) (wl_q (wl_i wl_c0 3 rfl) (wl_q (wl_i wl_c3 109 rfl) (wl_q (wl_i wl_c3 110 rfl) (wl_q (wl_i wl_c3 112 rfl) (wl_q (wl_i wl_c0 4 rfl) (wl_q (wl_i wl_c3 113 rfl) (wl_q (wl_i wl_c3 114 rfl) (wl_q (wl_i wl_c3 116 rfl) (wl_q (wl_i wl_c0 5 rfl) (wl_q (wl_i wl_c3 117 rfl) (wl_q (wl_i wl_c3 118 rfl) (wl_q (wl_i wl_c3 119 rfl) (wl_q (wl_i wl_c3 120 rfl) (wl_n))))))))))))))))))))))))
set_option maxRecDepth 20000 in
theorem wl_r15 : ∀ w ∈ wsL_law_r15, w ∈ lw_tbl := by
  unfold wsL_law_r15
  exact wl_q (wl_i wl_c3 121 rfl) (wl_q (wl_i wl_c3 122 rfl) (wl_q (wl_i wl_c3 124 rfl) (wl_q (wl_i wl_c3 125 rfl) (wl_q (wl_i wl_c3 126 rfl) (wl_q (wl_i wl_c3 127 rfl) (wl_q (wl_i wl_c3 128 rfl) (wl_q (wl_i wl_c3 129 rfl) (wl_q (wl_i wl_c3 130 rfl) (wl_q (wl_i wl_c3 131 rfl) (wl_q (wl_i wl_c3 132 rfl) (wl_q (wl_i wl_c3 133 rfl) (wl_q (wl_i wl_c3 134 rfl) (wl_q (wl_i wl_c3 135 rfl) (wl_q (wl_i wl_c3 139 rfl) (wl_q (wl_i wl_c3 140 rfl) (wl_q (wl_i wl_c1 18 rfl) (wl_q (wl_i wl_c3 141 rfl) (wl_q (wl_i wl_c3 142 rfl) (wl_q (wl_i wl_c3 143 rfl) (wl_q (wl_i wl_c3 144 rfl) (wl_q (wl_i wl_c3 136 rfl) (wl_q (wl_i wl_c3 137 rfl) (wl_q (wl_i wl_c3 138 rfl) (wl_n))))))))))))))))))))))))
set_option maxRecDepth 20000 in
theorem wl_r16 : ∀ w ∈ wsL_law_r16, w ∈ lw_tbl := by
  unfold wsL_law_r16
  exact wl_q (wl_i wl_c3 145 rfl) (wl_q (wl_i wl_c3 146 rfl) (wl_q (wl_i wl_c3 147 rfl) (wl_q (wl_i wl_c3 148 rfl) (wl_q (wl_i wl_c3 149 rfl) (wl_q (wl_i wl_c3 150 rfl) (wl_q (wl_i wl_c3 151 rfl) (wl_q (wl_i wl_c3 152 rfl) (wl_q (wl_i wl_c3 153 rfl) (wl_q (wl_i wl_c3 154 rfl) (wl_q (wl_i wl_c3 155 rfl) (wl_q (wl_i wl_c3 156 rfl) (wl_q (wl_i wl_c3 157 rfl) (wl_q (wl_i wl_c3 158 rfl) (wl_q (wl_i wl_c3 159 rfl) (wl_q (wl_i wl_c3 160 rfl) (wl_q (wl_i wl_c3 161 rfl) (wl_q (wl_i wl_c3 162 rfl) (wl_q (wl_i wl_c3 163 rfl) (wl_q (wl_i wl_c3 164 rfl) (wl_q (wl_i wl_c3 165 rfl) (wl_q (wl_i wl_c3 166 rfl) (wl_q (wl_i wl_c3 167 rfl) (wl_q (wl_i wl_c3 168 rfl) (wl_n))))))))))))))))))))))))
set_option maxRecDepth 20000 in
theorem wl_r17 : ∀ w ∈ wsL_law_r17, w ∈ lw_tbl := by
  unfold wsL_law_r17
  exact wl_q (wl_i wl_c3 169 rfl) (wl_q (wl_i wl_c3 170 rfl) (wl_q (wl_i wl_c3 171 rfl) (wl_q (wl_i wl_c3 172 rfl) (wl_q (wl_i wl_c3 173 rfl) (wl_q (wl_i wl_c1 19 rfl) (wl_q (wl_i wl_c3 174 rfl) (wl_q (wl_i wl_c3 175 rfl) (wl_q (wl_i wl_c3 176 rfl) (wl_q (wl_i wl_c3 177 rfl) (wl_q (wl_i wl_c3 178 rfl) (wl_q (wl_i wl_c3 179 rfl) (wl_q (wl_i wl_c3 180 rfl) (wl_q (wl_i wl_c3 181 rfl) (wl_q (wl_i wl_c3 182 rfl) (wl_q (wl_i wl_c3 183 rfl) (wl_q (wl_i wl_c3 184 rfl) (wl_q (wl_i wl_c3 185 rfl) (wl_q (wl_i wl_c3 186 rfl) (wl_q (wl_i wl_c3 187 rfl) (wl_q (wl_i wl_c3 188 rfl) (wl_q (wl_i wl_c3 189 rfl) (wl_q (wl_i wl_c3 190 rfl) (wl_q (wl_i wl_c3 191 rfl) (wl_n))))))))))))))))))))))))
set_option maxRecDepth 20000 in
theorem wl_r18 : ∀ w ∈ wsL_law_r18, w ∈ lw_tbl := by
  unfold wsL_law_r18
  exact wl_q (wl_i wl_c3 193 rfl) (wl_q (wl_i wl_c0 6 rfl) (wl_q (wl_i wl_c3 194 rfl) (wl_q (wl_i wl_c3 195 rfl) (wl_q (wl_i wl_c3 197 rfl) (wl_q (wl_i wl_c0 7 rfl) (wl_q (wl_i wl_c3 198 rfl) (wl_q (wl_i wl_c3 199 rfl) (wl_q (wl_i wl_c3 201 rfl) (wl_q (wl_i wl_c0 8 rfl) (wl_q (wl_i wl_c3 202 rfl) (wl_q (wl_i wl_c3 203 rfl) (wl_q (wl_i wl_c3 204 rfl) (wl_q (wl_i wl_c3 205 rfl) (wl_q (wl_i wl_c3 206 rfl) (wl_q (wl_i wl_c3 207 rfl) (wl_q (wl_i wl_c3 208 rfl) (wl_q (wl_i wl_c3 209 rfl) (wl_q (wl_i wl_c3 210 rfl) (wl_q (wl_i wl_c3 211 rfl) (wl_q (wl_i wl_c3 212 rfl) (wl_q (wl_i wl_c3 213 rfl) (wl_q (wl_i wl_c3 214 rfl) (wl_q (wl_i wl_c3 216 rfl) (wl_n))))))))))))))))))))))))
set_option maxRecDepth 20000 in
theorem wl_r19 : ∀ w ∈ wsL_law_r19, w ∈ lw_tbl := by
  unfold wsL_law_r19
  exact wl_q (wl_i wl_c0 9 rfl) (wl_q (wl_i wl_c3 217 rfl) (wl_q (wl_i wl_c3 218 rfl) (wl_q (wl_i wl_c3 219 rfl) (wl_q (wl_i wl_c3 220 rfl) (wl_q (wl_i wl_c3 221 rfl) (wl_q (wl_i wl_c3 222 rfl) (wl_q (wl_i wl_c3 223 rfl) (wl_q (wl_i wl_c3 224 rfl) (wl_q (wl_i wl_c3 225 rfl) (wl_q (wl_i wl_c2 11 rfl) (wl_q (wl_i wl_c2 15 rfl) (wl_q (wl_i wl_c2 18 rfl) (wl_q (wl_i wl_c2 21 rfl) (wl_q (wl_i wl_c2 23 rfl) (wl_q (wl_i wl_c3 226 rfl) (wl_q (wl_i wl_c3 227 rfl) (wl_q (wl_i wl_c3 228 rfl) (wl_q (wl_i wl_c3 229 rfl) (wl_q (wl_i wl_c3 230 rfl) (wl_q (wl_i wl_c3 232 rfl) (wl_q (wl_i wl_c3 231 rfl) (wl_q (wl_i wl_c1 20 rfl) (wl_q (wl_i wl_c3 233 rfl) (wl_n))))))))))))))))))))))))
set_option maxRecDepth 20000 in
theorem wl_r20 : ∀ w ∈ wsL_law_r20, w ∈ lw_tbl := by
  unfold wsL_law_r20
  exact wl_q (wl_i wl_c3 234 rfl) (wl_q (wl_i wl_c3 235 rfl) (wl_q (wl_i wl_c3 236 rfl) (wl_q (wl_i wl_c7 186 rfl) (wl_q (wl_i wl_c7 187 rfl) (wl_q (wl_i wl_c7 188 rfl) (wl_q (wl_i wl_c7 189 rfl) (wl_q (wl_i wl_c6 143 rfl) (wl_q (wl_i wl_c6 133 rfl) (wl_q (wl_i wl_c6 134 rfl) (wl_q (wl_i wl_c6 135 rfl) (wl_q (wl_i wl_c6 136 rfl) (wl_q (wl_i wl_c6 141 rfl) (wl_q (wl_i wl_c7 29 rfl) (wl_q (wl_i wl_c7 31 rfl) (wl_q (wl_i wl_c0 63 rfl) (wl_q (wl_i wl_c7 32 rfl) (wl_q (wl_i wl_c6 146 rfl) (wl_q (wl_i wl_c6 140 rfl) (wl_q (wl_i wl_c6 144 rfl) (wl_q (wl_i wl_c7 33 rfl) (wl_q (wl_i wl_c7 35 rfl) (wl_q (wl_i wl_c0 64 rfl) (wl_q (wl_i wl_c7 36 rfl) (wl_n))))))))))))))))))))))))
set_option maxRecDepth 20000 in
theorem wl_r21 : ∀ w ∈ wsL_law_r21, w ∈ lw_tbl := by
  unfold wsL_law_r21
  exact wl_q (wl_i wl_c7 41 rfl) (wl_q (wl_i wl_c7 50 rfl) (wl_q (wl_i wl_c7 51 rfl) (wl_q (wl_i wl_c7 52 rfl) (wl_q (wl_i wl_c7 37 rfl) (wl_q (wl_i wl_c7 39 rfl) (wl_q (wl_i wl_c0 65 rfl) (wl_q (wl_i wl_c7 40 rfl) (wl_q (wl_i wl_c7 42 rfl) (wl_q (wl_i wl_c7 44 rfl) (wl_q (wl_i wl_c0 66 rfl) (wl_q (wl_i wl_c7 45 rfl) (wl_q (wl_i wl_c7 46 rfl) (wl_q (wl_i wl_c7 48 rfl) (wl_q (wl_i wl_c0 67 rfl) (wl_q (wl_i wl_c7 49 rfl) (wl_q (wl_i wl_c7 53 rfl) (wl_q (wl_i wl_c7 55 rfl) (wl_q (wl_i wl_c0 68 rfl) (wl_q (wl_i wl_c7 56 rfl) (wl_q (wl_i wl_c7 57 rfl) (wl_q (wl_i wl_c7 58 rfl) (wl_q (wl_i wl_c7 59 rfl) (wl_q (wl_i wl_c7 60 rfl) (wl_n))))))))))))))))))))))))
set_option maxRecDepth 20000 in
theorem wl_r22 : ∀ w ∈ wsL_law_r22, w ∈ lw_tbl := by
  unfold wsL_law_r22
  exact wl_q (wl_i wl_c7 61 rfl) (wl_q (wl_i wl_c7 63 rfl) (wl_q (wl_i wl_c0 69 rfl) (wl_q (wl_i wl_c7 64 rfl) (wl_q (wl_i wl_c7 65 rfl) (wl_q (wl_i wl_c7 67 rfl) (wl_q (wl_i wl_c0 70 rfl) (wl_q (wl_i wl_c7 68 rfl) (wl_q (wl_i wl_c7 69 rfl) (wl_q (wl_i wl_c7 71 rfl) (wl_q (wl_i wl_c0 71 rfl) (wl_q (wl_i wl_c7 72 rfl) (wl_q (wl_i wl_c6 142 rfl) (wl_q (wl_i wl_c7 73 rfl) (wl_q (wl_i wl_c7 75 rfl) (wl_q (wl_i wl_c0 72 rfl) (wl_q (wl_i wl_c7 76 rfl) (wl_q (wl_i wl_c7 77 rfl) (wl_q (wl_i wl_c7 79 rfl) (wl_q (wl_i wl_c0 73 rfl) (wl_q (wl_i wl_c7 80 rfl) (wl_q (wl_i wl_c7 81 rfl) (wl_q (wl_i wl_c7 83 rfl) (wl_q (wl_i wl_c0 74 rfl) (wl_n))))))))))))))))))))))))
set_option maxRecDepth 20000 in
theorem wl_r23 : ∀ w ∈ wsL_law_r23, w ∈ lw_tbl := by
  unfold wsL_law_r23
  exact wl_q (wl_i wl_c7 84 rfl) (wl_q (wl_i wl_c7 85 rfl) (wl_q (wl_i wl_c7 86 rfl) (wl_q (wl_i wl_c7 87 rfl) (wl_q (wl_i wl_c7 88 rfl) (wl_q (wl_i wl_c7 90 rfl) (wl_q (wl_i wl_c0 75 rfl) (wl_q (wl_i wl_c7 91 rfl) (wl_q (wl_i wl_c7 92 rfl) (wl_q (wl_i wl_c7 94 rfl) (wl_q (wl_i wl_c0 76 rfl) (wl_q (wl_i wl_c7 95 rfl) (wl_q (wl_i wl_c7 96 rfl) (wl_q (wl_i wl_c7 98 rfl) (wl_q (wl_i wl_c0 77 rfl) (wl_q (wl_i wl_c7 99 rfl) (wl_q (wl_i wl_c7 100 rfl) (wl_q (wl_i wl_c7 102 rfl) (wl_q (wl_i wl_c0 78 rfl) (wl_q (wl_i wl_c7 103 rfl) (wl_q (wl_i wl_c7 104 rfl) (wl_q (wl_i wl_c7 106 rfl) (wl_q (wl_i wl_c0 79 rfl) (wl_q (wl_i wl_c7 107 rfl) (wl_n))))))))))))))))))))))))
set_option maxRecDepth 20000 in
theorem wl_r24 : ∀ w ∈ wsL_law_r24, w ∈ lw_tbl := by
  unfold wsL_law_r24
  exact wl_q (wl_i wl_c7 108 rfl) (wl_q (wl_i wl_c7 110 rfl) (wl_q (wl_i wl_c0 80 rfl) (wl_q (wl_i wl_c7 111 rfl) (wl_q (wl_i wl_c7 112 rfl) (wl_q (wl_i wl_c7 113 rfl) (wl_q (wl_i wl_c7 115 rfl) (wl_q (wl_i wl_c0 81 rfl) (wl_q (wl_i wl_c7 116 rfl) (wl_q (wl_i wl_c7 117 rfl) (wl_q (wl_i wl_c7 119 rfl) (wl_q (wl_i wl_c0 82 rfl) (wl_q (wl_i wl_c7 120 rfl) (wl_q (wl_i wl_c6 148 rfl) (wl_q (wl_i wl_c6 145 rfl) (wl_q (wl_i wl_c7 184 rfl) (wl_q (wl_i wl_c7 185 rfl) (wl_q (wl_i wl_c7 121 rfl) (wl_q (wl_i wl_c7 123 rfl) (wl_q (wl_i wl_c0 83 rfl) (wl_q (wl_i wl_c7 124 rfl) (wl_q (wl_i wl_c7 125 rfl) (wl_q (wl_i wl_c7 126 rfl) (wl_q (wl_i wl_c7 128 rfl) (wl_n))))))))))))))))))))))))
set_option maxRecDepth 20000 in
theorem wl_r25 : ∀ w ∈ wsL_law_r25, w ∈ lw_tbl := by
  unfold wsL_law_r25
  exact wl_q (wl_i wl_c0 84 rfl) (wl_q (wl_i wl_c7 129 rfl) (wl_q (wl_i wl_c7 130 rfl) (wl_q (wl_i wl_c7 132 rfl) (wl_q (wl_i wl_c0 85 rfl) (wl_q (wl_i wl_c7 133 rfl) (wl_q (wl_i wl_c7 134 rfl) (wl_q (wl_i wl_c7 136 rfl) (wl_q (wl_i wl_c0 86 rfl) (wl_q (wl_i wl_c7 137 rfl) (wl_q (wl_i wl_c7 138 rfl) (wl_q (wl_i wl_c7 140 rfl) (wl_q (wl_i wl_c0 87 rfl) (wl_q (wl_i wl_c7 141 rfl) (wl_q (wl_i wl_c7 142 rfl) (wl_q (wl_i wl_c7 144 rfl) (wl_q (wl_i wl_c0 88 rfl) (wl_q (wl_i wl_c7 145 rfl) (wl_q (wl_i wl_c7 146 rfl) (wl_q (wl_i wl_c7 147 rfl) (wl_q (wl_i wl_c7 149 rfl) (wl_q (wl_i wl_c0 89 rfl) (wl_q (wl_i wl_c7 150 rfl) (wl_q (wl_i wl_c7 151 rfl) (wl_n))))))))))))))))))))))))
set_option maxRecDepth 20000 in
theorem wl_r26 : ∀ w ∈ wsL_law_r26, w ∈ lw_tbl := by
  unfold wsL_law_r26
  exact wl_q (wl_i wl_c7 153 rfl) (wl_q (wl_i wl_c0 90 rfl) (wl_q (wl_i wl_c7 154 rfl) (wl_q (wl_i wl_c7 155 rfl) (wl_q (wl_i wl_c7 157 rfl) (wl_q (wl_i wl_c0 91 rfl) (wl_q (wl_i wl_c7 158 rfl) (wl_q (wl_i wl_c7 159 rfl) (wl_q (wl_i wl_c7 160 rfl) (wl_q (wl_i wl_c7 161 rfl) (wl_q (wl_i wl_c7 162 rfl) (wl_q (wl_i wl_c7 163 rfl) (wl_q (wl_i wl_c7 164 rfl) (wl_q (wl_i wl_c7 165 rfl) (wl_q (wl_i wl_c7 166 rfl) (wl_q (wl_i wl_c7 167 rfl) (wl_q (wl_i wl_c7 168 rfl) (wl_q (wl_i wl_c7 169 rfl) (wl_q (wl_i wl_c7 171 rfl) (wl_q (wl_i wl_c0 92 rfl) (wl_q (wl_i wl_c7 172 rfl) (wl_q (wl_i wl_c7 173 rfl) (wl_q (wl_i wl_c7 175 rfl) (wl_q (wl_i wl_c0 93 rfl) (wl_n))))))))))))))))))))))))
set_option maxRecDepth 20000 in
theorem wl_r27 : ∀ w ∈ wsL_law_r27, w ∈ lw_tbl := by
  unfold wsL_law_r27
  exact wl_q (wl_i wl_c7 176 rfl) (wl_q (wl_i wl_c7 177 rfl) (wl_q (wl_i wl_c7 178 rfl) (wl_q (wl_i wl_c7 179 rfl) (wl_q (wl_i wl_c7 180 rfl) (wl_q (wl_i wl_c7 182 rfl) (wl_q (wl_i wl_c0 94 rfl) (wl_q (wl_i wl_c7 183 rfl) (wl_q (wl_i wl_c3 238 rfl) (wl_q (wl_i wl_c3 239 rfl) (wl_q (wl_i wl_c4 0 rfl) (wl_q (wl_i wl_c4 1 rfl) (wl_q (wl_i wl_c2 204 rfl) (wl_q (wl_i wl_c4 2 rfl) (wl_q (wl_i wl_c4 3 rfl) (wl_q (wl_i wl_c4 4 rfl) (wl_q (wl_i wl_c4 5 rfl) (wl_q (wl_i wl_c1 156 rfl) (wl_q (wl_i wl_c1 157 rfl) (wl_q (wl_i wl_c1 40 rfl) (wl_q (wl_i wl_c4 6 rfl) (wl_q (wl_i wl_c4 7 rfl) (wl_q (wl_i wl_c4 8 rfl) (wl_q (wl_i wl_c4 9 rfl) (wl_n))))))))))))))))))))))))
set_option maxRecDepth 20000 in
theorem wl_r28 : ∀ w ∈ wsL_law_r28, w ∈ lw_tbl := by
  unfold wsL_law_r28
  exact wl_q (wl_i wl_c1 132 rfl) (wl_q (wl_i wl_c1 131 rfl) (wl_q (wl_i wl_c1 134 rfl) (wl_q (wl_i wl_c4 10 rfl) (wl_q (wl_i wl_c4 12 rfl) (wl_q (wl_i wl_c4 13 rfl) (wl_q (wl_i wl_c4 14 rfl) (wl_q (wl_i wl_c4 15 rfl) (wl_q (wl_i wl_c4 16 rfl) (wl_q (wl_i wl_c4 17 rfl) (wl_q (wl_i wl_c4 18 rfl) (wl_q (wl_i wl_c4 19 rfl) (wl_q (wl_i wl_c4 20 rfl) (wl_q (wl_i wl_c4 21 rfl) (wl_q (wl_i wl_c4 22 rfl) (wl_q (wl_i wl_c4 23 rfl) (wl_q (wl_i wl_c4 25 rfl) (wl_q (wl_i wl_c4 26 rfl) (wl_q (wl_i wl_c4 27 rfl) (wl_q (wl_i wl_c4 28 rfl) (wl_q (wl_i wl_c4 29 rfl) (wl_q (wl_i wl_c4 31 rfl) (wl_q (wl_i wl_c0 10 rfl) (wl_q (wl_i wl_c4 32 rfl) (wl_n))))))))))))))))))))))))
set_option maxRecDepth 20000 in
theorem wl_r29 : ∀ w ∈ wsL_law_r29, w ∈ lw_tbl := by
  unfold wsL_law_r29
  exact wl_q (wl_i wl_c4 33 rfl) (wl_q (wl_i wl_c4 35 rfl) (wl_q (wl_i wl_c0 11 rfl) (wl_q (wl_i wl_c4 51 rfl) (wl_q (wl_i wl_c4 52 rfl) (wl_q (wl_i wl_c4 53 rfl) (wl_q (wl_i wl_c4 54 rfl) (wl_q (wl_i wl_c4 65 rfl) (wl_q (wl_i wl_c4 67 rfl) (wl_q (wl_i wl_c0 16 rfl) (wl_q (wl_i wl_c4 68 rfl) (wl_q (wl_i wl_c4 36 rfl) (wl_q (wl_i wl_c4 38 rfl) (wl_q (wl_i wl_c4 39 rfl) (wl_q (wl_i wl_c4 41 rfl) (wl_q (wl_i wl_c0 12 rfl) (wl_q (wl_i wl_c4 42 rfl) (wl_q (wl_i wl_c4 43 rfl) (wl_q (wl_i wl_c4 45 rfl) (wl_q (wl_i wl_c0 13 rfl) (wl_q (wl_i wl_c4 46 rfl) (wl_q (wl_i wl_c4 49 rfl) (wl_q (wl_i wl_c4 47 rfl) (wl_q (wl_i wl_c4 48 rfl) (wl_n))))))))))))))))))))))))
set_option maxRecDepth 20000 in
theorem wl_r30 : ∀ w ∈ wsL_law_r30, w ∈ lw_tbl := by
  unfold wsL_law_r30
  exact wl_q (wl_i wl_c4 50 rfl) (wl_q (wl_i wl_c4 56 rfl) (wl_q (wl_i wl_c4 58 rfl) (wl_q (wl_i wl_c0 14 rfl) (wl_q (wl_i wl_c4 59 rfl) (wl_q (wl_i wl_c4 60 rfl) (wl_q (wl_i wl_c4 62 rfl) (wl_q (wl_i wl_c0 15 rfl) (wl_q (wl_i wl_c4 63 rfl) (wl_q (wl_i wl_c4 64 rfl) (wl_q (wl_i wl_c4 69 rfl) (wl_q (wl_i wl_c4 71 rfl) (wl_q (wl_i wl_c0 17 rfl) (wl_q (wl_i wl_c4 72 rfl) (wl_q (wl_i wl_c4 73 rfl) (wl_q (wl_i wl_c4 74 rfl) (wl_q (wl_i wl_c4 77 rfl) (wl_q (wl_i wl_c7 25 rfl) (wl_q (wl_i wl_c7 26 rfl) (wl_q (wl_i wl_c7 27 rfl) (wl_q (wl_i wl_c7 28 rfl) (wl_q (wl_i wl_c6 128 rfl) (wl_q (wl_i wl_c4 78 rfl) (wl_q (wl_i wl_c4 79 rfl) (wl_n))))))))))))))))))))))))
set_option maxRecDepth 20000 in
theorem wl_r31 : ∀ w ∈ wsL_law_r31, w ∈ lw_tbl := by
  unfold wsL_law_r31
  exact wl_q (wl_i wl_c4 80 rfl) (wl_q (wl_i wl_c4 81 rfl) (wl_q (wl_i wl_c1 65 rfl) (wl_q (wl_i wl_c1 68 rfl) (wl_q (wl_i wl_c4 82 rfl) (wl_q (wl_i wl_c4 83 rfl) (wl_q (wl_i wl_c4 84 rfl) (wl_q (wl_i wl_c4 85 rfl) (wl_q (wl_i wl_c4 86 rfl) (wl_q (wl_i wl_c4 87 rfl) (wl_q (wl_i wl_c4 88 rfl) (wl_q (wl_i wl_c4 89 rfl) (wl_q (wl_i wl_c7 190 rfl) (wl_q (wl_i wl_c7 191 rfl) (wl_q (wl_i wl_c7 192 rfl) (wl_q (wl_i wl_c7 193 rfl) (wl_q (wl_i wl_c7 198 rfl) (wl_q (wl_i wl_c7 194 rfl) (wl_q (wl_i wl_c7 196 rfl) (wl_q (wl_i wl_c0 95 rfl) (wl_q (wl_i wl_c7 197 rfl) (wl_q (wl_i wl_c7 199 rfl) (wl_q (wl_i wl_c7 201 rfl) (wl_q (wl_i wl_c0 96 rfl) (wl_n))))))))))))))))))))))))
set_option maxRecDepth 20000 in
theorem wl_r32 : ∀ w ∈ wsL_law_r32, w ∈ lw_tbl := by
  unfold wsL_law_r32
  exact wl_q (wl_i wl_c7 202 rfl) (wl_q (wl_i wl_c4 90 rfl) (wl_q (wl_i wl_c4 91 rfl) (wl_q (wl_i wl_c4 92 rfl) (wl_q (wl_i wl_c4 93 rfl) (wl_q (wl_i wl_c4 94 rfl) (wl_q (wl_i wl_c4 95 rfl) (wl_q (wl_i wl_c4 96 rfl) (wl_q (wl_i wl_c4 97 rfl) (wl_q (wl_i wl_c4 98 rfl) (wl_q (wl_i wl_c4 99 rfl) (wl_q (wl_i wl_c4 100 rfl) (wl_q (wl_i wl_c4 102 rfl) (wl_q (wl_i wl_c0 18 rfl) (wl_q (wl_i wl_c4 103 rfl) (wl_q (wl_i wl_c4 104 rfl) (wl_q (wl_i wl_c4 105 rfl) (wl_q (wl_i wl_c4 106 rfl) (wl_q (wl_i wl_c7 203 rfl) (wl_q (wl_i wl_c7 204 rfl) (wl_q (wl_i wl_c7 205 rfl) (wl_q (wl_i wl_c7 206 rfl) (wl_q (wl_i wl_c7 207 rfl) (wl_q (wl_i wl_c7 209 rfl) (wl_n))))))))))))))))))))))))
set_option maxRecDepth 20000 in
theorem wl_r33 : ∀ w ∈ wsL_law_r33, w ∈ lw_tbl := by
  unfold wsL_law_r33
  exact wl_q (wl_i wl_c0 97 rfl) (wl_q (wl_i wl_c7 210 rfl) (wl_q (wl_i wl_c7 211 rfl) (wl_q (wl_i wl_c7 213 rfl) (wl_q (wl_i wl_c0 98 rfl) (wl_q (wl_i wl_c7 214 rfl) (wl_q (wl_i wl_c7 215 rfl) (wl_q (wl_i wl_c7 216 rfl) (wl_q (wl_i wl_c7 217 rfl) (wl_q (wl_i wl_c7 218 rfl) (wl_q (wl_i wl_c7 220 rfl) (wl_q (wl_i wl_c0 99 rfl) (wl_q (wl_i wl_c7 221 rfl) (wl_q (wl_i wl_c7 222 rfl) (wl_q (wl_i wl_c7 224 rfl) (wl_q (wl_i wl_c0 100 rfl) (wl_q (wl_i wl_c7 225 rfl) (wl_q (wl_i wl_c7 226 rfl) (wl_q (wl_i wl_c7 228 rfl) (wl_q (wl_i wl_c0 101 rfl) (wl_q (wl_i wl_c7 229 rfl) (wl_q (wl_i wl_c7 230 rfl) (wl_q (wl_i wl_c7 231 rfl) (wl_q (wl_i wl_c7 232 rfl) (wl_n))))))))))))))))))))))))
set_option maxRecDepth 20000 in
theorem wl_r34 : ∀ w ∈ wsL_law_r34, w ∈ lw_tbl := by
  unfold wsL_law_r34
  exact wl_q (wl_i wl_c7 233 rfl) (wl_q (wl_i wl_c7 235 rfl) (wl_q (wl_i wl_c0 102 rfl) (wl_q (wl_i wl_c7 236 rfl) (wl_q (wl_i wl_c7 237 rfl) (wl_q (wl_i wl_c7 239 rfl) (wl_q (wl_i wl_c0 103 rfl) (wl_q (wl_i wl_c8 0 rfl) (wl_q (wl_i wl_c4 107 rfl) (wl_q (wl_i wl_c4 108 rfl) (wl_q (wl_i wl_c4 109 rfl) (wl_q (wl_i wl_c4 110 rfl) (wl_q (wl_i wl_c2 13 rfl) (wl_q (wl_i wl_c1 232 rfl) (wl_q (wl_i wl_c4 111 rfl) (wl_q (wl_i wl_c4 112 rfl) (wl_q (wl_i wl_c4 113 rfl) (wl_q (wl_i wl_c4 114 rfl) (wl_q (wl_i wl_c4 115 rfl) (wl_q (wl_i wl_c4 116 rfl) (wl_q (wl_i wl_c4 117 rfl) (wl_q (wl_i wl_c1 78 rfl) (wl_q (wl_i wl_c4 118 rfl) (wl_q (wl_i wl_c4 119 rfl) (wl_n))))))))))))))))))))))))
set_option maxRecDepth 20000 in
theorem wl_r35 : ∀ w ∈ wsL_law_r35, w ∈ lw_tbl := by
  unfold wsL_law_r35
  exact wl_q (wl_i wl_c4 120 rfl) (wl_q (wl_i wl_c4 121 rfl) (wl_q (wl_i wl_c8 1 rfl) (wl_q (wl_i wl_c8 2 rfl) (wl_q (wl_i wl_c8 3 rfl) (wl_q (wl_i wl_c8 4 rfl) (wl_q (wl_i wl_c8 9 rfl) (wl_q (wl_i wl_c8 5 rfl) (wl_q (wl_i wl_c8 7 rfl) (wl_q (wl_i wl_c0 104 rfl) (wl_q (wl_i wl_c8 8 rfl) (wl_q (wl_i wl_c4 122 rfl) (wl_q (wl_i wl_c4 123 rfl) (wl_q (wl_i wl_c4 124 rfl) (wl_q (wl_i wl_c4 125 rfl) (wl_q (wl_i wl_c4 126 rfl) (wl_q (wl_i wl_c4 128 rfl) (wl_q (wl_i wl_c0 19 rfl) (wl_q (wl_i wl_c4 129 rfl) (wl_q (wl_i wl_c4 130 rfl) (wl_q (wl_i wl_c4 131 rfl) (wl_q (wl_i wl_c4 132 rfl) (wl_q (wl_i wl_c8 10 rfl) (wl_q (wl_i wl_c8 11 rfl) (wl_n))))))))))))))))))))))))
set_option maxRecDepth 20000 in
theorem wl_r36 : ∀ w ∈ wsL_law_r36, w ∈ lw_tbl := by
  unfold wsL_law_r36
  exact wl_q (wl_i wl_c8 12 rfl) (wl_q (wl_i wl_c8 13 rfl) (wl_q (wl_i wl_c8 18 rfl) (wl_q (wl_i wl_c8 14 rfl) (wl_q (wl_i wl_c8 16 rfl) (wl_q (wl_i wl_c0 105 rfl) (wl_q (wl_i wl_c8 17 rfl) (wl_q (wl_i wl_c4 133 rfl) (wl_q (wl_i wl_c4 134 rfl) (wl_q (wl_i wl_c4 135 rfl) (wl_q (wl_i wl_c4 136 rfl) (wl_q (wl_i wl_c8 19 rfl) (wl_q (wl_i wl_c8 20 rfl) (wl_q (wl_i wl_c8 21 rfl) (wl_q (wl_i wl_c8 22 rfl) (wl_q (wl_i wl_c4 137 rfl) (wl_q (wl_i wl_c4 138 rfl) (wl_q (wl_i wl_c4 139 rfl) (wl_q (wl_i wl_c4 140 rfl) (wl_q (wl_i wl_c4 141 rfl) (wl_q (wl_i wl_c4 143 rfl) (wl_q (wl_i wl_c0 20 rfl) (wl_q (wl_i wl_c4 144 rfl) (wl_q (wl_i wl_c1 84 rfl) (wl_n))))))))))))))))))))))))
set_option maxRecDepth 20000 in
theorem wl_r37 : ∀ w ∈ wsL_law_r37, w ∈ lw_tbl := by
  unfold wsL_law_r37
  exact wl_q (wl_i wl_c4 145 rfl) (wl_q (wl_i wl_c4 146 rfl) (wl_q (wl_i wl_c4 147 rfl) (wl_q (wl_i wl_c4 148 rfl) (wl_q (wl_i wl_c4 149 rfl) (wl_q (wl_i wl_c4 151 rfl) (wl_q (wl_i wl_c0 21 rfl) (wl_q (wl_i wl_c4 152 rfl) (wl_q (wl_i wl_c4 156 rfl) (wl_q (wl_i wl_c1 230 rfl) (wl_q (wl_i wl_c1 91 rfl) (wl_q (wl_i wl_c1 71 rfl) (wl_q (wl_i wl_c4 153 rfl) (wl_q (wl_i wl_c4 154 rfl) (wl_q (wl_i wl_c4 155 rfl) (wl_q (wl_i wl_c4 157 rfl) (wl_q (wl_i wl_c4 159 rfl) (wl_q (wl_i wl_c0 22 rfl) (wl_q (wl_i wl_c4 160 rfl) (wl_q (wl_i wl_c1 233 rfl) (wl_q (wl_i wl_c4 161 rfl) (wl_q (wl_i wl_c4 162 rfl) (wl_q (wl_i wl_c4 163 rfl) (wl_q (wl_i wl_c4 164 rfl) (wl_n))))))))))))))))))))))))
set_option maxRecDepth 20000 in
theorem wl_r38 : ∀ w ∈ wsL_law_r38, w ∈ lw_tbl := by
  unfold wsL_law_r38
  exact wl_q (wl_i wl_c4 165 rfl) (wl_q (wl_i wl_c4 166 rfl) (wl_q (wl_i wl_c4 168 rfl) (wl_q (wl_i wl_c0 23 rfl) (wl_q (wl_i wl_c4 169 rfl) (wl_q (wl_i wl_c1 83 rfl) (wl_q (wl_i wl_c4 170 rfl) (wl_q (wl_i wl_c4 172 rfl) (wl_q (wl_i wl_c0 24 rfl) (wl_q (wl_i wl_c4 173 rfl) (wl_q (wl_i wl_c4 174 rfl) (wl_q (wl_i wl_c4 176 rfl) (wl_q (wl_i wl_c0 25 rfl) (wl_q (wl_i wl_c4 177 rfl) (wl_q (wl_i wl_c4 178 rfl) (wl_q (wl_i wl_c4 179 rfl) (wl_q (wl_i wl_c4 180 rfl) (wl_q (wl_i wl_c4 181 rfl) (wl_q (wl_i wl_c4 182 rfl) (wl_q (wl_i wl_c4 183 rfl) (wl_q (wl_i wl_c4 184 rfl) (wl_q (wl_i wl_c4 185 rfl) (wl_q (wl_i wl_c8 23 rfl) (wl_q (wl_i wl_c8 24 rfl) (wl_n))))))))))))))))))))))))
set_option maxRecDepth 20000 in
theorem wl_r39 : ∀ w ∈ wsL_law_r39, w ∈ lw_tbl := by
  unfold wsL_law_r39
  exact wl_q (wl_i wl_c8 25 rfl) (wl_q (wl_i wl_c8 26 rfl) (wl_q (wl_i wl_c8 35 rfl) (wl_q (wl_i wl_c8 27 rfl) (wl_q (wl_i wl_c8 29 rfl) (wl_q (wl_i wl_c0 106 rfl) (wl_q (wl_i wl_c8 30 rfl) (wl_q (wl_i wl_c8 31 rfl) (wl_q (wl_i wl_c8 33 rfl) (wl_q (wl_i wl_c0 107 rfl) (wl_q (wl_i wl_c8 34 rfl) (wl_q (wl_i wl_c8 36 rfl) (wl_q (wl_i wl_c8 38 rfl) (wl_q (wl_i wl_c0 108 rfl) (wl_q (wl_i wl_c8 39 rfl) (wl_q (wl_i wl_c8 40 rfl) (wl_q (wl_i wl_c8 42 rfl) (wl_q (wl_i wl_c0 109 rfl) (wl_q (wl_i wl_c8 43 rfl) (wl_q (wl_i wl_c4 186 rfl) (wl_q (wl_i wl_c4 187 rfl) (wl_q (wl_i wl_c4 188 rfl) (wl_q (wl_i wl_c4 189 rfl) (wl_q (wl_i wl_c2 16 rfl) (wl_n))))))))))))))))))))))))
set_option maxRecDepth 20000 in
theorem wl_r40 : ∀ w ∈ wsL_law_r40, w ∈ lw_tbl := by
  unfold wsL_law_r40
  exact wl_q (wl_i wl_c1 235 rfl) (wl_q (wl_i wl_c4 190 rfl) (wl_q (wl_i wl_c4 192 rfl) (wl_q (wl_i wl_c0 26 rfl) (wl_q (wl_i wl_c4 193 rfl) (wl_q (wl_i wl_c4 194 rfl) (wl_q (wl_i wl_c4 195 rfl) (wl_q (wl_i wl_c4 196 rfl) (wl_q (wl_i wl_c4 197 rfl) (wl_q (wl_i wl_c1 180 rfl) (wl_q (wl_i wl_c1 184 rfl) (wl_q (wl_i wl_c1 187 rfl) (wl_q (wl_i wl_c1 190 rfl) (wl_q (wl_i wl_c1 192 rfl) (wl_q (wl_i wl_c1 195 rfl) (wl_q (wl_i wl_c1 197 rfl) (wl_q (wl_i wl_c1 200 rfl) (wl_q (wl_i wl_c4 198 rfl) (wl_q (wl_i wl_c1 203 rfl) (wl_q (wl_i wl_c8 44 rfl) (wl_q (wl_i wl_c8 45 rfl) (wl_q (wl_i wl_c8 46 rfl) (wl_q (wl_i wl_c8 47 rfl) (wl_q (wl_i wl_c8 48 rfl) (wl_n))))))))))))))))))))))))
set_option maxRecDepth 20000 in
theorem wl_r41 : ∀ w ∈ wsL_law_r41, w ∈ lw_tbl := by
  unfold wsL_law_r41
  exact wl_q (wl_i wl_c8 50 rfl) (wl_q (wl_i wl_c0 110 rfl) (wl_q (wl_i wl_c8 51 rfl) (wl_q (wl_i wl_c8 52 rfl) (wl_q (wl_i wl_c8 54 rfl) (wl_q (wl_i wl_c0 111 rfl) (wl_q (wl_i wl_c8 55 rfl) (wl_q (wl_i wl_c4 199 rfl) (wl_q (wl_i wl_c4 200 rfl) (wl_q (wl_i wl_c4 201 rfl) (wl_q (wl_i wl_c4 202 rfl) (wl_q (wl_i wl_c4 203 rfl) (wl_q (wl_i wl_c4 205 rfl) (wl_q (wl_i wl_c0 27 rfl) (wl_q (wl_i wl_c4 206 rfl) (wl_q (wl_i wl_c4 207 rfl) (wl_q (wl_i wl_c4 208 rfl) (wl_q (wl_i wl_c4 209 rfl) (wl_q (wl_i wl_c4 210 rfl) (wl_q (wl_i wl_c8 56 rfl) (wl_q (wl_i wl_c8 57 rfl) (wl_q (wl_i wl_c8 58 rfl) (wl_q (wl_i wl_c8 59 rfl) (wl_q (wl_i wl_c8 64 rfl) (wl_n))))))))))))))))))))))))
set_option maxRecDepth 20000 in
theorem wl_r42 : ∀ w ∈ wsL_law_r42, w ∈ lw_tbl := by
  unfold wsL_law_r42
  exact wl_q (wl_i wl_c8 60 rfl) (wl_q (wl_i wl_c8 62 rfl) (wl_q (wl_i wl_c0 112 rfl) (wl_q (wl_i wl_c8 63 rfl) (wl_q (wl_i wl_c8 65 rfl) (wl_q (wl_i wl_c8 67 rfl) (wl_q (wl_i wl_c0 113 rfl) (wl_q (wl_i wl_c8 68 rfl) (wl_q (wl_i wl_c4 211 rfl) (wl_q (wl_i wl_c4 212 rfl) (wl_q (wl_i wl_c4 213 rfl) (wl_q (wl_i wl_c4 214 rfl) (wl_q (wl_i wl_c1 183 rfl) (wl_q (wl_i wl_c4 215 rfl) (wl_q (wl_i wl_c4 216 rfl) (wl_q (wl_i wl_c4 217 rfl) (wl_q (wl_i wl_c4 218 rfl) (wl_q (wl_i wl_c2 12 rfl) (wl_q (wl_i wl_c4 219 rfl) (wl_q (wl_i wl_c4 220 rfl) (wl_q (wl_i wl_c4 221 rfl) (wl_q (wl_i wl_c4 222 rfl) (wl_q (wl_i wl_c4 223 rfl) (wl_q (wl_i wl_c4 224 rfl) (wl_n))))))))))))))))))))))))
set_option maxRecDepth 20000 in
theorem wl_r43 : ∀ w ∈ wsL_law_r43, w ∈ lw_tbl := by
  unfold wsL_law_r43
  exact wl_q (wl_i wl_c4 225 rfl) (wl_q (wl_i wl_c4 226 rfl) (wl_q (wl_i wl_c4 227 rfl) (wl_q (wl_i wl_c1 191 rfl) (wl_q (wl_i wl_c1 135 rfl) (wl_q (wl_i wl_c2 91 rfl) (wl_q (wl_i wl_c2 90 rfl) (wl_q (wl_i wl_c2 92 rfl) (wl_q (wl_i wl_c1 204 rfl) (wl_q (wl_i wl_c1 199 rfl) (wl_q (wl_i wl_c1 194 rfl) (wl_q (wl_i wl_c1 196 rfl) (wl_q (wl_i wl_c4 228 rfl) (wl_q (wl_i wl_c4 229 rfl) (wl_q (wl_i wl_c4 230 rfl) (wl_q (wl_i wl_c4 231 rfl) (wl_q (wl_i wl_c4 232 rfl) (wl_q (wl_i wl_c4 234 rfl) (wl_q (wl_i wl_c0 28 rfl) (wl_q (wl_i wl_c4 235 rfl) (wl_q (wl_i wl_c2 95 rfl) (wl_q (wl_i wl_c1 188 rfl) (wl_q (wl_i wl_c1 181 rfl) (wl_q (wl_i wl_c1 185 rfl) (wl_n))))))))))))))))))))))))
set_option maxRecDepth 20000 in
theorem wl_r44 : ∀ w ∈ wsL_law_r44, w ∈ lw_tbl := by
  unfold wsL_law_r44
  exact wl_q (wl_i wl_c5 18 rfl) (wl_q (wl_i wl_c2 93 rfl) (wl_q (wl_i wl_c1 228 rfl) (wl_q (wl_i wl_c1 88 rfl) (wl_q (wl_i wl_c4 236 rfl) (wl_q (wl_i wl_c4 237 rfl) (wl_q (wl_i wl_c4 238 rfl) (wl_q (wl_i wl_c4 239 rfl) (wl_q (wl_i wl_c5 0 rfl) (wl_q (wl_i wl_c5 1 rfl) (wl_q (wl_i wl_c5 2 rfl) (wl_q (wl_i wl_c5 3 rfl) (wl_q (wl_i wl_c5 4 rfl) (wl_q (wl_i wl_c5 5 rfl) (wl_q (wl_i wl_c5 6 rfl) (wl_q (wl_i wl_c5 7 rfl) (wl_q (wl_i wl_c5 8 rfl) (wl_q (wl_i wl_c5 9 rfl) (wl_q (wl_i wl_c5 10 rfl) (wl_q (wl_i wl_c5 11 rfl) (wl_q (wl_i wl_c5 13 rfl) (wl_q (wl_i wl_c0 29 rfl) (wl_q (wl_i wl_c5 14 rfl) (wl_q (wl_i wl_c5 15 rfl) (wl_n))))))))))))))))))))))))
set_option maxRecDepth 20000 in
theorem wl_r45 : ∀ w ∈ wsL_law_r45, w ∈ lw_tbl := by
  unfold wsL_law_r45
  exact wl_q (wl_i wl_c5 16 rfl) (wl_q (wl_i wl_c5 17 rfl) (wl_q (wl_i wl_c5 19 rfl) (wl_q (wl_i wl_c5 21 rfl) (wl_q (wl_i wl_c0 30 rfl) (wl_q (wl_i wl_c5 22 rfl) (wl_q (wl_i wl_c1 133 rfl) (wl_q (wl_i wl_c5 23 rfl) (wl_q (wl_i wl_c5 24 rfl) (wl_q (wl_i wl_c5 25 rfl) (wl_q (wl_i wl_c5 26 rfl) (wl_q (wl_i wl_c5 27 rfl) (wl_q (wl_i wl_c5 29 rfl) (wl_q (wl_i wl_c0 31 rfl) (wl_q (wl_i wl_c5 30 rfl) (wl_q (wl_i wl_c5 31 rfl) (wl_q (wl_i wl_c5 33 rfl) (wl_q (wl_i wl_c0 32 rfl) (wl_q (wl_i wl_c5 34 rfl) (wl_q (wl_i wl_c2 89 rfl) (wl_q (wl_i wl_c5 35 rfl) (wl_q (wl_i wl_c5 36 rfl) (wl_q (wl_i wl_c5 37 rfl) (wl_q (wl_i wl_c5 38 rfl) (wl_n))))))))))))))))))))))))
set_option maxRecDepth 20000 in
theorem wl_r46 : ∀ w ∈ wsL_law_r46, w ∈ lw_tbl := by
  unfold wsL_law_r46
  exact wl_q (wl_i wl_c5 39 rfl) (wl_q (wl_i wl_c5 40 rfl) (wl_q (wl_i wl_c5 41 rfl) (wl_q (wl_i wl_c5 42 rfl) (wl_q (wl_i wl_c5 43 rfl) (wl_q (wl_i wl_c5 45 rfl) (wl_q (wl_i wl_c0 33 rfl) (wl_q (wl_i wl_c5 46 rfl) (wl_q (wl_i wl_c5 47 rfl) (wl_q (wl_i wl_c5 49 rfl) (wl_q (wl_i wl_c0 34 rfl) (wl_q (wl_i wl_c5 50 rfl) (wl_q (wl_i wl_c5 51 rfl) (wl_q (wl_i wl_c5 52 rfl) (wl_q (wl_i wl_c5 53 rfl) (wl_q (wl_i wl_c1 202 rfl) (wl_q (wl_i wl_c5 54 rfl) (wl_q (wl_i wl_c5 55 rfl) (wl_q (wl_i wl_c5 57 rfl) (wl_q (wl_i wl_c0 35 rfl) (wl_q (wl_i wl_c5 58 rfl) (wl_q (wl_i wl_c5 59 rfl) (wl_q (wl_i wl_c5 61 rfl) (wl_q (wl_i wl_c0 36 rfl) (wl_n))))))))))))))))))))))))
set_option maxRecDepth 20000 in
theorem wl_r47 : ∀ w ∈ wsL_law_r47, w ∈ lw_tbl := by
  unfold wsL_law_r47
  exact wl_q (wl_i wl_c5 62 rfl) (wl_q (wl_i wl_c5 63 rfl) (wl_q (wl_i wl_c5 64 rfl) (wl_q (wl_i wl_c5 65 rfl) (wl_q (wl_i wl_c5 66 rfl) (wl_q (wl_i wl_c5 68 rfl) (wl_q (wl_i wl_c0 37 rfl) (wl_q (wl_i wl_c5 69 rfl) (wl_q (wl_i wl_c1 69 rfl) (wl_q (wl_i wl_c5 70 rfl) (wl_q (wl_i wl_c8 69 rfl) (wl_q (wl_i wl_c8 70 rfl) (wl_q (wl_i wl_c8 71 rfl) (wl_q (wl_i wl_c8 72 rfl) (wl_q (wl_i wl_c8 73 rfl) (wl_q (wl_i wl_c8 74 rfl) (wl_q (wl_i wl_c8 76 rfl) (wl_q (wl_i wl_c0 114 rfl) (wl_q (wl_i wl_c8 77 rfl) (wl_q (wl_i wl_c8 78 rfl) (wl_q (wl_i wl_c8 80 rfl) (wl_q (wl_i wl_c0 115 rfl) (wl_q (wl_i wl_c8 81 rfl) (wl_q (wl_i wl_c6 157 rfl) (wl_n))))))))))))))))))))))))
set_option maxRecDepth 20000 in
theorem wl_r48 : ∀ w ∈ wsL_law_r48, w ∈ lw_tbl := by
  unfold wsL_law_r48
  exact wl_q (wl_i wl_c8 82 rfl) (wl_q (wl_i wl_c8 84 rfl) (wl_q (wl_i wl_c0 116 rfl) (wl_q (wl_i wl_c8 85 rfl) (wl_q (wl_i wl_c6 156 rfl) (wl_q (wl_i wl_c8 86 rfl) (wl_q (wl_i wl_c8 88 rfl) (wl_q (wl_i wl_c0 117 rfl) (wl_q (wl_i wl_c8 89 rfl) (wl_q (wl_i wl_c8 90 rfl) (wl_q (wl_i wl_c8 92 rfl) (wl_q (wl_i wl_c0 118 rfl) (wl_q (wl_i wl_c8 93 rfl) (wl_q (wl_i wl_c8 94 rfl) (wl_q (wl_i wl_c8 96 rfl) (wl_q (wl_i wl_c0 119 rfl) (wl_q (wl_i wl_c8 97 rfl) (wl_q (wl_i wl_c8 98 rfl) (wl_q (wl_i wl_c8 100 rfl) (wl_q (wl_i wl_c0 120 rfl) (wl_q (wl_i wl_c8 101 rfl) (wl_q (wl_i wl_c8 102 rfl) (wl_q (wl_i wl_c8 104 rfl) (wl_q (wl_i wl_c0 121 rfl) (wl_n))))))))))))))))))))))))
set_option maxRecDepth 20000 in
theorem wl_r49 : ∀ w ∈ wsL_law_r49, w ∈ lw_tbl := by
  unfold wsL_law_r49
  exact wl_q (wl_i wl_c8 105 rfl) (wl_q (wl_i wl_c8 106 rfl) (wl_q (wl_i wl_c8 107 rfl) (wl_q (wl_i wl_c8 109 rfl) (wl_q (wl_i wl_c0 122 rfl) (wl_q (wl_i wl_c8 110 rfl) (wl_q (wl_i wl_c8 111 rfl) (wl_q (wl_i wl_c8 113 rfl) (wl_q (wl_i wl_c0 123 rfl) (wl_q (wl_i wl_c8 114 rfl) (wl_q (wl_i wl_c8 115 rfl) (wl_q (wl_i wl_c8 117 rfl) (wl_q (wl_i wl_c0 124 rfl) (wl_q (wl_i wl_c8 118 rfl) (wl_q (wl_i wl_c6 150 rfl) (wl_q (wl_i wl_c8 119 rfl) (wl_q (wl_i wl_c8 121 rfl) (wl_q (wl_i wl_c0 125 rfl) (wl_q (wl_i wl_c8 122 rfl) (wl_q (wl_i wl_c8 123 rfl) (wl_q (wl_i wl_c8 125 rfl) (wl_q (wl_i wl_c0 126 rfl) (wl_q (wl_i wl_c8 126 rfl) (wl_q (wl_i wl_c8 127 rfl) (wl_n))))))))))))))))))))))))
set_option maxRecDepth 20000 in
theorem wl_r50 : ∀ w ∈ wsL_law_r50, w ∈ lw_tbl := by
  unfold wsL_law_r50
  exact wl_q (wl_i wl_c8 128 rfl) (wl_q (wl_i wl_c8 129 rfl) (wl_q (wl_i wl_c8 130 rfl) (wl_q (wl_i wl_c8 132 rfl) (wl_q (wl_i wl_c0 127 rfl) (wl_q (wl_i wl_c8 133 rfl) (wl_q (wl_i wl_c5 71 rfl) (wl_q (wl_i wl_c5 72 rfl) (wl_q (wl_i wl_c5 73 rfl) (wl_q (wl_i wl_c5 74 rfl) (wl_q (wl_i wl_c5 75 rfl) (wl_q (wl_i wl_c5 76 rfl) (wl_q (wl_i wl_c5 77 rfl) (wl_q (wl_i wl_c5 78 rfl) (wl_q (wl_i wl_c5 79 rfl) (wl_q (wl_i wl_c5 80 rfl) (wl_q (wl_i wl_c5 81 rfl) (wl_q (wl_i wl_c5 82 rfl) (wl_q (wl_i wl_c1 79 rfl) (wl_q (wl_i wl_c5 83 rfl) (wl_q (wl_i wl_c5 85 rfl) (wl_q (wl_i wl_c0 38 rfl) (wl_q (wl_i wl_c5 86 rfl) (wl_q (wl_i wl_c5 87 rfl) (wl_n))))))))))))))))))))))))
set_option maxRecDepth 20000 in
theorem wl_r51 : ∀ w ∈ wsL_law_r51, w ∈ lw_tbl := by
  unfold wsL_law_r51
  exact wl_q (wl_i wl_c5 89 rfl) (wl_q (wl_i wl_c0 39 rfl) (wl_q (wl_i wl_c5 90 rfl) (wl_q (wl_i wl_c5 91 rfl) (wl_q (wl_i wl_c5 93 rfl) (wl_q (wl_i wl_c0 40 rfl) (wl_q (wl_i wl_c5 94 rfl) (wl_q (wl_i wl_c1 67 rfl) (wl_q (wl_i wl_c5 95 rfl) (wl_q (wl_i wl_c5 96 rfl) (wl_q (wl_i wl_c5 97 rfl) (wl_q (wl_i wl_c5 98 rfl) (wl_q (wl_i wl_c5 99 rfl) (wl_q (wl_i wl_c5 100 rfl) (wl_q (wl_i wl_c5 101 rfl) (wl_q (wl_i wl_c5 103 rfl) (wl_q (wl_i wl_c0 41 rfl) (wl_q (wl_i wl_c5 104 rfl) (wl_q (wl_i wl_c8 173 rfl) (wl_q (wl_i wl_c8 174 rfl) (wl_q (wl_i wl_c8 175 rfl) (wl_q (wl_i wl_c8 176 rfl) (wl_q (wl_i wl_c8 177 rfl) (wl_q (wl_i wl_c8 179 rfl) (wl_n))))))))))))))))))))))))
set_option maxRecDepth 20000 in
theorem wl_r52 : ∀ w ∈ wsL_law_r52, w ∈ lw_tbl := by
  unfold wsL_law_r52
  exact wl_q (wl_i wl_c0 134 rfl) (wl_q (wl_i wl_c8 180 rfl) (wl_q (wl_i wl_c8 181 rfl) (wl_q (wl_i wl_c8 183 rfl) (wl_q (wl_i wl_c0 135 rfl) (wl_q (wl_i wl_c8 184 rfl) (wl_q (wl_i wl_c8 185 rfl) (wl_q (wl_i wl_c8 187 rfl) (wl_q (wl_i wl_c0 136 rfl) (wl_q (wl_i wl_c8 188 rfl) (wl_q (wl_i wl_c5 105 rfl) (wl_q (wl_i wl_c5 106 rfl) (wl_q (wl_i wl_c5 107 rfl) (wl_q (wl_i wl_c5 108 rfl) (wl_q (wl_i wl_c5 109 rfl) (wl_q (wl_i wl_c5 110 rfl) (wl_q (wl_i wl_c5 111 rfl) (wl_q (wl_i wl_c5 112 rfl) (wl_q (wl_i wl_c1 89 rfl) (wl_q (wl_i wl_c5 113 rfl) (wl_q (wl_i wl_c5 114 rfl) (wl_q (wl_i wl_c5 116 rfl) (wl_q (wl_i wl_c0 42 rfl) (wl_q (wl_i wl_c5 117 rfl) (wl_n))))))))))))))))))))))))
set_option maxRecDepth 20000 in
theorem wl_r53 : ∀ w ∈ wsL_law_r53, w ∈ lw_tbl := by
  unfold wsL_law_r53
  exact wl_q (wl_i wl_c5 118 rfl) (wl_q (wl_i wl_c5 120 rfl) (wl_q (wl_i wl_c0 43 rfl) (wl_q (wl_i wl_c5 121 rfl) (wl_q (wl_i wl_c5 122 rfl) (wl_q (wl_i wl_c5 124 rfl) (wl_q (wl_i wl_c0 44 rfl) (wl_q (wl_i wl_c5 125 rfl) (wl_q (wl_i wl_c5 130 rfl) (wl_q (wl_i wl_c5 126 rfl) (wl_q (wl_i wl_c5 127 rfl) (wl_q (wl_i wl_c5 128 rfl) (wl_q (wl_i wl_c5 129 rfl) (wl_q (wl_i wl_c5 131 rfl) (wl_q (wl_i wl_c5 133 rfl) (wl_q (wl_i wl_c0 45 rfl) (wl_q (wl_i wl_c5 134 rfl) (wl_q (wl_i wl_c8 189 rfl) (wl_q (wl_i wl_c8 190 rfl) (wl_q (wl_i wl_c8 191 rfl) (wl_q (wl_i wl_c8 192 rfl) (wl_q (wl_i wl_c6 163 rfl) (wl_q (wl_i wl_c8 193 rfl) (wl_q (wl_i wl_c8 195 rfl) (wl_n))))))))))))))))))))))))
set_option maxRecDepth 20000 in
theorem wl_r54 : ∀ w ∈ wsL_law_r54, w ∈ lw_tbl := by
  unfold wsL_law_r54
  exact wl_q (wl_i wl_c0 137 rfl) (wl_q (wl_i wl_c8 196 rfl) (wl_q (wl_i wl_c5 135 rfl) (wl_q (wl_i wl_c5 136 rfl) (wl_q (wl_i wl_c5 137 rfl) (wl_q (wl_i wl_c5 138 rfl) (wl_q (wl_i wl_c5 139 rfl) (wl_q (wl_i wl_c5 140 rfl) (wl_q (wl_i wl_c5 141 rfl) (wl_q (wl_i wl_c5 142 rfl) (wl_q (wl_i wl_c1 193 rfl) (wl_q (wl_i wl_c1 198 rfl) (wl_q (wl_i wl_c5 143 rfl) (wl_q (wl_i wl_c5 144 rfl) (wl_q (wl_i wl_c5 145 rfl) (wl_q (wl_i wl_c5 146 rfl) (wl_q (wl_i wl_c5 147 rfl) (wl_q (wl_i wl_c5 148 rfl) (wl_q (wl_i wl_c5 149 rfl) (wl_q (wl_i wl_c8 134 rfl) (wl_q (wl_i wl_c8 135 rfl) (wl_q (wl_i wl_c8 136 rfl) (wl_q (wl_i wl_c8 137 rfl) (wl_q (wl_i wl_c8 138 rfl) (wl_n))))))))))))))))))))))))
set_option maxRecDepth 20000 in
theorem wl_r55 : ∀ w ∈ wsL_law_r55, w ∈ lw_tbl := by
  unfold wsL_law_r55
  exact wl_q (wl_i wl_c8 139 rfl) (wl_q (wl_i wl_c8 140 rfl) (wl_q (wl_i wl_c8 142 rfl) (wl_q (wl_i wl_c0 128 rfl) (wl_q (wl_i wl_c8 143 rfl) (wl_q (wl_i wl_c8 144 rfl) (wl_q (wl_i wl_c8 146 rfl) (wl_q (wl_i wl_c0 129 rfl) (wl_q (wl_i wl_c8 147 rfl) (wl_q (wl_i wl_c5 150 rfl) (wl_q (wl_i wl_c5 151 rfl) (wl_q (wl_i wl_c5 152 rfl) (wl_q (wl_i wl_c5 153 rfl) (wl_q (wl_i wl_c5 154 rfl) (wl_q (wl_i wl_c5 155 rfl) (wl_q (wl_i wl_c5 156 rfl) (wl_q (wl_i wl_c5 157 rfl) (wl_q (wl_i wl_c2 94 rfl) (wl_q (wl_i wl_c5 158 rfl) (wl_q (wl_i wl_c5 160 rfl) (wl_q (wl_i wl_c0 46 rfl) (wl_q (wl_i wl_c5 161 rfl) (wl_q (wl_i wl_c5 162 rfl) (wl_q (wl_i wl_c5 164 rfl) (wl_n))))))))))))))))))))))))
set_option maxRecDepth 20000 in
theorem wl_r56 : ∀ w ∈ wsL_law_r56, w ∈ lw_tbl := by
  unfold wsL_law_r56
  exact wl_q (wl_i wl_c0 47 rfl) (wl_q (wl_i wl_c5 165 rfl) (wl_q (wl_i wl_c5 166 rfl) (wl_q (wl_i wl_c1 182 rfl) (wl_q (wl_i wl_c1 201 rfl) (wl_q (wl_i wl_c5 167 rfl) (wl_q (wl_i wl_c8 148 rfl) (wl_q (wl_i wl_c8 149 rfl) (wl_q (wl_i wl_c8 150 rfl) (wl_q (wl_i wl_c8 151 rfl) (wl_q (wl_i wl_c8 152 rfl) (wl_q (wl_i wl_c8 154 rfl) (wl_q (wl_i wl_c0 130 rfl) (wl_q (wl_i wl_c8 155 rfl) (wl_q (wl_i wl_c5 168 rfl) (wl_q (wl_i wl_c5 169 rfl) (wl_q (wl_i wl_c5 170 rfl) (wl_q (wl_i wl_c5 171 rfl) (wl_q (wl_i wl_c5 172 rfl) (wl_q (wl_i wl_c5 173 rfl) (wl_q (wl_i wl_c5 174 rfl) (wl_q (wl_i wl_c5 175 rfl) (wl_q (wl_i wl_c2 132 rfl) (wl_q (wl_i wl_c5 176 rfl) (wl_n))))))))))))))))))))))))
set_option maxRecDepth 20000 in
theorem wl_r57 : ∀ w ∈ wsL_law_r57, w ∈ lw_tbl := by
  unfold wsL_law_r57
  exact wl_q (wl_i wl_c1 229 rfl) (wl_q (wl_i wl_c1 81 rfl) (wl_q (wl_i wl_c1 186 rfl) (wl_q (wl_i wl_c5 177 rfl) (wl_q (wl_i wl_c5 178 rfl) (wl_q (wl_i wl_c1 21 rfl) (wl_q (wl_i wl_c5 179 rfl) (wl_q (wl_i wl_c5 180 rfl) (wl_q (wl_i wl_c5 181 rfl) (wl_q (wl_i wl_c5 183 rfl) (wl_q (wl_i wl_c0 48 rfl) (wl_q (wl_i wl_c5 184 rfl) (wl_q (wl_i wl_c5 189 rfl) (wl_q (wl_i wl_c1 189 rfl) (wl_q (wl_i wl_c1 70 rfl) (wl_q (wl_i wl_c5 185 rfl) (wl_q (wl_i wl_c5 187 rfl) (wl_q (wl_i wl_c0 49 rfl) (wl_q (wl_i wl_c5 188 rfl) (wl_q (wl_i wl_c5 190 rfl) (wl_q (wl_i wl_c5 191 rfl) (wl_q (wl_i wl_c5 192 rfl) (wl_q (wl_i wl_c5 193 rfl) (wl_q (wl_i wl_c5 194 rfl) (wl_n))))))))))))))))))))))))
set_option maxRecDepth 20000 in
theorem wl_r58 : ∀ w ∈ wsL_law_r58, w ∈ lw_tbl := by
  unfold wsL_law_r58
  exact wl_q (wl_i wl_c5 195 rfl) (wl_q (wl_i wl_c8 156 rfl) (wl_q (wl_i wl_c8 157 rfl) (wl_q (wl_i wl_c8 158 rfl) (wl_q (wl_i wl_c8 159 rfl) (wl_q (wl_i wl_c8 160 rfl) (wl_q (wl_i wl_c8 161 rfl) (wl_q (wl_i wl_c8 163 rfl) (wl_q (wl_i wl_c0 131 rfl) (wl_q (wl_i wl_c8 164 rfl) (wl_q (wl_i wl_c8 165 rfl) (wl_q (wl_i wl_c8 167 rfl) (wl_q (wl_i wl_c0 132 rfl) (wl_q (wl_i wl_c8 168 rfl) (wl_q (wl_i wl_c8 169 rfl) (wl_q (wl_i wl_c8 171 rfl) (wl_q (wl_i wl_c0 133 rfl) (wl_q (wl_i wl_c8 172 rfl) (wl_q (wl_i wl_c5 196 rfl) (wl_q (wl_i wl_c5 197 rfl) (wl_q (wl_i wl_c5 198 rfl) (wl_q (wl_i wl_c5 199 rfl) (wl_q (wl_i wl_c5 200 rfl) (wl_q (wl_i wl_c5 201 rfl) (wl_n))))))))))))))))))))))))
set_option maxRecDepth 20000 in
theorem wl_r59 : ∀ w ∈ wsL_law_r59, w ∈ lw_tbl := by
  unfold wsL_law_r59
  exact wl_q (wl_i wl_c5 202 rfl) (wl_q (wl_i wl_c5 203 rfl) (wl_q (wl_i wl_c5 204 rfl) (wl_q (wl_i wl_c5 206 rfl) (wl_q (wl_i wl_c0 50 rfl) (wl_q (wl_i wl_c5 207 rfl) (wl_q (wl_i wl_c5 208 rfl) (wl_q (wl_i wl_c8 197 rfl) (wl_q (wl_i wl_c8 198 rfl) (wl_q (wl_i wl_c8 199 rfl) (wl_q (wl_i wl_c8 200 rfl) (wl_q (wl_i wl_c8 201 rfl) (wl_q (wl_i wl_c8 203 rfl) (wl_q (wl_i wl_c0 138 rfl) (wl_q (wl_i wl_c8 204 rfl) (wl_q (wl_i wl_c5 209 rfl) (wl_q (wl_i wl_c5 210 rfl) (wl_q (wl_i wl_c5 211 rfl) (wl_q (wl_i wl_c5 212 rfl) (wl_q (wl_i wl_c5 213 rfl) (wl_q (wl_i wl_c5 214 rfl) (wl_q (wl_i wl_c5 215 rfl) (wl_q (wl_i wl_c5 216 rfl) (wl_q (wl_i wl_c5 217 rfl) (wl_n))))))))))))))))))))))))
set_option maxRecDepth 20000 in
theorem wl_r60 : ∀ w ∈ wsL_law_r60, w ∈ lw_tbl := by
  unfold wsL_law_r60
  exact wl_q (wl_i wl_c8 205 rfl) (wl_q (wl_i wl_c8 206 rfl) (wl_q (wl_i wl_c8 207 rfl) (wl_q (wl_i wl_c8 208 rfl) (wl_q (wl_i wl_c5 218 rfl) (wl_q (wl_i wl_c5 219 rfl) (wl_q (wl_i wl_c5 220 rfl) (wl_q (wl_i wl_c5 221 rfl) (wl_q (wl_i wl_c2 20 rfl) (wl_q (wl_i wl_c1 239 rfl) (wl_q (wl_i wl_c2 3 rfl) (wl_q (wl_i wl_c8 209 rfl) (wl_q (wl_i wl_c8 210 rfl) (wl_q (wl_i wl_c8 211 rfl) (wl_q (wl_i wl_c8 212 rfl) (wl_q (wl_i wl_c5 222 rfl) (wl_q (wl_i wl_c5 223 rfl) (wl_q (wl_i wl_c5 224 rfl) (wl_q (wl_i wl_c5 225 rfl) (wl_q (wl_i wl_c5 226 rfl) (wl_q (wl_i wl_c5 227 rfl) (wl_q (wl_i wl_c5 228 rfl) (wl_q (wl_i wl_c5 229 rfl) (wl_q (wl_i wl_c2 180 rfl) (wl_n))))))))))))))))))))))))
set_option maxRecDepth 20000 in
theorem wl_r61 : ∀ w ∈ wsL_law_r61, w ∈ lw_tbl := by
  unfold wsL_law_r61
  exact wl_q (wl_i wl_c1 85 rfl) (wl_q (wl_i wl_c5 230 rfl) (wl_q (wl_i wl_c5 231 rfl) (wl_q (wl_i wl_c5 232 rfl) (wl_q (wl_i wl_c5 233 rfl) (wl_q (wl_i wl_c5 234 rfl) (wl_q (wl_i wl_c2 17 rfl) (wl_q (wl_i wl_c5 235 rfl) (wl_q (wl_i wl_c5 237 rfl) (wl_q (wl_i wl_c0 51 rfl) (wl_q (wl_i wl_c5 238 rfl) (wl_q (wl_i wl_c1 64 rfl) (wl_q (wl_i wl_c5 239 rfl) (wl_q (wl_i wl_c6 1 rfl) (wl_q (wl_i wl_c0 52 rfl) (wl_q (wl_i wl_c6 2 rfl) (wl_q (wl_i wl_c1 237 rfl) (wl_q (wl_i wl_c2 1 rfl) (wl_q (wl_i wl_c6 3 rfl) (wl_q (wl_i wl_c6 5 rfl) (wl_q (wl_i wl_c0 53 rfl) (wl_q (wl_i wl_c6 6 rfl) (wl_q (wl_i wl_c1 82 rfl) (wl_q (wl_i wl_c6 7 rfl) (wl_n))))))))))))))))))))))))
set_option maxRecDepth 20000 in
theorem wl_r62 : ∀ w ∈ wsL_law_r62, w ∈ lw_tbl := by
  unfold wsL_law_r62
  exact wl_q (wl_i wl_c6 9 rfl) (wl_q (wl_i wl_c0 54 rfl) (wl_q (wl_i wl_c6 10 rfl) (wl_q (wl_i wl_c6 11 rfl) (wl_q (wl_i wl_c6 13 rfl) (wl_q (wl_i wl_c0 55 rfl) (wl_q (wl_i wl_c6 14 rfl) (wl_q (wl_i wl_c6 15 rfl) (wl_q (wl_i wl_c6 16 rfl) (wl_q (wl_i wl_c6 17 rfl) (wl_q (wl_i wl_c6 18 rfl) (wl_q (wl_i wl_c6 19 rfl) (wl_q (wl_i wl_c6 21 rfl) (wl_q (wl_i wl_c0 56 rfl) (wl_q (wl_i wl_c6 22 rfl) (wl_q (wl_i wl_c8 213 rfl) (wl_q (wl_i wl_c8 214 rfl) (wl_q (wl_i wl_c8 215 rfl) (wl_q (wl_i wl_c8 216 rfl) (wl_q (wl_i wl_c8 217 rfl) (wl_q (wl_i wl_c8 219 rfl) (wl_q (wl_i wl_c0 139 rfl) (wl_q (wl_i wl_c8 220 rfl) (wl_q (wl_i wl_c8 221 rfl) (wl_n))))))))))))))))))))))))
set_option maxRecDepth 20000 in
theorem wl_r63 : ∀ w ∈ wsL_law_r63, w ∈ lw_tbl := by
  unfold wsL_law_r63
  exact wl_q (wl_i wl_c8 223 rfl) (wl_q (wl_i wl_c0 140 rfl) (wl_q (wl_i wl_c8 224 rfl) (wl_q (wl_i wl_c8 225 rfl) (wl_q (wl_i wl_c8 227 rfl) (wl_q (wl_i wl_c0 141 rfl) (wl_q (wl_i wl_c8 228 rfl) (wl_q (wl_i wl_c8 229 rfl) (wl_q (wl_i wl_c8 230 rfl) (wl_q (wl_i wl_c8 231 rfl) (wl_q (wl_i wl_c6 23 rfl) (wl_q (wl_i wl_c6 24 rfl) (wl_q (wl_i wl_c6 25 rfl) (wl_q (wl_i wl_c6 26 rfl) (wl_q (wl_i wl_c2 22 rfl) (wl_q (wl_i wl_c2 5 rfl) (wl_q (wl_i wl_c2 7 rfl) (wl_q (wl_i wl_c8 232 rfl) (wl_q (wl_i wl_c8 233 rfl) (wl_q (wl_i wl_c8 234 rfl) (wl_q (wl_i wl_c8 235 rfl) (wl_q (wl_i wl_c6 27 rfl) (wl_q (wl_i wl_c6 28 rfl) (wl_q (wl_i wl_c6 29 rfl) (wl_n))))))))))))))))))))))))
set_option maxRecDepth 20000 in
theorem wl_r64 : ∀ w ∈ wsL_law_r64, w ∈ lw_tbl := by
  unfold wsL_law_r64
  exact wl_q (wl_i wl_c6 30 rfl) (wl_q (wl_i wl_c6 31 rfl) (wl_q (wl_i wl_c6 32 rfl) (wl_q (wl_i wl_c6 33 rfl) (wl_q (wl_i wl_c6 34 rfl) (wl_q (wl_i wl_c6 35 rfl) (wl_q (wl_i wl_c6 37 rfl) (wl_q (wl_i wl_c0 57 rfl) (wl_q (wl_i wl_c6 38 rfl) (wl_q (wl_i wl_c6 39 rfl) (wl_q (wl_i wl_c6 40 rfl) (wl_q (wl_i wl_c6 41 rfl) (wl_q (wl_i wl_c6 42 rfl) (wl_q (wl_i wl_c6 43 rfl) (wl_q (wl_i wl_c1 90 rfl) (wl_q (wl_i wl_c6 44 rfl) (wl_q (wl_i wl_c6 46 rfl) (wl_q (wl_i wl_c0 58 rfl) (wl_q (wl_i wl_c6 47 rfl) (wl_q (wl_i wl_c6 48 rfl) (wl_q (wl_i wl_c8 236 rfl) (wl_q (wl_i wl_c8 237 rfl) (wl_q (wl_i wl_c8 238 rfl) (wl_q (wl_i wl_c8 239 rfl) (wl_n))))))))))))))))))))))))
set_option maxRecDepth 20000 in
theorem wl_r65 : ∀ w ∈ wsL_law_r65, w ∈ lw_tbl := by
  unfold wsL_law_r65
  exact wl_q (wl_i wl_c9 0 rfl) (wl_q (wl_i wl_c9 2 rfl) (wl_q (wl_i wl_c0 142 rfl) (wl_q (wl_i wl_c9 3 rfl) (wl_q (wl_i wl_c9 4 rfl) (wl_q (wl_i wl_c9 6 rfl) (wl_q (wl_i wl_c0 143 rfl) (wl_q (wl_i wl_c9 7 rfl) (wl_q (wl_i wl_c6 49 rfl) (wl_q (wl_i wl_c6 50 rfl) (wl_q (wl_i wl_c6 51 rfl) (wl_q (wl_i wl_c6 52 rfl) (wl_q (wl_i wl_c2 25 rfl) (wl_q (wl_i wl_c2 10 rfl) (wl_q (wl_i wl_c9 8 rfl) (wl_q (wl_i wl_c9 9 rfl) (wl_q (wl_i wl_c9 10 rfl) (wl_q (wl_i wl_c9 11 rfl) (wl_q (wl_i wl_c6 53 rfl) (wl_q (wl_i wl_c6 54 rfl) (wl_q (wl_i wl_c6 55 rfl) (wl_q (wl_i wl_c6 56 rfl) (wl_q (wl_i wl_c6 57 rfl) (wl_q (wl_i wl_c6 58 rfl) (wl_n))))))))))))))))))))))))
set_option maxRecDepth 20000 in
theorem wl_r66 : ∀ w ∈ wsL_law_r66, w ∈ lw_tbl := by
  unfold wsL_law_r66
  exact wl_q (wl_i wl_c6 59 rfl) (wl_q (wl_i wl_c6 60 rfl) (wl_q (wl_i wl_c2 14 rfl) (wl_q (wl_i wl_c6 61 rfl) (wl_q (wl_i wl_c6 63 rfl) (wl_q (wl_i wl_c0 59 rfl) (wl_q (wl_i wl_c6 64 rfl) (wl_q (wl_i wl_c2 24 rfl) (wl_q (wl_i wl_c2 9 rfl) (wl_q (wl_i wl_c9 12 rfl) (wl_q (wl_i wl_c9 13 rfl) (wl_q (wl_i wl_c9 14 rfl) (wl_q (wl_i wl_c9 15 rfl) (wl_q (wl_i wl_c9 16 rfl) (wl_q (wl_i wl_c9 18 rfl) (wl_q (wl_i wl_c0 144 rfl) (wl_q (wl_i wl_c9 19 rfl) (wl_q (wl_i wl_c6 65 rfl) (wl_q (wl_i wl_c6 66 rfl) (wl_q (wl_i wl_c6 67 rfl) (wl_q (wl_i wl_c6 68 rfl) (wl_q (wl_i wl_c6 69 rfl) (wl_q (wl_i wl_c6 70 rfl) (wl_q (wl_i wl_c6 71 rfl) (wl_n))))))))))))))))))))))))
set_option maxRecDepth 20000 in
theorem wl_r67 : ∀ w ∈ wsL_law_r67, w ∈ lw_tbl := by
  unfold wsL_law_r67
  exact wl_q (wl_i wl_c6 72 rfl) (wl_q (wl_i wl_c6 73 rfl) (wl_q (wl_i wl_c6 74 rfl) (wl_q (wl_i wl_c6 75 rfl) (wl_q (wl_i wl_c6 76 rfl) (wl_q (wl_i wl_c6 77 rfl) (wl_q (wl_i wl_c6 79 rfl) (wl_q (wl_i wl_c0 60 rfl) (wl_q (wl_i wl_c6 80 rfl) (wl_q (wl_i wl_c2 19 rfl) (wl_q (wl_i wl_c1 238 rfl) (wl_q (wl_i wl_c2 2 rfl) (wl_q (wl_i wl_c9 20 rfl) (wl_q (wl_i wl_c9 21 rfl) (wl_q (wl_i wl_c9 22 rfl) (wl_q (wl_i wl_c9 23 rfl) (wl_q (wl_i wl_c9 24 rfl) (wl_q (wl_i wl_c9 26 rfl) (wl_q (wl_i wl_c0 145 rfl) (wl_q (wl_i wl_c9 27 rfl) (wl_q (wl_i wl_c6 81 rfl) (wl_q (wl_i wl_c6 82 rfl) (wl_q (wl_i wl_c6 83 rfl) (wl_q (wl_i wl_c6 84 rfl) (wl_n))))))))))))))))))))))))
set_option maxRecDepth 20000 in
theorem wl_r68 : ∀ w ∈ wsL_law_r68, w ∈ lw_tbl := by
  unfold wsL_law_r68
  exact wl_q (wl_i wl_c2 28 rfl) (wl_q (wl_i wl_c9 28 rfl) (wl_q (wl_i wl_c9 29 rfl) (wl_q (wl_i wl_c9 30 rfl) (wl_q (wl_i wl_c9 31 rfl) (wl_q (wl_i wl_c6 85 rfl) (wl_q (wl_i wl_c6 86 rfl) (wl_q (wl_i wl_c6 87 rfl) (wl_q (wl_i wl_c6 88 rfl) (wl_q (wl_i wl_c6 89 rfl) (wl_q (wl_i wl_c6 90 rfl) (wl_q (wl_i wl_c6 91 rfl) (wl_q (wl_i wl_c6 92 rfl) (wl_q (wl_i wl_c2 27 rfl) (wl_q (wl_i wl_c2 133 rfl) (wl_q (wl_i wl_c6 93 rfl) (wl_q (wl_i wl_c6 95 rfl) (wl_q (wl_i wl_c0 61 rfl) (wl_q (wl_i wl_c6 96 rfl) (wl_q (wl_i wl_c6 97 rfl) (wl_q (wl_i wl_c6 98 rfl) (wl_q (wl_i wl_c6 99 rfl) (wl_q (wl_i wl_c6 100 rfl) (wl_q (wl_i wl_c9 32 rfl) (wl_n))))))))))))))))))))))))
set_option maxRecDepth 20000 in
theorem wl_r69 : ∀ w ∈ wsL_law_r69, w ∈ lw_tbl := by
  unfold wsL_law_r69
  exact wl_q (wl_i wl_c9 33 rfl) (wl_q (wl_i wl_c9 34 rfl) (wl_q (wl_i wl_c9 35 rfl) (wl_q (wl_i wl_c9 36 rfl) (wl_q (wl_i wl_c6 165 rfl) (wl_q (wl_i wl_c9 37 rfl) (wl_q (wl_i wl_c9 39 rfl) (wl_q (wl_i wl_c0 146 rfl) (wl_q (wl_i wl_c9 40 rfl) (wl_q (wl_i wl_c9 41 rfl) (wl_q (wl_i wl_c9 42 rfl) (wl_q (wl_i wl_c9 43 rfl) (wl_q (wl_i wl_c9 44 rfl) (wl_q (wl_i wl_c6 101 rfl) (wl_q (wl_i wl_c6 102 rfl) (wl_q (wl_i wl_c6 103 rfl) (wl_q (wl_i wl_c6 104 rfl) (wl_q (wl_i wl_c1 93 rfl) (wl_q (wl_i wl_c1 95 rfl) (wl_q (wl_i wl_c9 45 rfl) (wl_q (wl_i wl_c9 46 rfl) (wl_q (wl_i wl_c9 47 rfl) (wl_q (wl_i wl_c9 48 rfl) (wl_q (wl_i wl_c6 105 rfl) (wl_n))))))))))))))))))))))))
set_option maxRecDepth 20000 in
theorem wl_r70 : ∀ w ∈ wsL_law_r70, w ∈ lw_tbl := by
  unfold wsL_law_r70
  exact wl_q (wl_i wl_c6 106 rfl) (wl_q (wl_i wl_c6 107 rfl) (wl_q (wl_i wl_c6 108 rfl) (wl_q (wl_i wl_c6 109 rfl) (wl_q (wl_i wl_c6 110 rfl) (wl_q (wl_i wl_c6 111 rfl) (wl_q (wl_i wl_c6 112 rfl) (wl_q (wl_i wl_c6 114 rfl) (wl_q (wl_i wl_c2 26 rfl) (wl_q (wl_i wl_c6 113 rfl) (wl_q (wl_i wl_c6 115 rfl) (wl_q (wl_i wl_c9 49 rfl) (wl_q (wl_i wl_c9 50 rfl) (wl_q (wl_i wl_c9 51 rfl) (wl_q (wl_i wl_c9 52 rfl) (wl_q (wl_i wl_c6 116 rfl) (wl_q (wl_i wl_c6 117 rfl) (wl_q (wl_i wl_c6 118 rfl) (wl_q (wl_i wl_c6 119 rfl) (wl_q (wl_i wl_c9 53 rfl) (wl_q (wl_i wl_c9 54 rfl) (wl_q (wl_i wl_c9 55 rfl) (wl_q (wl_i wl_c9 56 rfl) (wl_n)))))))))))))))))))))))
set_option maxRecDepth 20000 in
theorem inX11 : ∀ w ∈ wsX110, w ∈ lw_tbl := by decide +kernel
set_option maxRecDepth 20000 in
theorem inX12 : ∀ w ∈ wsX120, w ∈ lw_tbl := by decide +kernel
set_option maxRecDepth 20000 in
theorem inX6 : ∀ w ∈ wsX60, w ∈ lw_tbl := by decide +kernel
set_option maxRecDepth 20000 in
theorem inX7 : ∀ w ∈ wsX70, w ∈ lw_tbl := by decide +kernel
set_option maxRecDepth 20000 in
theorem inX2 : ∀ w ∈ wsX20, w ∈ lw_tbl := by decide +kernel
set_option maxRecDepth 20000 in
theorem inX3 : ∀ w ∈ wsX30, w ∈ lw_tbl := by decide +kernel
set_option maxRecDepth 20000 in
theorem inX5 : ∀ w ∈ wsX50, w ∈ lw_tbl := by decide +kernel
set_option maxRecDepth 20000 in
theorem inX0 : ∀ w ∈ wsX00, w ∈ lw_tbl := by decide +kernel
set_option maxRecDepth 20000 in
theorem inX1 : ∀ w ∈ wsX10, w ∈ lw_tbl := by decide +kernel
set_option maxRecDepth 20000 in
theorem inX8 : ∀ w ∈ wsX80, w ∈ lw_tbl := by decide +kernel
set_option maxRecDepth 20000 in
theorem inX4 : ∀ w ∈ wsX40, w ∈ lw_tbl := by decide +kernel
set_option maxRecDepth 20000 in
theorem inX10 : ∀ w ∈ wsX100, w ∈ lw_tbl := by decide +kernel
set_option maxRecDepth 20000 in
theorem inX9 : ∀ w ∈ wsX90, w ∈ lw_tbl := by decide +kernel
theorem wsL_law_in : ∀ w ∈ wsL_law, w ∈ lw_tbl := List.forall_mem_append.mpr ⟨List.forall_mem_append.mpr ⟨List.forall_mem_append.mpr ⟨List.forall_mem_append.mpr ⟨List.forall_mem_append.mpr ⟨List.forall_mem_append.mpr ⟨List.forall_mem_append.mpr ⟨List.forall_mem_append.mpr ⟨List.forall_mem_append.mpr ⟨List.forall_mem_append.mpr ⟨List.forall_mem_append.mpr ⟨List.forall_mem_append.mpr ⟨List.forall_mem_append.mpr ⟨List.forall_mem_append.mpr ⟨List.forall_mem_append.mpr ⟨wl_r1, List.forall_mem_append.mpr ⟨wl_r2, List.forall_mem_append.mpr ⟨wl_r3, List.forall_mem_append.mpr ⟨wl_r4, List.forall_mem_append.mpr ⟨wl_r5, List.forall_mem_append.mpr ⟨wl_r6, List.forall_mem_append.mpr ⟨wl_r7, List.forall_mem_append.mpr ⟨wl_r8, List.forall_mem_append.mpr ⟨wl_r9, List.forall_mem_append.mpr ⟨wl_r10, List.forall_mem_append.mpr ⟨wl_r11, List.forall_mem_append.mpr ⟨wl_r12, List.forall_mem_append.mpr ⟨wl_r13, List.forall_mem_append.mpr ⟨wl_r14, List.forall_mem_append.mpr ⟨wl_r15, List.forall_mem_append.mpr ⟨wl_r16, List.forall_mem_append.mpr ⟨wl_r17, List.forall_mem_append.mpr ⟨wl_r18, List.forall_mem_append.mpr ⟨wl_r19, List.forall_mem_append.mpr ⟨wl_r20, List.forall_mem_append.mpr ⟨wl_r21, List.forall_mem_append.mpr ⟨wl_r22, List.forall_mem_append.mpr ⟨wl_r23, List.forall_mem_append.mpr ⟨wl_r24, List.forall_mem_append.mpr ⟨wl_r25, List.forall_mem_append.mpr ⟨wl_r26, List.forall_mem_append.mpr ⟨wl_r27, List.forall_mem_append.mpr ⟨wl_r28, List.forall_mem_append.mpr ⟨wl_r29, List.forall_mem_append.mpr ⟨wl_r30, List.forall_mem_append.mpr ⟨wl_r31, List.forall_mem_append.mpr ⟨wl_r32, List.forall_mem_append.mpr ⟨wl_r33, List.forall_mem_append.mpr ⟨wl_r34, List.forall_mem_append.mpr ⟨wl_r35, List.forall_mem_append.mpr ⟨wl_r36, List.forall_mem_append.mpr ⟨wl_r37, List.forall_mem_append.mpr ⟨wl_r38, List.forall_mem_append.mpr ⟨wl_r39, List.forall_mem_append.mpr ⟨wl_r40, List.forall_mem_append.mpr ⟨wl_r41, List.forall_mem_append.mpr ⟨wl_r42, List.forall_mem_append.mpr ⟨wl_r43, List.forall_mem_append.mpr ⟨wl_r44, List.forall_mem_append.mpr ⟨wl_r45, List.forall_mem_append.mpr ⟨wl_r46, List.forall_mem_append.mpr ⟨wl_r47, List.forall_mem_append.mpr ⟨wl_r48, List.forall_mem_append.mpr ⟨wl_r49, List.forall_mem_append.mpr ⟨wl_r50, List.forall_mem_append.mpr ⟨wl_r51, List.forall_mem_append.mpr ⟨wl_r52, List.forall_mem_append.mpr ⟨wl_r53, List.forall_mem_append.mpr ⟨wl_r54, List.forall_mem_append.mpr ⟨wl_r55, List.forall_mem_append.mpr ⟨wl_r56, List.forall_mem_append.mpr ⟨wl_r57, List.forall_mem_append.mpr ⟨wl_r58, List.forall_mem_append.mpr ⟨wl_r59, List.forall_mem_append.mpr ⟨wl_r60, List.forall_mem_append.mpr ⟨wl_r61, List.forall_mem_append.mpr ⟨wl_r62, List.forall_mem_append.mpr ⟨wl_r63, List.forall_mem_append.mpr ⟨wl_r64, List.forall_mem_append.mpr ⟨wl_r65, List.forall_mem_append.mpr ⟨wl_r66, List.forall_mem_append.mpr ⟨wl_r67, List.forall_mem_append.mpr ⟨wl_r68, List.forall_mem_append.mpr ⟨wl_r69, wl_r70⟩⟩⟩⟩⟩⟩⟩⟩⟩⟩⟩⟩⟩⟩⟩⟩⟩⟩⟩⟩⟩⟩⟩⟩⟩⟩⟩⟩⟩⟩⟩⟩⟩⟩⟩⟩⟩⟩⟩⟩⟩⟩⟩⟩⟩⟩⟩⟩⟩⟩⟩⟩⟩⟩⟩⟩⟩⟩⟩⟩⟩⟩⟩⟩⟩⟩⟩⟩⟩, inX11⟩, inX12⟩, inX6⟩, inX7⟩, inX2⟩, inX3⟩, inX5⟩, inX0⟩, inX1⟩, inX8⟩, inX4⟩, inX10⟩, inX9⟩, (fun _ h => absurd h List.not_mem_nil)⟩
