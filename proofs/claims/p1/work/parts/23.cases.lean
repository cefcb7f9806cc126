set_option maxHeartbeats 4000000 in
set_option maxRecDepth 100000 in
theorem lc_feed {p : Program} {e : Env} {s : State} {m : MethodId} {below : List Frame} {meth : Method} {c : Code} {l : Launch} {b : Nat} {xs : Nat → Int32} {adK adV : Nat → Nat} {dC : Nat → ClassId} {dI : Nat → Nat → Nat} {cy : Nat → ClassId} {A : Nat → Prop} (hC : CallFix p m c code 4 s #[Value.ref b] wsR RL) (hr : meth.sig.returnType = ret) (hlocks : meth.locks = false) (hK : KK dC dI cy s) (hE : SE adK adV A s s.heap) (hSR : SR adK s) (hAe : A = fun q : Nat => s.heap.size ≤ q) (hA : ∀ q : Nat, s.heap.size ≤ q → A q) (hbA : ¬ A b) (hX : va_X b 6 xs s s.heap) (hbl : b < s.heap.size) {qx qm : Nat} {ux um : Nat → Nat} {s1 : Int32} (hs1 : xs 1 = s1) {s2 : Int32} (hs2 : xs 2 = s2) {s3 : Int32} (hs3 : xs 3 = s3) {s4 : Int32} (hs4 : xs 4 = s4) {s5 : Int32} (hs5 : xs 5 = s5) {H : Heap} {locs : List Loc} {ls : Array Slot} (hw : Wd dC dI A s.heap H locs [(qx, .inr (11, [.ref (ux 0), .ref (ux 1), .ref (ux 2), .ref (ux 3), .ref (ux 4), .ref (ux 5), .ref (ux 6), .ref (ux 7), .ref (ux 8), .ref (ux 9), .ref (ux 10), .ref (ux 11), .int 0])), ((ux 0), .inr (6, [.ref (ux 12), .int 0, .int 0, .int 0, .int 0])), ((ux 12), .inl (cy 0, 400, .inl (fun _ => 0))), (qm, .inr (12, (.ref (um 0) :: .int 0 :: .int 0 :: .ref (um 1) :: .ref (um 2) :: .ref (um 3) :: .ref (um 4) :: .int 0 :: .int 0 :: .int 0 :: .int 0 :: .ref (um 5) :: .ref (um 6) :: .ref (um 7) :: .int 0 :: .int 0 :: .int 0 :: .int 0 :: .int 0 :: .int 0 :: .int 0 :: .ref (um 8) :: .int 0 :: .ref (um 9) :: .int 0 :: .ref (um 10) :: .ref (um 11) :: .int 1 :: .ref (um 12) :: .ref (um 13) :: .int 0 :: .int 0 :: .ref (um 14) :: .ref (um 15) :: .ref (um 16) :: .ref (um 17) :: .ref (um 18) :: .int 0 :: .ref (um 19) :: .long 0 :: .ref (um 20) :: .ref (um 21) :: ([] : List Value)))), ((um 0), .inl (cy 3, 400, .inl (fun _ => 0)))]) (hl : lv_has ls 4 [(3, .int 0), (2, .ref qm), (1, .ref qx), (0, .ref b)]) : W p l e room_1 s m #[Value.ref b] below meth c H locs 184 18569 (lw_Z below #[Value.ref b] s) (F0 m 176 ls []) := by
  have hx := hC.1
  have hb := hC.2.1
  refine lv_aload_n hx hb dL_law_176 rfl (lv_at hl 2 rfl) ?_
  refine lv_aload_n hx hb dL_law_177 rfl (lv_at hl 3 rfl) ?_
  refine lv_iload_n hx hb dL_law_178 rfl (lv_at hl 0 rfl) ?_
  refine lv_iconst (v := 1) hx hb dL_law_179 (by decide) ?_
  refine lv_iadd hx hb dL_law_180 ?_
  refine wk_top 1 (by decide) ?_
  refine va_sld hx hb hX hbl hbA hw.2.2 (show ¬ ((1 : Int32) < 0 ∨ 6 ≤ (1 : Int32).toNatClampNeg) by decide) dL_law_181 ?_
  refine wk_top s1 hs1 ?_
  refine lv_aload_n hx hb dL_law_182 rfl (lv_at hl 3 rfl) ?_
  refine lv_iload_n hx hb dL_law_183 rfl (lv_at hl 0 rfl) ?_
  refine lv_iconst (v := 2) hx hb dL_law_184 (by decide) ?_
  refine lv_iadd hx hb dL_law_185 ?_
  refine wk_top 2 (by decide) ?_
  refine va_sld hx hb hX hbl hbA hw.2.2 (show ¬ ((2 : Int32) < 0 ∨ 6 ≤ (2 : Int32).toNatClampNeg) by decide) dL_law_186 ?_
  refine wk_top s2 hs2 ?_
  refine lv_aload_n hx hb dL_law_187 rfl (lv_at hl 3 rfl) ?_
  refine lv_iload_n hx hb dL_law_188 rfl (lv_at hl 0 rfl) ?_
  refine lv_iconst (v := 3) hx hb dL_law_189 (by decide) ?_
  refine lv_iadd hx hb dL_law_190 ?_
  refine wk_top 3 (by decide) ?_
  refine va_sld hx hb hX hbl hbA hw.2.2 (show ¬ ((3 : Int32) < 0 ∨ 6 ≤ (3 : Int32).toNatClampNeg) by decide) dL_law_191 ?_
  refine wk_top s3 hs3 ?_
  refine lv_aload_n hx hb dL_law_192 rfl (lv_at hl 3 rfl) ?_
  refine lv_iload_n hx hb dL_law_193 rfl (lv_at hl 0 rfl) ?_
  refine lv_iconst (v := 4) hx hb dL_law_194 (by decide) ?_
  refine lv_iadd hx hb dL_law_195 ?_
  refine wk_top 4 (by decide) ?_
  refine va_sld hx hb hX hbl hbA hw.2.2 (show ¬ ((4 : Int32) < 0 ∨ 6 ≤ (4 : Int32).toNatClampNeg) by decide) dL_law_196 ?_
  refine wk_top s4 hs4 ?_
  refine lv_aload_n hx hb dL_law_197 rfl (lv_at hl 3 rfl) ?_
  refine lv_iload_n hx hb dL_law_198 rfl (lv_at hl 0 rfl) ?_
  refine lv_iconst (v := 5) hx hb dL_law_199 (by decide) ?_
  refine lv_iadd hx hb dL_law_200 ?_
  refine wk_top 5 (by decide) ?_
  refine va_sld hx hb hX hbl hbA hw.2.2 (show ¬ ((5 : Int32) < 0 ∨ 6 ≤ (5 : Int32).toNatClampNeg) by decide) dL_law_201 ?_
  refine wk_top s5 hs5 ?_
  refine wk_Vi hC hK hw hA [0, 1, 2] [3, 4] rfl rfl rfl rfl (by decide) (t_X11_feed l dC dI cy qx ux s1 s2 s3 s4 s5 H.size ) (cwV 5 hC.2.2.2.2 gL_law_X11_feed rfl rfl rfl (by decide +kernel) ⟨Nat.le_of_ble_eq_true rfl, Nat.le_of_ble_eq_true rfl⟩) rfl 0 rfl rfl hl.1 rfl (Nat.le_of_ble_eq_true rfl) dL_law_202 184 18569 ⟨rfl, rfl⟩ ⟨Nat.le_of_ble_eq_true rfl, Nat.le_of_ble_eq_true rfl⟩ (fun r2 u1 H locs hp3 hw => ?_)
  have hw : Wd dC dI A s.heap H locs [(qm, .inr (12, (.ref (um 0) :: .int 0 :: .int 0 :: .ref (um 1) :: .ref (um 2) :: .ref (um 3) :: .ref (um 4) :: .int 0 :: .int 0 :: .int 0 :: .int 0 :: .ref (um 5) :: .ref (um 6) :: .ref (um 7) :: .int 0 :: .int 0 :: .int 0 :: .int 0 :: .int 0 :: .int 0 :: .int 0 :: .ref (um 8) :: .int 0 :: .ref (um 9) :: .int 0 :: .ref (um 10) :: .ref (um 11) :: .int 1 :: .ref (um 12) :: .ref (um 13) :: .int 0 :: .int 0 :: .ref (um 14) :: .ref (um 15) :: .ref (um 16) :: .ref (um 17) :: .ref (um 18) :: .int 0 :: .ref (um 19) :: .long 0 :: .ref (um 20) :: .ref (um 21) :: ([] : List Value)))), ((um 0), .inl (cy 3, 400, .inl (fun _ => 0))), (qx, .inr (11, [.ref (ux 0), .ref (ux 1), .ref (ux 2), .ref (ux 3), .ref (ux 4), .ref (ux 5), .ref (ux 6), .ref (ux 7), .ref (ux 8), .ref (ux 9), .ref (ux 10), .ref (ux 11), .int 0])), ((ux 0), .inr (6, [.ref (ux 12), .int 0, .int 20, .int 0, .int 0])), ((ux 12), .inl (cy 0, 400, .inl (u1.2 0)))] := hw
  obtain rfl : r2 = 20 := hp3
  refine lv_aload_n hx hb dL_law_205 rfl (lv_at hl 1 rfl) ?_
  refine lv_aload_n hx hb dL_law_206 rfl (lv_at hl 3 rfl) ?_
  refine lv_iload_n hx hb dL_law_207 rfl (lv_at hl 0 rfl) ?_
  refine lv_iconst (v := 1) hx hb dL_law_208 (by decide) ?_
  refine lv_iadd hx hb dL_law_209 ?_
  refine wk_top 1 (by decide) ?_
  refine va_sld hx hb hX hbl hbA hw.2.2 (show ¬ ((1 : Int32) < 0 ∨ 6 ≤ (1 : Int32).toNatClampNeg) by decide) dL_law_210 ?_
  refine wk_top s1 hs1 ?_
  refine lv_aload_n hx hb dL_law_211 rfl (lv_at hl 3 rfl) ?_
  refine lv_iload_n hx hb dL_law_212 rfl (lv_at hl 0 rfl) ?_
  refine lv_iconst (v := 2) hx hb dL_law_213 (by decide) ?_
  refine lv_iadd hx hb dL_law_214 ?_
  refine wk_top 2 (by decide) ?_
  refine va_sld hx hb hX hbl hbA hw.2.2 (show ¬ ((2 : Int32) < 0 ∨ 6 ≤ (2 : Int32).toNatClampNeg) by decide) dL_law_215 ?_
  refine wk_top s2 hs2 ?_
  refine lv_aload_n hx hb dL_law_216 rfl (lv_at hl 3 rfl) ?_
  refine lv_iload_n hx hb dL_law_217 rfl (lv_at hl 0 rfl) ?_
  refine lv_iconst (v := 3) hx hb dL_law_218 (by decide) ?_
  refine lv_iadd hx hb dL_law_219 ?_
  refine wk_top 3 (by decide) ?_
  refine va_sld hx hb hX hbl hbA hw.2.2 (show ¬ ((3 : Int32) < 0 ∨ 6 ≤ (3 : Int32).toNatClampNeg) by decide) dL_law_220 ?_
  refine wk_top s3 hs3 ?_
  refine lv_aload_n hx hb dL_law_221 rfl (lv_at hl 3 rfl) ?_
  refine lv_iload_n hx hb dL_law_222 rfl (lv_at hl 0 rfl) ?_
  refine lv_iconst (v := 4) hx hb dL_law_223 (by decide) ?_
  refine lv_iadd hx hb dL_law_224 ?_
  refine wk_top 4 (by decide) ?_
  refine va_sld hx hb hX hbl hbA hw.2.2 (show ¬ ((4 : Int32) < 0 ∨ 6 ≤ (4 : Int32).toNatClampNeg) by decide) dL_law_225 ?_
  refine wk_top s4 hs4 ?_
  refine lv_aload_n hx hb dL_law_226 rfl (lv_at hl 3 rfl) ?_
  refine lv_iload_n hx hb dL_law_227 rfl (lv_at hl 0 rfl) ?_
  refine lv_iconst (v := 5) hx hb dL_law_228 (by decide) ?_
  refine lv_iadd hx hb dL_law_229 ?_
  refine wk_top 5 (by decide) ?_
  refine va_sld hx hb hX hbl hbA hw.2.2 (show ¬ ((5 : Int32) < 0 ∨ 6 ≤ (5 : Int32).toNatClampNeg) by decide) dL_law_230 ?_
  refine wk_top s5 hs5 ?_
  refine wk_Vi hC hK hw hA [0, 1] [2, 3, 4] rfl rfl rfl rfl (by decide) (t_X12_feed l dC dI cy qm um s1 s2 s3 s4 s5 H.size ) (cwV 5 hC.2.2.2.2 gL_law_X12_feed rfl rfl rfl (by decide +kernel) ⟨Nat.le_of_ble_eq_true rfl, Nat.le_of_ble_eq_true rfl⟩) rfl 0 rfl rfl hl.1 rfl (Nat.le_of_ble_eq_true rfl) dL_law_231 184 18569 ⟨rfl, rfl⟩ ⟨Nat.le_of_ble_eq_true rfl, Nat.le_of_ble_eq_true rfl⟩ (fun r5 u4 H locs hp6 hw => ?_)
  have hw : Wd dC dI A s.heap H locs [(qx, .inr (11, [.ref (ux 0), .ref (ux 1), .ref (ux 2), .ref (ux 3), .ref (ux 4), .ref (ux 5), .ref (ux 6), .ref (ux 7), .ref (ux 8), .ref (ux 9), .ref (ux 10), .ref (ux 11), .int 0])), ((ux 0), .inr (6, [.ref (ux 12), .int 0, .int 20, .int 0, .int 0])), ((ux 12), .inl (cy 0, 400, .inl (u1.2 0))), (qm, .inr (12, (.ref (um 0) :: .int 20 :: .int 0 :: .ref (um 1) :: .ref (um 2) :: .ref (um 3) :: .ref (um 4) :: .int 0 :: .int 0 :: .int 0 :: .int 0 :: .ref (um 5) :: .ref (um 6) :: .ref (um 7) :: .int 0 :: .int 0 :: .int 0 :: .int 0 :: .int 0 :: .int 0 :: .int 0 :: .ref (um 8) :: .int 0 :: .ref (um 9) :: .int 0 :: .ref (um 10) :: .ref (um 11) :: .int 1 :: .ref (um 12) :: .ref (um 13) :: .int 0 :: .int 0 :: .ref (um 14) :: .ref (um 15) :: .ref (um 16) :: .ref (um 17) :: .ref (um 18) :: .int 0 :: .ref (um 19) :: .long 0 :: .ref (um 20) :: .ref (um 21) :: ([] : List Value)))), ((um 0), .inl (cy 3, 400, .inl (u4.2 0)))] := hw
  obtain rfl : r5 = 20 := hp6
  refine lv_icmp_eq (tgt := 1252) hx hb dL_law_234 (by decide) (fun _ => ?_) (fun c => absurd (by decide) c)
  exact law_end hx hb hC hr hlocks hX hbl hbA hAe hw hl (Nat.le_of_ble_eq_true rfl) (Nat.le_of_ble_eq_true rfl)
set_option maxHeartbeats 4000000 in
set_option maxRecDepth 100000 in
theorem lc_end_0 {p : Program} {e : Env} {s : State} {m : MethodId} {below : List Frame} {meth : Method} {c : Code} {l : Launch} {b : Nat} {xs : Nat → Int32} {adK adV : Nat → Nat} {dC : Nat → ClassId} {dI : Nat → Nat → Nat} {cy : Nat → ClassId} {A : Nat → Prop} (hC : CallFix p m c code 4 s #[Value.ref b] wsR RL) (hr : meth.sig.returnType = ret) (hlocks : meth.locks = false) (hK : KK dC dI cy s) (hE : SE adK adV A s s.heap) (hSR : SR adK s) (hAe : A = fun q : Nat => s.heap.size ≤ q) (hA : ∀ q : Nat, s.heap.size ≤ q → A q) (hbA : ¬ A b) (hX : va_X b 6 xs s s.heap) (hbl : b < s.heap.size) {qx qm : Nat} {ux um : Nat → Nat} {s1 : Int32} (hs1 : xs 1 = s1) (hcs : s1.toInt ≤ -1) {H : Heap} {locs : List Loc} {ls : Array Slot} (hw : Wd dC dI A s.heap H locs [(qx, .inr (11, [.ref (ux 0), .ref (ux 1), .ref (ux 2), .ref (ux 3), .ref (ux 4), .ref (ux 5), .ref (ux 6), .ref (ux 7), .ref (ux 8), .ref (ux 9), .ref (ux 10), .ref (ux 11), .int 0])), (qm, .inr (12, (.ref (um 0) :: .int 0 :: .int 0 :: .ref (um 1) :: .ref (um 2) :: .ref (um 3) :: .ref (um 4) :: .int 0 :: .int 0 :: .int 0 :: .int 0 :: .ref (um 5) :: .ref (um 6) :: .ref (um 7) :: .int 0 :: .int 0 :: .int 0 :: .int 0 :: .int 0 :: .int 0 :: .int 0 :: .ref (um 8) :: .int 0 :: .ref (um 9) :: .int 0 :: .ref (um 10) :: .ref (um 11) :: .int 1 :: .ref (um 12) :: .ref (um 13) :: .int 0 :: .int 0 :: .ref (um 14) :: .ref (um 15) :: .ref (um 16) :: .ref (um 17) :: .ref (um 18) :: .int 0 :: .ref (um 19) :: .long 0 :: .ref (um 20) :: .ref (um 21) :: ([] : List Value))))]) (hl : lv_has ls 4 [(3, .int 0), (2, .ref qm), (1, .ref qx), (0, .ref b)]) : W p l e room_1 s m #[Value.ref b] below meth c H locs 184 18569 (lw_Z below #[Value.ref b] s) (F0 m 239 ls []) := by
  have hx := hC.1
  have hb := hC.2.1
  refine lv_aload_n hx hb dL_law_239 rfl (lv_at hl 2 rfl) ?_
  refine lv_aload_n hx hb dL_law_240 rfl (lv_at hl 3 rfl) ?_
  refine lv_iload_n hx hb dL_law_241 rfl (lv_at hl 0 rfl) ?_
  refine lv_iconst (v := 1) hx hb dL_law_242 (by decide) ?_
  refine lv_iadd hx hb dL_law_243 ?_
  refine wk_top 1 (by decide) ?_
  refine va_sld hx hb hX hbl hbA hw.2.2 (show ¬ ((1 : Int32) < 0 ∨ 6 ≤ (1 : Int32).toNatClampNeg) by decide) dL_law_244 ?_
  refine wk_top s1 hs1 ?_
  refine wk_Vi hC hK hw hA [0] [1] rfl rfl rfl rfl (by decide) (t_X11_end_0 l dC dI cy qx ux s1 H.size (show s1.toInt ≤ -1 by omega)) (cwV 1 hC.2.2.2.2 gL_law_X11_end rfl rfl rfl (by decide +kernel) ⟨Nat.le_of_ble_eq_true rfl, Nat.le_of_ble_eq_true rfl⟩) rfl 0 rfl rfl hl.1 rfl (Nat.le_of_ble_eq_true rfl) dL_law_245 184 18569 ⟨rfl, rfl⟩ ⟨Nat.le_of_ble_eq_true rfl, Nat.le_of_ble_eq_true rfl⟩ (fun r2 u1 H locs hp3 hw => ?_)
  have hw : Wd dC dI A s.heap H locs [(qm, .inr (12, (.ref (um 0) :: .int 0 :: .int 0 :: .ref (um 1) :: .ref (um 2) :: .ref (um 3) :: .ref (um 4) :: .int 0 :: .int 0 :: .int 0 :: .int 0 :: .ref (um 5) :: .ref (um 6) :: .ref (um 7) :: .int 0 :: .int 0 :: .int 0 :: .int 0 :: .int 0 :: .int 0 :: .int 0 :: .ref (um 8) :: .int 0 :: .ref (um 9) :: .int 0 :: .ref (um 10) :: .ref (um 11) :: .int 1 :: .ref (um 12) :: .ref (um 13) :: .int 0 :: .int 0 :: .ref (um 14) :: .ref (um 15) :: .ref (um 16) :: .ref (um 17) :: .ref (um 18) :: .int 0 :: .ref (um 19) :: .long 0 :: .ref (um 20) :: .ref (um 21) :: ([] : List Value)))), (qx, .inr (11, [.ref (ux 0), .ref (ux 1), .ref (ux 2), .ref (ux 3), .ref (ux 4), .ref (ux 5), .ref (ux 6), .ref (ux 7), .ref (ux 8), .ref (ux 9), .ref (ux 10), .ref (ux 11), .int 0]))] := hw
  obtain rfl : r2 = (-1) := hp3
  refine lv_aload_n hx hb dL_law_248 rfl (lv_at hl 1 rfl) ?_
  refine lv_aload_n hx hb dL_law_249 rfl (lv_at hl 3 rfl) ?_
  refine lv_iload_n hx hb dL_law_250 rfl (lv_at hl 0 rfl) ?_
  refine lv_iconst (v := 1) hx hb dL_law_251 (by decide) ?_
  refine lv_iadd hx hb dL_law_252 ?_
  refine wk_top 1 (by decide) ?_
  refine va_sld hx hb hX hbl hbA hw.2.2 (show ¬ ((1 : Int32) < 0 ∨ 6 ≤ (1 : Int32).toNatClampNeg) by decide) dL_law_253 ?_
  refine wk_top s1 hs1 ?_
  refine wk_Vi hC hK hw hA [0] [1] rfl rfl rfl rfl (by decide) (t_X12_end_0 l dC dI cy qm um s1 H.size (show s1.toInt ≤ -1 by omega)) (cwV 1 hC.2.2.2.2 gL_law_X12_end rfl rfl rfl (by decide +kernel) ⟨Nat.le_of_ble_eq_true rfl, Nat.le_of_ble_eq_true rfl⟩) rfl 0 rfl rfl hl.1 rfl (Nat.le_of_ble_eq_true rfl) dL_law_254 184 18569 ⟨rfl, rfl⟩ ⟨Nat.le_of_ble_eq_true rfl, Nat.le_of_ble_eq_true rfl⟩ (fun r5 u4 H locs hp6 hw => ?_)
  have hw : Wd dC dI A s.heap H locs [(qx, .inr (11, [.ref (ux 0), .ref (ux 1), .ref (ux 2), .ref (ux 3), .ref (ux 4), .ref (ux 5), .ref (ux 6), .ref (ux 7), .ref (ux 8), .ref (ux 9), .ref (ux 10), .ref (ux 11), .int 0])), (qm, .inr (12, (.ref (um 0) :: .int 0 :: .int 0 :: .ref (um 1) :: .ref (um 2) :: .ref (um 3) :: .ref (um 4) :: .int 0 :: .int 0 :: .int 0 :: .int 0 :: .ref (um 5) :: .ref (um 6) :: .ref (um 7) :: .int 0 :: .int 0 :: .int 0 :: .int 0 :: .int 0 :: .int 0 :: .int 0 :: .ref (um 8) :: .int 0 :: .ref (um 9) :: .int 0 :: .ref (um 10) :: .ref (um 11) :: .int 1 :: .ref (um 12) :: .ref (um 13) :: .int 0 :: .int 0 :: .ref (um 14) :: .ref (um 15) :: .ref (um 16) :: .ref (um 17) :: .ref (um 18) :: .int 0 :: .ref (um 19) :: .long 0 :: .ref (um 20) :: .ref (um 21) :: ([] : List Value))))] := hw
  obtain rfl : r5 = (-1) := hp6
  refine lv_icmp_eq (tgt := 1252) hx hb dL_law_257 (by decide) (fun _ => ?_) (fun c => absurd (by decide) c)
  exact law_end hx hb hC hr hlocks hX hbl hbA hAe hw hl (Nat.le_of_ble_eq_true rfl) (Nat.le_of_ble_eq_true rfl)
set_option maxHeartbeats 4000000 in
set_option maxRecDepth 100000 in
theorem lc_end_1 {p : Program} {e : Env} {s : State} {m : MethodId} {below : List Frame} {meth : Method} {c : Code} {l : Launch} {b : Nat} {xs : Nat → Int32} {adK adV : Nat → Nat} {dC : Nat → ClassId} {dI : Nat → Nat → Nat} {cy : Nat → ClassId} {A : Nat → Prop} (hC : CallFix p m c code 4 s #[Value.ref b] wsR RL) (hr : meth.sig.returnType = ret) (hlocks : meth.locks = false) (hK : KK dC dI cy s) (hE : SE adK adV A s s.heap) (hSR : SR adK s) (hAe : A = fun q : Nat => s.heap.size ≤ q) (hA : ∀ q : Nat, s.heap.size ≤ q → A q) (hbA : ¬ A b) (hX : va_X b 6 xs s s.heap) (hbl : b < s.heap.size) {qx qm : Nat} {ux um : Nat → Nat} (hs1 : xs 1 = 0)  {H : Heap} {locs : List Loc} {ls : Array Slot} (hw : Wd dC dI A s.heap H locs [(qx, .inr (11, [.ref (ux 0), .ref (ux 1), .ref (ux 2), .ref (ux 3), .ref (ux 4), .ref (ux 5), .ref (ux 6), .ref (ux 7), .ref (ux 8), .ref (ux 9), .ref (ux 10), .ref (ux 11), .int 0])), ((ux 0), .inr (6, [.ref (ux 12), .int 0, .int 0, .int 0, .int 0])), (qm, .inr (12, (.ref (um 0) :: .int 0 :: .int 0 :: .ref (um 1) :: .ref (um 2) :: .ref (um 3) :: .ref (um 4) :: .int 0 :: .int 0 :: .int 0 :: .int 0 :: .ref (um 5) :: .ref (um 6) :: .ref (um 7) :: .int 0 :: .int 0 :: .int 0 :: .int 0 :: .int 0 :: .int 0 :: .int 0 :: .ref (um 8) :: .int 0 :: .ref (um 9) :: .int 0 :: .ref (um 10) :: .ref (um 11) :: .int 1 :: .ref (um 12) :: .ref (um 13) :: .int 0 :: .int 0 :: .ref (um 14) :: .ref (um 15) :: .ref (um 16) :: .ref (um 17) :: .ref (um 18) :: .int 0 :: .ref (um 19) :: .long 0 :: .ref (um 20) :: .ref (um 21) :: ([] : List Value))))]) (hl : lv_has ls 4 [(3, .int 0), (2, .ref qm), (1, .ref qx), (0, .ref b)]) : W p l e room_1 s m #[Value.ref b] below meth c H locs 184 18569 (lw_Z below #[Value.ref b] s) (F0 m 239 ls []) := by
  have hx := hC.1
  have hb := hC.2.1
  refine lv_aload_n hx hb dL_law_239 rfl (lv_at hl 2 rfl) ?_
  refine lv_aload_n hx hb dL_law_240 rfl (lv_at hl 3 rfl) ?_
  refine lv_iload_n hx hb dL_law_241 rfl (lv_at hl 0 rfl) ?_
  refine lv_iconst (v := 1) hx hb dL_law_242 (by decide) ?_
  refine lv_iadd hx hb dL_law_243 ?_
  refine wk_top 1 (by decide) ?_
  refine va_sld hx hb hX hbl hbA hw.2.2 (show ¬ ((1 : Int32) < 0 ∨ 6 ≤ (1 : Int32).toNatClampNeg) by decide) dL_law_244 ?_
  refine wk_top 0 hs1 ?_
  refine wk_Vi hC hK hw hA [0, 1] [2] rfl rfl rfl rfl (by decide) (t_X11_end_1 l dC dI cy qx ux H.size ) (cwV 1 hC.2.2.2.2 gL_law_X11_end rfl rfl rfl (by decide +kernel) ⟨Nat.le_of_ble_eq_true rfl, Nat.le_of_ble_eq_true rfl⟩) rfl 0 rfl rfl hl.1 rfl (Nat.le_of_ble_eq_true rfl) dL_law_245 184 18569 ⟨rfl, rfl⟩ ⟨Nat.le_of_ble_eq_true rfl, Nat.le_of_ble_eq_true rfl⟩ (fun r2 u1 H locs hp3 hw => ?_)
  have hw : Wd dC dI A s.heap H locs [(qm, .inr (12, (.ref (um 0) :: .int 0 :: .int 0 :: .ref (um 1) :: .ref (um 2) :: .ref (um 3) :: .ref (um 4) :: .int 0 :: .int 0 :: .int 0 :: .int 0 :: .ref (um 5) :: .ref (um 6) :: .ref (um 7) :: .int 0 :: .int 0 :: .int 0 :: .int 0 :: .int 0 :: .int 0 :: .int 0 :: .ref (um 8) :: .int 0 :: .ref (um 9) :: .int 0 :: .ref (um 10) :: .ref (um 11) :: .int 1 :: .ref (um 12) :: .ref (um 13) :: .int 0 :: .int 0 :: .ref (um 14) :: .ref (um 15) :: .ref (um 16) :: .ref (um 17) :: .ref (um 18) :: .int 0 :: .ref (um 19) :: .long 0 :: .ref (um 20) :: .ref (um 21) :: ([] : List Value)))), (qx, .inr (11, [.ref (ux 0), .ref (ux 1), .ref (ux 2), .ref (ux 3), .ref (ux 4), .ref (ux 5), .ref (ux 6), .ref (ux 7), .ref (ux 8), .ref (ux 9), .ref (ux 10), .ref (ux 11), .int 0])), ((ux 0), .inr (6, [.ref (ux 12), .int 0, .int 0, .int 0, .int 0]))] := hw
  obtain rfl : r2 = 0 := hp3
  refine lv_aload_n hx hb dL_law_248 rfl (lv_at hl 1 rfl) ?_
  refine lv_aload_n hx hb dL_law_249 rfl (lv_at hl 3 rfl) ?_
  refine lv_iload_n hx hb dL_law_250 rfl (lv_at hl 0 rfl) ?_
  refine lv_iconst (v := 1) hx hb dL_law_251 (by decide) ?_
  refine lv_iadd hx hb dL_law_252 ?_
  refine wk_top 1 (by decide) ?_
  refine va_sld hx hb hX hbl hbA hw.2.2 (show ¬ ((1 : Int32) < 0 ∨ 6 ≤ (1 : Int32).toNatClampNeg) by decide) dL_law_253 ?_
  refine wk_top 0 hs1 ?_
  refine wk_Vi hC hK hw hA [0] [1, 2] rfl rfl rfl rfl (by decide) (t_X12_end_1 l dC dI cy qm um H.size ) (cwV 1 hC.2.2.2.2 gL_law_X12_end rfl rfl rfl (by decide +kernel) ⟨Nat.le_of_ble_eq_true rfl, Nat.le_of_ble_eq_true rfl⟩) rfl 0 rfl rfl hl.1 rfl (Nat.le_of_ble_eq_true rfl) dL_law_254 184 18569 ⟨rfl, rfl⟩ ⟨Nat.le_of_ble_eq_true rfl, Nat.le_of_ble_eq_true rfl⟩ (fun r5 u4 H locs hp6 hw => ?_)
  have hw : Wd dC dI A s.heap H locs [(qx, .inr (11, [.ref (ux 0), .ref (ux 1), .ref (ux 2), .ref (ux 3), .ref (ux 4), .ref (ux 5), .ref (ux 6), .ref (ux 7), .ref (ux 8), .ref (ux 9), .ref (ux 10), .ref (ux 11), .int 0])), ((ux 0), .inr (6, [.ref (ux 12), .int 0, .int 0, .int 0, .int 0])), (qm, .inr (12, (.ref (um 0) :: .int 0 :: .int 0 :: .ref (um 1) :: .ref (um 2) :: .ref (um 3) :: .ref (um 4) :: .int 0 :: .int 0 :: .int 0 :: .int 0 :: .ref (um 5) :: .ref (um 6) :: .ref (um 7) :: .int 0 :: .int 0 :: .int 0 :: .int 0 :: .int 0 :: .int 0 :: .int 0 :: .ref (um 8) :: .int 0 :: .ref (um 9) :: .int 0 :: .ref (um 10) :: .ref (um 11) :: .int 1 :: .ref (um 12) :: .ref (um 13) :: .int 0 :: .int 0 :: .ref (um 14) :: .ref (um 15) :: .ref (um 16) :: .ref (um 17) :: .ref (um 18) :: .int 0 :: .ref (um 19) :: .long 0 :: .ref (um 20) :: .ref (um 21) :: ([] : List Value))))] := hw
  obtain rfl : r5 = 0 := hp6
  refine lv_icmp_eq (tgt := 1252) hx hb dL_law_257 (by decide) (fun _ => ?_) (fun c => absurd (by decide) c)
  exact law_end hx hb hC hr hlocks hX hbl hbA hAe hw hl (Nat.le_of_ble_eq_true rfl) (Nat.le_of_ble_eq_true rfl)
set_option maxHeartbeats 4000000 in
set_option maxRecDepth 100000 in
theorem lc_end_2 {p : Program} {e : Env} {s : State} {m : MethodId} {below : List Frame} {meth : Method} {c : Code} {l : Launch} {b : Nat} {xs : Nat → Int32} {adK adV : Nat → Nat} {dC : Nat → ClassId} {dI : Nat → Nat → Nat} {cy : Nat → ClassId} {A : Nat → Prop} (hC : CallFix p m c code 4 s #[Value.ref b] wsR RL) (hr : meth.sig.returnType = ret) (hlocks : meth.locks = false) (hK : KK dC dI cy s) (hE : SE adK adV A s s.heap) (hSR : SR adK s) (hAe : A = fun q : Nat => s.heap.size ≤ q) (hA : ∀ q : Nat, s.heap.size ≤ q → A q) (hbA : ¬ A b) (hX : va_X b 6 xs s s.heap) (hbl : b < s.heap.size) {qx qm : Nat} {ux um : Nat → Nat} {s1 : Int32} (hs1 : xs 1 = s1) (hcs : 1 ≤ s1.toInt) {H : Heap} {locs : List Loc} {ls : Array Slot} (hw : Wd dC dI A s.heap H locs [(qx, .inr (11, [.ref (ux 0), .ref (ux 1), .ref (ux 2), .ref (ux 3), .ref (ux 4), .ref (ux 5), .ref (ux 6), .ref (ux 7), .ref (ux 8), .ref (ux 9), .ref (ux 10), .ref (ux 11), .int 0])), ((ux 0), .inr (6, [.ref (ux 12), .int 0, .int 0, .int 0, .int 0])), (qm, .inr (12, (.ref (um 0) :: .int 0 :: .int 0 :: .ref (um 1) :: .ref (um 2) :: .ref (um 3) :: .ref (um 4) :: .int 0 :: .int 0 :: .int 0 :: .int 0 :: .ref (um 5) :: .ref (um 6) :: .ref (um 7) :: .int 0 :: .int 0 :: .int 0 :: .int 0 :: .int 0 :: .int 0 :: .int 0 :: .ref (um 8) :: .int 0 :: .ref (um 9) :: .int 0 :: .ref (um 10) :: .ref (um 11) :: .int 1 :: .ref (um 12) :: .ref (um 13) :: .int 0 :: .int 0 :: .ref (um 14) :: .ref (um 15) :: .ref (um 16) :: .ref (um 17) :: .ref (um 18) :: .int 0 :: .ref (um 19) :: .long 0 :: .ref (um 20) :: .ref (um 21) :: ([] : List Value))))]) (hl : lv_has ls 4 [(3, .int 0), (2, .ref qm), (1, .ref qx), (0, .ref b)]) : W p l e room_1 s m #[Value.ref b] below meth c H locs 184 18569 (lw_Z below #[Value.ref b] s) (F0 m 239 ls []) := by
  have hx := hC.1
  have hb := hC.2.1
  refine lv_aload_n hx hb dL_law_239 rfl (lv_at hl 2 rfl) ?_
  refine lv_aload_n hx hb dL_law_240 rfl (lv_at hl 3 rfl) ?_
  refine lv_iload_n hx hb dL_law_241 rfl (lv_at hl 0 rfl) ?_
  refine lv_iconst (v := 1) hx hb dL_law_242 (by decide) ?_
  refine lv_iadd hx hb dL_law_243 ?_
  refine wk_top 1 (by decide) ?_
  refine va_sld hx hb hX hbl hbA hw.2.2 (show ¬ ((1 : Int32) < 0 ∨ 6 ≤ (1 : Int32).toNatClampNeg) by decide) dL_law_244 ?_
  refine wk_top s1 hs1 ?_
  refine wk_Vi hC hK hw hA [0, 1] [2] rfl rfl rfl rfl (by decide) (t_X11_end_2 l dC dI cy qx ux s1 H.size (show 1 ≤ s1.toInt by omega)) (cwV 1 hC.2.2.2.2 gL_law_X11_end rfl rfl rfl (by decide +kernel) ⟨Nat.le_of_ble_eq_true rfl, Nat.le_of_ble_eq_true rfl⟩) rfl 0 rfl rfl hl.1 rfl (Nat.le_of_ble_eq_true rfl) dL_law_245 184 18569 ⟨rfl, rfl⟩ ⟨Nat.le_of_ble_eq_true rfl, Nat.le_of_ble_eq_true rfl⟩ (fun r2 u1 H locs hp3 hw => ?_)
  have hw : Wd dC dI A s.heap H locs [(qm, .inr (12, (.ref (um 0) :: .int 0 :: .int 0 :: .ref (um 1) :: .ref (um 2) :: .ref (um 3) :: .ref (um 4) :: .int 0 :: .int 0 :: .int 0 :: .int 0 :: .ref (um 5) :: .ref (um 6) :: .ref (um 7) :: .int 0 :: .int 0 :: .int 0 :: .int 0 :: .int 0 :: .int 0 :: .int 0 :: .ref (um 8) :: .int 0 :: .ref (um 9) :: .int 0 :: .ref (um 10) :: .ref (um 11) :: .int 1 :: .ref (um 12) :: .ref (um 13) :: .int 0 :: .int 0 :: .ref (um 14) :: .ref (um 15) :: .ref (um 16) :: .ref (um 17) :: .ref (um 18) :: .int 0 :: .ref (um 19) :: .long 0 :: .ref (um 20) :: .ref (um 21) :: ([] : List Value)))), (qx, .inr (11, [.ref (ux 0), .ref (ux 1), .ref (ux 2), .ref (ux 3), .ref (ux 4), .ref (ux 5), .ref (ux 6), .ref (ux 7), .ref (ux 8), .ref (ux 9), .ref (ux 10), .ref (ux 11), .int 0])), ((ux 0), .inr (6, [.ref (ux 12), .int 0, .int 0, .int 0, .int 0]))] := hw
  obtain rfl : r2 = (-1) := hp3
  refine lv_aload_n hx hb dL_law_248 rfl (lv_at hl 1 rfl) ?_
  refine lv_aload_n hx hb dL_law_249 rfl (lv_at hl 3 rfl) ?_
  refine lv_iload_n hx hb dL_law_250 rfl (lv_at hl 0 rfl) ?_
  refine lv_iconst (v := 1) hx hb dL_law_251 (by decide) ?_
  refine lv_iadd hx hb dL_law_252 ?_
  refine wk_top 1 (by decide) ?_
  refine va_sld hx hb hX hbl hbA hw.2.2 (show ¬ ((1 : Int32) < 0 ∨ 6 ≤ (1 : Int32).toNatClampNeg) by decide) dL_law_253 ?_
  refine wk_top s1 hs1 ?_
  refine wk_Vi hC hK hw hA [0] [1, 2] rfl rfl rfl rfl (by decide) (t_X12_end_2 l dC dI cy qm um s1 H.size (show 1 ≤ s1.toInt by omega)) (cwV 1 hC.2.2.2.2 gL_law_X12_end rfl rfl rfl (by decide +kernel) ⟨Nat.le_of_ble_eq_true rfl, Nat.le_of_ble_eq_true rfl⟩) rfl 0 rfl rfl hl.1 rfl (Nat.le_of_ble_eq_true rfl) dL_law_254 184 18569 ⟨rfl, rfl⟩ ⟨Nat.le_of_ble_eq_true rfl, Nat.le_of_ble_eq_true rfl⟩ (fun r5 u4 H locs hp6 hw => ?_)
  have hw : Wd dC dI A s.heap H locs [(qx, .inr (11, [.ref (ux 0), .ref (ux 1), .ref (ux 2), .ref (ux 3), .ref (ux 4), .ref (ux 5), .ref (ux 6), .ref (ux 7), .ref (ux 8), .ref (ux 9), .ref (ux 10), .ref (ux 11), .int 0])), ((ux 0), .inr (6, [.ref (ux 12), .int 0, .int 0, .int 0, .int 0])), (qm, .inr (12, (.ref (um 0) :: .int 0 :: .int 0 :: .ref (um 1) :: .ref (um 2) :: .ref (um 3) :: .ref (um 4) :: .int 0 :: .int 0 :: .int 0 :: .int 0 :: .ref (um 5) :: .ref (um 6) :: .ref (um 7) :: .int 0 :: .int 0 :: .int 0 :: .int 0 :: .int 0 :: .int 0 :: .int 0 :: .ref (um 8) :: .int 0 :: .ref (um 9) :: .int 0 :: .ref (um 10) :: .ref (um 11) :: .int 1 :: .ref (um 12) :: .ref (um 13) :: .int 0 :: .int 0 :: .ref (um 14) :: .ref (um 15) :: .ref (um 16) :: .ref (um 17) :: .ref (um 18) :: .int 0 :: .ref (um 19) :: .long 0 :: .ref (um 20) :: .ref (um 21) :: ([] : List Value))))] := hw
  obtain rfl : r5 = (-1) := hp6
  refine lv_icmp_eq (tgt := 1252) hx hb dL_law_257 (by decide) (fun _ => ?_) (fun c => absurd (by decide) c)
  exact law_end hx hb hC hr hlocks hX hbl hbA hAe hw hl (Nat.le_of_ble_eq_true rfl) (Nat.le_of_ble_eq_true rfl)
set_option maxHeartbeats 4000000 in
set_option maxRecDepth 100000 in
theorem lc_town {p : Program} {e : Env} {s : State} {m : MethodId} {below : List Frame} {meth : Method} {c : Code} {l : Launch} {b : Nat} {xs : Nat → Int32} {adK adV : Nat → Nat} {dC : Nat → ClassId} {dI : Nat → Nat → Nat} {cy : Nat → ClassId} {A : Nat → Prop} (hC : CallFix p m c code 4 s #[Value.ref b] wsR RL) (hr : meth.sig.returnType = ret) (hlocks : meth.locks = false) (hK : KK dC dI cy s) (hE : SE adK adV A s s.heap) (hSR : SR adK s) (hAe : A = fun q : Nat => s.heap.size ≤ q) (hA : ∀ q : Nat, s.heap.size ≤ q → A q) (hbA : ¬ A b) (hX : va_X b 6 xs s s.heap) (hbl : b < s.heap.size) {qx qm : Nat} {ux um : Nat → Nat}  {H : Heap} {locs : List Loc} {ls : Array Slot} (hw : Wd dC dI A s.heap H locs [(qx, .inr (11, [.ref (ux 0), .ref (ux 1), .ref (ux 2), .ref (ux 3), .ref (ux 4), .ref (ux 5), .ref (ux 6), .ref (ux 7), .ref (ux 8), .ref (ux 9), .ref (ux 10), .ref (ux 11), .int 0])), ((ux 0), .inr (6, [.ref (ux 12), .int 0, .int 0, .int 0, .int 0])), ((ux 1), .inr (7, [.ref (ux 13), .ref (ux 14), .ref (ux 15), .ref (ux 16), .ref (ux 17), .ref (ux 18), .ref (ux 19), .ref (ux 20), .int 0, .int 0, .int 0, .int 0])), (qm, .inr (12, (.ref (um 0) :: .int 0 :: .int 0 :: .ref (um 1) :: .ref (um 2) :: .ref (um 3) :: .ref (um 4) :: .int 0 :: .int 0 :: .int 0 :: .int 0 :: .ref (um 5) :: .ref (um 6) :: .ref (um 7) :: .int 0 :: .int 0 :: .int 0 :: .int 0 :: .int 0 :: .int 0 :: .int 0 :: .ref (um 8) :: .int 0 :: .ref (um 9) :: .int 0 :: .ref (um 10) :: .ref (um 11) :: .int 1 :: .ref (um 12) :: .ref (um 13) :: .int 0 :: .int 0 :: .ref (um 14) :: .ref (um 15) :: .ref (um 16) :: .ref (um 17) :: .ref (um 18) :: .int 0 :: .ref (um 19) :: .long 0 :: .ref (um 20) :: .ref (um 21) :: ([] : List Value)))), ((um 2), .inl (cy 0, 7, .inl (fun _ => 0)))]) (hl : lv_has ls 4 [(3, .int 0), (2, .ref qm), (1, .ref qx), (0, .ref b)]) : W p l e room_1 s m #[Value.ref b] below meth c H locs 184 18569 (lw_Z below #[Value.ref b] s) (F0 m 262 ls []) := by
  have hx := hC.1
  have hb := hC.2.1
  refine lv_aload_n hx hb dL_law_262 rfl (lv_at hl 2 rfl) ?_
  refine wk_ViS hC hK hw hA hE hSR [0, 1, 2] [3, 4] rfl rfl rfl rfl (by decide) (t_X11_town l adK adV dC dI cy qx ux H.size ) (cwV 0 hC.2.2.2.2 gL_law_X11_town rfl rfl rfl (by decide +kernel) ⟨Nat.le_of_ble_eq_true rfl, Nat.le_of_ble_eq_true rfl⟩) rfl 0 rfl rfl hl.1 rfl (Nat.le_of_ble_eq_true rfl) dL_law_263 184 18569 ⟨rfl, rfl⟩ ⟨Nat.le_of_ble_eq_true rfl, Nat.le_of_ble_eq_true rfl⟩ (fun r2 u1 H locs hp3 hw => ?_)
  have hw : Wd dC dI A s.heap H locs [(qm, .inr (12, (.ref (um 0) :: .int 0 :: .int 0 :: .ref (um 1) :: .ref (um 2) :: .ref (um 3) :: .ref (um 4) :: .int 0 :: .int 0 :: .int 0 :: .int 0 :: .ref (um 5) :: .ref (um 6) :: .ref (um 7) :: .int 0 :: .int 0 :: .int 0 :: .int 0 :: .int 0 :: .int 0 :: .int 0 :: .ref (um 8) :: .int 0 :: .ref (um 9) :: .int 0 :: .ref (um 10) :: .ref (um 11) :: .int 1 :: .ref (um 12) :: .ref (um 13) :: .int 0 :: .int 0 :: .ref (um 14) :: .ref (um 15) :: .ref (um 16) :: .ref (um 17) :: .ref (um 18) :: .int 0 :: .ref (um 19) :: .long 0 :: .ref (um 20) :: .ref (um 21) :: ([] : List Value)))), ((um 2), .inl (cy 0, 7, .inl (fun _ => 0))), (qx, .inr (11, [.ref (ux 0), .ref (ux 1), .ref (ux 2), .ref (ux 3), .ref (ux 4), .ref (ux 5), .ref (ux 6), .ref (ux 7), .ref (ux 8), .ref (ux 9), .ref (ux 10), .ref (ux 11), .int 0])), ((ux 0), .inr (6, [.ref (ux 12), .int 0, .int 0, .int 0, .int 1])), ((ux 1), .inr (7, [.ref (ux 13), .ref (ux 14), .ref (ux 15), .ref (ux 16), .ref (ux 17), .ref (ux 18), .ref (ux 19), .ref (ux 20), .int 0, .int 0, .int 0, .int 0]))] := hw
  obtain rfl : r2 = (-3) := hp3
  refine lv_aload_n hx hb dL_law_266 rfl (lv_at hl 1 rfl) ?_
  refine wk_Vi hC hK hw hA [0, 1] [2, 3, 4] rfl rfl rfl rfl (by decide) (t_X12_town l dC dI cy qm um H.size ) (cwV 0 hC.2.2.2.2 gL_law_X12_town rfl rfl rfl (by decide +kernel) ⟨Nat.le_of_ble_eq_true rfl, Nat.le_of_ble_eq_true rfl⟩) rfl 0 rfl rfl hl.1 rfl (Nat.le_of_ble_eq_true rfl) dL_law_267 184 18569 ⟨rfl, rfl⟩ ⟨Nat.le_of_ble_eq_true rfl, Nat.le_of_ble_eq_true rfl⟩ (fun r5 u4 H locs hp6 hw => ?_)
  have hw : Wd dC dI A s.heap H locs [(qx, .inr (11, [.ref (ux 0), .ref (ux 1), .ref (ux 2), .ref (ux 3), .ref (ux 4), .ref (ux 5), .ref (ux 6), .ref (ux 7), .ref (ux 8), .ref (ux 9), .ref (ux 10), .ref (ux 11), .int 0])), ((ux 0), .inr (6, [.ref (ux 12), .int 0, .int 0, .int 0, .int 1])), ((ux 1), .inr (7, [.ref (ux 13), .ref (ux 14), .ref (ux 15), .ref (ux 16), .ref (ux 17), .ref (ux 18), .ref (ux 19), .ref (ux 20), .int 0, .int 0, .int 0, .int 0])), (qm, .inr (12, (.ref (um 0) :: .int 0 :: .int 0 :: .ref (um 1) :: .ref (um 2) :: .ref (um 3) :: .ref (um 4) :: .int 0 :: .int 0 :: .int 0 :: .int 0 :: .ref (um 5) :: .ref (um 6) :: .ref (um 7) :: .int 0 :: .int 1 :: .int 0 :: .int 6 :: .int 0 :: .int 0 :: .int 0 :: .ref (um 8) :: .int 0 :: .ref (um 9) :: .int 0 :: .ref (um 10) :: .ref (um 11) :: .int 1 :: .ref (um 12) :: .ref (um 13) :: .int 0 :: .int 0 :: .ref (um 14) :: .ref (um 15) :: .ref (um 16) :: .ref (um 17) :: .ref (um 18) :: .int 0 :: .ref (um 19) :: .long 0 :: .ref (um 20) :: .ref (um 21) :: ([] : List Value)))), ((um 2), .inl (cy 0, 7, .inl (u4.2 0)))] := hw
  obtain rfl : r5 = (-3) := hp6
  refine lv_icmp_eq (tgt := 1252) hx hb dL_law_270 (by decide) (fun _ => ?_) (fun c => absurd (by decide) c)
  exact law_end hx hb hC hr hlocks hX hbl hbA hAe hw hl (Nat.le_of_ble_eq_true rfl) (Nat.le_of_ble_eq_true rfl)
set_option maxHeartbeats 4000000 in
set_option maxRecDepth 100000 in
theorem lc_rule {p : Program} {e : Env} {s : State} {m : MethodId} {below : List Frame} {meth : Method} {c : Code} {l : Launch} {b : Nat} {xs : Nat → Int32} {adK adV : Nat → Nat} {dC : Nat → ClassId} {dI : Nat → Nat → Nat} {cy : Nat → ClassId} {A : Nat → Prop} (hC : CallFix p m c code 4 s #[Value.ref b] wsR RL) (hr : meth.sig.returnType = ret) (hlocks : meth.locks = false) (hK : KK dC dI cy s) (hE : SE adK adV A s s.heap) (hSR : SR adK s) (hAe : A = fun q : Nat => s.heap.size ≤ q) (hA : ∀ q : Nat, s.heap.size ≤ q → A q) (hbA : ¬ A b) (hX : va_X b 6 xs s s.heap) (hbl : b < s.heap.size) {qx qm : Nat} {ux um : Nat → Nat}  {H : Heap} {locs : List Loc} {ls : Array Slot} (hw : Wd dC dI A s.heap H locs [(qx, .inr (11, [.ref (ux 0), .ref (ux 1), .ref (ux 2), .ref (ux 3), .ref (ux 4), .ref (ux 5), .ref (ux 6), .ref (ux 7), .ref (ux 8), .ref (ux 9), .ref (ux 10), .ref (ux 11), .int 0])), ((ux 0), .inr (6, [.ref (ux 12), .int 0, .int 0, .int 0, .int 0])), ((ux 2), .inl (cy 4, 6, .inr (.inr (.inr (.inr (va_up (va_up (va_up (va_up (va_up (va_up (fun _ => none) 0 (some (ux 21))) 1 (some (ux 22))) 2 (some (ux 23))) 3 (some (ux 24))) 4 (some (ux 25))) 5 (some (ux 26)))))))), ((ux 3), .inr (3, [.ref (ux 0), .null, .int 0])), ((ux 21), .inr (2, [.ref (ux 50), .ref (ux 51), .ref (ux 52), .int 0, .int 0, .int 0])), ((ux 50), .inl (cy 0, 12, .inl (fun _ => 0))), ((ux 51), .inl (cy 0, 13, .inl (fun _ => 0))), (qm, .inr (12, (.ref (um 0) :: .int 0 :: .int 0 :: .ref (um 1) :: .ref (um 2) :: .ref (um 3) :: .ref (um 4) :: .int 0 :: .int 0 :: .int 0 :: .int 0 :: .ref (um 5) :: .ref (um 6) :: .ref (um 7) :: .int 0 :: .int 0 :: .int 0 :: .int 0 :: .int 0 :: .int 0 :: .int 0 :: .ref (um 8) :: .int 0 :: .ref (um 9) :: .int 0 :: .ref (um 10) :: .ref (um 11) :: .int 1 :: .ref (um 12) :: .ref (um 13) :: .int 0 :: .int 0 :: .ref (um 14) :: .ref (um 15) :: .ref (um 16) :: .ref (um 17) :: .ref (um 18) :: .int 0 :: .ref (um 19) :: .long 0 :: .ref (um 20) :: .ref (um 21) :: ([] : List Value)))), ((um 2), .inl (cy 0, 7, .inl (fun _ => 0))), ((um 4), .inl (cy 0, 6, .inl (fun _ => 0)))]) (hl : lv_has ls 4 [(3, .int 0), (2, .ref qm), (1, .ref qx), (0, .ref b)]) : W p l e room_1 s m #[Value.ref b] below meth c H locs 184 18569 (lw_Z below #[Value.ref b] s) (F0 m 275 ls []) := by
  have hx := hC.1
  have hb := hC.2.1
  refine lv_aload_n hx hb dL_law_275 rfl (lv_at hl 2 rfl) ?_
  refine wk_ViS hC hK hw hA hE hSR [0, 1, 2, 3, 4, 5, 6] [7, 8, 9] rfl rfl rfl rfl (by decide) (t_X11_rule l adK adV dC dI cy qx ux H.size ) (cwV 0 hC.2.2.2.2 gL_law_X11_rule rfl rfl rfl (by decide +kernel) ⟨Nat.le_of_ble_eq_true rfl, Nat.le_of_ble_eq_true rfl⟩) rfl 0 rfl rfl hl.1 rfl (Nat.le_of_ble_eq_true rfl) dL_law_276 184 18569 ⟨rfl, rfl⟩ ⟨Nat.le_of_ble_eq_true rfl, Nat.le_of_ble_eq_true rfl⟩ (fun r2 u1 H locs hp3 hw => ?_)
  have hw : Wd dC dI A s.heap H locs [(qm, .inr (12, (.ref (um 0) :: .int 0 :: .int 0 :: .ref (um 1) :: .ref (um 2) :: .ref (um 3) :: .ref (um 4) :: .int 0 :: .int 0 :: .int 0 :: .int 0 :: .ref (um 5) :: .ref (um 6) :: .ref (um 7) :: .int 0 :: .int 0 :: .int 0 :: .int 0 :: .int 0 :: .int 0 :: .int 0 :: .ref (um 8) :: .int 0 :: .ref (um 9) :: .int 0 :: .ref (um 10) :: .ref (um 11) :: .int 1 :: .ref (um 12) :: .ref (um 13) :: .int 0 :: .int 0 :: .ref (um 14) :: .ref (um 15) :: .ref (um 16) :: .ref (um 17) :: .ref (um 18) :: .int 0 :: .ref (um 19) :: .long 0 :: .ref (um 20) :: .ref (um 21) :: ([] : List Value)))), ((um 2), .inl (cy 0, 7, .inl (fun _ => 0))), ((um 4), .inl (cy 0, 6, .inl (fun _ => 0))), (qx, .inr (11, [.ref (ux 0), .ref (ux 1), .ref (ux 2), .ref (ux 3), .ref (ux 4), .ref (ux 5), .ref (ux 6), .ref (ux 7), .ref (ux 8), .ref (ux 9), .ref (ux 10), .ref (ux 11), .int 0])), ((ux 0), .inr (6, [.ref (ux 12), .int 0, .int 0, .int 0, .int 1])), ((ux 2), .inl (cy 4, 6, .inr (.inr (.inr (.inr (va_up (va_up (va_up (va_up (va_up (va_up (fun _ => none) 0 (some (ux 21))) 1 (some (ux 22))) 2 (some (ux 23))) 3 (some (ux 24))) 4 (some (ux 25))) 5 (some (ux 26)))))))), ((ux 3), .inr (3, [.ref (ux 0), .ref (ux 21), .int 0])), ((ux 21), .inr (2, [.ref (ux 50), .ref (ux 51), .ref (ux 52), .int 0, .int 1, .int 0])), ((ux 50), .inl (cy 0, 12, .inl (u1.2 0))), ((ux 51), .inl (cy 0, 13, .inl (u1.2 1)))] := hw
  obtain rfl : r2 = (-3) := hp3
  refine lv_aload_n hx hb dL_law_279 rfl (lv_at hl 1 rfl) ?_
  refine wk_Vi hC hK hw hA [0, 1, 2] [3, 4, 5, 6, 7, 8, 9] rfl rfl rfl rfl (by decide) (t_X12_rule l dC dI cy qm um H.size ) (cwV 0 hC.2.2.2.2 gL_law_X12_rule rfl rfl rfl (by decide +kernel) ⟨Nat.le_of_ble_eq_true rfl, Nat.le_of_ble_eq_true rfl⟩) rfl 0 rfl rfl hl.1 rfl (Nat.le_of_ble_eq_true rfl) dL_law_280 184 18569 ⟨rfl, rfl⟩ ⟨Nat.le_of_ble_eq_true rfl, Nat.le_of_ble_eq_true rfl⟩ (fun r5 u4 H locs hp6 hw => ?_)
  have hw : Wd dC dI A s.heap H locs [(qx, .inr (11, [.ref (ux 0), .ref (ux 1), .ref (ux 2), .ref (ux 3), .ref (ux 4), .ref (ux 5), .ref (ux 6), .ref (ux 7), .ref (ux 8), .ref (ux 9), .ref (ux 10), .ref (ux 11), .int 0])), ((ux 0), .inr (6, [.ref (ux 12), .int 0, .int 0, .int 0, .int 1])), ((ux 2), .inl (cy 4, 6, .inr (.inr (.inr (.inr (va_up (va_up (va_up (va_up (va_up (va_up (fun _ => none) 0 (some (ux 21))) 1 (some (ux 22))) 2 (some (ux 23))) 3 (some (ux 24))) 4 (some (ux 25))) 5 (some (ux 26)))))))), ((ux 3), .inr (3, [.ref (ux 0), .ref (ux 21), .int 0])), ((ux 21), .inr (2, [.ref (ux 50), .ref (ux 51), .ref (ux 52), .int 0, .int 1, .int 0])), ((ux 50), .inl (cy 0, 12, .inl (u1.2 0))), ((ux 51), .inl (cy 0, 13, .inl (u1.2 1))), (qm, .inr (12, (.ref (um 0) :: .int 0 :: .int 0 :: .ref (um 1) :: .ref (um 2) :: .ref (um 3) :: .ref (um 4) :: .int 0 :: .int 0 :: .int 0 :: .int 0 :: .ref (um 5) :: .ref (um 6) :: .ref (um 7) :: .int 0 :: .int 1 :: .int 0 :: .int 0 :: .int 0 :: .int 0 :: .int 0 :: .ref (um 8) :: .int 0 :: .ref (um 9) :: .int 0 :: .ref (um 10) :: .ref (um 11) :: .int 1 :: .ref (um 12) :: .ref (um 13) :: .int 0 :: .int 0 :: .ref (um 14) :: .ref (um 15) :: .ref (um 16) :: .ref (um 17) :: .ref (um 18) :: .int 0 :: .ref (um 19) :: .long 0 :: .ref (um 20) :: .ref (um 21) :: ([] : List Value)))), ((um 2), .inl (cy 0, 7, .inl (u4.2 0))), ((um 4), .inl (cy 0, 6, .inl (u4.2 1)))] := hw
  obtain rfl : r5 = (-3) := hp6
  refine lv_icmp_eq (tgt := 1252) hx hb dL_law_283 (by decide) (fun _ => ?_) (fun c => absurd (by decide) c)
  exact law_end hx hb hC hr hlocks hX hbl hbA hAe hw hl (Nat.le_of_ble_eq_true rfl) (Nat.le_of_ble_eq_true rfl)
set_option maxHeartbeats 4000000 in
set_option maxRecDepth 100000 in
theorem lc_street {p : Program} {e : Env} {s : State} {m : MethodId} {below : List Frame} {meth : Method} {c : Code} {l : Launch} {b : Nat} {xs : Nat → Int32} {adK adV : Nat → Nat} {dC : Nat → ClassId} {dI : Nat → Nat → Nat} {cy : Nat → ClassId} {A : Nat → Prop} (hC : CallFix p m c code 4 s #[Value.ref b] wsR RL) (hr : meth.sig.returnType = ret) (hlocks : meth.locks = false) (hK : KK dC dI cy s) (hE : SE adK adV A s s.heap) (hSR : SR adK s) (hAe : A = fun q : Nat => s.heap.size ≤ q) (hA : ∀ q : Nat, s.heap.size ≤ q → A q) (hbA : ¬ A b) (hX : va_X b 6 xs s s.heap) (hbl : b < s.heap.size) {qx qm : Nat} {ux um : Nat → Nat} {s1 : Int32} (hs1 : xs 1 = s1) {s2 : Int32} (hs2 : xs 2 = s2) {H : Heap} {locs : List Loc} {ls : Array Slot} (hw : Wd dC dI A s.heap H locs [(qx, .inr (11, [.ref (ux 0), .ref (ux 1), .ref (ux 2), .ref (ux 3), .ref (ux 4), .ref (ux 5), .ref (ux 6), .ref (ux 7), .ref (ux 8), .ref (ux 9), .ref (ux 10), .ref (ux 11), .int 0])), ((ux 4), .inr (5, [.ref (ux 27), .ref (ux 28), .ref (ux 29), .ref (ux 30), .ref (ux 31), .ref (ux 32), .ref (ux 33), .ref (ux 34), .int 0, .int 0, .int 0, .int 0, .int 0, .int 0])), ((ux 27), .inr (7, [.ref (ux 68), .ref (ux 69), .ref (ux 70), .ref (ux 71), .ref (ux 72), .ref (ux 73), .ref (ux 74), .ref (ux 75), .int 0, .int 0, .int 0, .int 0])), (qm, .inr (12, (.ref (um 0) :: .int 0 :: .int 0 :: .ref (um 1) :: .ref (um 2) :: .ref (um 3) :: .ref (um 4) :: .int 0 :: .int 0 :: .int 0 :: .int 0 :: .ref (um 5) :: .ref (um 6) :: .ref (um 7) :: .int 0 :: .int 0 :: .int 0 :: .int 0 :: .int 0 :: .int 0 :: .int 0 :: .ref (um 8) :: .int 0 :: .ref (um 9) :: .int 0 :: .ref (um 10) :: .ref (um 11) :: .int 1 :: .ref (um 12) :: .ref (um 13) :: .int 0 :: .int 0 :: .ref (um 14) :: .ref (um 15) :: .ref (um 16) :: .ref (um 17) :: .ref (um 18) :: .int 0 :: .ref (um 19) :: .long 0 :: .ref (um 20) :: .ref (um 21) :: ([] : List Value)))), ((um 11), .inl (cy 0, 296, .inl (fun _ => 0)))]) (hl : lv_has ls 4 [(3, .int 0), (2, .ref qm), (1, .ref qx), (0, .ref b)]) : W p l e room_1 s m #[Value.ref b] below meth c H locs 184 18569 (lw_Z below #[Value.ref b] s) (F0 m 288 ls []) := by
  have hx := hC.1
  have hb := hC.2.1
  refine lv_aload_n hx hb dL_law_288 rfl (lv_at hl 2 rfl) ?_
  refine lv_aload_n hx hb dL_law_289 rfl (lv_at hl 3 rfl) ?_
  refine lv_iload_n hx hb dL_law_290 rfl (lv_at hl 0 rfl) ?_
  refine lv_iconst (v := 1) hx hb dL_law_291 (by decide) ?_
  refine lv_iadd hx hb dL_law_292 ?_
  refine wk_top 1 (by decide) ?_
  refine va_sld hx hb hX hbl hbA hw.2.2 (show ¬ ((1 : Int32) < 0 ∨ 6 ≤ (1 : Int32).toNatClampNeg) by decide) dL_law_293 ?_
  refine wk_top s1 hs1 ?_
  refine lv_aload_n hx hb dL_law_294 rfl (lv_at hl 3 rfl) ?_
  refine lv_iload_n hx hb dL_law_295 rfl (lv_at hl 0 rfl) ?_
  refine lv_iconst (v := 2) hx hb dL_law_296 (by decide) ?_
  refine lv_iadd hx hb dL_law_297 ?_
  refine wk_top 2 (by decide) ?_
  refine va_sld hx hb hX hbl hbA hw.2.2 (show ¬ ((2 : Int32) < 0 ∨ 6 ≤ (2 : Int32).toNatClampNeg) by decide) dL_law_298 ?_
  refine wk_top s2 hs2 ?_
  refine wk_Vi hC hK hw hA [0, 1, 2] [3, 4] rfl rfl rfl rfl (by decide) (t_X11_street l dC dI cy qx ux s1 s2 H.size ) (cwV 2 hC.2.2.2.2 gL_law_X11_street rfl rfl rfl (by decide +kernel) ⟨Nat.le_of_ble_eq_true rfl, Nat.le_of_ble_eq_true rfl⟩) rfl 0 rfl rfl hl.1 rfl (Nat.le_of_ble_eq_true rfl) dL_law_299 184 18569 ⟨rfl, rfl⟩ ⟨Nat.le_of_ble_eq_true rfl, Nat.le_of_ble_eq_true rfl⟩ (fun r2 u1 H locs hp3 hw => ?_)
  have hw : Wd dC dI A s.heap H locs [(qm, .inr (12, (.ref (um 0) :: .int 0 :: .int 0 :: .ref (um 1) :: .ref (um 2) :: .ref (um 3) :: .ref (um 4) :: .int 0 :: .int 0 :: .int 0 :: .int 0 :: .ref (um 5) :: .ref (um 6) :: .ref (um 7) :: .int 0 :: .int 0 :: .int 0 :: .int 0 :: .int 0 :: .int 0 :: .int 0 :: .ref (um 8) :: .int 0 :: .ref (um 9) :: .int 0 :: .ref (um 10) :: .ref (um 11) :: .int 1 :: .ref (um 12) :: .ref (um 13) :: .int 0 :: .int 0 :: .ref (um 14) :: .ref (um 15) :: .ref (um 16) :: .ref (um 17) :: .ref (um 18) :: .int 0 :: .ref (um 19) :: .long 0 :: .ref (um 20) :: .ref (um 21) :: ([] : List Value)))), ((um 11), .inl (cy 0, 296, .inl (fun _ => 0))), (qx, .inr (11, [.ref (ux 0), .ref (ux 1), .ref (ux 2), .ref (ux 3), .ref (ux 4), .ref (ux 5), .ref (ux 6), .ref (ux 7), .ref (ux 8), .ref (ux 9), .ref (ux 10), .ref (ux 11), .int 0])), ((ux 4), .inr (5, [.ref (ux 27), .ref (ux 28), .ref (ux 29), .ref (ux 30), .ref (ux 31), .ref (ux 32), .ref (ux 33), .ref (ux 34), .int 0, .int 0, .int 0, .int 0, .int 0, .int 0])), ((ux 27), .inr (7, [.ref (ux 68), .ref (ux 69), .ref (ux 70), .ref (ux 71), .ref (ux 72), .ref (ux 73), .ref (ux 74), .ref (ux 75), .int 0, .int 0, .int 0, .int 0]))] := hw
  obtain rfl : r2 = (-1) := hp3
  refine lv_aload_n hx hb dL_law_302 rfl (lv_at hl 1 rfl) ?_
  refine lv_aload_n hx hb dL_law_303 rfl (lv_at hl 3 rfl) ?_
  refine lv_iload_n hx hb dL_law_304 rfl (lv_at hl 0 rfl) ?_
  refine lv_iconst (v := 1) hx hb dL_law_305 (by decide) ?_
  refine lv_iadd hx hb dL_law_306 ?_
  refine wk_top 1 (by decide) ?_
  refine va_sld hx hb hX hbl hbA hw.2.2 (show ¬ ((1 : Int32) < 0 ∨ 6 ≤ (1 : Int32).toNatClampNeg) by decide) dL_law_307 ?_
  refine wk_top s1 hs1 ?_
  refine lv_aload_n hx hb dL_law_308 rfl (lv_at hl 3 rfl) ?_
  refine lv_iload_n hx hb dL_law_309 rfl (lv_at hl 0 rfl) ?_
  refine lv_iconst (v := 2) hx hb dL_law_310 (by decide) ?_
  refine lv_iadd hx hb dL_law_311 ?_
  refine wk_top 2 (by decide) ?_
  refine va_sld hx hb hX hbl hbA hw.2.2 (show ¬ ((2 : Int32) < 0 ∨ 6 ≤ (2 : Int32).toNatClampNeg) by decide) dL_law_312 ?_
  refine wk_top s2 hs2 ?_
  refine wk_Vi hC hK hw hA [0, 1] [2, 3, 4] rfl rfl rfl rfl (by decide) (t_X12_street l dC dI cy qm um s1 s2 H.size ) (cwV 2 hC.2.2.2.2 gL_law_X12_street rfl rfl rfl (by decide +kernel) ⟨Nat.le_of_ble_eq_true rfl, Nat.le_of_ble_eq_true rfl⟩) rfl 0 rfl rfl hl.1 rfl (Nat.le_of_ble_eq_true rfl) dL_law_313 184 18569 ⟨rfl, rfl⟩ ⟨Nat.le_of_ble_eq_true rfl, Nat.le_of_ble_eq_true rfl⟩ (fun r5 u4 H locs hp6 hw => ?_)
  have hw : Wd dC dI A s.heap H locs [(qx, .inr (11, [.ref (ux 0), .ref (ux 1), .ref (ux 2), .ref (ux 3), .ref (ux 4), .ref (ux 5), .ref (ux 6), .ref (ux 7), .ref (ux 8), .ref (ux 9), .ref (ux 10), .ref (ux 11), .int 0])), ((ux 4), .inr (5, [.ref (ux 27), .ref (ux 28), .ref (ux 29), .ref (ux 30), .ref (ux 31), .ref (ux 32), .ref (ux 33), .ref (ux 34), .int 0, .int 0, .int 0, .int 0, .int 0, .int 0])), ((ux 27), .inr (7, [.ref (ux 68), .ref (ux 69), .ref (ux 70), .ref (ux 71), .ref (ux 72), .ref (ux 73), .ref (ux 74), .ref (ux 75), .int 0, .int 0, .int 0, .int 0])), (qm, .inr (12, (.ref (um 0) :: .int 0 :: .int 0 :: .ref (um 1) :: .ref (um 2) :: .ref (um 3) :: .ref (um 4) :: .int 0 :: .int 0 :: .int 0 :: .int 0 :: .ref (um 5) :: .ref (um 6) :: .ref (um 7) :: .int 0 :: .int 0 :: .int 0 :: .int 0 :: .int 0 :: .int 0 :: .int 0 :: .ref (um 8) :: .int 0 :: .ref (um 9) :: .int 0 :: .ref (um 10) :: .ref (um 11) :: .int 1 :: .ref (um 12) :: .ref (um 13) :: .int 0 :: .int 0 :: .ref (um 14) :: .ref (um 15) :: .ref (um 16) :: .ref (um 17) :: .ref (um 18) :: .int 0 :: .ref (um 19) :: .long 0 :: .ref (um 20) :: .ref (um 21) :: ([] : List Value)))), ((um 11), .inl (cy 0, 296, .inl (fun _ => 0)))] := hw
  obtain rfl : r5 = (-1) := hp6
  refine lv_icmp_eq (tgt := 1252) hx hb dL_law_316 (by decide) (fun _ => ?_) (fun c => absurd (by decide) c)
  exact law_end hx hb hC hr hlocks hX hbl hbA hAe hw hl (Nat.le_of_ble_eq_true rfl) (Nat.le_of_ble_eq_true rfl)
set_option maxHeartbeats 4000000 in
set_option maxRecDepth 100000 in
theorem lc_open {p : Program} {e : Env} {s : State} {m : MethodId} {below : List Frame} {meth : Method} {c : Code} {l : Launch} {b : Nat} {xs : Nat → Int32} {adK adV : Nat → Nat} {dC : Nat → ClassId} {dI : Nat → Nat → Nat} {cy : Nat → ClassId} {A : Nat → Prop} (hC : CallFix p m c code 4 s #[Value.ref b] wsR RL) (hr : meth.sig.returnType = ret) (hlocks : meth.locks = false) (hK : KK dC dI cy s) (hE : SE adK adV A s s.heap) (hSR : SR adK s) (hAe : A = fun q : Nat => s.heap.size ≤ q) (hA : ∀ q : Nat, s.heap.size ≤ q → A q) (hbA : ¬ A b) (hX : va_X b 6 xs s s.heap) (hbl : b < s.heap.size) {qx qm : Nat} {ux um : Nat → Nat} {s1 : Int32} (hs1 : xs 1 = s1) {s2 : Int32} (hs2 : xs 2 = s2) {s3 : Int32} (hs3 : xs 3 = s3) {H : Heap} {locs : List Loc} {ls : Array Slot} (hw : Wd dC dI A s.heap H locs [(qx, .inr (11, [.ref (ux 0), .ref (ux 1), .ref (ux 2), .ref (ux 3), .ref (ux 4), .ref (ux 5), .ref (ux 6), .ref (ux 7), .ref (ux 8), .ref (ux 9), .ref (ux 10), .ref (ux 11), .int 0])), ((ux 4), .inr (5, [.ref (ux 27), .ref (ux 28), .ref (ux 29), .ref (ux 30), .ref (ux 31), .ref (ux 32), .ref (ux 33), .ref (ux 34), .int 0, .int 0, .int 0, .int 0, .int 0, .int 0])), ((ux 27), .inr (7, [.ref (ux 68), .ref (ux 69), .ref (ux 70), .ref (ux 71), .ref (ux 72), .ref (ux 73), .ref (ux 74), .ref (ux 75), .int 0, .int 0, .int 0, .int 0])), (qm, .inr (12, (.ref (um 0) :: .int 0 :: .int 0 :: .ref (um 1) :: .ref (um 2) :: .ref (um 3) :: .ref (um 4) :: .int 0 :: .int 0 :: .int 0 :: .int 0 :: .ref (um 5) :: .ref (um 6) :: .ref (um 7) :: .int 0 :: .int 0 :: .int 0 :: .int 0 :: .int 0 :: .int 0 :: .int 0 :: .ref (um 8) :: .int 0 :: .ref (um 9) :: .int 0 :: .ref (um 10) :: .ref (um 11) :: .int 1 :: .ref (um 12) :: .ref (um 13) :: .int 0 :: .int 0 :: .ref (um 14) :: .ref (um 15) :: .ref (um 16) :: .ref (um 17) :: .ref (um 18) :: .int 0 :: .ref (um 19) :: .long 0 :: .ref (um 20) :: .ref (um 21) :: ([] : List Value)))), ((um 11), .inl (cy 0, 296, .inl (fun _ => 0)))]) (hl : lv_has ls 4 [(3, .int 0), (2, .ref qm), (1, .ref qx), (0, .ref b)]) : W p l e room_1 s m #[Value.ref b] below meth c H locs 184 18569 (lw_Z below #[Value.ref b] s) (F0 m 321 ls []) := by
  have hx := hC.1
  have hb := hC.2.1
  refine lv_aload_n hx hb dL_law_321 rfl (lv_at hl 2 rfl) ?_
  refine lv_aload_n hx hb dL_law_322 rfl (lv_at hl 3 rfl) ?_
  refine lv_iload_n hx hb dL_law_323 rfl (lv_at hl 0 rfl) ?_
  refine lv_iconst (v := 1) hx hb dL_law_324 (by decide) ?_
  refine lv_iadd hx hb dL_law_325 ?_
  refine wk_top 1 (by decide) ?_
  refine va_sld hx hb hX hbl hbA hw.2.2 (show ¬ ((1 : Int32) < 0 ∨ 6 ≤ (1 : Int32).toNatClampNeg) by decide) dL_law_326 ?_
  refine wk_top s1 hs1 ?_
  refine lv_aload_n hx hb dL_law_327 rfl (lv_at hl 3 rfl) ?_
  refine lv_iload_n hx hb dL_law_328 rfl (lv_at hl 0 rfl) ?_
  refine lv_iconst (v := 2) hx hb dL_law_329 (by decide) ?_
  refine lv_iadd hx hb dL_law_330 ?_
  refine wk_top 2 (by decide) ?_
  refine va_sld hx hb hX hbl hbA hw.2.2 (show ¬ ((2 : Int32) < 0 ∨ 6 ≤ (2 : Int32).toNatClampNeg) by decide) dL_law_331 ?_
  refine wk_top s2 hs2 ?_
  refine lv_aload_n hx hb dL_law_332 rfl (lv_at hl 3 rfl) ?_
  refine lv_iload_n hx hb dL_law_333 rfl (lv_at hl 0 rfl) ?_
  refine lv_iconst (v := 3) hx hb dL_law_334 (by decide) ?_
  refine lv_iadd hx hb dL_law_335 ?_
  refine wk_top 3 (by decide) ?_
  refine va_sld hx hb hX hbl hbA hw.2.2 (show ¬ ((3 : Int32) < 0 ∨ 6 ≤ (3 : Int32).toNatClampNeg) by decide) dL_law_336 ?_
  refine wk_top s3 hs3 ?_
  refine wk_Vi hC hK hw hA [0, 1, 2] [3, 4] rfl rfl rfl rfl (by decide) (t_X11_open l dC dI cy qx ux s1 s2 s3 H.size ) (cwV 3 hC.2.2.2.2 gL_law_X11_open rfl rfl rfl (by decide +kernel) ⟨Nat.le_of_ble_eq_true rfl, Nat.le_of_ble_eq_true rfl⟩) rfl 0 rfl rfl hl.1 rfl (Nat.le_of_ble_eq_true rfl) dL_law_337 184 18569 ⟨rfl, rfl⟩ ⟨Nat.le_of_ble_eq_true rfl, Nat.le_of_ble_eq_true rfl⟩ (fun r2 u1 H locs hp3 hw => ?_)
  have hw : Wd dC dI A s.heap H locs [(qm, .inr (12, (.ref (um 0) :: .int 0 :: .int 0 :: .ref (um 1) :: .ref (um 2) :: .ref (um 3) :: .ref (um 4) :: .int 0 :: .int 0 :: .int 0 :: .int 0 :: .ref (um 5) :: .ref (um 6) :: .ref (um 7) :: .int 0 :: .int 0 :: .int 0 :: .int 0 :: .int 0 :: .int 0 :: .int 0 :: .ref (um 8) :: .int 0 :: .ref (um 9) :: .int 0 :: .ref (um 10) :: .ref (um 11) :: .int 1 :: .ref (um 12) :: .ref (um 13) :: .int 0 :: .int 0 :: .ref (um 14) :: .ref (um 15) :: .ref (um 16) :: .ref (um 17) :: .ref (um 18) :: .int 0 :: .ref (um 19) :: .long 0 :: .ref (um 20) :: .ref (um 21) :: ([] : List Value)))), ((um 11), .inl (cy 0, 296, .inl (fun _ => 0))), (qx, .inr (11, [.ref (ux 0), .ref (ux 1), .ref (ux 2), .ref (ux 3), .ref (ux 4), .ref (ux 5), .ref (ux 6), .ref (ux 7), .ref (ux 8), .ref (ux 9), .ref (ux 10), .ref (ux 11), .int 0])), ((ux 4), .inr (5, [.ref (ux 27), .ref (ux 28), .ref (ux 29), .ref (ux 30), .ref (ux 31), .ref (ux 32), .ref (ux 33), .ref (ux 34), .int 0, .int 0, .int 0, .int 0, .int 0, .int 0])), ((ux 27), .inr (7, [.ref (ux 68), .ref (ux 69), .ref (ux 70), .ref (ux 71), .ref (ux 72), .ref (ux 73), .ref (ux 74), .ref (ux 75), .int 0, .int 0, .int 0, .int 0]))] := hw
  obtain rfl : r2 = (-1) := hp3
  refine lv_aload_n hx hb dL_law_340 rfl (lv_at hl 1 rfl) ?_
  refine lv_aload_n hx hb dL_law_341 rfl (lv_at hl 3 rfl) ?_
  refine lv_iload_n hx hb dL_law_342 rfl (lv_at hl 0 rfl) ?_
  refine lv_iconst (v := 1) hx hb dL_law_343 (by decide) ?_
  refine lv_iadd hx hb dL_law_344 ?_
  refine wk_top 1 (by decide) ?_
  refine va_sld hx hb hX hbl hbA hw.2.2 (show ¬ ((1 : Int32) < 0 ∨ 6 ≤ (1 : Int32).toNatClampNeg) by decide) dL_law_345 ?_
  refine wk_top s1 hs1 ?_
  refine lv_aload_n hx hb dL_law_346 rfl (lv_at hl 3 rfl) ?_
  refine lv_iload_n hx hb dL_law_347 rfl (lv_at hl 0 rfl) ?_
  refine lv_iconst (v := 2) hx hb dL_law_348 (by decide) ?_
  refine lv_iadd hx hb dL_law_349 ?_
  refine wk_top 2 (by decide) ?_
  refine va_sld hx hb hX hbl hbA hw.2.2 (show ¬ ((2 : Int32) < 0 ∨ 6 ≤ (2 : Int32).toNatClampNeg) by decide) dL_law_350 ?_
  refine wk_top s2 hs2 ?_
  refine lv_aload_n hx hb dL_law_351 rfl (lv_at hl 3 rfl) ?_
  refine lv_iload_n hx hb dL_law_352 rfl (lv_at hl 0 rfl) ?_
  refine lv_iconst (v := 3) hx hb dL_law_353 (by decide) ?_
  refine lv_iadd hx hb dL_law_354 ?_
  refine wk_top 3 (by decide) ?_
  refine va_sld hx hb hX hbl hbA hw.2.2 (show ¬ ((3 : Int32) < 0 ∨ 6 ≤ (3 : Int32).toNatClampNeg) by decide) dL_law_355 ?_
  refine wk_top s3 hs3 ?_
  refine wk_Vi hC hK hw hA [0, 1] [2, 3, 4] rfl rfl rfl rfl (by decide) (t_X12_open l dC dI cy qm um s1 s2 s3 H.size ) (cwV 3 hC.2.2.2.2 gL_law_X12_open rfl rfl rfl (by decide +kernel) ⟨Nat.le_of_ble_eq_true rfl, Nat.le_of_ble_eq_true rfl⟩) rfl 0 rfl rfl hl.1 rfl (Nat.le_of_ble_eq_true rfl) dL_law_356 184 18569 ⟨rfl, rfl⟩ ⟨Nat.le_of_ble_eq_true rfl, Nat.le_of_ble_eq_true rfl⟩ (fun r5 u4 H locs hp6 hw => ?_)
  have hw : Wd dC dI A s.heap H locs [(qx, .inr (11, [.ref (ux 0), .ref (ux 1), .ref (ux 2), .ref (ux 3), .ref (ux 4), .ref (ux 5), .ref (ux 6), .ref (ux 7), .ref (ux 8), .ref (ux 9), .ref (ux 10), .ref (ux 11), .int 0])), ((ux 4), .inr (5, [.ref (ux 27), .ref (ux 28), .ref (ux 29), .ref (ux 30), .ref (ux 31), .ref (ux 32), .ref (ux 33), .ref (ux 34), .int 0, .int 0, .int 0, .int 0, .int 0, .int 0])), ((ux 27), .inr (7, [.ref (ux 68), .ref (ux 69), .ref (ux 70), .ref (ux 71), .ref (ux 72), .ref (ux 73), .ref (ux 74), .ref (ux 75), .int 0, .int 0, .int 0, .int 0])), (qm, .inr (12, (.ref (um 0) :: .int 0 :: .int 0 :: .ref (um 1) :: .ref (um 2) :: .ref (um 3) :: .ref (um 4) :: .int 0 :: .int 0 :: .int 0 :: .int 0 :: .ref (um 5) :: .ref (um 6) :: .ref (um 7) :: .int 0 :: .int 0 :: .int 0 :: .int 0 :: .int 0 :: .int 0 :: .int 0 :: .ref (um 8) :: .int 0 :: .ref (um 9) :: .int 0 :: .ref (um 10) :: .ref (um 11) :: .int 1 :: .ref (um 12) :: .ref (um 13) :: .int 0 :: .int 0 :: .ref (um 14) :: .ref (um 15) :: .ref (um 16) :: .ref (um 17) :: .ref (um 18) :: .int 0 :: .ref (um 19) :: .long 0 :: .ref (um 20) :: .ref (um 21) :: ([] : List Value)))), ((um 11), .inl (cy 0, 296, .inl (fun _ => 0)))] := hw
  obtain rfl : r5 = (-1) := hp6
  refine lv_icmp_eq (tgt := 1252) hx hb dL_law_359 (by decide) (fun _ => ?_) (fun c => absurd (by decide) c)
  exact law_end hx hb hC hr hlocks hX hbl hbA hAe hw hl (Nat.le_of_ble_eq_true rfl) (Nat.le_of_ble_eq_true rfl)
set_option maxHeartbeats 4000000 in
set_option maxRecDepth 100000 in
theorem lc_print {p : Program} {e : Env} {s : State} {m : MethodId} {below : List Frame} {meth : Method} {c : Code} {l : Launch} {b : Nat} {xs : Nat → Int32} {adK adV : Nat → Nat} {dC : Nat → ClassId} {dI : Nat → Nat → Nat} {cy : Nat → ClassId} {A : Nat → Prop} (hC : CallFix p m c code 4 s #[Value.ref b] wsR RL) (hr : meth.sig.returnType = ret) (hlocks : meth.locks = false) (hK : KK dC dI cy s) (hE : SE adK adV A s s.heap) (hSR : SR adK s) (hAe : A = fun q : Nat => s.heap.size ≤ q) (hA : ∀ q : Nat, s.heap.size ≤ q → A q) (hbA : ¬ A b) (hX : va_X b 6 xs s s.heap) (hbl : b < s.heap.size) {qx qm : Nat} {ux um : Nat → Nat} {s1 : Int32} (hs1 : xs 1 = s1) {H : Heap} {locs : List Loc} {ls : Array Slot} (hw : Wd dC dI A s.heap H locs [(qx, .inr (11, [.ref (ux 0), .ref (ux 1), .ref (ux 2), .ref (ux 3), .ref (ux 4), .ref (ux 5), .ref (ux 6), .ref (ux 7), .ref (ux 8), .ref (ux 9), .ref (ux 10), .ref (ux 11), .int 0])), ((ux 4), .inr (5, [.ref (ux 27), .ref (ux 28), .ref (ux 29), .ref (ux 30), .ref (ux 31), .ref (ux 32), .ref (ux 33), .ref (ux 34), .int 0, .int 0, .int 0, .int 0, .int 0, .int 0])), ((ux 27), .inr (7, [.ref (ux 68), .ref (ux 69), .ref (ux 70), .ref (ux 71), .ref (ux 72), .ref (ux 73), .ref (ux 74), .ref (ux 75), .int 0, .int 0, .int 0, .int 0])), (qm, .inr (12, (.ref (um 0) :: .int 0 :: .int 0 :: .ref (um 1) :: .ref (um 2) :: .ref (um 3) :: .ref (um 4) :: .int 0 :: .int 0 :: .int 0 :: .int 0 :: .ref (um 5) :: .ref (um 6) :: .ref (um 7) :: .int 0 :: .int 0 :: .int 0 :: .int 0 :: .int 0 :: .int 0 :: .int 0 :: .ref (um 8) :: .int 0 :: .ref (um 9) :: .int 0 :: .ref (um 10) :: .ref (um 11) :: .int 1 :: .ref (um 12) :: .ref (um 13) :: .int 0 :: .int 0 :: .ref (um 14) :: .ref (um 15) :: .ref (um 16) :: .ref (um 17) :: .ref (um 18) :: .int 0 :: .ref (um 19) :: .long 0 :: .ref (um 20) :: .ref (um 21) :: ([] : List Value)))), ((um 11), .inl (cy 0, 296, .inl (fun _ => 0)))]) (hl : lv_has ls 4 [(3, .int 0), (2, .ref qm), (1, .ref qx), (0, .ref b)]) : W p l e room_1 s m #[Value.ref b] below meth c H locs 184 18569 (lw_Z below #[Value.ref b] s) (F0 m 364 ls []) := by
  have hx := hC.1
  have hb := hC.2.1
  refine lv_aload_n hx hb dL_law_364 rfl (lv_at hl 2 rfl) ?_
  refine lv_aload_n hx hb dL_law_365 rfl (lv_at hl 3 rfl) ?_
  refine lv_iload_n hx hb dL_law_366 rfl (lv_at hl 0 rfl) ?_
  refine lv_iconst (v := 1) hx hb dL_law_367 (by decide) ?_
  refine lv_iadd hx hb dL_law_368 ?_
  refine wk_top 1 (by decide) ?_
  refine va_sld hx hb hX hbl hbA hw.2.2 (show ¬ ((1 : Int32) < 0 ∨ 6 ≤ (1 : Int32).toNatClampNeg) by decide) dL_law_369 ?_
  refine wk_top s1 hs1 ?_
  refine wk_Vi hC hK hw hA [0, 1, 2] [3, 4] rfl rfl rfl rfl (by decide) (t_X11_print l dC dI cy qx ux s1 H.size ) (cwV 1 hC.2.2.2.2 gL_law_X11_print rfl rfl rfl (by decide +kernel) ⟨Nat.le_of_ble_eq_true rfl, Nat.le_of_ble_eq_true rfl⟩) rfl 0 rfl rfl hl.1 rfl (Nat.le_of_ble_eq_true rfl) dL_law_370 184 18569 ⟨rfl, rfl⟩ ⟨Nat.le_of_ble_eq_true rfl, Nat.le_of_ble_eq_true rfl⟩ (fun r2 u1 H locs hp3 hw => ?_)
  have hw : Wd dC dI A s.heap H locs [(qm, .inr (12, (.ref (um 0) :: .int 0 :: .int 0 :: .ref (um 1) :: .ref (um 2) :: .ref (um 3) :: .ref (um 4) :: .int 0 :: .int 0 :: .int 0 :: .int 0 :: .ref (um 5) :: .ref (um 6) :: .ref (um 7) :: .int 0 :: .int 0 :: .int 0 :: .int 0 :: .int 0 :: .int 0 :: .int 0 :: .ref (um 8) :: .int 0 :: .ref (um 9) :: .int 0 :: .ref (um 10) :: .ref (um 11) :: .int 1 :: .ref (um 12) :: .ref (um 13) :: .int 0 :: .int 0 :: .ref (um 14) :: .ref (um 15) :: .ref (um 16) :: .ref (um 17) :: .ref (um 18) :: .int 0 :: .ref (um 19) :: .long 0 :: .ref (um 20) :: .ref (um 21) :: ([] : List Value)))), ((um 11), .inl (cy 0, 296, .inl (fun _ => 0))), (qx, .inr (11, [.ref (ux 0), .ref (ux 1), .ref (ux 2), .ref (ux 3), .ref (ux 4), .ref (ux 5), .ref (ux 6), .ref (ux 7), .ref (ux 8), .ref (ux 9), .ref (ux 10), .ref (ux 11), .int 0])), ((ux 4), .inr (5, [.ref (ux 27), .ref (ux 28), .ref (ux 29), .ref (ux 30), .ref (ux 31), .ref (ux 32), .ref (ux 33), .ref (ux 34), .int 0, .int 0, .int 0, .int 0, .int 0, .int 0])), ((ux 27), .inr (7, [.ref (ux 68), .ref (ux 69), .ref (ux 70), .ref (ux 71), .ref (ux 72), .ref (ux 73), .ref (ux 74), .ref (ux 75), .int 0, .int 0, .int 0, .int 0]))] := hw
  obtain rfl : r2 = (-2) := hp3
  refine lv_aload_n hx hb dL_law_373 rfl (lv_at hl 1 rfl) ?_
  refine lv_aload_n hx hb dL_law_374 rfl (lv_at hl 3 rfl) ?_
  refine lv_iload_n hx hb dL_law_375 rfl (lv_at hl 0 rfl) ?_
  refine lv_iconst (v := 1) hx hb dL_law_376 (by decide) ?_
  refine lv_iadd hx hb dL_law_377 ?_
  refine wk_top 1 (by decide) ?_
  refine va_sld hx hb hX hbl hbA hw.2.2 (show ¬ ((1 : Int32) < 0 ∨ 6 ≤ (1 : Int32).toNatClampNeg) by decide) dL_law_378 ?_
  refine wk_top s1 hs1 ?_
  refine wk_Vi hC hK hw hA [0, 1] [2, 3, 4] rfl rfl rfl rfl (by decide) (t_X12_print l dC dI cy qm um s1 H.size ) (cwV 1 hC.2.2.2.2 gL_law_X12_print rfl rfl rfl (by decide +kernel) ⟨Nat.le_of_ble_eq_true rfl, Nat.le_of_ble_eq_true rfl⟩) rfl 0 rfl rfl hl.1 rfl (Nat.le_of_ble_eq_true rfl) dL_law_379 184 18569 ⟨rfl, rfl⟩ ⟨Nat.le_of_ble_eq_true rfl, Nat.le_of_ble_eq_true rfl⟩ (fun r5 u4 H locs hp6 hw => ?_)
  have hw : Wd dC dI A s.heap H locs [(qx, .inr (11, [.ref (ux 0), .ref (ux 1), .ref (ux 2), .ref (ux 3), .ref (ux 4), .ref (ux 5), .ref (ux 6), .ref (ux 7), .ref (ux 8), .ref (ux 9), .ref (ux 10), .ref (ux 11), .int 0])), ((ux 4), .inr (5, [.ref (ux 27), .ref (ux 28), .ref (ux 29), .ref (ux 30), .ref (ux 31), .ref (ux 32), .ref (ux 33), .ref (ux 34), .int 0, .int 0, .int 0, .int 0, .int 0, .int 0])), ((ux 27), .inr (7, [.ref (ux 68), .ref (ux 69), .ref (ux 70), .ref (ux 71), .ref (ux 72), .ref (ux 73), .ref (ux 74), .ref (ux 75), .int 0, .int 0, .int 0, .int 0])), (qm, .inr (12, (.ref (um 0) :: .int 0 :: .int 0 :: .ref (um 1) :: .ref (um 2) :: .ref (um 3) :: .ref (um 4) :: .int 0 :: .int 0 :: .int 0 :: .int 0 :: .ref (um 5) :: .ref (um 6) :: .ref (um 7) :: .int 0 :: .int 0 :: .int 0 :: .int 0 :: .int 0 :: .int 0 :: .int 0 :: .ref (um 8) :: .int 0 :: .ref (um 9) :: .int 0 :: .ref (um 10) :: .ref (um 11) :: .int 1 :: .ref (um 12) :: .ref (um 13) :: .int 0 :: .int 0 :: .ref (um 14) :: .ref (um 15) :: .ref (um 16) :: .ref (um 17) :: .ref (um 18) :: .int 0 :: .ref (um 19) :: .long 0 :: .ref (um 20) :: .ref (um 21) :: ([] : List Value)))), ((um 11), .inl (cy 0, 296, .inl (fun _ => 0)))] := hw
  obtain rfl : r5 = (-2) := hp6
  refine lv_icmp_eq (tgt := 1252) hx hb dL_law_382 (by decide) (fun _ => ?_) (fun c => absurd (by decide) c)
  exact law_end hx hb hC hr hlocks hX hbl hbA hAe hw hl (Nat.le_of_ble_eq_true rfl) (Nat.le_of_ble_eq_true rfl)
set_option maxHeartbeats 4000000 in
set_option maxRecDepth 100000 in
theorem lc_misprint {p : Program} {e : Env} {s : State} {m : MethodId} {below : List Frame} {meth : Method} {c : Code} {l : Launch} {b : Nat} {xs : Nat → Int32} {adK adV : Nat → Nat} {dC : Nat → ClassId} {dI : Nat → Nat → Nat} {cy : Nat → ClassId} {A : Nat → Prop} (hC : CallFix p m c code 4 s #[Value.ref b] wsR RL) (hr : meth.sig.returnType = ret) (hlocks : meth.locks = false) (hK : KK dC dI cy s) (hE : SE adK adV A s s.heap) (hSR : SR adK s) (hAe : A = fun q : Nat => s.heap.size ≤ q) (hA : ∀ q : Nat, s.heap.size ≤ q → A q) (hbA : ¬ A b) (hX : va_X b 6 xs s s.heap) (hbl : b < s.heap.size) {qx qm : Nat} {ux um : Nat → Nat} {s1 : Int32} (hs1 : xs 1 = s1) {s2 : Int32} (hs2 : xs 2 = s2) {s3 : Int32} (hs3 : xs 3 = s3) {H : Heap} {locs : List Loc} {ls : Array Slot} (hw : Wd dC dI A s.heap H locs [(qx, .inr (11, [.ref (ux 0), .ref (ux 1), .ref (ux 2), .ref (ux 3), .ref (ux 4), .ref (ux 5), .ref (ux 6), .ref (ux 7), .ref (ux 8), .ref (ux 9), .ref (ux 10), .ref (ux 11), .int 0])), ((ux 4), .inr (5, [.ref (ux 27), .ref (ux 28), .ref (ux 29), .ref (ux 30), .ref (ux 31), .ref (ux 32), .ref (ux 33), .ref (ux 34), .int 0, .int 0, .int 0, .int 0, .int 0, .int 0])), (qm, .inr (12, (.ref (um 0) :: .int 0 :: .int 0 :: .ref (um 1) :: .ref (um 2) :: .ref (um 3) :: .ref (um 4) :: .int 0 :: .int 0 :: .int 0 :: .int 0 :: .ref (um 5) :: .ref (um 6) :: .ref (um 7) :: .int 0 :: .int 0 :: .int 0 :: .int 0 :: .int 0 :: .int 0 :: .int 0 :: .ref (um 8) :: .int 0 :: .ref (um 9) :: .int 0 :: .ref (um 10) :: .ref (um 11) :: .int 1 :: .ref (um 12) :: .ref (um 13) :: .int 0 :: .int 0 :: .ref (um 14) :: .ref (um 15) :: .ref (um 16) :: .ref (um 17) :: .ref (um 18) :: .int 0 :: .ref (um 19) :: .long 0 :: .ref (um 20) :: .ref (um 21) :: ([] : List Value)))), ((um 11), .inl (cy 0, 296, .inl (fun _ => 0)))]) (hl : lv_has ls 4 [(3, .int 0), (2, .ref qm), (1, .ref qx), (0, .ref b)]) : W p l e room_1 s m #[Value.ref b] below meth c H locs 184 18569 (lw_Z below #[Value.ref b] s) (F0 m 387 ls []) := by
  have hx := hC.1
  have hb := hC.2.1
  refine lv_aload_n hx hb dL_law_387 rfl (lv_at hl 2 rfl) ?_
  refine lv_aload_n hx hb dL_law_388 rfl (lv_at hl 3 rfl) ?_
  refine lv_iload_n hx hb dL_law_389 rfl (lv_at hl 0 rfl) ?_
  refine lv_iconst (v := 1) hx hb dL_law_390 (by decide) ?_
  refine lv_iadd hx hb dL_law_391 ?_
  refine wk_top 1 (by decide) ?_
  refine va_sld hx hb hX hbl hbA hw.2.2 (show ¬ ((1 : Int32) < 0 ∨ 6 ≤ (1 : Int32).toNatClampNeg) by decide) dL_law_392 ?_
  refine wk_top s1 hs1 ?_
  refine lv_aload_n hx hb dL_law_393 rfl (lv_at hl 3 rfl) ?_
  refine lv_iload_n hx hb dL_law_394 rfl (lv_at hl 0 rfl) ?_
  refine lv_iconst (v := 2) hx hb dL_law_395 (by decide) ?_
  refine lv_iadd hx hb dL_law_396 ?_
  refine wk_top 2 (by decide) ?_
  refine va_sld hx hb hX hbl hbA hw.2.2 (show ¬ ((2 : Int32) < 0 ∨ 6 ≤ (2 : Int32).toNatClampNeg) by decide) dL_law_397 ?_
  refine wk_top s2 hs2 ?_
  refine lv_aload_n hx hb dL_law_398 rfl (lv_at hl 3 rfl) ?_
  refine lv_iload_n hx hb dL_law_399 rfl (lv_at hl 0 rfl) ?_
  refine lv_iconst (v := 3) hx hb dL_law_400 (by decide) ?_
  refine lv_iadd hx hb dL_law_401 ?_
  refine wk_top 3 (by decide) ?_
  refine va_sld hx hb hX hbl hbA hw.2.2 (show ¬ ((3 : Int32) < 0 ∨ 6 ≤ (3 : Int32).toNatClampNeg) by decide) dL_law_402 ?_
  refine wk_top s3 hs3 ?_
  refine wk_Vi hC hK hw hA [0, 1] [2, 3] rfl rfl rfl rfl (by decide) (t_X11_misprint l dC dI cy qx ux s1 s2 s3 H.size ) (cwV 3 hC.2.2.2.2 gL_law_X11_misprint rfl rfl rfl (by decide +kernel) ⟨Nat.le_of_ble_eq_true rfl, Nat.le_of_ble_eq_true rfl⟩) rfl 0 rfl rfl hl.1 rfl (Nat.le_of_ble_eq_true rfl) dL_law_403 184 18569 ⟨rfl, rfl⟩ ⟨Nat.le_of_ble_eq_true rfl, Nat.le_of_ble_eq_true rfl⟩ (fun r2 u1 H locs hp3 hw => ?_)
  have hw : Wd dC dI A s.heap H locs [(qm, .inr (12, (.ref (um 0) :: .int 0 :: .int 0 :: .ref (um 1) :: .ref (um 2) :: .ref (um 3) :: .ref (um 4) :: .int 0 :: .int 0 :: .int 0 :: .int 0 :: .ref (um 5) :: .ref (um 6) :: .ref (um 7) :: .int 0 :: .int 0 :: .int 0 :: .int 0 :: .int 0 :: .int 0 :: .int 0 :: .ref (um 8) :: .int 0 :: .ref (um 9) :: .int 0 :: .ref (um 10) :: .ref (um 11) :: .int 1 :: .ref (um 12) :: .ref (um 13) :: .int 0 :: .int 0 :: .ref (um 14) :: .ref (um 15) :: .ref (um 16) :: .ref (um 17) :: .ref (um 18) :: .int 0 :: .ref (um 19) :: .long 0 :: .ref (um 20) :: .ref (um 21) :: ([] : List Value)))), ((um 11), .inl (cy 0, 296, .inl (fun _ => 0))), (qx, .inr (11, [.ref (ux 0), .ref (ux 1), .ref (ux 2), .ref (ux 3), .ref (ux 4), .ref (ux 5), .ref (ux 6), .ref (ux 7), .ref (ux 8), .ref (ux 9), .ref (ux 10), .ref (ux 11), .int 0])), ((ux 4), .inr (5, [.ref (ux 27), .ref (ux 28), .ref (ux 29), .ref (ux 30), .ref (ux 31), .ref (ux 32), .ref (ux 33), .ref (ux 34), .int 0, .int 0, .int 0, .int 0, .int 0, .int 0]))] := hw
  obtain rfl : r2 = (-1) := hp3
  refine lv_aload_n hx hb dL_law_406 rfl (lv_at hl 1 rfl) ?_
  refine lv_aload_n hx hb dL_law_407 rfl (lv_at hl 3 rfl) ?_
  refine lv_iload_n hx hb dL_law_408 rfl (lv_at hl 0 rfl) ?_
  refine lv_iconst (v := 1) hx hb dL_law_409 (by decide) ?_
  refine lv_iadd hx hb dL_law_410 ?_
  refine wk_top 1 (by decide) ?_
  refine va_sld hx hb hX hbl hbA hw.2.2 (show ¬ ((1 : Int32) < 0 ∨ 6 ≤ (1 : Int32).toNatClampNeg) by decide) dL_law_411 ?_
  refine wk_top s1 hs1 ?_
  refine lv_aload_n hx hb dL_law_412 rfl (lv_at hl 3 rfl) ?_
  refine lv_iload_n hx hb dL_law_413 rfl (lv_at hl 0 rfl) ?_
  refine lv_iconst (v := 2) hx hb dL_law_414 (by decide) ?_
  refine lv_iadd hx hb dL_law_415 ?_
  refine wk_top 2 (by decide) ?_
  refine va_sld hx hb hX hbl hbA hw.2.2 (show ¬ ((2 : Int32) < 0 ∨ 6 ≤ (2 : Int32).toNatClampNeg) by decide) dL_law_416 ?_
  refine wk_top s2 hs2 ?_
  refine lv_aload_n hx hb dL_law_417 rfl (lv_at hl 3 rfl) ?_
  refine lv_iload_n hx hb dL_law_418 rfl (lv_at hl 0 rfl) ?_
  refine lv_iconst (v := 3) hx hb dL_law_419 (by decide) ?_
  refine lv_iadd hx hb dL_law_420 ?_
  refine wk_top 3 (by decide) ?_
  refine va_sld hx hb hX hbl hbA hw.2.2 (show ¬ ((3 : Int32) < 0 ∨ 6 ≤ (3 : Int32).toNatClampNeg) by decide) dL_law_421 ?_
  refine wk_top s3 hs3 ?_
  refine wk_Vi hC hK hw hA [0, 1] [2, 3] rfl rfl rfl rfl (by decide) (t_X12_misprint l dC dI cy qm um s1 s2 s3 H.size ) (cwV 3 hC.2.2.2.2 gL_law_X12_misprint rfl rfl rfl (by decide +kernel) ⟨Nat.le_of_ble_eq_true rfl, Nat.le_of_ble_eq_true rfl⟩) rfl 0 rfl rfl hl.1 rfl (Nat.le_of_ble_eq_true rfl) dL_law_422 184 18569 ⟨rfl, rfl⟩ ⟨Nat.le_of_ble_eq_true rfl, Nat.le_of_ble_eq_true rfl⟩ (fun r5 u4 H locs hp6 hw => ?_)
  have hw : Wd dC dI A s.heap H locs [(qx, .inr (11, [.ref (ux 0), .ref (ux 1), .ref (ux 2), .ref (ux 3), .ref (ux 4), .ref (ux 5), .ref (ux 6), .ref (ux 7), .ref (ux 8), .ref (ux 9), .ref (ux 10), .ref (ux 11), .int 0])), ((ux 4), .inr (5, [.ref (ux 27), .ref (ux 28), .ref (ux 29), .ref (ux 30), .ref (ux 31), .ref (ux 32), .ref (ux 33), .ref (ux 34), .int 0, .int 0, .int 0, .int 0, .int 0, .int 0])), (qm, .inr (12, (.ref (um 0) :: .int 0 :: .int 0 :: .ref (um 1) :: .ref (um 2) :: .ref (um 3) :: .ref (um 4) :: .int 0 :: .int 0 :: .int 0 :: .int 0 :: .ref (um 5) :: .ref (um 6) :: .ref (um 7) :: .int 0 :: .int 0 :: .int 0 :: .int 0 :: .int 0 :: .int 0 :: .int 0 :: .ref (um 8) :: .int 0 :: .ref (um 9) :: .int 0 :: .ref (um 10) :: .ref (um 11) :: .int 1 :: .ref (um 12) :: .ref (um 13) :: .int 0 :: .int 0 :: .ref (um 14) :: .ref (um 15) :: .ref (um 16) :: .ref (um 17) :: .ref (um 18) :: .int 0 :: .ref (um 19) :: .long 0 :: .ref (um 20) :: .ref (um 21) :: ([] : List Value)))), ((um 11), .inl (cy 0, 296, .inl (fun _ => 0)))] := hw
  obtain rfl : r5 = (-1) := hp6
  refine lv_icmp_eq (tgt := 1252) hx hb dL_law_425 (by decide) (fun _ => ?_) (fun c => absurd (by decide) c)
  exact law_end hx hb hC hr hlocks hX hbl hbA hAe hw hl (Nat.le_of_ble_eq_true rfl) (Nat.le_of_ble_eq_true rfl)
set_option maxHeartbeats 4000000 in
set_option maxRecDepth 100000 in
theorem lc_shown {p : Program} {e : Env} {s : State} {m : MethodId} {below : List Frame} {meth : Method} {c : Code} {l : Launch} {b : Nat} {xs : Nat → Int32} {adK adV : Nat → Nat} {dC : Nat → ClassId} {dI : Nat → Nat → Nat} {cy : Nat → ClassId} {A : Nat → Prop} (hC : CallFix p m c code 4 s #[Value.ref b] wsR RL) (hr : meth.sig.returnType = ret) (hlocks : meth.locks = false) (hK : KK dC dI cy s) (hE : SE adK adV A s s.heap) (hSR : SR adK s) (hAe : A = fun q : Nat => s.heap.size ≤ q) (hA : ∀ q : Nat, s.heap.size ≤ q → A q) (hbA : ¬ A b) (hX : va_X b 6 xs s s.heap) (hbl : b < s.heap.size) {qx qm : Nat} {ux um : Nat → Nat} {s1 : Int32} (hs1 : xs 1 = s1) {s2 : Int32} (hs2 : xs 2 = s2) {H : Heap} {locs : List Loc} {ls : Array Slot} (hw : Wd dC dI A s.heap H locs [(qx, .inr (11, [.ref (ux 0), .ref (ux 1), .ref (ux 2), .ref (ux 3), .ref (ux 4), .ref (ux 5), .ref (ux 6), .ref (ux 7), .ref (ux 8), .ref (ux 9), .ref (ux 10), .ref (ux 11), .int 0])), ((ux 4), .inr (5, [.ref (ux 27), .ref (ux 28), .ref (ux 29), .ref (ux 30), .ref (ux 31), .ref (ux 32), .ref (ux 33), .ref (ux 34), .int 0, .int 0, .int 0, .int 0, .int 0, .int 0])), (qm, .inr (12, (.ref (um 0) :: .int 0 :: .int 0 :: .ref (um 1) :: .ref (um 2) :: .ref (um 3) :: .ref (um 4) :: .int 0 :: .int 0 :: .int 0 :: .int 0 :: .ref (um 5) :: .ref (um 6) :: .ref (um 7) :: .int 0 :: .int 0 :: .int 0 :: .int 0 :: .int 0 :: .int 0 :: .int 0 :: .ref (um 8) :: .int 0 :: .ref (um 9) :: .int 0 :: .ref (um 10) :: .ref (um 11) :: .int 1 :: .ref (um 12) :: .ref (um 13) :: .int 0 :: .int 0 :: .ref (um 14) :: .ref (um 15) :: .ref (um 16) :: .ref (um 17) :: .ref (um 18) :: .int 0 :: .ref (um 19) :: .long 0 :: .ref (um 20) :: .ref (um 21) :: ([] : List Value)))), ((um 11), .inl (cy 0, 296, .inl (fun _ => 0)))]) (hl : lv_has ls 4 [(3, .int 0), (2, .ref qm), (1, .ref qx), (0, .ref b)]) : W p l e room_1 s m #[Value.ref b] below meth c H locs 184 18569 (lw_Z below #[Value.ref b] s) (F0 m 430 ls []) := by
  have hx := hC.1
  have hb := hC.2.1
  refine lv_aload_n hx hb dL_law_430 rfl (lv_at hl 2 rfl) ?_
  refine lv_aload_n hx hb dL_law_431 rfl (lv_at hl 3 rfl) ?_
  refine lv_iload_n hx hb dL_law_432 rfl (lv_at hl 0 rfl) ?_
  refine lv_iconst (v := 1) hx hb dL_law_433 (by decide) ?_
  refine lv_iadd hx hb dL_law_434 ?_
  refine wk_top 1 (by decide) ?_
  refine va_sld hx hb hX hbl hbA hw.2.2 (show ¬ ((1 : Int32) < 0 ∨ 6 ≤ (1 : Int32).toNatClampNeg) by decide) dL_law_435 ?_
  refine wk_top s1 hs1 ?_
  refine lv_aload_n hx hb dL_law_436 rfl (lv_at hl 3 rfl) ?_
  refine lv_iload_n hx hb dL_law_437 rfl (lv_at hl 0 rfl) ?_
  refine lv_iconst (v := 2) hx hb dL_law_438 (by decide) ?_
  refine lv_iadd hx hb dL_law_439 ?_
  refine wk_top 2 (by decide) ?_
  refine va_sld hx hb hX hbl hbA hw.2.2 (show ¬ ((2 : Int32) < 0 ∨ 6 ≤ (2 : Int32).toNatClampNeg) by decide) dL_law_440 ?_
  refine wk_top s2 hs2 ?_
  refine wk_Vi hC hK hw hA [0, 1] [2, 3] rfl rfl rfl rfl (by decide) (t_X11_shown l dC dI cy qx ux s1 s2 H.size ) (cwV 2 hC.2.2.2.2 gL_law_X11_shown rfl rfl rfl (by decide +kernel) ⟨Nat.le_of_ble_eq_true rfl, Nat.le_of_ble_eq_true rfl⟩) rfl 0 rfl rfl hl.1 rfl (Nat.le_of_ble_eq_true rfl) dL_law_441 184 18569 ⟨rfl, rfl⟩ ⟨Nat.le_of_ble_eq_true rfl, Nat.le_of_ble_eq_true rfl⟩ (fun r2 u1 H locs hp3 hw => ?_)
  have hw : Wd dC dI A s.heap H locs [(qm, .inr (12, (.ref (um 0) :: .int 0 :: .int 0 :: .ref (um 1) :: .ref (um 2) :: .ref (um 3) :: .ref (um 4) :: .int 0 :: .int 0 :: .int 0 :: .int 0 :: .ref (um 5) :: .ref (um 6) :: .ref (um 7) :: .int 0 :: .int 0 :: .int 0 :: .int 0 :: .int 0 :: .int 0 :: .int 0 :: .ref (um 8) :: .int 0 :: .ref (um 9) :: .int 0 :: .ref (um 10) :: .ref (um 11) :: .int 1 :: .ref (um 12) :: .ref (um 13) :: .int 0 :: .int 0 :: .ref (um 14) :: .ref (um 15) :: .ref (um 16) :: .ref (um 17) :: .ref (um 18) :: .int 0 :: .ref (um 19) :: .long 0 :: .ref (um 20) :: .ref (um 21) :: ([] : List Value)))), ((um 11), .inl (cy 0, 296, .inl (fun _ => 0))), (qx, .inr (11, [.ref (ux 0), .ref (ux 1), .ref (ux 2), .ref (ux 3), .ref (ux 4), .ref (ux 5), .ref (ux 6), .ref (ux 7), .ref (ux 8), .ref (ux 9), .ref (ux 10), .ref (ux 11), .int 0])), ((ux 4), .inr (5, [.ref (ux 27), .ref (ux 28), .ref (ux 29), .ref (ux 30), .ref (ux 31), .ref (ux 32), .ref (ux 33), .ref (ux 34), .int 0, .int 0, .int 0, .int 0, .int 0, .int 0]))] := hw
  obtain rfl : r2 = (-1) := hp3
  refine lv_aload_n hx hb dL_law_444 rfl (lv_at hl 1 rfl) ?_
  refine lv_aload_n hx hb dL_law_445 rfl (lv_at hl 3 rfl) ?_
  refine lv_iload_n hx hb dL_law_446 rfl (lv_at hl 0 rfl) ?_
  refine lv_iconst (v := 1) hx hb dL_law_447 (by decide) ?_
  refine lv_iadd hx hb dL_law_448 ?_
  refine wk_top 1 (by decide) ?_
  refine va_sld hx hb hX hbl hbA hw.2.2 (show ¬ ((1 : Int32) < 0 ∨ 6 ≤ (1 : Int32).toNatClampNeg) by decide) dL_law_449 ?_
  refine wk_top s1 hs1 ?_
  refine lv_aload_n hx hb dL_law_450 rfl (lv_at hl 3 rfl) ?_
  refine lv_iload_n hx hb dL_law_451 rfl (lv_at hl 0 rfl) ?_
  refine lv_iconst (v := 2) hx hb dL_law_452 (by decide) ?_
  refine lv_iadd hx hb dL_law_453 ?_
  refine wk_top 2 (by decide) ?_
  refine va_sld hx hb hX hbl hbA hw.2.2 (show ¬ ((2 : Int32) < 0 ∨ 6 ≤ (2 : Int32).toNatClampNeg) by decide) dL_law_454 ?_
  refine wk_top s2 hs2 ?_
  refine wk_Vi hC hK hw hA [0, 1] [2, 3] rfl rfl rfl rfl (by decide) (t_X12_shown l dC dI cy qm um s1 s2 H.size ) (cwV 2 hC.2.2.2.2 gL_law_X12_shown rfl rfl rfl (by decide +kernel) ⟨Nat.le_of_ble_eq_true rfl, Nat.le_of_ble_eq_true rfl⟩) rfl 0 rfl rfl hl.1 rfl (Nat.le_of_ble_eq_true rfl) dL_law_455 184 18569 ⟨rfl, rfl⟩ ⟨Nat.le_of_ble_eq_true rfl, Nat.le_of_ble_eq_true rfl⟩ (fun r5 u4 H locs hp6 hw => ?_)
  have hw : Wd dC dI A s.heap H locs [(qx, .inr (11, [.ref (ux 0), .ref (ux 1), .ref (ux 2), .ref (ux 3), .ref (ux 4), .ref (ux 5), .ref (ux 6), .ref (ux 7), .ref (ux 8), .ref (ux 9), .ref (ux 10), .ref (ux 11), .int 0])), ((ux 4), .inr (5, [.ref (ux 27), .ref (ux 28), .ref (ux 29), .ref (ux 30), .ref (ux 31), .ref (ux 32), .ref (ux 33), .ref (ux 34), .int 0, .int 0, .int 0, .int 0, .int 0, .int 0])), (qm, .inr (12, (.ref (um 0) :: .int 0 :: .int 0 :: .ref (um 1) :: .ref (um 2) :: .ref (um 3) :: .ref (um 4) :: .int 0 :: .int 0 :: .int 0 :: .int 0 :: .ref (um 5) :: .ref (um 6) :: .ref (um 7) :: .int 0 :: .int 0 :: .int 0 :: .int 0 :: .int 0 :: .int 0 :: .int 0 :: .ref (um 8) :: .int 0 :: .ref (um 9) :: .int 0 :: .ref (um 10) :: .ref (um 11) :: .int 1 :: .ref (um 12) :: .ref (um 13) :: .int 0 :: .int 0 :: .ref (um 14) :: .ref (um 15) :: .ref (um 16) :: .ref (um 17) :: .ref (um 18) :: .int 0 :: .ref (um 19) :: .long 0 :: .ref (um 20) :: .ref (um 21) :: ([] : List Value)))), ((um 11), .inl (cy 0, 296, .inl (fun _ => 0)))] := hw
  obtain rfl : r5 = (-1) := hp6
  refine lv_icmp_eq (tgt := 1252) hx hb dL_law_458 (by decide) (fun _ => ?_) (fun c => absurd (by decide) c)
  exact law_end hx hb hC hr hlocks hX hbl hbA hAe hw hl (Nat.le_of_ble_eq_true rfl) (Nat.le_of_ble_eq_true rfl)
set_option maxHeartbeats 4000000 in
set_option maxRecDepth 100000 in
theorem lc_by {p : Program} {e : Env} {s : State} {m : MethodId} {below : List Frame} {meth : Method} {c : Code} {l : Launch} {b : Nat} {xs : Nat → Int32} {adK adV : Nat → Nat} {dC : Nat → ClassId} {dI : Nat → Nat → Nat} {cy : Nat → ClassId} {A : Nat → Prop} (hC : CallFix p m c code 4 s #[Value.ref b] wsR RL) (hr : meth.sig.returnType = ret) (hlocks : meth.locks = false) (hK : KK dC dI cy s) (hE : SE adK adV A s s.heap) (hSR : SR adK s) (hAe : A = fun q : Nat => s.heap.size ≤ q) (hA : ∀ q : Nat, s.heap.size ≤ q → A q) (hbA : ¬ A b) (hX : va_X b 6 xs s s.heap) (hbl : b < s.heap.size) {qx qm : Nat} {ux um : Nat → Nat} {s1 : Int32} (hs1 : xs 1 = s1) {s2 : Int32} (hs2 : xs 2 = s2) {s3 : Int32} (hs3 : xs 3 = s3) {s4 : Int32} (hs4 : xs 4 = s4) {H : Heap} {locs : List Loc} {ls : Array Slot} (hw : Wd dC dI A s.heap H locs [(qx, .inr (11, [.ref (ux 0), .ref (ux 1), .ref (ux 2), .ref (ux 3), .ref (ux 4), .ref (ux 5), .ref (ux 6), .ref (ux 7), .ref (ux 8), .ref (ux 9), .ref (ux 10), .ref (ux 11), .int 0])), ((ux 4), .inr (5, [.ref (ux 27), .ref (ux 28), .ref (ux 29), .ref (ux 30), .ref (ux 31), .ref (ux 32), .ref (ux 33), .ref (ux 34), .int 0, .int 0, .int 0, .int 0, .int 0, .int 0])), (qm, .inr (12, (.ref (um 0) :: .int 0 :: .int 0 :: .ref (um 1) :: .ref (um 2) :: .ref (um 3) :: .ref (um 4) :: .int 0 :: .int 0 :: .int 0 :: .int 0 :: .ref (um 5) :: .ref (um 6) :: .ref (um 7) :: .int 0 :: .int 0 :: .int 0 :: .int 0 :: .int 0 :: .int 0 :: .int 0 :: .ref (um 8) :: .int 0 :: .ref (um 9) :: .int 0 :: .ref (um 10) :: .ref (um 11) :: .int 1 :: .ref (um 12) :: .ref (um 13) :: .int 0 :: .int 0 :: .ref (um 14) :: .ref (um 15) :: .ref (um 16) :: .ref (um 17) :: .ref (um 18) :: .int 0 :: .ref (um 19) :: .long 0 :: .ref (um 20) :: .ref (um 21) :: ([] : List Value)))), ((um 11), .inl (cy 0, 296, .inl (fun _ => 0)))]) (hl : lv_has ls 4 [(3, .int 0), (2, .ref qm), (1, .ref qx), (0, .ref b)]) : W p l e room_1 s m #[Value.ref b] below meth c H locs 184 18569 (lw_Z below #[Value.ref b] s) (F0 m 463 ls []) := by
  have hx := hC.1
  have hb := hC.2.1
  refine lv_aload_n hx hb dL_law_463 rfl (lv_at hl 2 rfl) ?_
  refine lv_aload_n hx hb dL_law_464 rfl (lv_at hl 3 rfl) ?_
  refine lv_iload_n hx hb dL_law_465 rfl (lv_at hl 0 rfl) ?_
  refine lv_iconst (v := 1) hx hb dL_law_466 (by decide) ?_
  refine lv_iadd hx hb dL_law_467 ?_
  refine wk_top 1 (by decide) ?_
  refine va_sld hx hb hX hbl hbA hw.2.2 (show ¬ ((1 : Int32) < 0 ∨ 6 ≤ (1 : Int32).toNatClampNeg) by decide) dL_law_468 ?_
  refine wk_top s1 hs1 ?_
  refine lv_aload_n hx hb dL_law_469 rfl (lv_at hl 3 rfl) ?_
  refine lv_iload_n hx hb dL_law_470 rfl (lv_at hl 0 rfl) ?_
  refine lv_iconst (v := 2) hx hb dL_law_471 (by decide) ?_
  refine lv_iadd hx hb dL_law_472 ?_
  refine wk_top 2 (by decide) ?_
  refine va_sld hx hb hX hbl hbA hw.2.2 (show ¬ ((2 : Int32) < 0 ∨ 6 ≤ (2 : Int32).toNatClampNeg) by decide) dL_law_473 ?_
  refine wk_top s2 hs2 ?_
  refine lv_aload_n hx hb dL_law_474 rfl (lv_at hl 3 rfl) ?_
  refine lv_iload_n hx hb dL_law_475 rfl (lv_at hl 0 rfl) ?_
  refine lv_iconst (v := 3) hx hb dL_law_476 (by decide) ?_
  refine lv_iadd hx hb dL_law_477 ?_
  refine wk_top 3 (by decide) ?_
  refine va_sld hx hb hX hbl hbA hw.2.2 (show ¬ ((3 : Int32) < 0 ∨ 6 ≤ (3 : Int32).toNatClampNeg) by decide) dL_law_478 ?_
  refine wk_top s3 hs3 ?_
  refine lv_aload_n hx hb dL_law_479 rfl (lv_at hl 3 rfl) ?_
  refine lv_iload_n hx hb dL_law_480 rfl (lv_at hl 0 rfl) ?_
  refine lv_iconst (v := 4) hx hb dL_law_481 (by decide) ?_
  refine lv_iadd hx hb dL_law_482 ?_
  refine wk_top 4 (by decide) ?_
  refine va_sld hx hb hX hbl hbA hw.2.2 (show ¬ ((4 : Int32) < 0 ∨ 6 ≤ (4 : Int32).toNatClampNeg) by decide) dL_law_483 ?_
  refine wk_top s4 hs4 ?_
  refine wk_Vi hC hK hw hA [0, 1] [2, 3] rfl rfl rfl rfl (by decide) (t_X11_by l dC dI cy qx ux s1 s2 s3 s4 H.size ) (cwV 4 hC.2.2.2.2 gL_law_X11_by rfl rfl rfl (by decide +kernel) ⟨Nat.le_of_ble_eq_true rfl, Nat.le_of_ble_eq_true rfl⟩) rfl 0 rfl rfl hl.1 rfl (Nat.le_of_ble_eq_true rfl) dL_law_484 184 18569 ⟨rfl, rfl⟩ ⟨Nat.le_of_ble_eq_true rfl, Nat.le_of_ble_eq_true rfl⟩ (fun r2 u1 H locs hp3 hw => ?_)
  have hw : Wd dC dI A s.heap H locs [(qm, .inr (12, (.ref (um 0) :: .int 0 :: .int 0 :: .ref (um 1) :: .ref (um 2) :: .ref (um 3) :: .ref (um 4) :: .int 0 :: .int 0 :: .int 0 :: .int 0 :: .ref (um 5) :: .ref (um 6) :: .ref (um 7) :: .int 0 :: .int 0 :: .int 0 :: .int 0 :: .int 0 :: .int 0 :: .int 0 :: .ref (um 8) :: .int 0 :: .ref (um 9) :: .int 0 :: .ref (um 10) :: .ref (um 11) :: .int 1 :: .ref (um 12) :: .ref (um 13) :: .int 0 :: .int 0 :: .ref (um 14) :: .ref (um 15) :: .ref (um 16) :: .ref (um 17) :: .ref (um 18) :: .int 0 :: .ref (um 19) :: .long 0 :: .ref (um 20) :: .ref (um 21) :: ([] : List Value)))), ((um 11), .inl (cy 0, 296, .inl (fun _ => 0))), (qx, .inr (11, [.ref (ux 0), .ref (ux 1), .ref (ux 2), .ref (ux 3), .ref (ux 4), .ref (ux 5), .ref (ux 6), .ref (ux 7), .ref (ux 8), .ref (ux 9), .ref (ux 10), .ref (ux 11), .int 0])), ((ux 4), .inr (5, [.ref (ux 27), .ref (ux 28), .ref (ux 29), .ref (ux 30), .ref (ux 31), .ref (ux 32), .ref (ux 33), .ref (ux 34), .int 0, .int 0, .int 0, .int 0, .int 0, .int 0]))] := hw
  obtain rfl : r2 = (-1) := hp3
  refine lv_aload_n hx hb dL_law_487 rfl (lv_at hl 1 rfl) ?_
  refine lv_aload_n hx hb dL_law_488 rfl (lv_at hl 3 rfl) ?_
  refine lv_iload_n hx hb dL_law_489 rfl (lv_at hl 0 rfl) ?_
  refine lv_iconst (v := 1) hx hb dL_law_490 (by decide) ?_
  refine lv_iadd hx hb dL_law_491 ?_
  refine wk_top 1 (by decide) ?_
  refine va_sld hx hb hX hbl hbA hw.2.2 (show ¬ ((1 : Int32) < 0 ∨ 6 ≤ (1 : Int32).toNatClampNeg) by decide) dL_law_492 ?_
  refine wk_top s1 hs1 ?_
  refine lv_aload_n hx hb dL_law_493 rfl (lv_at hl 3 rfl) ?_
  refine lv_iload_n hx hb dL_law_494 rfl (lv_at hl 0 rfl) ?_
  refine lv_iconst (v := 2) hx hb dL_law_495 (by decide) ?_
  refine lv_iadd hx hb dL_law_496 ?_
  refine wk_top 2 (by decide) ?_
  refine va_sld hx hb hX hbl hbA hw.2.2 (show ¬ ((2 : Int32) < 0 ∨ 6 ≤ (2 : Int32).toNatClampNeg) by decide) dL_law_497 ?_
  refine wk_top s2 hs2 ?_
  refine lv_aload_n hx hb dL_law_498 rfl (lv_at hl 3 rfl) ?_
  refine lv_iload_n hx hb dL_law_499 rfl (lv_at hl 0 rfl) ?_
  refine lv_iconst (v := 3) hx hb dL_law_500 (by decide) ?_
  refine lv_iadd hx hb dL_law_501 ?_
  refine wk_top 3 (by decide) ?_
  refine va_sld hx hb hX hbl hbA hw.2.2 (show ¬ ((3 : Int32) < 0 ∨ 6 ≤ (3 : Int32).toNatClampNeg) by decide) dL_law_502 ?_
  refine wk_top s3 hs3 ?_
  refine lv_aload_n hx hb dL_law_503 rfl (lv_at hl 3 rfl) ?_
  refine lv_iload_n hx hb dL_law_504 rfl (lv_at hl 0 rfl) ?_
  refine lv_iconst (v := 4) hx hb dL_law_505 (by decide) ?_
  refine lv_iadd hx hb dL_law_506 ?_
  refine wk_top 4 (by decide) ?_
  refine va_sld hx hb hX hbl hbA hw.2.2 (show ¬ ((4 : Int32) < 0 ∨ 6 ≤ (4 : Int32).toNatClampNeg) by decide) dL_law_507 ?_
  refine wk_top s4 hs4 ?_
  refine wk_Vi hC hK hw hA [0, 1] [2, 3] rfl rfl rfl rfl (by decide) (t_X12_by l dC dI cy qm um s1 s2 s3 s4 H.size ) (cwV 4 hC.2.2.2.2 gL_law_X12_by rfl rfl rfl (by decide +kernel) ⟨Nat.le_of_ble_eq_true rfl, Nat.le_of_ble_eq_true rfl⟩) rfl 0 rfl rfl hl.1 rfl (Nat.le_of_ble_eq_true rfl) dL_law_508 184 18569 ⟨rfl, rfl⟩ ⟨Nat.le_of_ble_eq_true rfl, Nat.le_of_ble_eq_true rfl⟩ (fun r5 u4 H locs hp6 hw => ?_)
  have hw : Wd dC dI A s.heap H locs [(qx, .inr (11, [.ref (ux 0), .ref (ux 1), .ref (ux 2), .ref (ux 3), .ref (ux 4), .ref (ux 5), .ref (ux 6), .ref (ux 7), .ref (ux 8), .ref (ux 9), .ref (ux 10), .ref (ux 11), .int 0])), ((ux 4), .inr (5, [.ref (ux 27), .ref (ux 28), .ref (ux 29), .ref (ux 30), .ref (ux 31), .ref (ux 32), .ref (ux 33), .ref (ux 34), .int 0, .int 0, .int 0, .int 0, .int 0, .int 0])), (qm, .inr (12, (.ref (um 0) :: .int 0 :: .int 0 :: .ref (um 1) :: .ref (um 2) :: .ref (um 3) :: .ref (um 4) :: .int 0 :: .int 0 :: .int 0 :: .int 0 :: .ref (um 5) :: .ref (um 6) :: .ref (um 7) :: .int 0 :: .int 0 :: .int 0 :: .int 0 :: .int 0 :: .int 0 :: .int 0 :: .ref (um 8) :: .int 0 :: .ref (um 9) :: .int 0 :: .ref (um 10) :: .ref (um 11) :: .int 1 :: .ref (um 12) :: .ref (um 13) :: .int 0 :: .int 0 :: .ref (um 14) :: .ref (um 15) :: .ref (um 16) :: .ref (um 17) :: .ref (um 18) :: .int 0 :: .ref (um 19) :: .long 0 :: .ref (um 20) :: .ref (um 21) :: ([] : List Value)))), ((um 11), .inl (cy 0, 296, .inl (fun _ => 0)))] := hw
  obtain rfl : r5 = (-1) := hp6
  refine lv_icmp_eq (tgt := 1252) hx hb dL_law_511 (by decide) (fun _ => ?_) (fun c => absurd (by decide) c)
  exact law_end hx hb hC hr hlocks hX hbl hbA hAe hw hl (Nat.le_of_ble_eq_true rfl) (Nat.le_of_ble_eq_true rfl)
set_option maxHeartbeats 4000000 in
set_option maxRecDepth 100000 in
theorem lc_walker {p : Program} {e : Env} {s : State} {m : MethodId} {below : List Frame} {meth : Method} {c : Code} {l : Launch} {b : Nat} {xs : Nat → Int32} {adK adV : Nat → Nat} {dC : Nat → ClassId} {dI : Nat → Nat → Nat} {cy : Nat → ClassId} {A : Nat → Prop} (hC : CallFix p m c code 4 s #[Value.ref b] wsR RL) (hr : meth.sig.returnType = ret) (hlocks : meth.locks = false) (hK : KK dC dI cy s) (hE : SE adK adV A s s.heap) (hSR : SR adK s) (hAe : A = fun q : Nat => s.heap.size ≤ q) (hA : ∀ q : Nat, s.heap.size ≤ q → A q) (hbA : ¬ A b) (hX : va_X b 6 xs s s.heap) (hbl : b < s.heap.size) {qx qm : Nat} {ux um : Nat → Nat} {s1 : Int32} (hs1 : xs 1 = s1) {s2 : Int32} (hs2 : xs 2 = s2) {s3 : Int32} (hs3 : xs 3 = s3) {s4 : Int32} (hs4 : xs 4 = s4) {s5 : Int32} (hs5 : xs 5 = s5) {H : Heap} {locs : List Loc} {ls : Array Slot} (hw : Wd dC dI A s.heap H locs [(qx, .inr (11, [.ref (ux 0), .ref (ux 1), .ref (ux 2), .ref (ux 3), .ref (ux 4), .ref (ux 5), .ref (ux 6), .ref (ux 7), .ref (ux 8), .ref (ux 9), .ref (ux 10), .ref (ux 11), .int 0])), ((ux 4), .inr (5, [.ref (ux 27), .ref (ux 28), .ref (ux 29), .ref (ux 30), .ref (ux 31), .ref (ux 32), .ref (ux 33), .ref (ux 34), .int 0, .int 0, .int 0, .int 0, .int 0, .int 0])), ((ux 27), .inr (7, [.ref (ux 68), .ref (ux 69), .ref (ux 70), .ref (ux 71), .ref (ux 72), .ref (ux 73), .ref (ux 74), .ref (ux 75), .int 0, .int 0, .int 0, .int 0])), (qm, .inr (12, (.ref (um 0) :: .int 0 :: .int 0 :: .ref (um 1) :: .ref (um 2) :: .ref (um 3) :: .ref (um 4) :: .int 0 :: .int 0 :: .int 0 :: .int 0 :: .ref (um 5) :: .ref (um 6) :: .ref (um 7) :: .int 0 :: .int 0 :: .int 0 :: .int 0 :: .int 0 :: .int 0 :: .int 0 :: .ref (um 8) :: .int 0 :: .ref (um 9) :: .int 0 :: .ref (um 10) :: .ref (um 11) :: .int 1 :: .ref (um 12) :: .ref (um 13) :: .int 0 :: .int 0 :: .ref (um 14) :: .ref (um 15) :: .ref (um 16) :: .ref (um 17) :: .ref (um 18) :: .int 0 :: .ref (um 19) :: .long 0 :: .ref (um 20) :: .ref (um 21) :: ([] : List Value)))), ((um 11), .inl (cy 0, 296, .inl (fun _ => 0)))]) (hl : lv_has ls 4 [(3, .int 0), (2, .ref qm), (1, .ref qx), (0, .ref b)]) : W p l e room_1 s m #[Value.ref b] below meth c H locs 184 18569 (lw_Z below #[Value.ref b] s) (F0 m 516 ls []) := by
  have hx := hC.1
  have hb := hC.2.1
  refine lv_aload_n hx hb dL_law_516 rfl (lv_at hl 2 rfl) ?_
  refine lv_aload_n hx hb dL_law_517 rfl (lv_at hl 3 rfl) ?_
  refine lv_iload_n hx hb dL_law_518 rfl (lv_at hl 0 rfl) ?_
  refine lv_iconst (v := 1) hx hb dL_law_519 (by decide) ?_
  refine lv_iadd hx hb dL_law_520 ?_
  refine wk_top 1 (by decide) ?_
  refine va_sld hx hb hX hbl hbA hw.2.2 (show ¬ ((1 : Int32) < 0 ∨ 6 ≤ (1 : Int32).toNatClampNeg) by decide) dL_law_521 ?_
  refine wk_top s1 hs1 ?_
  refine lv_aload_n hx hb dL_law_522 rfl (lv_at hl 3 rfl) ?_
  refine lv_iload_n hx hb dL_law_523 rfl (lv_at hl 0 rfl) ?_
  refine lv_iconst (v := 2) hx hb dL_law_524 (by decide) ?_
  refine lv_iadd hx hb dL_law_525 ?_
  refine wk_top 2 (by decide) ?_
  refine va_sld hx hb hX hbl hbA hw.2.2 (show ¬ ((2 : Int32) < 0 ∨ 6 ≤ (2 : Int32).toNatClampNeg) by decide) dL_law_526 ?_
  refine wk_top s2 hs2 ?_
  refine lv_aload_n hx hb dL_law_527 rfl (lv_at hl 3 rfl) ?_
  refine lv_iload_n hx hb dL_law_528 rfl (lv_at hl 0 rfl) ?_
  refine lv_iconst (v := 3) hx hb dL_law_529 (by decide) ?_
  refine lv_iadd hx hb dL_law_530 ?_
  refine wk_top 3 (by decide) ?_
  refine va_sld hx hb hX hbl hbA hw.2.2 (show ¬ ((3 : Int32) < 0 ∨ 6 ≤ (3 : Int32).toNatClampNeg) by decide) dL_law_531 ?_
  refine wk_top s3 hs3 ?_
  refine lv_aload_n hx hb dL_law_532 rfl (lv_at hl 3 rfl) ?_
  refine lv_iload_n hx hb dL_law_533 rfl (lv_at hl 0 rfl) ?_
  refine lv_iconst (v := 4) hx hb dL_law_534 (by decide) ?_
  refine lv_iadd hx hb dL_law_535 ?_
  refine wk_top 4 (by decide) ?_
  refine va_sld hx hb hX hbl hbA hw.2.2 (show ¬ ((4 : Int32) < 0 ∨ 6 ≤ (4 : Int32).toNatClampNeg) by decide) dL_law_536 ?_
  refine wk_top s4 hs4 ?_
  refine lv_aload_n hx hb dL_law_537 rfl (lv_at hl 3 rfl) ?_
  refine lv_iload_n hx hb dL_law_538 rfl (lv_at hl 0 rfl) ?_
  refine lv_iconst (v := 5) hx hb dL_law_539 (by decide) ?_
  refine lv_iadd hx hb dL_law_540 ?_
  refine wk_top 5 (by decide) ?_
  refine va_sld hx hb hX hbl hbA hw.2.2 (show ¬ ((5 : Int32) < 0 ∨ 6 ≤ (5 : Int32).toNatClampNeg) by decide) dL_law_541 ?_
  refine wk_top s5 hs5 ?_
  refine wk_Vi hC hK hw hA [0, 1, 2] [3, 4] rfl rfl rfl rfl (by decide) (t_X11_walker l dC dI cy qx ux s1 s2 s3 s4 s5 H.size ) (cwV 5 hC.2.2.2.2 gL_law_X11_walker rfl rfl rfl (by decide +kernel) ⟨Nat.le_of_ble_eq_true rfl, Nat.le_of_ble_eq_true rfl⟩) rfl 0 rfl rfl hl.1 rfl (Nat.le_of_ble_eq_true rfl) dL_law_542 184 18569 ⟨rfl, rfl⟩ ⟨Nat.le_of_ble_eq_true rfl, Nat.le_of_ble_eq_true rfl⟩ (fun r2 u1 H locs hp3 hw => ?_)
  have hw : Wd dC dI A s.heap H locs [(qm, .inr (12, (.ref (um 0) :: .int 0 :: .int 0 :: .ref (um 1) :: .ref (um 2) :: .ref (um 3) :: .ref (um 4) :: .int 0 :: .int 0 :: .int 0 :: .int 0 :: .ref (um 5) :: .ref (um 6) :: .ref (um 7) :: .int 0 :: .int 0 :: .int 0 :: .int 0 :: .int 0 :: .int 0 :: .int 0 :: .ref (um 8) :: .int 0 :: .ref (um 9) :: .int 0 :: .ref (um 10) :: .ref (um 11) :: .int 1 :: .ref (um 12) :: .ref (um 13) :: .int 0 :: .int 0 :: .ref (um 14) :: .ref (um 15) :: .ref (um 16) :: .ref (um 17) :: .ref (um 18) :: .int 0 :: .ref (um 19) :: .long 0 :: .ref (um 20) :: .ref (um 21) :: ([] : List Value)))), ((um 11), .inl (cy 0, 296, .inl (fun _ => 0))), (qx, .inr (11, [.ref (ux 0), .ref (ux 1), .ref (ux 2), .ref (ux 3), .ref (ux 4), .ref (ux 5), .ref (ux 6), .ref (ux 7), .ref (ux 8), .ref (ux 9), .ref (ux 10), .ref (ux 11), .int 0])), ((ux 4), .inr (5, [.ref (ux 27), .ref (ux 28), .ref (ux 29), .ref (ux 30), .ref (ux 31), .ref (ux 32), .ref (ux 33), .ref (ux 34), .int 0, .int 0, .int 0, .int 0, .int 0, .int 0])), ((ux 27), .inr (7, [.ref (ux 68), .ref (ux 69), .ref (ux 70), .ref (ux 71), .ref (ux 72), .ref (ux 73), .ref (ux 74), .ref (ux 75), .int 0, .int 0, .int 0, .int 0]))] := hw
  obtain rfl : r2 = (-2) := hp3
  refine lv_aload_n hx hb dL_law_545 rfl (lv_at hl 1 rfl) ?_
  refine lv_aload_n hx hb dL_law_546 rfl (lv_at hl 3 rfl) ?_
  refine lv_iload_n hx hb dL_law_547 rfl (lv_at hl 0 rfl) ?_
  refine lv_iconst (v := 1) hx hb dL_law_548 (by decide) ?_
  refine lv_iadd hx hb dL_law_549 ?_
  refine wk_top 1 (by decide) ?_
  refine va_sld hx hb hX hbl hbA hw.2.2 (show ¬ ((1 : Int32) < 0 ∨ 6 ≤ (1 : Int32).toNatClampNeg) by decide) dL_law_550 ?_
  refine wk_top s1 hs1 ?_
  refine lv_aload_n hx hb dL_law_551 rfl (lv_at hl 3 rfl) ?_
  refine lv_iload_n hx hb dL_law_552 rfl (lv_at hl 0 rfl) ?_
  refine lv_iconst (v := 2) hx hb dL_law_553 (by decide) ?_
  refine lv_iadd hx hb dL_law_554 ?_
  refine wk_top 2 (by decide) ?_
  refine va_sld hx hb hX hbl hbA hw.2.2 (show ¬ ((2 : Int32) < 0 ∨ 6 ≤ (2 : Int32).toNatClampNeg) by decide) dL_law_555 ?_
  refine wk_top s2 hs2 ?_
  refine lv_aload_n hx hb dL_law_556 rfl (lv_at hl 3 rfl) ?_
  refine lv_iload_n hx hb dL_law_557 rfl (lv_at hl 0 rfl) ?_
  refine lv_iconst (v := 3) hx hb dL_law_558 (by decide) ?_
  refine lv_iadd hx hb dL_law_559 ?_
  refine wk_top 3 (by decide) ?_
  refine va_sld hx hb hX hbl hbA hw.2.2 (show ¬ ((3 : Int32) < 0 ∨ 6 ≤ (3 : Int32).toNatClampNeg) by decide) dL_law_560 ?_
  refine wk_top s3 hs3 ?_
  refine lv_aload_n hx hb dL_law_561 rfl (lv_at hl 3 rfl) ?_
  refine lv_iload_n hx hb dL_law_562 rfl (lv_at hl 0 rfl) ?_
  refine lv_iconst (v := 4) hx hb dL_law_563 (by decide) ?_
  refine lv_iadd hx hb dL_law_564 ?_
  refine wk_top 4 (by decide) ?_
  refine va_sld hx hb hX hbl hbA hw.2.2 (show ¬ ((4 : Int32) < 0 ∨ 6 ≤ (4 : Int32).toNatClampNeg) by decide) dL_law_565 ?_
  refine wk_top s4 hs4 ?_
  refine lv_aload_n hx hb dL_law_566 rfl (lv_at hl 3 rfl) ?_
  refine lv_iload_n hx hb dL_law_567 rfl (lv_at hl 0 rfl) ?_
  refine lv_iconst (v := 5) hx hb dL_law_568 (by decide) ?_
  refine lv_iadd hx hb dL_law_569 ?_
  refine wk_top 5 (by decide) ?_
  refine va_sld hx hb hX hbl hbA hw.2.2 (show ¬ ((5 : Int32) < 0 ∨ 6 ≤ (5 : Int32).toNatClampNeg) by decide) dL_law_570 ?_
  refine wk_top s5 hs5 ?_
  refine wk_Vi hC hK hw hA [0, 1] [2, 3, 4] rfl rfl rfl rfl (by decide) (t_X12_walker l dC dI cy qm um s1 s2 s3 s4 s5 H.size ) (cwV 5 hC.2.2.2.2 gL_law_X12_walker rfl rfl rfl (by decide +kernel) ⟨Nat.le_of_ble_eq_true rfl, Nat.le_of_ble_eq_true rfl⟩) rfl 0 rfl rfl hl.1 rfl (Nat.le_of_ble_eq_true rfl) dL_law_571 184 18569 ⟨rfl, rfl⟩ ⟨Nat.le_of_ble_eq_true rfl, Nat.le_of_ble_eq_true rfl⟩ (fun r5 u4 H locs hp6 hw => ?_)
  have hw : Wd dC dI A s.heap H locs [(qx, .inr (11, [.ref (ux 0), .ref (ux 1), .ref (ux 2), .ref (ux 3), .ref (ux 4), .ref (ux 5), .ref (ux 6), .ref (ux 7), .ref (ux 8), .ref (ux 9), .ref (ux 10), .ref (ux 11), .int 0])), ((ux 4), .inr (5, [.ref (ux 27), .ref (ux 28), .ref (ux 29), .ref (ux 30), .ref (ux 31), .ref (ux 32), .ref (ux 33), .ref (ux 34), .int 0, .int 0, .int 0, .int 0, .int 0, .int 0])), ((ux 27), .inr (7, [.ref (ux 68), .ref (ux 69), .ref (ux 70), .ref (ux 71), .ref (ux 72), .ref (ux 73), .ref (ux 74), .ref (ux 75), .int 0, .int 0, .int 0, .int 0])), (qm, .inr (12, (.ref (um 0) :: .int 0 :: .int 0 :: .ref (um 1) :: .ref (um 2) :: .ref (um 3) :: .ref (um 4) :: .int 0 :: .int 0 :: .int 0 :: .int 0 :: .ref (um 5) :: .ref (um 6) :: .ref (um 7) :: .int 0 :: .int 0 :: .int 0 :: .int 0 :: .int 0 :: .int 0 :: .int 0 :: .ref (um 8) :: .int 0 :: .ref (um 9) :: .int 0 :: .ref (um 10) :: .ref (um 11) :: .int 1 :: .ref (um 12) :: .ref (um 13) :: .int 0 :: .int 0 :: .ref (um 14) :: .ref (um 15) :: .ref (um 16) :: .ref (um 17) :: .ref (um 18) :: .int 0 :: .ref (um 19) :: .long 0 :: .ref (um 20) :: .ref (um 21) :: ([] : List Value)))), ((um 11), .inl (cy 0, 296, .inl (fun _ => 0)))] := hw
  obtain rfl : r5 = (-2) := hp6
  refine lv_icmp_eq (tgt := 1252) hx hb dL_law_574 (by decide) (fun _ => ?_) (fun c => absurd (by decide) c)
  exact law_end hx hb hC hr hlocks hX hbl hbA hAe hw hl (Nat.le_of_ble_eq_true rfl) (Nat.le_of_ble_eq_true rfl)
set_option maxHeartbeats 4000000 in
set_option maxRecDepth 100000 in
theorem lc_about {p : Program} {e : Env} {s : State} {m : MethodId} {below : List Frame} {meth : Method} {c : Code} {l : Launch} {b : Nat} {xs : Nat → Int32} {adK adV : Nat → Nat} {dC : Nat → ClassId} {dI : Nat → Nat → Nat} {cy : Nat → ClassId} {A : Nat → Prop} (hC : CallFix p m c code 4 s #[Value.ref b] wsR RL) (hr : meth.sig.returnType = ret) (hlocks : meth.locks = false) (hK : KK dC dI cy s) (hE : SE adK adV A s s.heap) (hSR : SR adK s) (hAe : A = fun q : Nat => s.heap.size ≤ q) (hA : ∀ q : Nat, s.heap.size ≤ q → A q) (hbA : ¬ A b) (hX : va_X b 6 xs s s.heap) (hbl : b < s.heap.size) {qx qm : Nat} {ux um : Nat → Nat} {s1 : Int32} (hs1 : xs 1 = s1) {s2 : Int32} (hs2 : xs 2 = s2) {H : Heap} {locs : List Loc} {ls : Array Slot} (hw : Wd dC dI A s.heap H locs [(qx, .inr (11, [.ref (ux 0), .ref (ux 1), .ref (ux 2), .ref (ux 3), .ref (ux 4), .ref (ux 5), .ref (ux 6), .ref (ux 7), .ref (ux 8), .ref (ux 9), .ref (ux 10), .ref (ux 11), .int 0])), ((ux 4), .inr (5, [.ref (ux 27), .ref (ux 28), .ref (ux 29), .ref (ux 30), .ref (ux 31), .ref (ux 32), .ref (ux 33), .ref (ux 34), .int 0, .int 0, .int 0, .int 0, .int 0, .int 0])), (qm, .inr (12, (.ref (um 0) :: .int 0 :: .int 0 :: .ref (um 1) :: .ref (um 2) :: .ref (um 3) :: .ref (um 4) :: .int 0 :: .int 0 :: .int 0 :: .int 0 :: .ref (um 5) :: .ref (um 6) :: .ref (um 7) :: .int 0 :: .int 0 :: .int 0 :: .int 0 :: .int 0 :: .int 0 :: .int 0 :: .ref (um 8) :: .int 0 :: .ref (um 9) :: .int 0 :: .ref (um 10) :: .ref (um 11) :: .int 1 :: .ref (um 12) :: .ref (um 13) :: .int 0 :: .int 0 :: .ref (um 14) :: .ref (um 15) :: .ref (um 16) :: .ref (um 17) :: .ref (um 18) :: .int 0 :: .ref (um 19) :: .long 0 :: .ref (um 20) :: .ref (um 21) :: ([] : List Value)))), ((um 11), .inl (cy 0, 296, .inl (fun _ => 0)))]) (hl : lv_has ls 4 [(3, .int 0), (2, .ref qm), (1, .ref qx), (0, .ref b)]) : W p l e room_1 s m #[Value.ref b] below meth c H locs 184 18569 (lw_Z below #[Value.ref b] s) (F0 m 579 ls []) := by
  have hx := hC.1
  have hb := hC.2.1
  refine lv_aload_n hx hb dL_law_579 rfl (lv_at hl 2 rfl) ?_
  refine lv_aload_n hx hb dL_law_580 rfl (lv_at hl 3 rfl) ?_
  refine lv_iload_n hx hb dL_law_581 rfl (lv_at hl 0 rfl) ?_
  refine lv_iconst (v := 1) hx hb dL_law_582 (by decide) ?_
  refine lv_iadd hx hb dL_law_583 ?_
  refine wk_top 1 (by decide) ?_
  refine va_sld hx hb hX hbl hbA hw.2.2 (show ¬ ((1 : Int32) < 0 ∨ 6 ≤ (1 : Int32).toNatClampNeg) by decide) dL_law_584 ?_
  refine wk_top s1 hs1 ?_
  refine lv_aload_n hx hb dL_law_585 rfl (lv_at hl 3 rfl) ?_
  refine lv_iload_n hx hb dL_law_586 rfl (lv_at hl 0 rfl) ?_
  refine lv_iconst (v := 2) hx hb dL_law_587 (by decide) ?_
  refine lv_iadd hx hb dL_law_588 ?_
  refine wk_top 2 (by decide) ?_
  refine va_sld hx hb hX hbl hbA hw.2.2 (show ¬ ((2 : Int32) < 0 ∨ 6 ≤ (2 : Int32).toNatClampNeg) by decide) dL_law_589 ?_
  refine wk_top s2 hs2 ?_
  refine wk_Vi hC hK hw hA [0, 1] [2, 3] rfl rfl rfl rfl (by decide) (t_X11_about l dC dI cy qx ux s1 s2 H.size ) (cwV 2 hC.2.2.2.2 gL_law_X11_about rfl rfl rfl (by decide +kernel) ⟨Nat.le_of_ble_eq_true rfl, Nat.le_of_ble_eq_true rfl⟩) rfl 0 rfl rfl hl.1 rfl (Nat.le_of_ble_eq_true rfl) dL_law_590 184 18569 ⟨rfl, rfl⟩ ⟨Nat.le_of_ble_eq_true rfl, Nat.le_of_ble_eq_true rfl⟩ (fun r2 u1 H locs hp3 hw => ?_)
  have hw : Wd dC dI A s.heap H locs [(qm, .inr (12, (.ref (um 0) :: .int 0 :: .int 0 :: .ref (um 1) :: .ref (um 2) :: .ref (um 3) :: .ref (um 4) :: .int 0 :: .int 0 :: .int 0 :: .int 0 :: .ref (um 5) :: .ref (um 6) :: .ref (um 7) :: .int 0 :: .int 0 :: .int 0 :: .int 0 :: .int 0 :: .int 0 :: .int 0 :: .ref (um 8) :: .int 0 :: .ref (um 9) :: .int 0 :: .ref (um 10) :: .ref (um 11) :: .int 1 :: .ref (um 12) :: .ref (um 13) :: .int 0 :: .int 0 :: .ref (um 14) :: .ref (um 15) :: .ref (um 16) :: .ref (um 17) :: .ref (um 18) :: .int 0 :: .ref (um 19) :: .long 0 :: .ref (um 20) :: .ref (um 21) :: ([] : List Value)))), ((um 11), .inl (cy 0, 296, .inl (fun _ => 0))), (qx, .inr (11, [.ref (ux 0), .ref (ux 1), .ref (ux 2), .ref (ux 3), .ref (ux 4), .ref (ux 5), .ref (ux 6), .ref (ux 7), .ref (ux 8), .ref (ux 9), .ref (ux 10), .ref (ux 11), .int 0])), ((ux 4), .inr (5, [.ref (ux 27), .ref (ux 28), .ref (ux 29), .ref (ux 30), .ref (ux 31), .ref (ux 32), .ref (ux 33), .ref (ux 34), .int 0, .int 0, .int 0, .int 0, .int 0, .int 0]))] := hw
  obtain rfl : r2 = (-1) := hp3
  refine lv_aload_n hx hb dL_law_593 rfl (lv_at hl 1 rfl) ?_
  refine lv_aload_n hx hb dL_law_594 rfl (lv_at hl 3 rfl) ?_
  refine lv_iload_n hx hb dL_law_595 rfl (lv_at hl 0 rfl) ?_
  refine lv_iconst (v := 1) hx hb dL_law_596 (by decide) ?_
  refine lv_iadd hx hb dL_law_597 ?_
  refine wk_top 1 (by decide) ?_
  refine va_sld hx hb hX hbl hbA hw.2.2 (show ¬ ((1 : Int32) < 0 ∨ 6 ≤ (1 : Int32).toNatClampNeg) by decide) dL_law_598 ?_
  refine wk_top s1 hs1 ?_
  refine lv_aload_n hx hb dL_law_599 rfl (lv_at hl 3 rfl) ?_
  refine lv_iload_n hx hb dL_law_600 rfl (lv_at hl 0 rfl) ?_
  refine lv_iconst (v := 2) hx hb dL_law_601 (by decide) ?_
  refine lv_iadd hx hb dL_law_602 ?_
  refine wk_top 2 (by decide) ?_
  refine va_sld hx hb hX hbl hbA hw.2.2 (show ¬ ((2 : Int32) < 0 ∨ 6 ≤ (2 : Int32).toNatClampNeg) by decide) dL_law_603 ?_
  refine wk_top s2 hs2 ?_
  refine wk_Vi hC hK hw hA [0, 1] [2, 3] rfl rfl rfl rfl (by decide) (t_X12_about l dC dI cy qm um s1 s2 H.size ) (cwV 2 hC.2.2.2.2 gL_law_X12_about rfl rfl rfl (by decide +kernel) ⟨Nat.le_of_ble_eq_true rfl, Nat.le_of_ble_eq_true rfl⟩) rfl 0 rfl rfl hl.1 rfl (Nat.le_of_ble_eq_true rfl) dL_law_604 184 18569 ⟨rfl, rfl⟩ ⟨Nat.le_of_ble_eq_true rfl, Nat.le_of_ble_eq_true rfl⟩ (fun r5 u4 H locs hp6 hw => ?_)
  have hw : Wd dC dI A s.heap H locs [(qx, .inr (11, [.ref (ux 0), .ref (ux 1), .ref (ux 2), .ref (ux 3), .ref (ux 4), .ref (ux 5), .ref (ux 6), .ref (ux 7), .ref (ux 8), .ref (ux 9), .ref (ux 10), .ref (ux 11), .int 0])), ((ux 4), .inr (5, [.ref (ux 27), .ref (ux 28), .ref (ux 29), .ref (ux 30), .ref (ux 31), .ref (ux 32), .ref (ux 33), .ref (ux 34), .int 0, .int 0, .int 0, .int 0, .int 0, .int 0])), (qm, .inr (12, (.ref (um 0) :: .int 0 :: .int 0 :: .ref (um 1) :: .ref (um 2) :: .ref (um 3) :: .ref (um 4) :: .int 0 :: .int 0 :: .int 0 :: .int 0 :: .ref (um 5) :: .ref (um 6) :: .ref (um 7) :: .int 0 :: .int 0 :: .int 0 :: .int 0 :: .int 0 :: .int 0 :: .int 0 :: .ref (um 8) :: .int 0 :: .ref (um 9) :: .int 0 :: .ref (um 10) :: .ref (um 11) :: .int 1 :: .ref (um 12) :: .ref (um 13) :: .int 0 :: .int 0 :: .ref (um 14) :: .ref (um 15) :: .ref (um 16) :: .ref (um 17) :: .ref (um 18) :: .int 0 :: .ref (um 19) :: .long 0 :: .ref (um 20) :: .ref (um 21) :: ([] : List Value)))), ((um 11), .inl (cy 0, 296, .inl (fun _ => 0)))] := hw
  obtain rfl : r5 = (-1) := hp6
  refine lv_icmp_eq (tgt := 1252) hx hb dL_law_607 (by decide) (fun _ => ?_) (fun c => absurd (by decide) c)
  exact law_end hx hb hC hr hlocks hX hbl hbA hAe hw hl (Nat.le_of_ble_eq_true rfl) (Nat.le_of_ble_eq_true rfl)
set_option maxHeartbeats 4000000 in
set_option maxRecDepth 100000 in
theorem lc_step {p : Program} {e : Env} {s : State} {m : MethodId} {below : List Frame} {meth : Method} {c : Code} {l : Launch} {b : Nat} {xs : Nat → Int32} {adK adV : Nat → Nat} {dC : Nat → ClassId} {dI : Nat → Nat → Nat} {cy : Nat → ClassId} {A : Nat → Prop} (hC : CallFix p m c code 4 s #[Value.ref b] wsR RL) (hr : meth.sig.returnType = ret) (hlocks : meth.locks = false) (hK : KK dC dI cy s) (hE : SE adK adV A s s.heap) (hSR : SR adK s) (hAe : A = fun q : Nat => s.heap.size ≤ q) (hA : ∀ q : Nat, s.heap.size ≤ q → A q) (hbA : ¬ A b) (hX : va_X b 6 xs s s.heap) (hbl : b < s.heap.size) {qx qm : Nat} {ux um : Nat → Nat} {s1 : Int32} (hs1 : xs 1 = s1) {s2 : Int32} (hs2 : xs 2 = s2) {H : Heap} {locs : List Loc} {ls : Array Slot} (hw : Wd dC dI A s.heap H locs [(qx, .inr (11, [.ref (ux 0), .ref (ux 1), .ref (ux 2), .ref (ux 3), .ref (ux 4), .ref (ux 5), .ref (ux 6), .ref (ux 7), .ref (ux 8), .ref (ux 9), .ref (ux 10), .ref (ux 11), .int 0])), ((ux 4), .inr (5, [.ref (ux 27), .ref (ux 28), .ref (ux 29), .ref (ux 30), .ref (ux 31), .ref (ux 32), .ref (ux 33), .ref (ux 34), .int 0, .int 0, .int 0, .int 0, .int 0, .int 0])), (qm, .inr (12, (.ref (um 0) :: .int 0 :: .int 0 :: .ref (um 1) :: .ref (um 2) :: .ref (um 3) :: .ref (um 4) :: .int 0 :: .int 0 :: .int 0 :: .int 0 :: .ref (um 5) :: .ref (um 6) :: .ref (um 7) :: .int 0 :: .int 0 :: .int 0 :: .int 0 :: .int 0 :: .int 0 :: .int 0 :: .ref (um 8) :: .int 0 :: .ref (um 9) :: .int 0 :: .ref (um 10) :: .ref (um 11) :: .int 1 :: .ref (um 12) :: .ref (um 13) :: .int 0 :: .int 0 :: .ref (um 14) :: .ref (um 15) :: .ref (um 16) :: .ref (um 17) :: .ref (um 18) :: .int 0 :: .ref (um 19) :: .long 0 :: .ref (um 20) :: .ref (um 21) :: ([] : List Value)))), ((um 11), .inl (cy 0, 296, .inl (fun _ => 0)))]) (hl : lv_has ls 4 [(3, .int 0), (2, .ref qm), (1, .ref qx), (0, .ref b)]) : W p l e room_1 s m #[Value.ref b] below meth c H locs 184 18569 (lw_Z below #[Value.ref b] s) (F0 m 612 ls []) := by
  have hx := hC.1
  have hb := hC.2.1
  refine lv_aload_n hx hb dL_law_612 rfl (lv_at hl 2 rfl) ?_
  refine lv_aload_n hx hb dL_law_613 rfl (lv_at hl 3 rfl) ?_
  refine lv_iload_n hx hb dL_law_614 rfl (lv_at hl 0 rfl) ?_
  refine lv_iconst (v := 1) hx hb dL_law_615 (by decide) ?_
  refine lv_iadd hx hb dL_law_616 ?_
  refine wk_top 1 (by decide) ?_
  refine va_sld hx hb hX hbl hbA hw.2.2 (show ¬ ((1 : Int32) < 0 ∨ 6 ≤ (1 : Int32).toNatClampNeg) by decide) dL_law_617 ?_
  refine wk_top s1 hs1 ?_
  refine lv_aload_n hx hb dL_law_618 rfl (lv_at hl 3 rfl) ?_
  refine lv_iload_n hx hb dL_law_619 rfl (lv_at hl 0 rfl) ?_
  refine lv_iconst (v := 2) hx hb dL_law_620 (by decide) ?_
  refine lv_iadd hx hb dL_law_621 ?_
  refine wk_top 2 (by decide) ?_
  refine va_sld hx hb hX hbl hbA hw.2.2 (show ¬ ((2 : Int32) < 0 ∨ 6 ≤ (2 : Int32).toNatClampNeg) by decide) dL_law_622 ?_
  refine wk_top s2 hs2 ?_
  refine wk_Vi hC hK hw hA [0, 1] [2, 3] rfl rfl rfl rfl (by decide) (t_X11_step l dC dI cy qx ux s1 s2 H.size ) (cwV 2 hC.2.2.2.2 gL_law_X11_step rfl rfl rfl (by decide +kernel) ⟨Nat.le_of_ble_eq_true rfl, Nat.le_of_ble_eq_true rfl⟩) rfl 0 rfl rfl hl.1 rfl (Nat.le_of_ble_eq_true rfl) dL_law_623 184 18569 ⟨rfl, rfl⟩ ⟨Nat.le_of_ble_eq_true rfl, Nat.le_of_ble_eq_true rfl⟩ (fun r2 u1 H locs hp3 hw => ?_)
  have hw : Wd dC dI A s.heap H locs [(qm, .inr (12, (.ref (um 0) :: .int 0 :: .int 0 :: .ref (um 1) :: .ref (um 2) :: .ref (um 3) :: .ref (um 4) :: .int 0 :: .int 0 :: .int 0 :: .int 0 :: .ref (um 5) :: .ref (um 6) :: .ref (um 7) :: .int 0 :: .int 0 :: .int 0 :: .int 0 :: .int 0 :: .int 0 :: .int 0 :: .ref (um 8) :: .int 0 :: .ref (um 9) :: .int 0 :: .ref (um 10) :: .ref (um 11) :: .int 1 :: .ref (um 12) :: .ref (um 13) :: .int 0 :: .int 0 :: .ref (um 14) :: .ref (um 15) :: .ref (um 16) :: .ref (um 17) :: .ref (um 18) :: .int 0 :: .ref (um 19) :: .long 0 :: .ref (um 20) :: .ref (um 21) :: ([] : List Value)))), ((um 11), .inl (cy 0, 296, .inl (fun _ => 0))), (qx, .inr (11, [.ref (ux 0), .ref (ux 1), .ref (ux 2), .ref (ux 3), .ref (ux 4), .ref (ux 5), .ref (ux 6), .ref (ux 7), .ref (ux 8), .ref (ux 9), .ref (ux 10), .ref (ux 11), .int 0])), ((ux 4), .inr (5, [.ref (ux 27), .ref (ux 28), .ref (ux 29), .ref (ux 30), .ref (ux 31), .ref (ux 32), .ref (ux 33), .ref (ux 34), .int 0, .int 0, .int 0, .int 0, .int 0, .int 0]))] := hw
  obtain rfl : r2 = (-1) := hp3
  refine lv_aload_n hx hb dL_law_626 rfl (lv_at hl 1 rfl) ?_
  refine lv_aload_n hx hb dL_law_627 rfl (lv_at hl 3 rfl) ?_
  refine lv_iload_n hx hb dL_law_628 rfl (lv_at hl 0 rfl) ?_
  refine lv_iconst (v := 1) hx hb dL_law_629 (by decide) ?_
  refine lv_iadd hx hb dL_law_630 ?_
  refine wk_top 1 (by decide) ?_
  refine va_sld hx hb hX hbl hbA hw.2.2 (show ¬ ((1 : Int32) < 0 ∨ 6 ≤ (1 : Int32).toNatClampNeg) by decide) dL_law_631 ?_
  refine wk_top s1 hs1 ?_
  refine lv_aload_n hx hb dL_law_632 rfl (lv_at hl 3 rfl) ?_
  refine lv_iload_n hx hb dL_law_633 rfl (lv_at hl 0 rfl) ?_
  refine lv_iconst (v := 2) hx hb dL_law_634 (by decide) ?_
  refine lv_iadd hx hb dL_law_635 ?_
  refine wk_top 2 (by decide) ?_
  refine va_sld hx hb hX hbl hbA hw.2.2 (show ¬ ((2 : Int32) < 0 ∨ 6 ≤ (2 : Int32).toNatClampNeg) by decide) dL_law_636 ?_
  refine wk_top s2 hs2 ?_
  refine wk_Vi hC hK hw hA [0, 1] [2, 3] rfl rfl rfl rfl (by decide) (t_X12_step l dC dI cy qm um s1 s2 H.size ) (cwV 2 hC.2.2.2.2 gL_law_X12_step rfl rfl rfl (by decide +kernel) ⟨Nat.le_of_ble_eq_true rfl, Nat.le_of_ble_eq_true rfl⟩) rfl 0 rfl rfl hl.1 rfl (Nat.le_of_ble_eq_true rfl) dL_law_637 184 18569 ⟨rfl, rfl⟩ ⟨Nat.le_of_ble_eq_true rfl, Nat.le_of_ble_eq_true rfl⟩ (fun r5 u4 H locs hp6 hw => ?_)
  have hw : Wd dC dI A s.heap H locs [(qx, .inr (11, [.ref (ux 0), .ref (ux 1), .ref (ux 2), .ref (ux 3), .ref (ux 4), .ref (ux 5), .ref (ux 6), .ref (ux 7), .ref (ux 8), .ref (ux 9), .ref (ux 10), .ref (ux 11), .int 0])), ((ux 4), .inr (5, [.ref (ux 27), .ref (ux 28), .ref (ux 29), .ref (ux 30), .ref (ux 31), .ref (ux 32), .ref (ux 33), .ref (ux 34), .int 0, .int 0, .int 0, .int 0, .int 0, .int 0])), (qm, .inr (12, (.ref (um 0) :: .int 0 :: .int 0 :: .ref (um 1) :: .ref (um 2) :: .ref (um 3) :: .ref (um 4) :: .int 0 :: .int 0 :: .int 0 :: .int 0 :: .ref (um 5) :: .ref (um 6) :: .ref (um 7) :: .int 0 :: .int 0 :: .int 0 :: .int 0 :: .int 0 :: .int 0 :: .int 0 :: .ref (um 8) :: .int 0 :: .ref (um 9) :: .int 0 :: .ref (um 10) :: .ref (um 11) :: .int 1 :: .ref (um 12) :: .ref (um 13) :: .int 0 :: .int 0 :: .ref (um 14) :: .ref (um 15) :: .ref (um 16) :: .ref (um 17) :: .ref (um 18) :: .int 0 :: .ref (um 19) :: .long 0 :: .ref (um 20) :: .ref (um 21) :: ([] : List Value)))), ((um 11), .inl (cy 0, 296, .inl (fun _ => 0)))] := hw
  obtain rfl : r5 = (-1) := hp6
  refine lv_icmp_eq (tgt := 1252) hx hb dL_law_640 (by decide) (fun _ => ?_) (fun c => absurd (by decide) c)
  exact law_end hx hb hC hr hlocks hX hbl hbA hAe hw hl (Nat.le_of_ble_eq_true rfl) (Nat.le_of_ble_eq_true rfl)
set_option maxHeartbeats 4000000 in
set_option maxRecDepth 100000 in
theorem lc_soonest {p : Program} {e : Env} {s : State} {m : MethodId} {below : List Frame} {meth : Method} {c : Code} {l : Launch} {b : Nat} {xs : Nat → Int32} {adK adV : Nat → Nat} {dC : Nat → ClassId} {dI : Nat → Nat → Nat} {cy : Nat → ClassId} {A : Nat → Prop} (hC : CallFix p m c code 4 s #[Value.ref b] wsR RL) (hr : meth.sig.returnType = ret) (hlocks : meth.locks = false) (hK : KK dC dI cy s) (hE : SE adK adV A s s.heap) (hSR : SR adK s) (hAe : A = fun q : Nat => s.heap.size ≤ q) (hA : ∀ q : Nat, s.heap.size ≤ q → A q) (hbA : ¬ A b) (hX : va_X b 6 xs s s.heap) (hbl : b < s.heap.size) {qx qm : Nat} {ux um : Nat → Nat} {s1 : Int32} (hs1 : xs 1 = s1) {s2 : Int32} (hs2 : xs 2 = s2) {s3 : Int32} (hs3 : xs 3 = s3) {H : Heap} {locs : List Loc} {ls : Array Slot} (hw : Wd dC dI A s.heap H locs [(qx, .inr (11, [.ref (ux 0), .ref (ux 1), .ref (ux 2), .ref (ux 3), .ref (ux 4), .ref (ux 5), .ref (ux 6), .ref (ux 7), .ref (ux 8), .ref (ux 9), .ref (ux 10), .ref (ux 11), .int 0])), ((ux 4), .inr (5, [.ref (ux 27), .ref (ux 28), .ref (ux 29), .ref (ux 30), .ref (ux 31), .ref (ux 32), .ref (ux 33), .ref (ux 34), .int 0, .int 0, .int 0, .int 0, .int 0, .int 0])), ((ux 27), .inr (7, [.ref (ux 68), .ref (ux 69), .ref (ux 70), .ref (ux 71), .ref (ux 72), .ref (ux 73), .ref (ux 74), .ref (ux 75), .int 0, .int 0, .int 0, .int 0])), (qm, .inr (12, (.ref (um 0) :: .int 0 :: .int 0 :: .ref (um 1) :: .ref (um 2) :: .ref (um 3) :: .ref (um 4) :: .int 0 :: .int 0 :: .int 0 :: .int 0 :: .ref (um 5) :: .ref (um 6) :: .ref (um 7) :: .int 0 :: .int 0 :: .int 0 :: .int 0 :: .int 0 :: .int 0 :: .int 0 :: .ref (um 8) :: .int 0 :: .ref (um 9) :: .int 0 :: .ref (um 10) :: .ref (um 11) :: .int 1 :: .ref (um 12) :: .ref (um 13) :: .int 0 :: .int 0 :: .ref (um 14) :: .ref (um 15) :: .ref (um 16) :: .ref (um 17) :: .ref (um 18) :: .int 0 :: .ref (um 19) :: .long 0 :: .ref (um 20) :: .ref (um 21) :: ([] : List Value)))), ((um 11), .inl (cy 0, 296, .inl (fun _ => 0)))]) (hl : lv_has ls 4 [(3, .int 0), (2, .ref qm), (1, .ref qx), (0, .ref b)]) : W p l e room_1 s m #[Value.ref b] below meth c H locs 184 18569 (lw_Z below #[Value.ref b] s) (F0 m 645 ls []) := by
  have hx := hC.1
  have hb := hC.2.1
  refine lv_aload_n hx hb dL_law_645 rfl (lv_at hl 2 rfl) ?_
  refine lv_aload_n hx hb dL_law_646 rfl (lv_at hl 3 rfl) ?_
  refine lv_iload_n hx hb dL_law_647 rfl (lv_at hl 0 rfl) ?_
  refine lv_iconst (v := 1) hx hb dL_law_648 (by decide) ?_
  refine lv_iadd hx hb dL_law_649 ?_
  refine wk_top 1 (by decide) ?_
  refine va_sld hx hb hX hbl hbA hw.2.2 (show ¬ ((1 : Int32) < 0 ∨ 6 ≤ (1 : Int32).toNatClampNeg) by decide) dL_law_650 ?_
  refine wk_top s1 hs1 ?_
  refine lv_aload_n hx hb dL_law_651 rfl (lv_at hl 3 rfl) ?_
  refine lv_iload_n hx hb dL_law_652 rfl (lv_at hl 0 rfl) ?_
  refine lv_iconst (v := 2) hx hb dL_law_653 (by decide) ?_
  refine lv_iadd hx hb dL_law_654 ?_
  refine wk_top 2 (by decide) ?_
  refine va_sld hx hb hX hbl hbA hw.2.2 (show ¬ ((2 : Int32) < 0 ∨ 6 ≤ (2 : Int32).toNatClampNeg) by decide) dL_law_655 ?_
  refine wk_top s2 hs2 ?_
  refine lv_aload_n hx hb dL_law_656 rfl (lv_at hl 3 rfl) ?_
  refine lv_iload_n hx hb dL_law_657 rfl (lv_at hl 0 rfl) ?_
  refine lv_iconst (v := 3) hx hb dL_law_658 (by decide) ?_
  refine lv_iadd hx hb dL_law_659 ?_
  refine wk_top 3 (by decide) ?_
  refine va_sld hx hb hX hbl hbA hw.2.2 (show ¬ ((3 : Int32) < 0 ∨ 6 ≤ (3 : Int32).toNatClampNeg) by decide) dL_law_660 ?_
  refine wk_top s3 hs3 ?_
  refine wk_Vi hC hK hw hA [0, 1, 2] [3, 4] rfl rfl rfl rfl (by decide) (t_X11_soonest l dC dI cy qx ux s1 s2 s3 H.size ) (cwV 3 hC.2.2.2.2 gL_law_X11_soonest rfl rfl rfl (by decide +kernel) ⟨Nat.le_of_ble_eq_true rfl, Nat.le_of_ble_eq_true rfl⟩) rfl 0 rfl rfl hl.1 rfl (Nat.le_of_ble_eq_true rfl) dL_law_661 184 18569 ⟨rfl, rfl⟩ ⟨Nat.le_of_ble_eq_true rfl, Nat.le_of_ble_eq_true rfl⟩ (fun r2 u1 H locs hp3 hw => ?_)
  have hw : Wd dC dI A s.heap H locs [(qm, .inr (12, (.ref (um 0) :: .int 0 :: .int 0 :: .ref (um 1) :: .ref (um 2) :: .ref (um 3) :: .ref (um 4) :: .int 0 :: .int 0 :: .int 0 :: .int 0 :: .ref (um 5) :: .ref (um 6) :: .ref (um 7) :: .int 0 :: .int 0 :: .int 0 :: .int 0 :: .int 0 :: .int 0 :: .int 0 :: .ref (um 8) :: .int 0 :: .ref (um 9) :: .int 0 :: .ref (um 10) :: .ref (um 11) :: .int 1 :: .ref (um 12) :: .ref (um 13) :: .int 0 :: .int 0 :: .ref (um 14) :: .ref (um 15) :: .ref (um 16) :: .ref (um 17) :: .ref (um 18) :: .int 0 :: .ref (um 19) :: .long 0 :: .ref (um 20) :: .ref (um 21) :: ([] : List Value)))), ((um 11), .inl (cy 0, 296, .inl (fun _ => 0))), (qx, .inr (11, [.ref (ux 0), .ref (ux 1), .ref (ux 2), .ref (ux 3), .ref (ux 4), .ref (ux 5), .ref (ux 6), .ref (ux 7), .ref (ux 8), .ref (ux 9), .ref (ux 10), .ref (ux 11), .int 0])), ((ux 4), .inr (5, [.ref (ux 27), .ref (ux 28), .ref (ux 29), .ref (ux 30), .ref (ux 31), .ref (ux 32), .ref (ux 33), .ref (ux 34), .int 0, .int 0, .int 0, .int 0, .int 0, .int 0])), ((ux 27), .inr (7, [.ref (ux 68), .ref (ux 69), .ref (ux 70), .ref (ux 71), .ref (ux 72), .ref (ux 73), .ref (ux 74), .ref (ux 75), .int 0, .int 0, .int 0, .int 0]))] := hw
  obtain rfl : r2 = (-1) := hp3
  refine lv_aload_n hx hb dL_law_664 rfl (lv_at hl 1 rfl) ?_
  refine lv_aload_n hx hb dL_law_665 rfl (lv_at hl 3 rfl) ?_
  refine lv_iload_n hx hb dL_law_666 rfl (lv_at hl 0 rfl) ?_
  refine lv_iconst (v := 1) hx hb dL_law_667 (by decide) ?_
  refine lv_iadd hx hb dL_law_668 ?_
  refine wk_top 1 (by decide) ?_
  refine va_sld hx hb hX hbl hbA hw.2.2 (show ¬ ((1 : Int32) < 0 ∨ 6 ≤ (1 : Int32).toNatClampNeg) by decide) dL_law_669 ?_
  refine wk_top s1 hs1 ?_
  refine lv_aload_n hx hb dL_law_670 rfl (lv_at hl 3 rfl) ?_
  refine lv_iload_n hx hb dL_law_671 rfl (lv_at hl 0 rfl) ?_
  refine lv_iconst (v := 2) hx hb dL_law_672 (by decide) ?_
  refine lv_iadd hx hb dL_law_673 ?_
  refine wk_top 2 (by decide) ?_
  refine va_sld hx hb hX hbl hbA hw.2.2 (show ¬ ((2 : Int32) < 0 ∨ 6 ≤ (2 : Int32).toNatClampNeg) by decide) dL_law_674 ?_
  refine wk_top s2 hs2 ?_
  refine lv_aload_n hx hb dL_law_675 rfl (lv_at hl 3 rfl) ?_
  refine lv_iload_n hx hb dL_law_676 rfl (lv_at hl 0 rfl) ?_
  refine lv_iconst (v := 3) hx hb dL_law_677 (by decide) ?_
  refine lv_iadd hx hb dL_law_678 ?_
  refine wk_top 3 (by decide) ?_
  refine va_sld hx hb hX hbl hbA hw.2.2 (show ¬ ((3 : Int32) < 0 ∨ 6 ≤ (3 : Int32).toNatClampNeg) by decide) dL_law_679 ?_
  refine wk_top s3 hs3 ?_
  refine wk_Vi hC hK hw hA [0, 1] [2, 3, 4] rfl rfl rfl rfl (by decide) (t_X12_soonest l dC dI cy qm um s1 s2 s3 H.size ) (cwV 3 hC.2.2.2.2 gL_law_X12_soonest rfl rfl rfl (by decide +kernel) ⟨Nat.le_of_ble_eq_true rfl, Nat.le_of_ble_eq_true rfl⟩) rfl 0 rfl rfl hl.1 rfl (Nat.le_of_ble_eq_true rfl) dL_law_680 184 18569 ⟨rfl, rfl⟩ ⟨Nat.le_of_ble_eq_true rfl, Nat.le_of_ble_eq_true rfl⟩ (fun r5 u4 H locs hp6 hw => ?_)
  have hw : Wd dC dI A s.heap H locs [(qx, .inr (11, [.ref (ux 0), .ref (ux 1), .ref (ux 2), .ref (ux 3), .ref (ux 4), .ref (ux 5), .ref (ux 6), .ref (ux 7), .ref (ux 8), .ref (ux 9), .ref (ux 10), .ref (ux 11), .int 0])), ((ux 4), .inr (5, [.ref (ux 27), .ref (ux 28), .ref (ux 29), .ref (ux 30), .ref (ux 31), .ref (ux 32), .ref (ux 33), .ref (ux 34), .int 0, .int 0, .int 0, .int 0, .int 0, .int 0])), ((ux 27), .inr (7, [.ref (ux 68), .ref (ux 69), .ref (ux 70), .ref (ux 71), .ref (ux 72), .ref (ux 73), .ref (ux 74), .ref (ux 75), .int 0, .int 0, .int 0, .int 0])), (qm, .inr (12, (.ref (um 0) :: .int 0 :: .int 0 :: .ref (um 1) :: .ref (um 2) :: .ref (um 3) :: .ref (um 4) :: .int 0 :: .int 0 :: .int 0 :: .int 0 :: .ref (um 5) :: .ref (um 6) :: .ref (um 7) :: .int 0 :: .int 0 :: .int 0 :: .int 0 :: .int 0 :: .int 0 :: .int 0 :: .ref (um 8) :: .int 0 :: .ref (um 9) :: .int 0 :: .ref (um 10) :: .ref (um 11) :: .int 1 :: .ref (um 12) :: .ref (um 13) :: .int 0 :: .int 0 :: .ref (um 14) :: .ref (um 15) :: .ref (um 16) :: .ref (um 17) :: .ref (um 18) :: .int 0 :: .ref (um 19) :: .long 0 :: .ref (um 20) :: .ref (um 21) :: ([] : List Value)))), ((um 11), .inl (cy 0, 296, .inl (fun _ => 0)))] := hw
  obtain rfl : r5 = (-1) := hp6
  refine lv_icmp_eq (tgt := 1252) hx hb dL_law_683 (by decide) (fun _ => ?_) (fun c => absurd (by decide) c)
  exact law_end hx hb hC hr hlocks hX hbl hbA hAe hw hl (Nat.le_of_ble_eq_true rfl) (Nat.le_of_ble_eq_true rfl)
set_option maxHeartbeats 4000000 in
set_option maxRecDepth 100000 in
theorem lc_way {p : Program} {e : Env} {s : State} {m : MethodId} {below : List Frame} {meth : Method} {c : Code} {l : Launch} {b : Nat} {xs : Nat → Int32} {adK adV : Nat → Nat} {dC : Nat → ClassId} {dI : Nat → Nat → Nat} {cy : Nat → ClassId} {A : Nat → Prop} (hC : CallFix p m c code 4 s #[Value.ref b] wsR RL) (hr : meth.sig.returnType = ret) (hlocks : meth.locks = false) (hK : KK dC dI cy s) (hE : SE adK adV A s s.heap) (hSR : SR adK s) (hAe : A = fun q : Nat => s.heap.size ≤ q) (hA : ∀ q : Nat, s.heap.size ≤ q → A q) (hbA : ¬ A b) (hX : va_X b 6 xs s s.heap) (hbl : b < s.heap.size) {qx qm : Nat} {ux um : Nat → Nat} {s1 : Int32} (hs1 : xs 1 = s1) {s2 : Int32} (hs2 : xs 2 = s2) {s3 : Int32} (hs3 : xs 3 = s3) {s4 : Int32} (hs4 : xs 4 = s4) {H : Heap} {locs : List Loc} {ls : Array Slot} (hw : Wd dC dI A s.heap H locs [(qx, .inr (11, [.ref (ux 0), .ref (ux 1), .ref (ux 2), .ref (ux 3), .ref (ux 4), .ref (ux 5), .ref (ux 6), .ref (ux 7), .ref (ux 8), .ref (ux 9), .ref (ux 10), .ref (ux 11), .int 0])), ((ux 4), .inr (5, [.ref (ux 27), .ref (ux 28), .ref (ux 29), .ref (ux 30), .ref (ux 31), .ref (ux 32), .ref (ux 33), .ref (ux 34), .int 0, .int 0, .int 0, .int 0, .int 0, .int 0])), ((ux 27), .inr (7, [.ref (ux 68), .ref (ux 69), .ref (ux 70), .ref (ux 71), .ref (ux 72), .ref (ux 73), .ref (ux 74), .ref (ux 75), .int 0, .int 0, .int 0, .int 0])), (qm, .inr (12, (.ref (um 0) :: .int 0 :: .int 0 :: .ref (um 1) :: .ref (um 2) :: .ref (um 3) :: .ref (um 4) :: .int 0 :: .int 0 :: .int 0 :: .int 0 :: .ref (um 5) :: .ref (um 6) :: .ref (um 7) :: .int 0 :: .int 0 :: .int 0 :: .int 0 :: .int 0 :: .int 0 :: .int 0 :: .ref (um 8) :: .int 0 :: .ref (um 9) :: .int 0 :: .ref (um 10) :: .ref (um 11) :: .int 1 :: .ref (um 12) :: .ref (um 13) :: .int 0 :: .int 0 :: .ref (um 14) :: .ref (um 15) :: .ref (um 16) :: .ref (um 17) :: .ref (um 18) :: .int 0 :: .ref (um 19) :: .long 0 :: .ref (um 20) :: .ref (um 21) :: ([] : List Value)))), ((um 11), .inl (cy 0, 296, .inl (fun _ => 0)))]) (hl : lv_has ls 4 [(3, .int 0), (2, .ref qm), (1, .ref qx), (0, .ref b)]) : W p l e room_1 s m #[Value.ref b] below meth c H locs 184 18569 (lw_Z below #[Value.ref b] s) (F0 m 688 ls []) := by
  have hx := hC.1
  have hb := hC.2.1
  refine lv_aload_n hx hb dL_law_688 rfl (lv_at hl 2 rfl) ?_
  refine lv_aload_n hx hb dL_law_689 rfl (lv_at hl 3 rfl) ?_
  refine lv_iload_n hx hb dL_law_690 rfl (lv_at hl 0 rfl) ?_
  refine lv_iconst (v := 1) hx hb dL_law_691 (by decide) ?_
  refine lv_iadd hx hb dL_law_692 ?_
  refine wk_top 1 (by decide) ?_
  refine va_sld hx hb hX hbl hbA hw.2.2 (show ¬ ((1 : Int32) < 0 ∨ 6 ≤ (1 : Int32).toNatClampNeg) by decide) dL_law_693 ?_
  refine wk_top s1 hs1 ?_
  refine lv_aload_n hx hb dL_law_694 rfl (lv_at hl 3 rfl) ?_
  refine lv_iload_n hx hb dL_law_695 rfl (lv_at hl 0 rfl) ?_
  refine lv_iconst (v := 2) hx hb dL_law_696 (by decide) ?_
  refine lv_iadd hx hb dL_law_697 ?_
  refine wk_top 2 (by decide) ?_
  refine va_sld hx hb hX hbl hbA hw.2.2 (show ¬ ((2 : Int32) < 0 ∨ 6 ≤ (2 : Int32).toNatClampNeg) by decide) dL_law_698 ?_
  refine wk_top s2 hs2 ?_
  refine lv_aload_n hx hb dL_law_699 rfl (lv_at hl 3 rfl) ?_
  refine lv_iload_n hx hb dL_law_700 rfl (lv_at hl 0 rfl) ?_
  refine lv_iconst (v := 3) hx hb dL_law_701 (by decide) ?_
  refine lv_iadd hx hb dL_law_702 ?_
  refine wk_top 3 (by decide) ?_
  refine va_sld hx hb hX hbl hbA hw.2.2 (show ¬ ((3 : Int32) < 0 ∨ 6 ≤ (3 : Int32).toNatClampNeg) by decide) dL_law_703 ?_
  refine wk_top s3 hs3 ?_
  refine lv_aload_n hx hb dL_law_704 rfl (lv_at hl 3 rfl) ?_
  refine lv_iload_n hx hb dL_law_705 rfl (lv_at hl 0 rfl) ?_
  refine lv_iconst (v := 4) hx hb dL_law_706 (by decide) ?_
  refine lv_iadd hx hb dL_law_707 ?_
  refine wk_top 4 (by decide) ?_
  refine va_sld hx hb hX hbl hbA hw.2.2 (show ¬ ((4 : Int32) < 0 ∨ 6 ≤ (4 : Int32).toNatClampNeg) by decide) dL_law_708 ?_
  refine wk_top s4 hs4 ?_
  refine wk_Vi hC hK hw hA [0, 1, 2] [3, 4] rfl rfl rfl rfl (by decide) (t_X11_way l dC dI cy qx ux s1 s2 s3 s4 H.size ) (cwV 4 hC.2.2.2.2 gL_law_X11_way rfl rfl rfl (by decide +kernel) ⟨Nat.le_of_ble_eq_true rfl, Nat.le_of_ble_eq_true rfl⟩) rfl 0 rfl rfl hl.1 rfl (Nat.le_of_ble_eq_true rfl) dL_law_709 184 18569 ⟨rfl, rfl⟩ ⟨Nat.le_of_ble_eq_true rfl, Nat.le_of_ble_eq_true rfl⟩ (fun r2 u1 H locs hp3 hw => ?_)
  have hw : Wd dC dI A s.heap H locs [(qm, .inr (12, (.ref (um 0) :: .int 0 :: .int 0 :: .ref (um 1) :: .ref (um 2) :: .ref (um 3) :: .ref (um 4) :: .int 0 :: .int 0 :: .int 0 :: .int 0 :: .ref (um 5) :: .ref (um 6) :: .ref (um 7) :: .int 0 :: .int 0 :: .int 0 :: .int 0 :: .int 0 :: .int 0 :: .int 0 :: .ref (um 8) :: .int 0 :: .ref (um 9) :: .int 0 :: .ref (um 10) :: .ref (um 11) :: .int 1 :: .ref (um 12) :: .ref (um 13) :: .int 0 :: .int 0 :: .ref (um 14) :: .ref (um 15) :: .ref (um 16) :: .ref (um 17) :: .ref (um 18) :: .int 0 :: .ref (um 19) :: .long 0 :: .ref (um 20) :: .ref (um 21) :: ([] : List Value)))), ((um 11), .inl (cy 0, 296, .inl (fun _ => 0))), (qx, .inr (11, [.ref (ux 0), .ref (ux 1), .ref (ux 2), .ref (ux 3), .ref (ux 4), .ref (ux 5), .ref (ux 6), .ref (ux 7), .ref (ux 8), .ref (ux 9), .ref (ux 10), .ref (ux 11), .int 0])), ((ux 4), .inr (5, [.ref (ux 27), .ref (ux 28), .ref (ux 29), .ref (ux 30), .ref (ux 31), .ref (ux 32), .ref (ux 33), .ref (ux 34), .int 0, .int 0, .int 0, .int 0, .int 0, .int 0])), ((ux 27), .inr (7, [.ref (ux 68), .ref (ux 69), .ref (ux 70), .ref (ux 71), .ref (ux 72), .ref (ux 73), .ref (ux 74), .ref (ux 75), .int 0, .int 0, .int 0, .int 0]))] := hw
  obtain rfl : r2 = (-1) := hp3
  refine lv_aload_n hx hb dL_law_712 rfl (lv_at hl 1 rfl) ?_
  refine lv_aload_n hx hb dL_law_713 rfl (lv_at hl 3 rfl) ?_
  refine lv_iload_n hx hb dL_law_714 rfl (lv_at hl 0 rfl) ?_
  refine lv_iconst (v := 1) hx hb dL_law_715 (by decide) ?_
  refine lv_iadd hx hb dL_law_716 ?_
  refine wk_top 1 (by decide) ?_
  refine va_sld hx hb hX hbl hbA hw.2.2 (show ¬ ((1 : Int32) < 0 ∨ 6 ≤ (1 : Int32).toNatClampNeg) by decide) dL_law_717 ?_
  refine wk_top s1 hs1 ?_
  refine lv_aload_n hx hb dL_law_718 rfl (lv_at hl 3 rfl) ?_
  refine lv_iload_n hx hb dL_law_719 rfl (lv_at hl 0 rfl) ?_
  refine lv_iconst (v := 2) hx hb dL_law_720 (by decide) ?_
  refine lv_iadd hx hb dL_law_721 ?_
  refine wk_top 2 (by decide) ?_
  refine va_sld hx hb hX hbl hbA hw.2.2 (show ¬ ((2 : Int32) < 0 ∨ 6 ≤ (2 : Int32).toNatClampNeg) by decide) dL_law_722 ?_
  refine wk_top s2 hs2 ?_
  refine lv_aload_n hx hb dL_law_723 rfl (lv_at hl 3 rfl) ?_
  refine lv_iload_n hx hb dL_law_724 rfl (lv_at hl 0 rfl) ?_
  refine lv_iconst (v := 3) hx hb dL_law_725 (by decide) ?_
  refine lv_iadd hx hb dL_law_726 ?_
  refine wk_top 3 (by decide) ?_
  refine va_sld hx hb hX hbl hbA hw.2.2 (show ¬ ((3 : Int32) < 0 ∨ 6 ≤ (3 : Int32).toNatClampNeg) by decide) dL_law_727 ?_
  refine wk_top s3 hs3 ?_
  refine lv_aload_n hx hb dL_law_728 rfl (lv_at hl 3 rfl) ?_
  refine lv_iload_n hx hb dL_law_729 rfl (lv_at hl 0 rfl) ?_
  refine lv_iconst (v := 4) hx hb dL_law_730 (by decide) ?_
  refine lv_iadd hx hb dL_law_731 ?_
  refine wk_top 4 (by decide) ?_
  refine va_sld hx hb hX hbl hbA hw.2.2 (show ¬ ((4 : Int32) < 0 ∨ 6 ≤ (4 : Int32).toNatClampNeg) by decide) dL_law_732 ?_
  refine wk_top s4 hs4 ?_
  refine wk_Vi hC hK hw hA [0, 1] [2, 3, 4] rfl rfl rfl rfl (by decide) (t_X12_way l dC dI cy qm um s1 s2 s3 s4 H.size ) (cwV 4 hC.2.2.2.2 gL_law_X12_way rfl rfl rfl (by decide +kernel) ⟨Nat.le_of_ble_eq_true rfl, Nat.le_of_ble_eq_true rfl⟩) rfl 0 rfl rfl hl.1 rfl (Nat.le_of_ble_eq_true rfl) dL_law_733 184 18569 ⟨rfl, rfl⟩ ⟨Nat.le_of_ble_eq_true rfl, Nat.le_of_ble_eq_true rfl⟩ (fun r5 u4 H locs hp6 hw => ?_)
  have hw : Wd dC dI A s.heap H locs [(qx, .inr (11, [.ref (ux 0), .ref (ux 1), .ref (ux 2), .ref (ux 3), .ref (ux 4), .ref (ux 5), .ref (ux 6), .ref (ux 7), .ref (ux 8), .ref (ux 9), .ref (ux 10), .ref (ux 11), .int 0])), ((ux 4), .inr (5, [.ref (ux 27), .ref (ux 28), .ref (ux 29), .ref (ux 30), .ref (ux 31), .ref (ux 32), .ref (ux 33), .ref (ux 34), .int 0, .int 0, .int 0, .int 0, .int 0, .int 0])), ((ux 27), .inr (7, [.ref (ux 68), .ref (ux 69), .ref (ux 70), .ref (ux 71), .ref (ux 72), .ref (ux 73), .ref (ux 74), .ref (ux 75), .int 0, .int 0, .int 0, .int 0])), (qm, .inr (12, (.ref (um 0) :: .int 0 :: .int 0 :: .ref (um 1) :: .ref (um 2) :: .ref (um 3) :: .ref (um 4) :: .int 0 :: .int 0 :: .int 0 :: .int 0 :: .ref (um 5) :: .ref (um 6) :: .ref (um 7) :: .int 0 :: .int 0 :: .int 0 :: .int 0 :: .int 0 :: .int 0 :: .int 0 :: .ref (um 8) :: .int 0 :: .ref (um 9) :: .int 0 :: .ref (um 10) :: .ref (um 11) :: .int 1 :: .ref (um 12) :: .ref (um 13) :: .int 0 :: .int 0 :: .ref (um 14) :: .ref (um 15) :: .ref (um 16) :: .ref (um 17) :: .ref (um 18) :: .int 0 :: .ref (um 19) :: .long 0 :: .ref (um 20) :: .ref (um 21) :: ([] : List Value)))), ((um 11), .inl (cy 0, 296, .inl (fun _ => 0)))] := hw
  obtain rfl : r5 = (-1) := hp6
  refine lv_icmp_eq (tgt := 1252) hx hb dL_law_736 (by decide) (fun _ => ?_) (fun c => absurd (by decide) c)
  exact law_end hx hb hC hr hlocks hX hbl hbA hAe hw hl (Nat.le_of_ble_eq_true rfl) (Nat.le_of_ble_eq_true rfl)
set_option maxHeartbeats 4000000 in
set_option maxRecDepth 100000 in
theorem lc_comes {p : Program} {e : Env} {s : State} {m : MethodId} {below : List Frame} {meth : Method} {c : Code} {l : Launch} {b : Nat} {xs : Nat → Int32} {adK adV : Nat → Nat} {dC : Nat → ClassId} {dI : Nat → Nat → Nat} {cy : Nat → ClassId} {A : Nat → Prop} (hC : CallFix p m c code 4 s #[Value.ref b] wsR RL) (hr : meth.sig.returnType = ret) (hlocks : meth.locks = false) (hK : KK dC dI cy s) (hE : SE adK adV A s s.heap) (hSR : SR adK s) (hAe : A = fun q : Nat => s.heap.size ≤ q) (hA : ∀ q : Nat, s.heap.size ≤ q → A q) (hbA : ¬ A b) (hX : va_X b 6 xs s s.heap) (hbl : b < s.heap.size) {qx qm : Nat} {ux um : Nat → Nat} {s1 : Int32} (hs1 : xs 1 = s1) {s2 : Int32} (hs2 : xs 2 = s2) {s3 : Int32} (hs3 : xs 3 = s3) {H : Heap} {locs : List Loc} {ls : Array Slot} (hw : Wd dC dI A s.heap H locs [(qx, .inr (11, [.ref (ux 0), .ref (ux 1), .ref (ux 2), .ref (ux 3), .ref (ux 4), .ref (ux 5), .ref (ux 6), .ref (ux 7), .ref (ux 8), .ref (ux 9), .ref (ux 10), .ref (ux 11), .int 0])), ((ux 4), .inr (5, [.ref (ux 27), .ref (ux 28), .ref (ux 29), .ref (ux 30), .ref (ux 31), .ref (ux 32), .ref (ux 33), .ref (ux 34), .int 0, .int 0, .int 0, .int 0, .int 0, .int 0])), (qm, .inr (12, (.ref (um 0) :: .int 0 :: .int 0 :: .ref (um 1) :: .ref (um 2) :: .ref (um 3) :: .ref (um 4) :: .int 0 :: .int 0 :: .int 0 :: .int 0 :: .ref (um 5) :: .ref (um 6) :: .ref (um 7) :: .int 0 :: .int 0 :: .int 0 :: .int 0 :: .int 0 :: .int 0 :: .int 0 :: .ref (um 8) :: .int 0 :: .ref (um 9) :: .int 0 :: .ref (um 10) :: .ref (um 11) :: .int 1 :: .ref (um 12) :: .ref (um 13) :: .int 0 :: .int 0 :: .ref (um 14) :: .ref (um 15) :: .ref (um 16) :: .ref (um 17) :: .ref (um 18) :: .int 0 :: .ref (um 19) :: .long 0 :: .ref (um 20) :: .ref (um 21) :: ([] : List Value)))), ((um 11), .inl (cy 0, 296, .inl (fun _ => 0)))]) (hl : lv_has ls 4 [(3, .int 0), (2, .ref qm), (1, .ref qx), (0, .ref b)]) : W p l e room_1 s m #[Value.ref b] below meth c H locs 184 18569 (lw_Z below #[Value.ref b] s) (F0 m 741 ls []) := by
  have hx := hC.1
  have hb := hC.2.1
  refine lv_aload_n hx hb dL_law_741 rfl (lv_at hl 2 rfl) ?_
  refine lv_aload_n hx hb dL_law_742 rfl (lv_at hl 3 rfl) ?_
  refine lv_iload_n hx hb dL_law_743 rfl (lv_at hl 0 rfl) ?_
  refine lv_iconst (v := 1) hx hb dL_law_744 (by decide) ?_
  refine lv_iadd hx hb dL_law_745 ?_
  refine wk_top 1 (by decide) ?_
  refine va_sld hx hb hX hbl hbA hw.2.2 (show ¬ ((1 : Int32) < 0 ∨ 6 ≤ (1 : Int32).toNatClampNeg) by decide) dL_law_746 ?_
  refine wk_top s1 hs1 ?_
  refine lv_aload_n hx hb dL_law_747 rfl (lv_at hl 3 rfl) ?_
  refine lv_iload_n hx hb dL_law_748 rfl (lv_at hl 0 rfl) ?_
  refine lv_iconst (v := 2) hx hb dL_law_749 (by decide) ?_
  refine lv_iadd hx hb dL_law_750 ?_
  refine wk_top 2 (by decide) ?_
  refine va_sld hx hb hX hbl hbA hw.2.2 (show ¬ ((2 : Int32) < 0 ∨ 6 ≤ (2 : Int32).toNatClampNeg) by decide) dL_law_751 ?_
  refine wk_top s2 hs2 ?_
  refine lv_aload_n hx hb dL_law_752 rfl (lv_at hl 3 rfl) ?_
  refine lv_iload_n hx hb dL_law_753 rfl (lv_at hl 0 rfl) ?_
  refine lv_iconst (v := 3) hx hb dL_law_754 (by decide) ?_
  refine lv_iadd hx hb dL_law_755 ?_
  refine wk_top 3 (by decide) ?_
  refine va_sld hx hb hX hbl hbA hw.2.2 (show ¬ ((3 : Int32) < 0 ∨ 6 ≤ (3 : Int32).toNatClampNeg) by decide) dL_law_756 ?_
  refine wk_top s3 hs3 ?_
  refine wk_Vi hC hK hw hA [0, 1] [2, 3] rfl rfl rfl rfl (by decide) (t_X11_comes l dC dI cy qx ux s1 s2 s3 H.size ) (cwV 3 hC.2.2.2.2 gL_law_X11_comes rfl rfl rfl (by decide +kernel) ⟨Nat.le_of_ble_eq_true rfl, Nat.le_of_ble_eq_true rfl⟩) rfl 0 rfl rfl hl.1 rfl (Nat.le_of_ble_eq_true rfl) dL_law_757 184 18569 ⟨rfl, rfl⟩ ⟨Nat.le_of_ble_eq_true rfl, Nat.le_of_ble_eq_true rfl⟩ (fun r2 u1 H locs hp3 hw => ?_)
  have hw : Wd dC dI A s.heap H locs [(qm, .inr (12, (.ref (um 0) :: .int 0 :: .int 0 :: .ref (um 1) :: .ref (um 2) :: .ref (um 3) :: .ref (um 4) :: .int 0 :: .int 0 :: .int 0 :: .int 0 :: .ref (um 5) :: .ref (um 6) :: .ref (um 7) :: .int 0 :: .int 0 :: .int 0 :: .int 0 :: .int 0 :: .int 0 :: .int 0 :: .ref (um 8) :: .int 0 :: .ref (um 9) :: .int 0 :: .ref (um 10) :: .ref (um 11) :: .int 1 :: .ref (um 12) :: .ref (um 13) :: .int 0 :: .int 0 :: .ref (um 14) :: .ref (um 15) :: .ref (um 16) :: .ref (um 17) :: .ref (um 18) :: .int 0 :: .ref (um 19) :: .long 0 :: .ref (um 20) :: .ref (um 21) :: ([] : List Value)))), ((um 11), .inl (cy 0, 296, .inl (fun _ => 0))), (qx, .inr (11, [.ref (ux 0), .ref (ux 1), .ref (ux 2), .ref (ux 3), .ref (ux 4), .ref (ux 5), .ref (ux 6), .ref (ux 7), .ref (ux 8), .ref (ux 9), .ref (ux 10), .ref (ux 11), .int 0])), ((ux 4), .inr (5, [.ref (ux 27), .ref (ux 28), .ref (ux 29), .ref (ux 30), .ref (ux 31), .ref (ux 32), .ref (ux 33), .ref (ux 34), .int 0, .int 0, .int 0, .int 0, .int 0, .int 0]))] := hw
  obtain rfl : r2 = (-1) := hp3
  refine lv_aload_n hx hb dL_law_760 rfl (lv_at hl 1 rfl) ?_
  refine lv_aload_n hx hb dL_law_761 rfl (lv_at hl 3 rfl) ?_
  refine lv_iload_n hx hb dL_law_762 rfl (lv_at hl 0 rfl) ?_
  refine lv_iconst (v := 1) hx hb dL_law_763 (by decide) ?_
  refine lv_iadd hx hb dL_law_764 ?_
  refine wk_top 1 (by decide) ?_
  refine va_sld hx hb hX hbl hbA hw.2.2 (show ¬ ((1 : Int32) < 0 ∨ 6 ≤ (1 : Int32).toNatClampNeg) by decide) dL_law_765 ?_
  refine wk_top s1 hs1 ?_
  refine lv_aload_n hx hb dL_law_766 rfl (lv_at hl 3 rfl) ?_
  refine lv_iload_n hx hb dL_law_767 rfl (lv_at hl 0 rfl) ?_
  refine lv_iconst (v := 2) hx hb dL_law_768 (by decide) ?_
  refine lv_iadd hx hb dL_law_769 ?_
  refine wk_top 2 (by decide) ?_
  refine va_sld hx hb hX hbl hbA hw.2.2 (show ¬ ((2 : Int32) < 0 ∨ 6 ≤ (2 : Int32).toNatClampNeg) by decide) dL_law_770 ?_
  refine wk_top s2 hs2 ?_
  refine lv_aload_n hx hb dL_law_771 rfl (lv_at hl 3 rfl) ?_
  refine lv_iload_n hx hb dL_law_772 rfl (lv_at hl 0 rfl) ?_
  refine lv_iconst (v := 3) hx hb dL_law_773 (by decide) ?_
  refine lv_iadd hx hb dL_law_774 ?_
  refine wk_top 3 (by decide) ?_
  refine va_sld hx hb hX hbl hbA hw.2.2 (show ¬ ((3 : Int32) < 0 ∨ 6 ≤ (3 : Int32).toNatClampNeg) by decide) dL_law_775 ?_
  refine wk_top s3 hs3 ?_
  refine wk_Vi hC hK hw hA [0, 1] [2, 3] rfl rfl rfl rfl (by decide) (t_X12_comes l dC dI cy qm um s1 s2 s3 H.size ) (cwV 3 hC.2.2.2.2 gL_law_X12_comes rfl rfl rfl (by decide +kernel) ⟨Nat.le_of_ble_eq_true rfl, Nat.le_of_ble_eq_true rfl⟩) rfl 0 rfl rfl hl.1 rfl (Nat.le_of_ble_eq_true rfl) dL_law_776 184 18569 ⟨rfl, rfl⟩ ⟨Nat.le_of_ble_eq_true rfl, Nat.le_of_ble_eq_true rfl⟩ (fun r5 u4 H locs hp6 hw => ?_)
  have hw : Wd dC dI A s.heap H locs [(qx, .inr (11, [.ref (ux 0), .ref (ux 1), .ref (ux 2), .ref (ux 3), .ref (ux 4), .ref (ux 5), .ref (ux 6), .ref (ux 7), .ref (ux 8), .ref (ux 9), .ref (ux 10), .ref (ux 11), .int 0])), ((ux 4), .inr (5, [.ref (ux 27), .ref (ux 28), .ref (ux 29), .ref (ux 30), .ref (ux 31), .ref (ux 32), .ref (ux 33), .ref (ux 34), .int 0, .int 0, .int 0, .int 0, .int 0, .int 0])), (qm, .inr (12, (.ref (um 0) :: .int 0 :: .int 0 :: .ref (um 1) :: .ref (um 2) :: .ref (um 3) :: .ref (um 4) :: .int 0 :: .int 0 :: .int 0 :: .int 0 :: .ref (um 5) :: .ref (um 6) :: .ref (um 7) :: .int 0 :: .int 0 :: .int 0 :: .int 0 :: .int 0 :: .int 0 :: .int 0 :: .ref (um 8) :: .int 0 :: .ref (um 9) :: .int 0 :: .ref (um 10) :: .ref (um 11) :: .int 1 :: .ref (um 12) :: .ref (um 13) :: .int 0 :: .int 0 :: .ref (um 14) :: .ref (um 15) :: .ref (um 16) :: .ref (um 17) :: .ref (um 18) :: .int 0 :: .ref (um 19) :: .long 0 :: .ref (um 20) :: .ref (um 21) :: ([] : List Value)))), ((um 11), .inl (cy 0, 296, .inl (fun _ => 0)))] := hw
  obtain rfl : r5 = (-1) := hp6
  refine lv_icmp_eq (tgt := 1252) hx hb dL_law_779 (by decide) (fun _ => ?_) (fun c => absurd (by decide) c)
  exact law_end hx hb hC hr hlocks hX hbl hbA hAe hw hl (Nat.le_of_ble_eq_true rfl) (Nat.le_of_ble_eq_true rfl)
set_option maxHeartbeats 4000000 in
set_option maxRecDepth 100000 in
theorem lc_round {p : Program} {e : Env} {s : State} {m : MethodId} {below : List Frame} {meth : Method} {c : Code} {l : Launch} {b : Nat} {xs : Nat → Int32} {adK adV : Nat → Nat} {dC : Nat → ClassId} {dI : Nat → Nat → Nat} {cy : Nat → ClassId} {A : Nat → Prop} (hC : CallFix p m c code 4 s #[Value.ref b] wsR RL) (hr : meth.sig.returnType = ret) (hlocks : meth.locks = false) (hK : KK dC dI cy s) (hE : SE adK adV A s s.heap) (hSR : SR adK s) (hAe : A = fun q : Nat => s.heap.size ≤ q) (hA : ∀ q : Nat, s.heap.size ≤ q → A q) (hbA : ¬ A b) (hX : va_X b 6 xs s s.heap) (hbl : b < s.heap.size) {qx qm : Nat} {ux um : Nat → Nat} {s1 : Int32} (hs1 : xs 1 = s1) {s2 : Int32} (hs2 : xs 2 = s2) {H : Heap} {locs : List Loc} {ls : Array Slot} (hw : Wd dC dI A s.heap H locs [(qx, .inr (11, [.ref (ux 0), .ref (ux 1), .ref (ux 2), .ref (ux 3), .ref (ux 4), .ref (ux 5), .ref (ux 6), .ref (ux 7), .ref (ux 8), .ref (ux 9), .ref (ux 10), .ref (ux 11), .int 0])), ((ux 4), .inr (5, [.ref (ux 27), .ref (ux 28), .ref (ux 29), .ref (ux 30), .ref (ux 31), .ref (ux 32), .ref (ux 33), .ref (ux 34), .int 0, .int 0, .int 0, .int 0, .int 0, .int 0])), (qm, .inr (12, (.ref (um 0) :: .int 0 :: .int 0 :: .ref (um 1) :: .ref (um 2) :: .ref (um 3) :: .ref (um 4) :: .int 0 :: .int 0 :: .int 0 :: .int 0 :: .ref (um 5) :: .ref (um 6) :: .ref (um 7) :: .int 0 :: .int 0 :: .int 0 :: .int 0 :: .int 0 :: .int 0 :: .int 0 :: .ref (um 8) :: .int 0 :: .ref (um 9) :: .int 0 :: .ref (um 10) :: .ref (um 11) :: .int 1 :: .ref (um 12) :: .ref (um 13) :: .int 0 :: .int 0 :: .ref (um 14) :: .ref (um 15) :: .ref (um 16) :: .ref (um 17) :: .ref (um 18) :: .int 0 :: .ref (um 19) :: .long 0 :: .ref (um 20) :: .ref (um 21) :: ([] : List Value)))), ((um 11), .inl (cy 0, 296, .inl (fun _ => 0)))]) (hl : lv_has ls 4 [(3, .int 0), (2, .ref qm), (1, .ref qx), (0, .ref b)]) : W p l e room_1 s m #[Value.ref b] below meth c H locs 184 18569 (lw_Z below #[Value.ref b] s) (F0 m 784 ls []) := by
  have hx := hC.1
  have hb := hC.2.1
  refine lv_aload_n hx hb dL_law_784 rfl (lv_at hl 2 rfl) ?_
  refine lv_aload_n hx hb dL_law_785 rfl (lv_at hl 3 rfl) ?_
  refine lv_iload_n hx hb dL_law_786 rfl (lv_at hl 0 rfl) ?_
  refine lv_iconst (v := 1) hx hb dL_law_787 (by decide) ?_
  refine lv_iadd hx hb dL_law_788 ?_
  refine wk_top 1 (by decide) ?_
  refine va_sld hx hb hX hbl hbA hw.2.2 (show ¬ ((1 : Int32) < 0 ∨ 6 ≤ (1 : Int32).toNatClampNeg) by decide) dL_law_789 ?_
  refine wk_top s1 hs1 ?_
  refine lv_aload_n hx hb dL_law_790 rfl (lv_at hl 3 rfl) ?_
  refine lv_iload_n hx hb dL_law_791 rfl (lv_at hl 0 rfl) ?_
  refine lv_iconst (v := 2) hx hb dL_law_792 (by decide) ?_
  refine lv_iadd hx hb dL_law_793 ?_
  refine wk_top 2 (by decide) ?_
  refine va_sld hx hb hX hbl hbA hw.2.2 (show ¬ ((2 : Int32) < 0 ∨ 6 ≤ (2 : Int32).toNatClampNeg) by decide) dL_law_794 ?_
  refine wk_top s2 hs2 ?_
  refine wk_Vi hC hK hw hA [0, 1] [2, 3] rfl rfl rfl rfl (by decide) (t_X11_round l dC dI cy qx ux s1 s2 H.size ) (cwV 2 hC.2.2.2.2 gL_law_X11_round rfl rfl rfl (by decide +kernel) ⟨Nat.le_of_ble_eq_true rfl, Nat.le_of_ble_eq_true rfl⟩) rfl 0 rfl rfl hl.1 rfl (Nat.le_of_ble_eq_true rfl) dL_law_795 184 18569 ⟨rfl, rfl⟩ ⟨Nat.le_of_ble_eq_true rfl, Nat.le_of_ble_eq_true rfl⟩ (fun r2 u1 H locs hp3 hw => ?_)
  have hw : Wd dC dI A s.heap H locs [(qm, .inr (12, (.ref (um 0) :: .int 0 :: .int 0 :: .ref (um 1) :: .ref (um 2) :: .ref (um 3) :: .ref (um 4) :: .int 0 :: .int 0 :: .int 0 :: .int 0 :: .ref (um 5) :: .ref (um 6) :: .ref (um 7) :: .int 0 :: .int 0 :: .int 0 :: .int 0 :: .int 0 :: .int 0 :: .int 0 :: .ref (um 8) :: .int 0 :: .ref (um 9) :: .int 0 :: .ref (um 10) :: .ref (um 11) :: .int 1 :: .ref (um 12) :: .ref (um 13) :: .int 0 :: .int 0 :: .ref (um 14) :: .ref (um 15) :: .ref (um 16) :: .ref (um 17) :: .ref (um 18) :: .int 0 :: .ref (um 19) :: .long 0 :: .ref (um 20) :: .ref (um 21) :: ([] : List Value)))), ((um 11), .inl (cy 0, 296, .inl (fun _ => 0))), (qx, .inr (11, [.ref (ux 0), .ref (ux 1), .ref (ux 2), .ref (ux 3), .ref (ux 4), .ref (ux 5), .ref (ux 6), .ref (ux 7), .ref (ux 8), .ref (ux 9), .ref (ux 10), .ref (ux 11), .int 0])), ((ux 4), .inr (5, [.ref (ux 27), .ref (ux 28), .ref (ux 29), .ref (ux 30), .ref (ux 31), .ref (ux 32), .ref (ux 33), .ref (ux 34), .int 0, .int 0, .int 0, .int 0, .int 0, .int 0]))] := hw
  obtain rfl : r2 = (-1) := hp3
  refine lv_aload_n hx hb dL_law_798 rfl (lv_at hl 1 rfl) ?_
  refine lv_aload_n hx hb dL_law_799 rfl (lv_at hl 3 rfl) ?_
  refine lv_iload_n hx hb dL_law_800 rfl (lv_at hl 0 rfl) ?_
  refine lv_iconst (v := 1) hx hb dL_law_801 (by decide) ?_
  refine lv_iadd hx hb dL_law_802 ?_
  refine wk_top 1 (by decide) ?_
  refine va_sld hx hb hX hbl hbA hw.2.2 (show ¬ ((1 : Int32) < 0 ∨ 6 ≤ (1 : Int32).toNatClampNeg) by decide) dL_law_803 ?_
  refine wk_top s1 hs1 ?_
  refine lv_aload_n hx hb dL_law_804 rfl (lv_at hl 3 rfl) ?_
  refine lv_iload_n hx hb dL_law_805 rfl (lv_at hl 0 rfl) ?_
  refine lv_iconst (v := 2) hx hb dL_law_806 (by decide) ?_
  refine lv_iadd hx hb dL_law_807 ?_
  refine wk_top 2 (by decide) ?_
  refine va_sld hx hb hX hbl hbA hw.2.2 (show ¬ ((2 : Int32) < 0 ∨ 6 ≤ (2 : Int32).toNatClampNeg) by decide) dL_law_808 ?_
  refine wk_top s2 hs2 ?_
  refine wk_Vi hC hK hw hA [0, 1] [2, 3] rfl rfl rfl rfl (by decide) (t_X12_round l dC dI cy qm um s1 s2 H.size ) (cwV 2 hC.2.2.2.2 gL_law_X12_round rfl rfl rfl (by decide +kernel) ⟨Nat.le_of_ble_eq_true rfl, Nat.le_of_ble_eq_true rfl⟩) rfl 0 rfl rfl hl.1 rfl (Nat.le_of_ble_eq_true rfl) dL_law_809 184 18569 ⟨rfl, rfl⟩ ⟨Nat.le_of_ble_eq_true rfl, Nat.le_of_ble_eq_true rfl⟩ (fun r5 u4 H locs hp6 hw => ?_)
  have hw : Wd dC dI A s.heap H locs [(qx, .inr (11, [.ref (ux 0), .ref (ux 1), .ref (ux 2), .ref (ux 3), .ref (ux 4), .ref (ux 5), .ref (ux 6), .ref (ux 7), .ref (ux 8), .ref (ux 9), .ref (ux 10), .ref (ux 11), .int 0])), ((ux 4), .inr (5, [.ref (ux 27), .ref (ux 28), .ref (ux 29), .ref (ux 30), .ref (ux 31), .ref (ux 32), .ref (ux 33), .ref (ux 34), .int 0, .int 0, .int 0, .int 0, .int 0, .int 0])), (qm, .inr (12, (.ref (um 0) :: .int 0 :: .int 0 :: .ref (um 1) :: .ref (um 2) :: .ref (um 3) :: .ref (um 4) :: .int 0 :: .int 0 :: .int 0 :: .int 0 :: .ref (um 5) :: .ref (um 6) :: .ref (um 7) :: .int 0 :: .int 0 :: .int 0 :: .int 0 :: .int 0 :: .int 0 :: .int 0 :: .ref (um 8) :: .int 0 :: .ref (um 9) :: .int 0 :: .ref (um 10) :: .ref (um 11) :: .int 1 :: .ref (um 12) :: .ref (um 13) :: .int 0 :: .int 0 :: .ref (um 14) :: .ref (um 15) :: .ref (um 16) :: .ref (um 17) :: .ref (um 18) :: .int 0 :: .ref (um 19) :: .long 0 :: .ref (um 20) :: .ref (um 21) :: ([] : List Value)))), ((um 11), .inl (cy 0, 296, .inl (fun _ => 0)))] := hw
  obtain rfl : r5 = (-1) := hp6
  refine lv_icmp_eq (tgt := 1252) hx hb dL_law_812 (by decide) (fun _ => ?_) (fun c => absurd (by decide) c)
  exact law_end hx hb hC hr hlocks hX hbl hbA hAe hw hl (Nat.le_of_ble_eq_true rfl) (Nat.le_of_ble_eq_true rfl)
set_option maxHeartbeats 4000000 in
set_option maxRecDepth 100000 in
theorem lc_questions {p : Program} {e : Env} {s : State} {m : MethodId} {below : List Frame} {meth : Method} {c : Code} {l : Launch} {b : Nat} {xs : Nat → Int32} {adK adV : Nat → Nat} {dC : Nat → ClassId} {dI : Nat → Nat → Nat} {cy : Nat → ClassId} {A : Nat → Prop} (hC : CallFix p m c code 4 s #[Value.ref b] wsR RL) (hr : meth.sig.returnType = ret) (hlocks : meth.locks = false) (hK : KK dC dI cy s) (hE : SE adK adV A s s.heap) (hSR : SR adK s) (hAe : A = fun q : Nat => s.heap.size ≤ q) (hA : ∀ q : Nat, s.heap.size ≤ q → A q) (hbA : ¬ A b) (hX : va_X b 6 xs s s.heap) (hbl : b < s.heap.size) {qx qm : Nat} {ux um : Nat → Nat} {s1 : Int32} (hs1 : xs 1 = s1) {s2 : Int32} (hs2 : xs 2 = s2) {H : Heap} {locs : List Loc} {ls : Array Slot} (hw : Wd dC dI A s.heap H locs [(qx, .inr (11, [.ref (ux 0), .ref (ux 1), .ref (ux 2), .ref (ux 3), .ref (ux 4), .ref (ux 5), .ref (ux 6), .ref (ux 7), .ref (ux 8), .ref (ux 9), .ref (ux 10), .ref (ux 11), .int 0])), ((ux 4), .inr (5, [.ref (ux 27), .ref (ux 28), .ref (ux 29), .ref (ux 30), .ref (ux 31), .ref (ux 32), .ref (ux 33), .ref (ux 34), .int 0, .int 0, .int 0, .int 0, .int 0, .int 0])), (qm, .inr (12, (.ref (um 0) :: .int 0 :: .int 0 :: .ref (um 1) :: .ref (um 2) :: .ref (um 3) :: .ref (um 4) :: .int 0 :: .int 0 :: .int 0 :: .int 0 :: .ref (um 5) :: .ref (um 6) :: .ref (um 7) :: .int 0 :: .int 0 :: .int 0 :: .int 0 :: .int 0 :: .int 0 :: .int 0 :: .ref (um 8) :: .int 0 :: .ref (um 9) :: .int 0 :: .ref (um 10) :: .ref (um 11) :: .int 1 :: .ref (um 12) :: .ref (um 13) :: .int 0 :: .int 0 :: .ref (um 14) :: .ref (um 15) :: .ref (um 16) :: .ref (um 17) :: .ref (um 18) :: .int 0 :: .ref (um 19) :: .long 0 :: .ref (um 20) :: .ref (um 21) :: ([] : List Value)))), ((um 11), .inl (cy 0, 296, .inl (fun _ => 0)))]) (hl : lv_has ls 4 [(3, .int 0), (2, .ref qm), (1, .ref qx), (0, .ref b)]) : W p l e room_1 s m #[Value.ref b] below meth c H locs 184 18569 (lw_Z below #[Value.ref b] s) (F0 m 817 ls []) := by
  have hx := hC.1
  have hb := hC.2.1
  refine lv_aload_n hx hb dL_law_817 rfl (lv_at hl 2 rfl) ?_
  refine lv_aload_n hx hb dL_law_818 rfl (lv_at hl 3 rfl) ?_
  refine lv_iload_n hx hb dL_law_819 rfl (lv_at hl 0 rfl) ?_
  refine lv_iconst (v := 1) hx hb dL_law_820 (by decide) ?_
  refine lv_iadd hx hb dL_law_821 ?_
  refine wk_top 1 (by decide) ?_
  refine va_sld hx hb hX hbl hbA hw.2.2 (show ¬ ((1 : Int32) < 0 ∨ 6 ≤ (1 : Int32).toNatClampNeg) by decide) dL_law_822 ?_
  refine wk_top s1 hs1 ?_
  refine lv_aload_n hx hb dL_law_823 rfl (lv_at hl 3 rfl) ?_
  refine lv_iload_n hx hb dL_law_824 rfl (lv_at hl 0 rfl) ?_
  refine lv_iconst (v := 2) hx hb dL_law_825 (by decide) ?_
  refine lv_iadd hx hb dL_law_826 ?_
  refine wk_top 2 (by decide) ?_
  refine va_sld hx hb hX hbl hbA hw.2.2 (show ¬ ((2 : Int32) < 0 ∨ 6 ≤ (2 : Int32).toNatClampNeg) by decide) dL_law_827 ?_
  refine wk_top s2 hs2 ?_
  refine wk_Vi hC hK hw hA [0, 1] [2, 3] rfl rfl rfl rfl (by decide) (t_X11_questions l dC dI cy qx ux s1 s2 H.size ) (cwV 2 hC.2.2.2.2 gL_law_X11_questions rfl rfl rfl (by decide +kernel) ⟨Nat.le_of_ble_eq_true rfl, Nat.le_of_ble_eq_true rfl⟩) rfl 0 rfl rfl hl.1 rfl (Nat.le_of_ble_eq_true rfl) dL_law_828 184 18569 ⟨rfl, rfl⟩ ⟨Nat.le_of_ble_eq_true rfl, Nat.le_of_ble_eq_true rfl⟩ (fun r2 u1 H locs hp3 hw => ?_)
  have hw : Wd dC dI A s.heap H locs [(qm, .inr (12, (.ref (um 0) :: .int 0 :: .int 0 :: .ref (um 1) :: .ref (um 2) :: .ref (um 3) :: .ref (um 4) :: .int 0 :: .int 0 :: .int 0 :: .int 0 :: .ref (um 5) :: .ref (um 6) :: .ref (um 7) :: .int 0 :: .int 0 :: .int 0 :: .int 0 :: .int 0 :: .int 0 :: .int 0 :: .ref (um 8) :: .int 0 :: .ref (um 9) :: .int 0 :: .ref (um 10) :: .ref (um 11) :: .int 1 :: .ref (um 12) :: .ref (um 13) :: .int 0 :: .int 0 :: .ref (um 14) :: .ref (um 15) :: .ref (um 16) :: .ref (um 17) :: .ref (um 18) :: .int 0 :: .ref (um 19) :: .long 0 :: .ref (um 20) :: .ref (um 21) :: ([] : List Value)))), ((um 11), .inl (cy 0, 296, .inl (fun _ => 0))), (qx, .inr (11, [.ref (ux 0), .ref (ux 1), .ref (ux 2), .ref (ux 3), .ref (ux 4), .ref (ux 5), .ref (ux 6), .ref (ux 7), .ref (ux 8), .ref (ux 9), .ref (ux 10), .ref (ux 11), .int 0])), ((ux 4), .inr (5, [.ref (ux 27), .ref (ux 28), .ref (ux 29), .ref (ux 30), .ref (ux 31), .ref (ux 32), .ref (ux 33), .ref (ux 34), .int 0, .int 0, .int 0, .int 0, .int 0, .int 0]))] := hw
  obtain rfl : r2 = (-1) := hp3
  refine lv_aload_n hx hb dL_law_831 rfl (lv_at hl 1 rfl) ?_
  refine lv_aload_n hx hb dL_law_832 rfl (lv_at hl 3 rfl) ?_
  refine lv_iload_n hx hb dL_law_833 rfl (lv_at hl 0 rfl) ?_
  refine lv_iconst (v := 1) hx hb dL_law_834 (by decide) ?_
  refine lv_iadd hx hb dL_law_835 ?_
  refine wk_top 1 (by decide) ?_
  refine va_sld hx hb hX hbl hbA hw.2.2 (show ¬ ((1 : Int32) < 0 ∨ 6 ≤ (1 : Int32).toNatClampNeg) by decide) dL_law_836 ?_
  refine wk_top s1 hs1 ?_
  refine lv_aload_n hx hb dL_law_837 rfl (lv_at hl 3 rfl) ?_
  refine lv_iload_n hx hb dL_law_838 rfl (lv_at hl 0 rfl) ?_
  refine lv_iconst (v := 2) hx hb dL_law_839 (by decide) ?_
  refine lv_iadd hx hb dL_law_840 ?_
  refine wk_top 2 (by decide) ?_
  refine va_sld hx hb hX hbl hbA hw.2.2 (show ¬ ((2 : Int32) < 0 ∨ 6 ≤ (2 : Int32).toNatClampNeg) by decide) dL_law_841 ?_
  refine wk_top s2 hs2 ?_
  refine wk_Vi hC hK hw hA [0, 1] [2, 3] rfl rfl rfl rfl (by decide) (t_X12_questions l dC dI cy qm um s1 s2 H.size ) (cwV 2 hC.2.2.2.2 gL_law_X12_questions rfl rfl rfl (by decide +kernel) ⟨Nat.le_of_ble_eq_true rfl, Nat.le_of_ble_eq_true rfl⟩) rfl 0 rfl rfl hl.1 rfl (Nat.le_of_ble_eq_true rfl) dL_law_842 184 18569 ⟨rfl, rfl⟩ ⟨Nat.le_of_ble_eq_true rfl, Nat.le_of_ble_eq_true rfl⟩ (fun r5 u4 H locs hp6 hw => ?_)
  have hw : Wd dC dI A s.heap H locs [(qx, .inr (11, [.ref (ux 0), .ref (ux 1), .ref (ux 2), .ref (ux 3), .ref (ux 4), .ref (ux 5), .ref (ux 6), .ref (ux 7), .ref (ux 8), .ref (ux 9), .ref (ux 10), .ref (ux 11), .int 0])), ((ux 4), .inr (5, [.ref (ux 27), .ref (ux 28), .ref (ux 29), .ref (ux 30), .ref (ux 31), .ref (ux 32), .ref (ux 33), .ref (ux 34), .int 0, .int 0, .int 0, .int 0, .int 0, .int 0])), (qm, .inr (12, (.ref (um 0) :: .int 0 :: .int 0 :: .ref (um 1) :: .ref (um 2) :: .ref (um 3) :: .ref (um 4) :: .int 0 :: .int 0 :: .int 0 :: .int 0 :: .ref (um 5) :: .ref (um 6) :: .ref (um 7) :: .int 0 :: .int 0 :: .int 0 :: .int 0 :: .int 0 :: .int 0 :: .int 0 :: .ref (um 8) :: .int 0 :: .ref (um 9) :: .int 0 :: .ref (um 10) :: .ref (um 11) :: .int 1 :: .ref (um 12) :: .ref (um 13) :: .int 0 :: .int 0 :: .ref (um 14) :: .ref (um 15) :: .ref (um 16) :: .ref (um 17) :: .ref (um 18) :: .int 0 :: .ref (um 19) :: .long 0 :: .ref (um 20) :: .ref (um 21) :: ([] : List Value)))), ((um 11), .inl (cy 0, 296, .inl (fun _ => 0)))] := hw
  obtain rfl : r5 = (-1) := hp6
  refine lv_icmp_eq (tgt := 1252) hx hb dL_law_845 (by decide) (fun _ => ?_) (fun c => absurd (by decide) c)
  exact law_end hx hb hC hr hlocks hX hbl hbA hAe hw hl (Nat.le_of_ble_eq_true rfl) (Nat.le_of_ble_eq_true rfl)
set_option maxHeartbeats 4000000 in
set_option maxRecDepth 100000 in
theorem lc_cheap {p : Program} {e : Env} {s : State} {m : MethodId} {below : List Frame} {meth : Method} {c : Code} {l : Launch} {b : Nat} {xs : Nat → Int32} {adK adV : Nat → Nat} {dC : Nat → ClassId} {dI : Nat → Nat → Nat} {cy : Nat → ClassId} {A : Nat → Prop} (hC : CallFix p m c code 4 s #[Value.ref b] wsR RL) (hr : meth.sig.returnType = ret) (hlocks : meth.locks = false) (hK : KK dC dI cy s) (hE : SE adK adV A s s.heap) (hSR : SR adK s) (hAe : A = fun q : Nat => s.heap.size ≤ q) (hA : ∀ q : Nat, s.heap.size ≤ q → A q) (hbA : ¬ A b) (hX : va_X b 6 xs s s.heap) (hbl : b < s.heap.size) {qx qm : Nat} {ux um : Nat → Nat} {s1 : Int32} (hs1 : xs 1 = s1) {H : Heap} {locs : List Loc} {ls : Array Slot} (hw : Wd dC dI A s.heap H locs [(qx, .inr (11, [.ref (ux 0), .ref (ux 1), .ref (ux 2), .ref (ux 3), .ref (ux 4), .ref (ux 5), .ref (ux 6), .ref (ux 7), .ref (ux 8), .ref (ux 9), .ref (ux 10), .ref (ux 11), .int 0])), ((ux 4), .inr (5, [.ref (ux 27), .ref (ux 28), .ref (ux 29), .ref (ux 30), .ref (ux 31), .ref (ux 32), .ref (ux 33), .ref (ux 34), .int 0, .int 0, .int 0, .int 0, .int 0, .int 0])), ((ux 27), .inr (7, [.ref (ux 68), .ref (ux 69), .ref (ux 70), .ref (ux 71), .ref (ux 72), .ref (ux 73), .ref (ux 74), .ref (ux 75), .int 0, .int 0, .int 0, .int 0])), (qm, .inr (12, (.ref (um 0) :: .int 0 :: .int 0 :: .ref (um 1) :: .ref (um 2) :: .ref (um 3) :: .ref (um 4) :: .int 0 :: .int 0 :: .int 0 :: .int 0 :: .ref (um 5) :: .ref (um 6) :: .ref (um 7) :: .int 0 :: .int 0 :: .int 0 :: .int 0 :: .int 0 :: .int 0 :: .int 0 :: .ref (um 8) :: .int 0 :: .ref (um 9) :: .int 0 :: .ref (um 10) :: .ref (um 11) :: .int 1 :: .ref (um 12) :: .ref (um 13) :: .int 0 :: .int 0 :: .ref (um 14) :: .ref (um 15) :: .ref (um 16) :: .ref (um 17) :: .ref (um 18) :: .int 0 :: .ref (um 19) :: .long 0 :: .ref (um 20) :: .ref (um 21) :: ([] : List Value)))), ((um 11), .inl (cy 0, 296, .inl (fun _ => 0)))]) (hl : lv_has ls 4 [(3, .int 0), (2, .ref qm), (1, .ref qx), (0, .ref b)]) : W p l e room_1 s m #[Value.ref b] below meth c H locs 184 18569 (lw_Z below #[Value.ref b] s) (F0 m 850 ls []) := by
  have hx := hC.1
  have hb := hC.2.1
  refine lv_aload_n hx hb dL_law_850 rfl (lv_at hl 2 rfl) ?_
  refine lv_aload_n hx hb dL_law_851 rfl (lv_at hl 3 rfl) ?_
  refine lv_iload_n hx hb dL_law_852 rfl (lv_at hl 0 rfl) ?_
  refine lv_iconst (v := 1) hx hb dL_law_853 (by decide) ?_
  refine lv_iadd hx hb dL_law_854 ?_
  refine wk_top 1 (by decide) ?_
  refine va_sld hx hb hX hbl hbA hw.2.2 (show ¬ ((1 : Int32) < 0 ∨ 6 ≤ (1 : Int32).toNatClampNeg) by decide) dL_law_855 ?_
  refine wk_top s1 hs1 ?_
  refine wk_Vi hC hK hw hA [0, 1, 2] [3, 4] rfl rfl rfl rfl (by decide) (t_X11_cheap l dC dI cy qx ux s1 H.size ) (cwV 1 hC.2.2.2.2 gL_law_X11_cheap rfl rfl rfl (by decide +kernel) ⟨Nat.le_of_ble_eq_true rfl, Nat.le_of_ble_eq_true rfl⟩) rfl 0 rfl rfl hl.1 rfl (Nat.le_of_ble_eq_true rfl) dL_law_856 184 18569 ⟨rfl, rfl⟩ ⟨Nat.le_of_ble_eq_true rfl, Nat.le_of_ble_eq_true rfl⟩ (fun r2 u1 H locs hp3 hw => ?_)
  have hw : Wd dC dI A s.heap H locs [(qm, .inr (12, (.ref (um 0) :: .int 0 :: .int 0 :: .ref (um 1) :: .ref (um 2) :: .ref (um 3) :: .ref (um 4) :: .int 0 :: .int 0 :: .int 0 :: .int 0 :: .ref (um 5) :: .ref (um 6) :: .ref (um 7) :: .int 0 :: .int 0 :: .int 0 :: .int 0 :: .int 0 :: .int 0 :: .int 0 :: .ref (um 8) :: .int 0 :: .ref (um 9) :: .int 0 :: .ref (um 10) :: .ref (um 11) :: .int 1 :: .ref (um 12) :: .ref (um 13) :: .int 0 :: .int 0 :: .ref (um 14) :: .ref (um 15) :: .ref (um 16) :: .ref (um 17) :: .ref (um 18) :: .int 0 :: .ref (um 19) :: .long 0 :: .ref (um 20) :: .ref (um 21) :: ([] : List Value)))), ((um 11), .inl (cy 0, 296, .inl (fun _ => 0))), (qx, .inr (11, [.ref (ux 0), .ref (ux 1), .ref (ux 2), .ref (ux 3), .ref (ux 4), .ref (ux 5), .ref (ux 6), .ref (ux 7), .ref (ux 8), .ref (ux 9), .ref (ux 10), .ref (ux 11), .int 0])), ((ux 4), .inr (5, [.ref (ux 27), .ref (ux 28), .ref (ux 29), .ref (ux 30), .ref (ux 31), .ref (ux 32), .ref (ux 33), .ref (ux 34), .int 0, .int 0, .int 0, .int 0, .int 0, .int 0])), ((ux 27), .inr (7, [.ref (ux 68), .ref (ux 69), .ref (ux 70), .ref (ux 71), .ref (ux 72), .ref (ux 73), .ref (ux 74), .ref (ux 75), .int 0, .int 0, .int 0, .int 0]))] := hw
  obtain rfl : r2 = (-1) := hp3
  refine lv_aload_n hx hb dL_law_859 rfl (lv_at hl 1 rfl) ?_
  refine lv_aload_n hx hb dL_law_860 rfl (lv_at hl 3 rfl) ?_
  refine lv_iload_n hx hb dL_law_861 rfl (lv_at hl 0 rfl) ?_
  refine lv_iconst (v := 1) hx hb dL_law_862 (by decide) ?_
  refine lv_iadd hx hb dL_law_863 ?_
  refine wk_top 1 (by decide) ?_
  refine va_sld hx hb hX hbl hbA hw.2.2 (show ¬ ((1 : Int32) < 0 ∨ 6 ≤ (1 : Int32).toNatClampNeg) by decide) dL_law_864 ?_
  refine wk_top s1 hs1 ?_
  refine wk_Vi hC hK hw hA [0, 1] [2, 3, 4] rfl rfl rfl rfl (by decide) (t_X12_cheap l dC dI cy qm um s1 H.size ) (cwV 1 hC.2.2.2.2 gL_law_X12_cheap rfl rfl rfl (by decide +kernel) ⟨Nat.le_of_ble_eq_true rfl, Nat.le_of_ble_eq_true rfl⟩) rfl 0 rfl rfl hl.1 rfl (Nat.le_of_ble_eq_true rfl) dL_law_865 184 18569 ⟨rfl, rfl⟩ ⟨Nat.le_of_ble_eq_true rfl, Nat.le_of_ble_eq_true rfl⟩ (fun r5 u4 H locs hp6 hw => ?_)
  have hw : Wd dC dI A s.heap H locs [(qx, .inr (11, [.ref (ux 0), .ref (ux 1), .ref (ux 2), .ref (ux 3), .ref (ux 4), .ref (ux 5), .ref (ux 6), .ref (ux 7), .ref (ux 8), .ref (ux 9), .ref (ux 10), .ref (ux 11), .int 0])), ((ux 4), .inr (5, [.ref (ux 27), .ref (ux 28), .ref (ux 29), .ref (ux 30), .ref (ux 31), .ref (ux 32), .ref (ux 33), .ref (ux 34), .int 0, .int 0, .int 0, .int 0, .int 0, .int 0])), ((ux 27), .inr (7, [.ref (ux 68), .ref (ux 69), .ref (ux 70), .ref (ux 71), .ref (ux 72), .ref (ux 73), .ref (ux 74), .ref (ux 75), .int 0, .int 0, .int 0, .int 0])), (qm, .inr (12, (.ref (um 0) :: .int 0 :: .int 0 :: .ref (um 1) :: .ref (um 2) :: .ref (um 3) :: .ref (um 4) :: .int 0 :: .int 0 :: .int 0 :: .int 0 :: .ref (um 5) :: .ref (um 6) :: .ref (um 7) :: .int 0 :: .int 0 :: .int 0 :: .int 0 :: .int 0 :: .int 0 :: .int 0 :: .ref (um 8) :: .int 0 :: .ref (um 9) :: .int 0 :: .ref (um 10) :: .ref (um 11) :: .int 1 :: .ref (um 12) :: .ref (um 13) :: .int 0 :: .int 0 :: .ref (um 14) :: .ref (um 15) :: .ref (um 16) :: .ref (um 17) :: .ref (um 18) :: .int 0 :: .ref (um 19) :: .long 0 :: .ref (um 20) :: .ref (um 21) :: ([] : List Value)))), ((um 11), .inl (cy 0, 296, .inl (fun _ => 0)))] := hw
  obtain rfl : r5 = (-1) := hp6
  refine lv_icmp_eq (tgt := 1252) hx hb dL_law_868 (by decide) (fun _ => ?_) (fun c => absurd (by decide) c)
  exact law_end hx hb hC hr hlocks hX hbl hbA hAe hw hl (Nat.le_of_ble_eq_true rfl) (Nat.le_of_ble_eq_true rfl)
set_option maxHeartbeats 4000000 in
set_option maxRecDepth 100000 in
theorem lc_wrong {p : Program} {e : Env} {s : State} {m : MethodId} {below : List Frame} {meth : Method} {c : Code} {l : Launch} {b : Nat} {xs : Nat → Int32} {adK adV : Nat → Nat} {dC : Nat → ClassId} {dI : Nat → Nat → Nat} {cy : Nat → ClassId} {A : Nat → Prop} (hC : CallFix p m c code 4 s #[Value.ref b] wsR RL) (hr : meth.sig.returnType = ret) (hlocks : meth.locks = false) (hK : KK dC dI cy s) (hE : SE adK adV A s s.heap) (hSR : SR adK s) (hAe : A = fun q : Nat => s.heap.size ≤ q) (hA : ∀ q : Nat, s.heap.size ≤ q → A q) (hbA : ¬ A b) (hX : va_X b 6 xs s s.heap) (hbl : b < s.heap.size) {qx qm : Nat} {ux um : Nat → Nat} {s1 : Int32} (hs1 : xs 1 = s1) {H : Heap} {locs : List Loc} {ls : Array Slot} (hw : Wd dC dI A s.heap H locs [(qx, .inr (11, [.ref (ux 0), .ref (ux 1), .ref (ux 2), .ref (ux 3), .ref (ux 4), .ref (ux 5), .ref (ux 6), .ref (ux 7), .ref (ux 8), .ref (ux 9), .ref (ux 10), .ref (ux 11), .int 0])), ((ux 4), .inr (5, [.ref (ux 27), .ref (ux 28), .ref (ux 29), .ref (ux 30), .ref (ux 31), .ref (ux 32), .ref (ux 33), .ref (ux 34), .int 0, .int 0, .int 0, .int 0, .int 0, .int 0])), ((ux 27), .inr (7, [.ref (ux 68), .ref (ux 69), .ref (ux 70), .ref (ux 71), .ref (ux 72), .ref (ux 73), .ref (ux 74), .ref (ux 75), .int 0, .int 0, .int 0, .int 0])), (qm, .inr (12, (.ref (um 0) :: .int 0 :: .int 0 :: .ref (um 1) :: .ref (um 2) :: .ref (um 3) :: .ref (um 4) :: .int 0 :: .int 0 :: .int 0 :: .int 0 :: .ref (um 5) :: .ref (um 6) :: .ref (um 7) :: .int 0 :: .int 0 :: .int 0 :: .int 0 :: .int 0 :: .int 0 :: .int 0 :: .ref (um 8) :: .int 0 :: .ref (um 9) :: .int 0 :: .ref (um 10) :: .ref (um 11) :: .int 1 :: .ref (um 12) :: .ref (um 13) :: .int 0 :: .int 0 :: .ref (um 14) :: .ref (um 15) :: .ref (um 16) :: .ref (um 17) :: .ref (um 18) :: .int 0 :: .ref (um 19) :: .long 0 :: .ref (um 20) :: .ref (um 21) :: ([] : List Value)))), ((um 11), .inl (cy 0, 296, .inl (fun _ => 0)))]) (hl : lv_has ls 4 [(3, .int 0), (2, .ref qm), (1, .ref qx), (0, .ref b)]) : W p l e room_1 s m #[Value.ref b] below meth c H locs 184 18569 (lw_Z below #[Value.ref b] s) (F0 m 873 ls []) := by
  have hx := hC.1
  have hb := hC.2.1
  refine lv_aload_n hx hb dL_law_873 rfl (lv_at hl 2 rfl) ?_
  refine lv_aload_n hx hb dL_law_874 rfl (lv_at hl 3 rfl) ?_
  refine lv_iload_n hx hb dL_law_875 rfl (lv_at hl 0 rfl) ?_
  refine lv_iconst (v := 1) hx hb dL_law_876 (by decide) ?_
  refine lv_iadd hx hb dL_law_877 ?_
  refine wk_top 1 (by decide) ?_
  refine va_sld hx hb hX hbl hbA hw.2.2 (show ¬ ((1 : Int32) < 0 ∨ 6 ≤ (1 : Int32).toNatClampNeg) by decide) dL_law_878 ?_
  refine wk_top s1 hs1 ?_
  refine wk_Vi hC hK hw hA [0, 1, 2] [3, 4] rfl rfl rfl rfl (by decide) (t_X11_wrong l dC dI cy qx ux s1 H.size ) (cwV 1 hC.2.2.2.2 gL_law_X11_wrong rfl rfl rfl (by decide +kernel) ⟨Nat.le_of_ble_eq_true rfl, Nat.le_of_ble_eq_true rfl⟩) rfl 0 rfl rfl hl.1 rfl (Nat.le_of_ble_eq_true rfl) dL_law_879 184 18569 ⟨rfl, rfl⟩ ⟨Nat.le_of_ble_eq_true rfl, Nat.le_of_ble_eq_true rfl⟩ (fun r2 u1 H locs hp3 hw => ?_)
  have hw : Wd dC dI A s.heap H locs [(qm, .inr (12, (.ref (um 0) :: .int 0 :: .int 0 :: .ref (um 1) :: .ref (um 2) :: .ref (um 3) :: .ref (um 4) :: .int 0 :: .int 0 :: .int 0 :: .int 0 :: .ref (um 5) :: .ref (um 6) :: .ref (um 7) :: .int 0 :: .int 0 :: .int 0 :: .int 0 :: .int 0 :: .int 0 :: .int 0 :: .ref (um 8) :: .int 0 :: .ref (um 9) :: .int 0 :: .ref (um 10) :: .ref (um 11) :: .int 1 :: .ref (um 12) :: .ref (um 13) :: .int 0 :: .int 0 :: .ref (um 14) :: .ref (um 15) :: .ref (um 16) :: .ref (um 17) :: .ref (um 18) :: .int 0 :: .ref (um 19) :: .long 0 :: .ref (um 20) :: .ref (um 21) :: ([] : List Value)))), ((um 11), .inl (cy 0, 296, .inl (fun _ => 0))), (qx, .inr (11, [.ref (ux 0), .ref (ux 1), .ref (ux 2), .ref (ux 3), .ref (ux 4), .ref (ux 5), .ref (ux 6), .ref (ux 7), .ref (ux 8), .ref (ux 9), .ref (ux 10), .ref (ux 11), .int 0])), ((ux 4), .inr (5, [.ref (ux 27), .ref (ux 28), .ref (ux 29), .ref (ux 30), .ref (ux 31), .ref (ux 32), .ref (ux 33), .ref (ux 34), .int 0, .int 0, .int 0, .int 0, .int 0, .int 0])), ((ux 27), .inr (7, [.ref (ux 68), .ref (ux 69), .ref (ux 70), .ref (ux 71), .ref (ux 72), .ref (ux 73), .ref (ux 74), .ref (ux 75), .int 0, .int 0, .int 0, .int 0]))] := hw
  obtain rfl : r2 = (-1) := hp3
  refine lv_aload_n hx hb dL_law_882 rfl (lv_at hl 1 rfl) ?_
  refine lv_aload_n hx hb dL_law_883 rfl (lv_at hl 3 rfl) ?_
  refine lv_iload_n hx hb dL_law_884 rfl (lv_at hl 0 rfl) ?_
  refine lv_iconst (v := 1) hx hb dL_law_885 (by decide) ?_
  refine lv_iadd hx hb dL_law_886 ?_
  refine wk_top 1 (by decide) ?_
  refine va_sld hx hb hX hbl hbA hw.2.2 (show ¬ ((1 : Int32) < 0 ∨ 6 ≤ (1 : Int32).toNatClampNeg) by decide) dL_law_887 ?_
  refine wk_top s1 hs1 ?_
  refine wk_Vi hC hK hw hA [0, 1] [2, 3, 4] rfl rfl rfl rfl (by decide) (t_X12_wrong l dC dI cy qm um s1 H.size ) (cwV 1 hC.2.2.2.2 gL_law_X12_wrong rfl rfl rfl (by decide +kernel) ⟨Nat.le_of_ble_eq_true rfl, Nat.le_of_ble_eq_true rfl⟩) rfl 0 rfl rfl hl.1 rfl (Nat.le_of_ble_eq_true rfl) dL_law_888 184 18569 ⟨rfl, rfl⟩ ⟨Nat.le_of_ble_eq_true rfl, Nat.le_of_ble_eq_true rfl⟩ (fun r5 u4 H locs hp6 hw => ?_)
  have hw : Wd dC dI A s.heap H locs [(qx, .inr (11, [.ref (ux 0), .ref (ux 1), .ref (ux 2), .ref (ux 3), .ref (ux 4), .ref (ux 5), .ref (ux 6), .ref (ux 7), .ref (ux 8), .ref (ux 9), .ref (ux 10), .ref (ux 11), .int 0])), ((ux 4), .inr (5, [.ref (ux 27), .ref (ux 28), .ref (ux 29), .ref (ux 30), .ref (ux 31), .ref (ux 32), .ref (ux 33), .ref (ux 34), .int 0, .int 0, .int 0, .int 0, .int 0, .int 0])), ((ux 27), .inr (7, [.ref (ux 68), .ref (ux 69), .ref (ux 70), .ref (ux 71), .ref (ux 72), .ref (ux 73), .ref (ux 74), .ref (ux 75), .int 0, .int 0, .int 0, .int 0])), (qm, .inr (12, (.ref (um 0) :: .int 0 :: .int 0 :: .ref (um 1) :: .ref (um 2) :: .ref (um 3) :: .ref (um 4) :: .int 0 :: .int 0 :: .int 0 :: .int 0 :: .ref (um 5) :: .ref (um 6) :: .ref (um 7) :: .int 0 :: .int 0 :: .int 0 :: .int 0 :: .int 0 :: .int 0 :: .int 0 :: .ref (um 8) :: .int 0 :: .ref (um 9) :: .int 0 :: .ref (um 10) :: .ref (um 11) :: .int 1 :: .ref (um 12) :: .ref (um 13) :: .int 0 :: .int 0 :: .ref (um 14) :: .ref (um 15) :: .ref (um 16) :: .ref (um 17) :: .ref (um 18) :: .int 0 :: .ref (um 19) :: .long 0 :: .ref (um 20) :: .ref (um 21) :: ([] : List Value)))), ((um 11), .inl (cy 0, 296, .inl (fun _ => 0)))] := hw
  obtain rfl : r5 = (-1) := hp6
  refine lv_icmp_eq (tgt := 1252) hx hb dL_law_891 (by decide) (fun _ => ?_) (fun c => absurd (by decide) c)
  exact law_end hx hb hC hr hlocks hX hbl hbA hAe hw hl (Nat.le_of_ble_eq_true rfl) (Nat.le_of_ble_eq_true rfl)
set_option maxHeartbeats 4000000 in
set_option maxRecDepth 100000 in
theorem lc_errand_0 {p : Program} {e : Env} {s : State} {m : MethodId} {below : List Frame} {meth : Method} {c : Code} {l : Launch} {b : Nat} {xs : Nat → Int32} {adK adV : Nat → Nat} {dC : Nat → ClassId} {dI : Nat → Nat → Nat} {cy : Nat → ClassId} {A : Nat → Prop} (hC : CallFix p m c code 4 s #[Value.ref b] wsR RL) (hr : meth.sig.returnType = ret) (hlocks : meth.locks = false) (hK : KK dC dI cy s) (hE : SE adK adV A s s.heap) (hSR : SR adK s) (hAe : A = fun q : Nat => s.heap.size ≤ q) (hA : ∀ q : Nat, s.heap.size ≤ q → A q) (hbA : ¬ A b) (hX : va_X b 6 xs s s.heap) (hbl : b < s.heap.size) {qx qm : Nat} {ux um : Nat → Nat} {s1 : Int32} (hs1 : xs 1 = s1) {s2 : Int32} (hs2 : xs 2 = s2) (hcs : s1.toInt ≤ -2) {H : Heap} {locs : List Loc} {ls : Array Slot} (hw : Wd dC dI A s.heap H locs [(qx, .inr (11, [.ref (ux 0), .ref (ux 1), .ref (ux 2), .ref (ux 3), .ref (ux 4), .ref (ux 5), .ref (ux 6), .ref (ux 7), .ref (ux 8), .ref (ux 9), .ref (ux 10), .ref (ux 11), .int 0])), ((ux 4), .inr (5, [.ref (ux 27), .ref (ux 28), .ref (ux 29), .ref (ux 30), .ref (ux 31), .ref (ux 32), .ref (ux 33), .ref (ux 34), .int 0, .int 0, .int 0, .int 0, .int 0, .int 0])), ((ux 27), .inr (7, [.ref (ux 68), .ref (ux 69), .ref (ux 70), .ref (ux 71), .ref (ux 72), .ref (ux 73), .ref (ux 74), .ref (ux 75), .int 0, .int 0, .int 0, .int 0])), (qm, .inr (12, (.ref (um 0) :: .int 0 :: .int 0 :: .ref (um 1) :: .ref (um 2) :: .ref (um 3) :: .ref (um 4) :: .int 0 :: .int 0 :: .int 0 :: .int 0 :: .ref (um 5) :: .ref (um 6) :: .ref (um 7) :: .int 0 :: .int 0 :: .int 0 :: .int 0 :: .int 0 :: .int 0 :: .int 0 :: .ref (um 8) :: .int 0 :: .ref (um 9) :: .int 0 :: .ref (um 10) :: .ref (um 11) :: .int 1 :: .ref (um 12) :: .ref (um 13) :: .int 0 :: .int 0 :: .ref (um 14) :: .ref (um 15) :: .ref (um 16) :: .ref (um 17) :: .ref (um 18) :: .int 0 :: .ref (um 19) :: .long 0 :: .ref (um 20) :: .ref (um 21) :: ([] : List Value)))), ((um 11), .inl (cy 0, 296, .inl (fun _ => 0)))]) (hl : lv_has ls 4 [(3, .int 0), (2, .ref qm), (1, .ref qx), (0, .ref b)]) : W p l e room_1 s m #[Value.ref b] below meth c H locs 184 18569 (lw_Z below #[Value.ref b] s) (F0 m 896 ls []) := by
  have hx := hC.1
  have hb := hC.2.1
  refine lv_aload_n hx hb dL_law_896 rfl (lv_at hl 2 rfl) ?_
  refine lv_aload_n hx hb dL_law_897 rfl (lv_at hl 3 rfl) ?_
  refine lv_iload_n hx hb dL_law_898 rfl (lv_at hl 0 rfl) ?_
  refine lv_iconst (v := 1) hx hb dL_law_899 (by decide) ?_
  refine lv_iadd hx hb dL_law_900 ?_
  refine wk_top 1 (by decide) ?_
  refine va_sld hx hb hX hbl hbA hw.2.2 (show ¬ ((1 : Int32) < 0 ∨ 6 ≤ (1 : Int32).toNatClampNeg) by decide) dL_law_901 ?_
  refine wk_top s1 hs1 ?_
  refine lv_aload_n hx hb dL_law_902 rfl (lv_at hl 3 rfl) ?_
  refine lv_iload_n hx hb dL_law_903 rfl (lv_at hl 0 rfl) ?_
  refine lv_iconst (v := 2) hx hb dL_law_904 (by decide) ?_
  refine lv_iadd hx hb dL_law_905 ?_
  refine wk_top 2 (by decide) ?_
  refine va_sld hx hb hX hbl hbA hw.2.2 (show ¬ ((2 : Int32) < 0 ∨ 6 ≤ (2 : Int32).toNatClampNeg) by decide) dL_law_906 ?_
  refine wk_top s2 hs2 ?_
  refine wk_Vi hC hK hw hA [0, 1, 2] [3, 4] rfl rfl rfl rfl (by decide) (t_X11_errand_0 l dC dI cy qx ux s1 s2 H.size (show s1.toInt ≤ -2 by omega)) (cwV 2 hC.2.2.2.2 gL_law_X11_errand rfl rfl rfl (by decide +kernel) ⟨Nat.le_of_ble_eq_true rfl, Nat.le_of_ble_eq_true rfl⟩) rfl 0 rfl rfl hl.1 rfl (Nat.le_of_ble_eq_true rfl) dL_law_907 184 18569 ⟨rfl, rfl⟩ ⟨Nat.le_of_ble_eq_true rfl, Nat.le_of_ble_eq_true rfl⟩ (fun r2 u1 H locs hp3 hw => ?_)
  have hw : Wd dC dI A s.heap H locs [(qm, .inr (12, (.ref (um 0) :: .int 0 :: .int 0 :: .ref (um 1) :: .ref (um 2) :: .ref (um 3) :: .ref (um 4) :: .int 0 :: .int 0 :: .int 0 :: .int 0 :: .ref (um 5) :: .ref (um 6) :: .ref (um 7) :: .int 0 :: .int 0 :: .int 0 :: .int 0 :: .int 0 :: .int 0 :: .int 0 :: .ref (um 8) :: .int 0 :: .ref (um 9) :: .int 0 :: .ref (um 10) :: .ref (um 11) :: .int 1 :: .ref (um 12) :: .ref (um 13) :: .int 0 :: .int 0 :: .ref (um 14) :: .ref (um 15) :: .ref (um 16) :: .ref (um 17) :: .ref (um 18) :: .int 0 :: .ref (um 19) :: .long 0 :: .ref (um 20) :: .ref (um 21) :: ([] : List Value)))), ((um 11), .inl (cy 0, 296, .inl (fun _ => 0))), (qx, .inr (11, [.ref (ux 0), .ref (ux 1), .ref (ux 2), .ref (ux 3), .ref (ux 4), .ref (ux 5), .ref (ux 6), .ref (ux 7), .ref (ux 8), .ref (ux 9), .ref (ux 10), .ref (ux 11), .int 0])), ((ux 4), .inr (5, [.ref (ux 27), .ref (ux 28), .ref (ux 29), .ref (ux 30), .ref (ux 31), .ref (ux 32), .ref (ux 33), .ref (ux 34), .int 0, .int 0, .int 0, .int 0, .int 0, .int 0])), ((ux 27), .inr (7, [.ref (ux 68), .ref (ux 69), .ref (ux 70), .ref (ux 71), .ref (ux 72), .ref (ux 73), .ref (ux 74), .ref (ux 75), .int 0, .int 0, .int 0, .int 0]))] := hw
  obtain rfl : r2 = (-2) := hp3
  refine lv_aload_n hx hb dL_law_910 rfl (lv_at hl 1 rfl) ?_
  refine lv_aload_n hx hb dL_law_911 rfl (lv_at hl 3 rfl) ?_
  refine lv_iload_n hx hb dL_law_912 rfl (lv_at hl 0 rfl) ?_
  refine lv_iconst (v := 1) hx hb dL_law_913 (by decide) ?_
  refine lv_iadd hx hb dL_law_914 ?_
  refine wk_top 1 (by decide) ?_
  refine va_sld hx hb hX hbl hbA hw.2.2 (show ¬ ((1 : Int32) < 0 ∨ 6 ≤ (1 : Int32).toNatClampNeg) by decide) dL_law_915 ?_
  refine wk_top s1 hs1 ?_
  refine lv_aload_n hx hb dL_law_916 rfl (lv_at hl 3 rfl) ?_
  refine lv_iload_n hx hb dL_law_917 rfl (lv_at hl 0 rfl) ?_
  refine lv_iconst (v := 2) hx hb dL_law_918 (by decide) ?_
  refine lv_iadd hx hb dL_law_919 ?_
  refine wk_top 2 (by decide) ?_
  refine va_sld hx hb hX hbl hbA hw.2.2 (show ¬ ((2 : Int32) < 0 ∨ 6 ≤ (2 : Int32).toNatClampNeg) by decide) dL_law_920 ?_
  refine wk_top s2 hs2 ?_
  refine wk_Vi hC hK hw hA [0, 1] [2, 3, 4] rfl rfl rfl rfl (by decide) (t_X12_errand_0 l dC dI cy qm um s1 s2 H.size (show s1.toInt ≤ -2 by omega)) (cwV 2 hC.2.2.2.2 gL_law_X12_errand rfl rfl rfl (by decide +kernel) ⟨Nat.le_of_ble_eq_true rfl, Nat.le_of_ble_eq_true rfl⟩) rfl 0 rfl rfl hl.1 rfl (Nat.le_of_ble_eq_true rfl) dL_law_921 184 18569 ⟨rfl, rfl⟩ ⟨Nat.le_of_ble_eq_true rfl, Nat.le_of_ble_eq_true rfl⟩ (fun r5 u4 H locs hp6 hw => ?_)
  have hw : Wd dC dI A s.heap H locs [(qx, .inr (11, [.ref (ux 0), .ref (ux 1), .ref (ux 2), .ref (ux 3), .ref (ux 4), .ref (ux 5), .ref (ux 6), .ref (ux 7), .ref (ux 8), .ref (ux 9), .ref (ux 10), .ref (ux 11), .int 0])), ((ux 4), .inr (5, [.ref (ux 27), .ref (ux 28), .ref (ux 29), .ref (ux 30), .ref (ux 31), .ref (ux 32), .ref (ux 33), .ref (ux 34), .int 0, .int 0, .int 0, .int 0, .int 0, .int 0])), ((ux 27), .inr (7, [.ref (ux 68), .ref (ux 69), .ref (ux 70), .ref (ux 71), .ref (ux 72), .ref (ux 73), .ref (ux 74), .ref (ux 75), .int 0, .int 0, .int 0, .int 0])), (qm, .inr (12, (.ref (um 0) :: .int 0 :: .int 0 :: .ref (um 1) :: .ref (um 2) :: .ref (um 3) :: .ref (um 4) :: .int 0 :: .int 0 :: .int 0 :: .int 0 :: .ref (um 5) :: .ref (um 6) :: .ref (um 7) :: .int 0 :: .int 0 :: .int 0 :: .int 0 :: .int 0 :: .int 0 :: .int 0 :: .ref (um 8) :: .int 0 :: .ref (um 9) :: .int 0 :: .ref (um 10) :: .ref (um 11) :: .int 1 :: .ref (um 12) :: .ref (um 13) :: .int 0 :: .int 0 :: .ref (um 14) :: .ref (um 15) :: .ref (um 16) :: .ref (um 17) :: .ref (um 18) :: .int 0 :: .ref (um 19) :: .long 0 :: .ref (um 20) :: .ref (um 21) :: ([] : List Value)))), ((um 11), .inl (cy 0, 296, .inl (fun _ => 0)))] := hw
  obtain rfl : r5 = (-2) := hp6
  refine lv_icmp_eq (tgt := 1252) hx hb dL_law_924 (by decide) (fun _ => ?_) (fun c => absurd (by decide) c)
  exact law_end hx hb hC hr hlocks hX hbl hbA hAe hw hl (Nat.le_of_ble_eq_true rfl) (Nat.le_of_ble_eq_true rfl)
set_option maxHeartbeats 4000000 in
set_option maxRecDepth 100000 in
theorem lc_errand_1 {p : Program} {e : Env} {s : State} {m : MethodId} {below : List Frame} {meth : Method} {c : Code} {l : Launch} {b : Nat} {xs : Nat → Int32} {adK adV : Nat → Nat} {dC : Nat → ClassId} {dI : Nat → Nat → Nat} {cy : Nat → ClassId} {A : Nat → Prop} (hC : CallFix p m c code 4 s #[Value.ref b] wsR RL) (hr : meth.sig.returnType = ret) (hlocks : meth.locks = false) (hK : KK dC dI cy s) (hE : SE adK adV A s s.heap) (hSR : SR adK s) (hAe : A = fun q : Nat => s.heap.size ≤ q) (hA : ∀ q : Nat, s.heap.size ≤ q → A q) (hbA : ¬ A b) (hX : va_X b 6 xs s s.heap) (hbl : b < s.heap.size) {qx qm : Nat} {ux um : Nat → Nat} (hs1 : xs 1 = (-1)) {s2 : Int32} (hs2 : xs 2 = s2) {H : Heap} {locs : List Loc} {ls : Array Slot} (hw : Wd dC dI A s.heap H locs [(qx, .inr (11, [.ref (ux 0), .ref (ux 1), .ref (ux 2), .ref (ux 3), .ref (ux 4), .ref (ux 5), .ref (ux 6), .ref (ux 7), .ref (ux 8), .ref (ux 9), .ref (ux 10), .ref (ux 11), .int 0])), ((ux 4), .inr (5, [.ref (ux 27), .ref (ux 28), .ref (ux 29), .ref (ux 30), .ref (ux 31), .ref (ux 32), .ref (ux 33), .ref (ux 34), .int 0, .int 0, .int 0, .int 0, .int 0, .int 0])), (qm, .inr (12, (.ref (um 0) :: .int 0 :: .int 0 :: .ref (um 1) :: .ref (um 2) :: .ref (um 3) :: .ref (um 4) :: .int 0 :: .int 0 :: .int 0 :: .int 0 :: .ref (um 5) :: .ref (um 6) :: .ref (um 7) :: .int 0 :: .int 0 :: .int 0 :: .int 0 :: .int 0 :: .int 0 :: .int 0 :: .ref (um 8) :: .int 0 :: .ref (um 9) :: .int 0 :: .ref (um 10) :: .ref (um 11) :: .int 1 :: .ref (um 12) :: .ref (um 13) :: .int 0 :: .int 0 :: .ref (um 14) :: .ref (um 15) :: .ref (um 16) :: .ref (um 17) :: .ref (um 18) :: .int 0 :: .ref (um 19) :: .long 0 :: .ref (um 20) :: .ref (um 21) :: ([] : List Value)))), ((um 11), .inl (cy 0, 296, .inl (fun _ => 0)))]) (hl : lv_has ls 4 [(3, .int 0), (2, .ref qm), (1, .ref qx), (0, .ref b)]) : W p l e room_1 s m #[Value.ref b] below meth c H locs 184 18569 (lw_Z below #[Value.ref b] s) (F0 m 896 ls []) := by
  have hx := hC.1
  have hb := hC.2.1
  refine lv_aload_n hx hb dL_law_896 rfl (lv_at hl 2 rfl) ?_
  refine lv_aload_n hx hb dL_law_897 rfl (lv_at hl 3 rfl) ?_
  refine lv_iload_n hx hb dL_law_898 rfl (lv_at hl 0 rfl) ?_
  refine lv_iconst (v := 1) hx hb dL_law_899 (by decide) ?_
  refine lv_iadd hx hb dL_law_900 ?_
  refine wk_top 1 (by decide) ?_
  refine va_sld hx hb hX hbl hbA hw.2.2 (show ¬ ((1 : Int32) < 0 ∨ 6 ≤ (1 : Int32).toNatClampNeg) by decide) dL_law_901 ?_
  refine wk_top (-1) hs1 ?_
  refine lv_aload_n hx hb dL_law_902 rfl (lv_at hl 3 rfl) ?_
  refine lv_iload_n hx hb dL_law_903 rfl (lv_at hl 0 rfl) ?_
  refine lv_iconst (v := 2) hx hb dL_law_904 (by decide) ?_
  refine lv_iadd hx hb dL_law_905 ?_
  refine wk_top 2 (by decide) ?_
  refine va_sld hx hb hX hbl hbA hw.2.2 (show ¬ ((2 : Int32) < 0 ∨ 6 ≤ (2 : Int32).toNatClampNeg) by decide) dL_law_906 ?_
  refine wk_top s2 hs2 ?_
  refine wk_Vi hC hK hw hA [0, 1] [2, 3] rfl rfl rfl rfl (by decide) (t_X11_errand_1 l dC dI cy qx ux s2 H.size ) (cwV 2 hC.2.2.2.2 gL_law_X11_errand rfl rfl rfl (by decide +kernel) ⟨Nat.le_of_ble_eq_true rfl, Nat.le_of_ble_eq_true rfl⟩) rfl 0 rfl rfl hl.1 rfl (Nat.le_of_ble_eq_true rfl) dL_law_907 184 18569 ⟨rfl, rfl⟩ ⟨Nat.le_of_ble_eq_true rfl, Nat.le_of_ble_eq_true rfl⟩ (fun r2 u1 H locs hp3 hw => ?_)
  have hw : Wd dC dI A s.heap H locs [(qm, .inr (12, (.ref (um 0) :: .int 0 :: .int 0 :: .ref (um 1) :: .ref (um 2) :: .ref (um 3) :: .ref (um 4) :: .int 0 :: .int 0 :: .int 0 :: .int 0 :: .ref (um 5) :: .ref (um 6) :: .ref (um 7) :: .int 0 :: .int 0 :: .int 0 :: .int 0 :: .int 0 :: .int 0 :: .int 0 :: .ref (um 8) :: .int 0 :: .ref (um 9) :: .int 0 :: .ref (um 10) :: .ref (um 11) :: .int 1 :: .ref (um 12) :: .ref (um 13) :: .int 0 :: .int 0 :: .ref (um 14) :: .ref (um 15) :: .ref (um 16) :: .ref (um 17) :: .ref (um 18) :: .int 0 :: .ref (um 19) :: .long 0 :: .ref (um 20) :: .ref (um 21) :: ([] : List Value)))), ((um 11), .inl (cy 0, 296, .inl (fun _ => 0))), (qx, .inr (11, [.ref (ux 0), .ref (ux 1), .ref (ux 2), .ref (ux 3), .ref (ux 4), .ref (ux 5), .ref (ux 6), .ref (ux 7), .ref (ux 8), .ref (ux 9), .ref (ux 10), .ref (ux 11), .int 0])), ((ux 4), .inr (5, [.ref (ux 27), .ref (ux 28), .ref (ux 29), .ref (ux 30), .ref (ux 31), .ref (ux 32), .ref (ux 33), .ref (ux 34), .int 0, .int 0, .int 0, .int 0, .int 0, .int 0]))] := hw
  obtain rfl : r2 = 0 := hp3
  refine lv_aload_n hx hb dL_law_910 rfl (lv_at hl 1 rfl) ?_
  refine lv_aload_n hx hb dL_law_911 rfl (lv_at hl 3 rfl) ?_
  refine lv_iload_n hx hb dL_law_912 rfl (lv_at hl 0 rfl) ?_
  refine lv_iconst (v := 1) hx hb dL_law_913 (by decide) ?_
  refine lv_iadd hx hb dL_law_914 ?_
  refine wk_top 1 (by decide) ?_
  refine va_sld hx hb hX hbl hbA hw.2.2 (show ¬ ((1 : Int32) < 0 ∨ 6 ≤ (1 : Int32).toNatClampNeg) by decide) dL_law_915 ?_
  refine wk_top (-1) hs1 ?_
  refine lv_aload_n hx hb dL_law_916 rfl (lv_at hl 3 rfl) ?_
  refine lv_iload_n hx hb dL_law_917 rfl (lv_at hl 0 rfl) ?_
  refine lv_iconst (v := 2) hx hb dL_law_918 (by decide) ?_
  refine lv_iadd hx hb dL_law_919 ?_
  refine wk_top 2 (by decide) ?_
  refine va_sld hx hb hX hbl hbA hw.2.2 (show ¬ ((2 : Int32) < 0 ∨ 6 ≤ (2 : Int32).toNatClampNeg) by decide) dL_law_920 ?_
  refine wk_top s2 hs2 ?_
  refine wk_Vi hC hK hw hA [0, 1] [2, 3] rfl rfl rfl rfl (by decide) (t_X12_errand_1 l dC dI cy qm um s2 H.size ) (cwV 2 hC.2.2.2.2 gL_law_X12_errand rfl rfl rfl (by decide +kernel) ⟨Nat.le_of_ble_eq_true rfl, Nat.le_of_ble_eq_true rfl⟩) rfl 0 rfl rfl hl.1 rfl (Nat.le_of_ble_eq_true rfl) dL_law_921 184 18569 ⟨rfl, rfl⟩ ⟨Nat.le_of_ble_eq_true rfl, Nat.le_of_ble_eq_true rfl⟩ (fun r5 u4 H locs hp6 hw => ?_)
  have hw : Wd dC dI A s.heap H locs [(qx, .inr (11, [.ref (ux 0), .ref (ux 1), .ref (ux 2), .ref (ux 3), .ref (ux 4), .ref (ux 5), .ref (ux 6), .ref (ux 7), .ref (ux 8), .ref (ux 9), .ref (ux 10), .ref (ux 11), .int 0])), ((ux 4), .inr (5, [.ref (ux 27), .ref (ux 28), .ref (ux 29), .ref (ux 30), .ref (ux 31), .ref (ux 32), .ref (ux 33), .ref (ux 34), .int 0, .int 0, .int 0, .int 0, .int 0, .int 0])), (qm, .inr (12, (.ref (um 0) :: .int 0 :: .int 0 :: .ref (um 1) :: .ref (um 2) :: .ref (um 3) :: .ref (um 4) :: .int 0 :: .int 0 :: .int 0 :: .int 0 :: .ref (um 5) :: .ref (um 6) :: .ref (um 7) :: .int 0 :: .int 0 :: .int 0 :: .int 0 :: .int 0 :: .int 0 :: .int 0 :: .ref (um 8) :: .int 0 :: .ref (um 9) :: .int 0 :: .ref (um 10) :: .ref (um 11) :: .int 1 :: .ref (um 12) :: .ref (um 13) :: .int 0 :: .int 0 :: .ref (um 14) :: .ref (um 15) :: .ref (um 16) :: .ref (um 17) :: .ref (um 18) :: .int 0 :: .ref (um 19) :: .long 0 :: .ref (um 20) :: .ref (um 21) :: ([] : List Value)))), ((um 11), .inl (cy 0, 296, .inl (u4.2 0)))] := hw
  obtain rfl : r5 = 0 := hp6
  refine lv_icmp_eq (tgt := 1252) hx hb dL_law_924 (by decide) (fun _ => ?_) (fun c => absurd (by decide) c)
  exact law_end hx hb hC hr hlocks hX hbl hbA hAe hw hl (Nat.le_of_ble_eq_true rfl) (Nat.le_of_ble_eq_true rfl)
set_option maxHeartbeats 4000000 in
set_option maxRecDepth 100000 in
theorem lc_errand_2 {p : Program} {e : Env} {s : State} {m : MethodId} {below : List Frame} {meth : Method} {c : Code} {l : Launch} {b : Nat} {xs : Nat → Int32} {adK adV : Nat → Nat} {dC : Nat → ClassId} {dI : Nat → Nat → Nat} {cy : Nat → ClassId} {A : Nat → Prop} (hC : CallFix p m c code 4 s #[Value.ref b] wsR RL) (hr : meth.sig.returnType = ret) (hlocks : meth.locks = false) (hK : KK dC dI cy s) (hE : SE adK adV A s s.heap) (hSR : SR adK s) (hAe : A = fun q : Nat => s.heap.size ≤ q) (hA : ∀ q : Nat, s.heap.size ≤ q → A q) (hbA : ¬ A b) (hX : va_X b 6 xs s s.heap) (hbl : b < s.heap.size) {qx qm : Nat} {ux um : Nat → Nat} {s1 : Int32} (hs1 : xs 1 = s1) {s2 : Int32} (hs2 : xs 2 = s2) (hcs : 0 ≤ s1.toInt) {H : Heap} {locs : List Loc} {ls : Array Slot} (hw : Wd dC dI A s.heap H locs [(qx, .inr (11, [.ref (ux 0), .ref (ux 1), .ref (ux 2), .ref (ux 3), .ref (ux 4), .ref (ux 5), .ref (ux 6), .ref (ux 7), .ref (ux 8), .ref (ux 9), .ref (ux 10), .ref (ux 11), .int 0])), ((ux 4), .inr (5, [.ref (ux 27), .ref (ux 28), .ref (ux 29), .ref (ux 30), .ref (ux 31), .ref (ux 32), .ref (ux 33), .ref (ux 34), .int 0, .int 0, .int 0, .int 0, .int 0, .int 0])), ((ux 27), .inr (7, [.ref (ux 68), .ref (ux 69), .ref (ux 70), .ref (ux 71), .ref (ux 72), .ref (ux 73), .ref (ux 74), .ref (ux 75), .int 0, .int 0, .int 0, .int 0])), (qm, .inr (12, (.ref (um 0) :: .int 0 :: .int 0 :: .ref (um 1) :: .ref (um 2) :: .ref (um 3) :: .ref (um 4) :: .int 0 :: .int 0 :: .int 0 :: .int 0 :: .ref (um 5) :: .ref (um 6) :: .ref (um 7) :: .int 0 :: .int 0 :: .int 0 :: .int 0 :: .int 0 :: .int 0 :: .int 0 :: .ref (um 8) :: .int 0 :: .ref (um 9) :: .int 0 :: .ref (um 10) :: .ref (um 11) :: .int 1 :: .ref (um 12) :: .ref (um 13) :: .int 0 :: .int 0 :: .ref (um 14) :: .ref (um 15) :: .ref (um 16) :: .ref (um 17) :: .ref (um 18) :: .int 0 :: .ref (um 19) :: .long 0 :: .ref (um 20) :: .ref (um 21) :: ([] : List Value)))), ((um 11), .inl (cy 0, 296, .inl (fun _ => 0)))]) (hl : lv_has ls 4 [(3, .int 0), (2, .ref qm), (1, .ref qx), (0, .ref b)]) : W p l e room_1 s m #[Value.ref b] below meth c H locs 184 18569 (lw_Z below #[Value.ref b] s) (F0 m 896 ls []) := by
  have hx := hC.1
  have hb := hC.2.1
  refine lv_aload_n hx hb dL_law_896 rfl (lv_at hl 2 rfl) ?_
  refine lv_aload_n hx hb dL_law_897 rfl (lv_at hl 3 rfl) ?_
  refine lv_iload_n hx hb dL_law_898 rfl (lv_at hl 0 rfl) ?_
  refine lv_iconst (v := 1) hx hb dL_law_899 (by decide) ?_
  refine lv_iadd hx hb dL_law_900 ?_
  refine wk_top 1 (by decide) ?_
  refine va_sld hx hb hX hbl hbA hw.2.2 (show ¬ ((1 : Int32) < 0 ∨ 6 ≤ (1 : Int32).toNatClampNeg) by decide) dL_law_901 ?_
  refine wk_top s1 hs1 ?_
  refine lv_aload_n hx hb dL_law_902 rfl (lv_at hl 3 rfl) ?_
  refine lv_iload_n hx hb dL_law_903 rfl (lv_at hl 0 rfl) ?_
  refine lv_iconst (v := 2) hx hb dL_law_904 (by decide) ?_
  refine lv_iadd hx hb dL_law_905 ?_
  refine wk_top 2 (by decide) ?_
  refine va_sld hx hb hX hbl hbA hw.2.2 (show ¬ ((2 : Int32) < 0 ∨ 6 ≤ (2 : Int32).toNatClampNeg) by decide) dL_law_906 ?_
  refine wk_top s2 hs2 ?_
  refine wk_Vi hC hK hw hA [0, 1, 2] [3, 4] rfl rfl rfl rfl (by decide) (t_X11_errand_2 l dC dI cy qx ux s1 s2 H.size (show 0 ≤ s1.toInt by omega)) (cwV 2 hC.2.2.2.2 gL_law_X11_errand rfl rfl rfl (by decide +kernel) ⟨Nat.le_of_ble_eq_true rfl, Nat.le_of_ble_eq_true rfl⟩) rfl 0 rfl rfl hl.1 rfl (Nat.le_of_ble_eq_true rfl) dL_law_907 184 18569 ⟨rfl, rfl⟩ ⟨Nat.le_of_ble_eq_true rfl, Nat.le_of_ble_eq_true rfl⟩ (fun r2 u1 H locs hp3 hw => ?_)
  have hw : Wd dC dI A s.heap H locs [(qm, .inr (12, (.ref (um 0) :: .int 0 :: .int 0 :: .ref (um 1) :: .ref (um 2) :: .ref (um 3) :: .ref (um 4) :: .int 0 :: .int 0 :: .int 0 :: .int 0 :: .ref (um 5) :: .ref (um 6) :: .ref (um 7) :: .int 0 :: .int 0 :: .int 0 :: .int 0 :: .int 0 :: .int 0 :: .int 0 :: .ref (um 8) :: .int 0 :: .ref (um 9) :: .int 0 :: .ref (um 10) :: .ref (um 11) :: .int 1 :: .ref (um 12) :: .ref (um 13) :: .int 0 :: .int 0 :: .ref (um 14) :: .ref (um 15) :: .ref (um 16) :: .ref (um 17) :: .ref (um 18) :: .int 0 :: .ref (um 19) :: .long 0 :: .ref (um 20) :: .ref (um 21) :: ([] : List Value)))), ((um 11), .inl (cy 0, 296, .inl (fun _ => 0))), (qx, .inr (11, [.ref (ux 0), .ref (ux 1), .ref (ux 2), .ref (ux 3), .ref (ux 4), .ref (ux 5), .ref (ux 6), .ref (ux 7), .ref (ux 8), .ref (ux 9), .ref (ux 10), .ref (ux 11), .int 0])), ((ux 4), .inr (5, [.ref (ux 27), .ref (ux 28), .ref (ux 29), .ref (ux 30), .ref (ux 31), .ref (ux 32), .ref (ux 33), .ref (ux 34), .int 0, .int 0, .int 0, .int 0, .int 0, .int 0])), ((ux 27), .inr (7, [.ref (ux 68), .ref (ux 69), .ref (ux 70), .ref (ux 71), .ref (ux 72), .ref (ux 73), .ref (ux 74), .ref (ux 75), .int 0, .int 0, .int 0, .int 0]))] := hw
  obtain rfl : r2 = (-2) := hp3
  refine lv_aload_n hx hb dL_law_910 rfl (lv_at hl 1 rfl) ?_
  refine lv_aload_n hx hb dL_law_911 rfl (lv_at hl 3 rfl) ?_
  refine lv_iload_n hx hb dL_law_912 rfl (lv_at hl 0 rfl) ?_
  refine lv_iconst (v := 1) hx hb dL_law_913 (by decide) ?_
  refine lv_iadd hx hb dL_law_914 ?_
  refine wk_top 1 (by decide) ?_
  refine va_sld hx hb hX hbl hbA hw.2.2 (show ¬ ((1 : Int32) < 0 ∨ 6 ≤ (1 : Int32).toNatClampNeg) by decide) dL_law_915 ?_
  refine wk_top s1 hs1 ?_
  refine lv_aload_n hx hb dL_law_916 rfl (lv_at hl 3 rfl) ?_
  refine lv_iload_n hx hb dL_law_917 rfl (lv_at hl 0 rfl) ?_
  refine lv_iconst (v := 2) hx hb dL_law_918 (by decide) ?_
  refine lv_iadd hx hb dL_law_919 ?_
  refine wk_top 2 (by decide) ?_
  refine va_sld hx hb hX hbl hbA hw.2.2 (show ¬ ((2 : Int32) < 0 ∨ 6 ≤ (2 : Int32).toNatClampNeg) by decide) dL_law_920 ?_
  refine wk_top s2 hs2 ?_
  refine wk_Vi hC hK hw hA [0, 1] [2, 3, 4] rfl rfl rfl rfl (by decide) (t_X12_errand_2 l dC dI cy qm um s1 s2 H.size (show 0 ≤ s1.toInt by omega)) (cwV 2 hC.2.2.2.2 gL_law_X12_errand rfl rfl rfl (by decide +kernel) ⟨Nat.le_of_ble_eq_true rfl, Nat.le_of_ble_eq_true rfl⟩) rfl 0 rfl rfl hl.1 rfl (Nat.le_of_ble_eq_true rfl) dL_law_921 184 18569 ⟨rfl, rfl⟩ ⟨Nat.le_of_ble_eq_true rfl, Nat.le_of_ble_eq_true rfl⟩ (fun r5 u4 H locs hp6 hw => ?_)
  have hw : Wd dC dI A s.heap H locs [(qx, .inr (11, [.ref (ux 0), .ref (ux 1), .ref (ux 2), .ref (ux 3), .ref (ux 4), .ref (ux 5), .ref (ux 6), .ref (ux 7), .ref (ux 8), .ref (ux 9), .ref (ux 10), .ref (ux 11), .int 0])), ((ux 4), .inr (5, [.ref (ux 27), .ref (ux 28), .ref (ux 29), .ref (ux 30), .ref (ux 31), .ref (ux 32), .ref (ux 33), .ref (ux 34), .int 0, .int 0, .int 0, .int 0, .int 0, .int 0])), ((ux 27), .inr (7, [.ref (ux 68), .ref (ux 69), .ref (ux 70), .ref (ux 71), .ref (ux 72), .ref (ux 73), .ref (ux 74), .ref (ux 75), .int 0, .int 0, .int 0, .int 0])), (qm, .inr (12, (.ref (um 0) :: .int 0 :: .int 0 :: .ref (um 1) :: .ref (um 2) :: .ref (um 3) :: .ref (um 4) :: .int 0 :: .int 0 :: .int 0 :: .int 0 :: .ref (um 5) :: .ref (um 6) :: .ref (um 7) :: .int 0 :: .int 0 :: .int 0 :: .int 0 :: .int 0 :: .int 0 :: .int 0 :: .ref (um 8) :: .int 0 :: .ref (um 9) :: .int 0 :: .ref (um 10) :: .ref (um 11) :: .int 1 :: .ref (um 12) :: .ref (um 13) :: .int 0 :: .int 0 :: .ref (um 14) :: .ref (um 15) :: .ref (um 16) :: .ref (um 17) :: .ref (um 18) :: .int 0 :: .ref (um 19) :: .long 0 :: .ref (um 20) :: .ref (um 21) :: ([] : List Value)))), ((um 11), .inl (cy 0, 296, .inl (fun _ => 0)))] := hw
  obtain rfl : r5 = (-2) := hp6
  refine lv_icmp_eq (tgt := 1252) hx hb dL_law_924 (by decide) (fun _ => ?_) (fun c => absurd (by decide) c)
  exact law_end hx hb hC hr hlocks hX hbl hbA hAe hw hl (Nat.le_of_ble_eq_true rfl) (Nat.le_of_ble_eq_true rfl)
set_option maxHeartbeats 4000000 in
set_option maxRecDepth 100000 in
theorem lc_ways {p : Program} {e : Env} {s : State} {m : MethodId} {below : List Frame} {meth : Method} {c : Code} {l : Launch} {b : Nat} {xs : Nat → Int32} {adK adV : Nat → Nat} {dC : Nat → ClassId} {dI : Nat → Nat → Nat} {cy : Nat → ClassId} {A : Nat → Prop} (hC : CallFix p m c code 4 s #[Value.ref b] wsR RL) (hr : meth.sig.returnType = ret) (hlocks : meth.locks = false) (hK : KK dC dI cy s) (hE : SE adK adV A s s.heap) (hSR : SR adK s) (hAe : A = fun q : Nat => s.heap.size ≤ q) (hA : ∀ q : Nat, s.heap.size ≤ q → A q) (hbA : ¬ A b) (hX : va_X b 6 xs s s.heap) (hbl : b < s.heap.size) {qx qm : Nat} {ux um : Nat → Nat} {s1 : Int32} (hs1 : xs 1 = s1) {s2 : Int32} (hs2 : xs 2 = s2) {H : Heap} {locs : List Loc} {ls : Array Slot} (hw : Wd dC dI A s.heap H locs [(qx, .inr (11, [.ref (ux 0), .ref (ux 1), .ref (ux 2), .ref (ux 3), .ref (ux 4), .ref (ux 5), .ref (ux 6), .ref (ux 7), .ref (ux 8), .ref (ux 9), .ref (ux 10), .ref (ux 11), .int 0])), ((ux 4), .inr (5, [.ref (ux 27), .ref (ux 28), .ref (ux 29), .ref (ux 30), .ref (ux 31), .ref (ux 32), .ref (ux 33), .ref (ux 34), .int 0, .int 0, .int 0, .int 0, .int 0, .int 0])), ((ux 27), .inr (7, [.ref (ux 68), .ref (ux 69), .ref (ux 70), .ref (ux 71), .ref (ux 72), .ref (ux 73), .ref (ux 74), .ref (ux 75), .int 0, .int 0, .int 0, .int 0])), (qm, .inr (12, (.ref (um 0) :: .int 0 :: .int 0 :: .ref (um 1) :: .ref (um 2) :: .ref (um 3) :: .ref (um 4) :: .int 0 :: .int 0 :: .int 0 :: .int 0 :: .ref (um 5) :: .ref (um 6) :: .ref (um 7) :: .int 0 :: .int 0 :: .int 0 :: .int 0 :: .int 0 :: .int 0 :: .int 0 :: .ref (um 8) :: .int 0 :: .ref (um 9) :: .int 0 :: .ref (um 10) :: .ref (um 11) :: .int 1 :: .ref (um 12) :: .ref (um 13) :: .int 0 :: .int 0 :: .ref (um 14) :: .ref (um 15) :: .ref (um 16) :: .ref (um 17) :: .ref (um 18) :: .int 0 :: .ref (um 19) :: .long 0 :: .ref (um 20) :: .ref (um 21) :: ([] : List Value)))), ((um 11), .inl (cy 0, 296, .inl (fun _ => 0)))]) (hl : lv_has ls 4 [(3, .int 0), (2, .ref qm), (1, .ref qx), (0, .ref b)]) : W p l e room_1 s m #[Value.ref b] below meth c H locs 184 18569 (lw_Z below #[Value.ref b] s) (F0 m 929 ls []) := by
  have hx := hC.1
  have hb := hC.2.1
  refine lv_aload_n hx hb dL_law_929 rfl (lv_at hl 2 rfl) ?_
  refine lv_aload_n hx hb dL_law_930 rfl (lv_at hl 3 rfl) ?_
  refine lv_iload_n hx hb dL_law_931 rfl (lv_at hl 0 rfl) ?_
  refine lv_iconst (v := 1) hx hb dL_law_932 (by decide) ?_
  refine lv_iadd hx hb dL_law_933 ?_
  refine wk_top 1 (by decide) ?_
  refine va_sld hx hb hX hbl hbA hw.2.2 (show ¬ ((1 : Int32) < 0 ∨ 6 ≤ (1 : Int32).toNatClampNeg) by decide) dL_law_934 ?_
  refine wk_top s1 hs1 ?_
  refine lv_aload_n hx hb dL_law_935 rfl (lv_at hl 3 rfl) ?_
  refine lv_iload_n hx hb dL_law_936 rfl (lv_at hl 0 rfl) ?_
  refine lv_iconst (v := 2) hx hb dL_law_937 (by decide) ?_
  refine lv_iadd hx hb dL_law_938 ?_
  refine wk_top 2 (by decide) ?_
  refine va_sld hx hb hX hbl hbA hw.2.2 (show ¬ ((2 : Int32) < 0 ∨ 6 ≤ (2 : Int32).toNatClampNeg) by decide) dL_law_939 ?_
  refine wk_top s2 hs2 ?_
  refine wk_Vi hC hK hw hA [0, 1, 2] [3, 4] rfl rfl rfl rfl (by decide) (t_X11_ways l dC dI cy qx ux s1 s2 H.size ) (cwV 2 hC.2.2.2.2 gL_law_X11_ways rfl rfl rfl (by decide +kernel) ⟨Nat.le_of_ble_eq_true rfl, Nat.le_of_ble_eq_true rfl⟩) rfl 0 rfl rfl hl.1 rfl (Nat.le_of_ble_eq_true rfl) dL_law_940 184 18569 ⟨rfl, rfl⟩ ⟨Nat.le_of_ble_eq_true rfl, Nat.le_of_ble_eq_true rfl⟩ (fun r2 u1 H locs hp3 hw => ?_)
  have hw : Wd dC dI A s.heap H locs [(qm, .inr (12, (.ref (um 0) :: .int 0 :: .int 0 :: .ref (um 1) :: .ref (um 2) :: .ref (um 3) :: .ref (um 4) :: .int 0 :: .int 0 :: .int 0 :: .int 0 :: .ref (um 5) :: .ref (um 6) :: .ref (um 7) :: .int 0 :: .int 0 :: .int 0 :: .int 0 :: .int 0 :: .int 0 :: .int 0 :: .ref (um 8) :: .int 0 :: .ref (um 9) :: .int 0 :: .ref (um 10) :: .ref (um 11) :: .int 1 :: .ref (um 12) :: .ref (um 13) :: .int 0 :: .int 0 :: .ref (um 14) :: .ref (um 15) :: .ref (um 16) :: .ref (um 17) :: .ref (um 18) :: .int 0 :: .ref (um 19) :: .long 0 :: .ref (um 20) :: .ref (um 21) :: ([] : List Value)))), ((um 11), .inl (cy 0, 296, .inl (fun _ => 0))), (qx, .inr (11, [.ref (ux 0), .ref (ux 1), .ref (ux 2), .ref (ux 3), .ref (ux 4), .ref (ux 5), .ref (ux 6), .ref (ux 7), .ref (ux 8), .ref (ux 9), .ref (ux 10), .ref (ux 11), .int 0])), ((ux 4), .inr (5, [.ref (ux 27), .ref (ux 28), .ref (ux 29), .ref (ux 30), .ref (ux 31), .ref (ux 32), .ref (ux 33), .ref (ux 34), .int 0, .int 0, .int 0, .int 0, .int 0, .int 0])), ((ux 27), .inr (7, [.ref (ux 68), .ref (ux 69), .ref (ux 70), .ref (ux 71), .ref (ux 72), .ref (ux 73), .ref (ux 74), .ref (ux 75), .int 0, .int 0, .int 0, .int 0]))] := hw
  obtain rfl : r2 = (-1) := hp3
  refine lv_aload_n hx hb dL_law_943 rfl (lv_at hl 1 rfl) ?_
  refine lv_aload_n hx hb dL_law_944 rfl (lv_at hl 3 rfl) ?_
  refine lv_iload_n hx hb dL_law_945 rfl (lv_at hl 0 rfl) ?_
  refine lv_iconst (v := 1) hx hb dL_law_946 (by decide) ?_
  refine lv_iadd hx hb dL_law_947 ?_
  refine wk_top 1 (by decide) ?_
  refine va_sld hx hb hX hbl hbA hw.2.2 (show ¬ ((1 : Int32) < 0 ∨ 6 ≤ (1 : Int32).toNatClampNeg) by decide) dL_law_948 ?_
  refine wk_top s1 hs1 ?_
  refine lv_aload_n hx hb dL_law_949 rfl (lv_at hl 3 rfl) ?_
  refine lv_iload_n hx hb dL_law_950 rfl (lv_at hl 0 rfl) ?_
  refine lv_iconst (v := 2) hx hb dL_law_951 (by decide) ?_
  refine lv_iadd hx hb dL_law_952 ?_
  refine wk_top 2 (by decide) ?_
  refine va_sld hx hb hX hbl hbA hw.2.2 (show ¬ ((2 : Int32) < 0 ∨ 6 ≤ (2 : Int32).toNatClampNeg) by decide) dL_law_953 ?_
  refine wk_top s2 hs2 ?_
  refine wk_Vi hC hK hw hA [0, 1] [2, 3, 4] rfl rfl rfl rfl (by decide) (t_X12_ways l dC dI cy qm um s1 s2 H.size ) (cwV 2 hC.2.2.2.2 gL_law_X12_ways rfl rfl rfl (by decide +kernel) ⟨Nat.le_of_ble_eq_true rfl, Nat.le_of_ble_eq_true rfl⟩) rfl 0 rfl rfl hl.1 rfl (Nat.le_of_ble_eq_true rfl) dL_law_954 184 18569 ⟨rfl, rfl⟩ ⟨Nat.le_of_ble_eq_true rfl, Nat.le_of_ble_eq_true rfl⟩ (fun r5 u4 H locs hp6 hw => ?_)
  have hw : Wd dC dI A s.heap H locs [(qx, .inr (11, [.ref (ux 0), .ref (ux 1), .ref (ux 2), .ref (ux 3), .ref (ux 4), .ref (ux 5), .ref (ux 6), .ref (ux 7), .ref (ux 8), .ref (ux 9), .ref (ux 10), .ref (ux 11), .int 0])), ((ux 4), .inr (5, [.ref (ux 27), .ref (ux 28), .ref (ux 29), .ref (ux 30), .ref (ux 31), .ref (ux 32), .ref (ux 33), .ref (ux 34), .int 0, .int 0, .int 0, .int 0, .int 0, .int 0])), ((ux 27), .inr (7, [.ref (ux 68), .ref (ux 69), .ref (ux 70), .ref (ux 71), .ref (ux 72), .ref (ux 73), .ref (ux 74), .ref (ux 75), .int 0, .int 0, .int 0, .int 0])), (qm, .inr (12, (.ref (um 0) :: .int 0 :: .int 0 :: .ref (um 1) :: .ref (um 2) :: .ref (um 3) :: .ref (um 4) :: .int 0 :: .int 0 :: .int 0 :: .int 0 :: .ref (um 5) :: .ref (um 6) :: .ref (um 7) :: .int 0 :: .int 0 :: .int 0 :: .int 0 :: .int 0 :: .int 0 :: .int 0 :: .ref (um 8) :: .int 0 :: .ref (um 9) :: .int 0 :: .ref (um 10) :: .ref (um 11) :: .int 1 :: .ref (um 12) :: .ref (um 13) :: .int 0 :: .int 0 :: .ref (um 14) :: .ref (um 15) :: .ref (um 16) :: .ref (um 17) :: .ref (um 18) :: .int 0 :: .ref (um 19) :: .long 0 :: .ref (um 20) :: .ref (um 21) :: ([] : List Value)))), ((um 11), .inl (cy 0, 296, .inl (fun _ => 0)))] := hw
  obtain rfl : r5 = (-1) := hp6
  refine lv_icmp_eq (tgt := 1252) hx hb dL_law_957 (by decide) (fun _ => ?_) (fun c => absurd (by decide) c)
  exact law_end hx hb hC hr hlocks hX hbl hbA hAe hw hl (Nat.le_of_ble_eq_true rfl) (Nat.le_of_ble_eq_true rfl)
set_option maxHeartbeats 4000000 in
set_option maxRecDepth 100000 in
theorem lc_sight_0 {p : Program} {e : Env} {s : State} {m : MethodId} {below : List Frame} {meth : Method} {c : Code} {l : Launch} {b : Nat} {xs : Nat → Int32} {adK adV : Nat → Nat} {dC : Nat → ClassId} {dI : Nat → Nat → Nat} {cy : Nat → ClassId} {A : Nat → Prop} (hC : CallFix p m c code 4 s #[Value.ref b] wsR RL) (hr : meth.sig.returnType = ret) (hlocks : meth.locks = false) (hK : KK dC dI cy s) (hE : SE adK adV A s s.heap) (hSR : SR adK s) (hAe : A = fun q : Nat => s.heap.size ≤ q) (hA : ∀ q : Nat, s.heap.size ≤ q → A q) (hbA : ¬ A b) (hX : va_X b 6 xs s s.heap) (hbl : b < s.heap.size) {qx qm : Nat} {ux um : Nat → Nat} {s1 : Int32} (hs1 : xs 1 = s1) {s2 : Int32} (hs2 : xs 2 = s2) (hcs : s1.toInt ≤ -2) {H : Heap} {locs : List Loc} {ls : Array Slot} (hw : Wd dC dI A s.heap H locs [(qx, .inr (11, [.ref (ux 0), .ref (ux 1), .ref (ux 2), .ref (ux 3), .ref (ux 4), .ref (ux 5), .ref (ux 6), .ref (ux 7), .ref (ux 8), .ref (ux 9), .ref (ux 10), .ref (ux 11), .int 0])), ((ux 4), .inr (5, [.ref (ux 27), .ref (ux 28), .ref (ux 29), .ref (ux 30), .ref (ux 31), .ref (ux 32), .ref (ux 33), .ref (ux 34), .int 0, .int 0, .int 0, .int 0, .int 0, .int 0])), ((ux 27), .inr (7, [.ref (ux 68), .ref (ux 69), .ref (ux 70), .ref (ux 71), .ref (ux 72), .ref (ux 73), .ref (ux 74), .ref (ux 75), .int 0, .int 0, .int 0, .int 0])), (qm, .inr (12, (.ref (um 0) :: .int 0 :: .int 0 :: .ref (um 1) :: .ref (um 2) :: .ref (um 3) :: .ref (um 4) :: .int 0 :: .int 0 :: .int 0 :: .int 0 :: .ref (um 5) :: .ref (um 6) :: .ref (um 7) :: .int 0 :: .int 0 :: .int 0 :: .int 0 :: .int 0 :: .int 0 :: .int 0 :: .ref (um 8) :: .int 0 :: .ref (um 9) :: .int 0 :: .ref (um 10) :: .ref (um 11) :: .int 1 :: .ref (um 12) :: .ref (um 13) :: .int 0 :: .int 0 :: .ref (um 14) :: .ref (um 15) :: .ref (um 16) :: .ref (um 17) :: .ref (um 18) :: .int 0 :: .ref (um 19) :: .long 0 :: .ref (um 20) :: .ref (um 21) :: ([] : List Value)))), ((um 11), .inl (cy 0, 296, .inl (fun _ => 0)))]) (hl : lv_has ls 4 [(3, .int 0), (2, .ref qm), (1, .ref qx), (0, .ref b)]) : W p l e room_1 s m #[Value.ref b] below meth c H locs 184 18569 (lw_Z below #[Value.ref b] s) (F0 m 962 ls []) := by
  have hx := hC.1
  have hb := hC.2.1
  refine lv_aload_n hx hb dL_law_962 rfl (lv_at hl 2 rfl) ?_
  refine lv_aload_n hx hb dL_law_963 rfl (lv_at hl 3 rfl) ?_
  refine lv_iload_n hx hb dL_law_964 rfl (lv_at hl 0 rfl) ?_
  refine lv_iconst (v := 1) hx hb dL_law_965 (by decide) ?_
  refine lv_iadd hx hb dL_law_966 ?_
  refine wk_top 1 (by decide) ?_
  refine va_sld hx hb hX hbl hbA hw.2.2 (show ¬ ((1 : Int32) < 0 ∨ 6 ≤ (1 : Int32).toNatClampNeg) by decide) dL_law_967 ?_
  refine wk_top s1 hs1 ?_
  refine lv_aload_n hx hb dL_law_968 rfl (lv_at hl 3 rfl) ?_
  refine lv_iload_n hx hb dL_law_969 rfl (lv_at hl 0 rfl) ?_
  refine lv_iconst (v := 2) hx hb dL_law_970 (by decide) ?_
  refine lv_iadd hx hb dL_law_971 ?_
  refine wk_top 2 (by decide) ?_
  refine va_sld hx hb hX hbl hbA hw.2.2 (show ¬ ((2 : Int32) < 0 ∨ 6 ≤ (2 : Int32).toNatClampNeg) by decide) dL_law_972 ?_
  refine wk_top s2 hs2 ?_
  refine wk_Vi hC hK hw hA [0, 1, 2] [3, 4] rfl rfl rfl rfl (by decide) (t_X11_sight_0 l dC dI cy qx ux s1 s2 H.size (show s1.toInt ≤ -2 by omega)) (cwV 2 hC.2.2.2.2 gL_law_X11_sight rfl rfl rfl (by decide +kernel) ⟨Nat.le_of_ble_eq_true rfl, Nat.le_of_ble_eq_true rfl⟩) rfl 0 rfl rfl hl.1 rfl (Nat.le_of_ble_eq_true rfl) dL_law_973 184 18569 ⟨rfl, rfl⟩ ⟨Nat.le_of_ble_eq_true rfl, Nat.le_of_ble_eq_true rfl⟩ (fun r2 u1 H locs hp3 hw => ?_)
  have hw : Wd dC dI A s.heap H locs [(qm, .inr (12, (.ref (um 0) :: .int 0 :: .int 0 :: .ref (um 1) :: .ref (um 2) :: .ref (um 3) :: .ref (um 4) :: .int 0 :: .int 0 :: .int 0 :: .int 0 :: .ref (um 5) :: .ref (um 6) :: .ref (um 7) :: .int 0 :: .int 0 :: .int 0 :: .int 0 :: .int 0 :: .int 0 :: .int 0 :: .ref (um 8) :: .int 0 :: .ref (um 9) :: .int 0 :: .ref (um 10) :: .ref (um 11) :: .int 1 :: .ref (um 12) :: .ref (um 13) :: .int 0 :: .int 0 :: .ref (um 14) :: .ref (um 15) :: .ref (um 16) :: .ref (um 17) :: .ref (um 18) :: .int 0 :: .ref (um 19) :: .long 0 :: .ref (um 20) :: .ref (um 21) :: ([] : List Value)))), ((um 11), .inl (cy 0, 296, .inl (fun _ => 0))), (qx, .inr (11, [.ref (ux 0), .ref (ux 1), .ref (ux 2), .ref (ux 3), .ref (ux 4), .ref (ux 5), .ref (ux 6), .ref (ux 7), .ref (ux 8), .ref (ux 9), .ref (ux 10), .ref (ux 11), .int 0])), ((ux 4), .inr (5, [.ref (ux 27), .ref (ux 28), .ref (ux 29), .ref (ux 30), .ref (ux 31), .ref (ux 32), .ref (ux 33), .ref (ux 34), .int 0, .int 0, .int 0, .int 0, .int 0, .int 0])), ((ux 27), .inr (7, [.ref (ux 68), .ref (ux 69), .ref (ux 70), .ref (ux 71), .ref (ux 72), .ref (ux 73), .ref (ux 74), .ref (ux 75), .int 0, .int 0, .int 0, .int 0]))] := hw
  obtain rfl : r2 = (-2) := hp3
  refine lv_aload_n hx hb dL_law_976 rfl (lv_at hl 1 rfl) ?_
  refine lv_aload_n hx hb dL_law_977 rfl (lv_at hl 3 rfl) ?_
  refine lv_iload_n hx hb dL_law_978 rfl (lv_at hl 0 rfl) ?_
  refine lv_iconst (v := 1) hx hb dL_law_979 (by decide) ?_
  refine lv_iadd hx hb dL_law_980 ?_
  refine wk_top 1 (by decide) ?_
  refine va_sld hx hb hX hbl hbA hw.2.2 (show ¬ ((1 : Int32) < 0 ∨ 6 ≤ (1 : Int32).toNatClampNeg) by decide) dL_law_981 ?_
  refine wk_top s1 hs1 ?_
  refine lv_aload_n hx hb dL_law_982 rfl (lv_at hl 3 rfl) ?_
  refine lv_iload_n hx hb dL_law_983 rfl (lv_at hl 0 rfl) ?_
  refine lv_iconst (v := 2) hx hb dL_law_984 (by decide) ?_
  refine lv_iadd hx hb dL_law_985 ?_
  refine wk_top 2 (by decide) ?_
  refine va_sld hx hb hX hbl hbA hw.2.2 (show ¬ ((2 : Int32) < 0 ∨ 6 ≤ (2 : Int32).toNatClampNeg) by decide) dL_law_986 ?_
  refine wk_top s2 hs2 ?_
  refine wk_Vi hC hK hw hA [0, 1] [2, 3, 4] rfl rfl rfl rfl (by decide) (t_X12_sight_0 l dC dI cy qm um s1 s2 H.size (show s1.toInt ≤ -2 by omega)) (cwV 2 hC.2.2.2.2 gL_law_X12_sight rfl rfl rfl (by decide +kernel) ⟨Nat.le_of_ble_eq_true rfl, Nat.le_of_ble_eq_true rfl⟩) rfl 0 rfl rfl hl.1 rfl (Nat.le_of_ble_eq_true rfl) dL_law_987 184 18569 ⟨rfl, rfl⟩ ⟨Nat.le_of_ble_eq_true rfl, Nat.le_of_ble_eq_true rfl⟩ (fun r5 u4 H locs hp6 hw => ?_)
  have hw : Wd dC dI A s.heap H locs [(qx, .inr (11, [.ref (ux 0), .ref (ux 1), .ref (ux 2), .ref (ux 3), .ref (ux 4), .ref (ux 5), .ref (ux 6), .ref (ux 7), .ref (ux 8), .ref (ux 9), .ref (ux 10), .ref (ux 11), .int 0])), ((ux 4), .inr (5, [.ref (ux 27), .ref (ux 28), .ref (ux 29), .ref (ux 30), .ref (ux 31), .ref (ux 32), .ref (ux 33), .ref (ux 34), .int 0, .int 0, .int 0, .int 0, .int 0, .int 0])), ((ux 27), .inr (7, [.ref (ux 68), .ref (ux 69), .ref (ux 70), .ref (ux 71), .ref (ux 72), .ref (ux 73), .ref (ux 74), .ref (ux 75), .int 0, .int 0, .int 0, .int 0])), (qm, .inr (12, (.ref (um 0) :: .int 0 :: .int 0 :: .ref (um 1) :: .ref (um 2) :: .ref (um 3) :: .ref (um 4) :: .int 0 :: .int 0 :: .int 0 :: .int 0 :: .ref (um 5) :: .ref (um 6) :: .ref (um 7) :: .int 0 :: .int 0 :: .int 0 :: .int 0 :: .int 0 :: .int 0 :: .int 0 :: .ref (um 8) :: .int 0 :: .ref (um 9) :: .int 0 :: .ref (um 10) :: .ref (um 11) :: .int 1 :: .ref (um 12) :: .ref (um 13) :: .int 0 :: .int 0 :: .ref (um 14) :: .ref (um 15) :: .ref (um 16) :: .ref (um 17) :: .ref (um 18) :: .int 0 :: .ref (um 19) :: .long 0 :: .ref (um 20) :: .ref (um 21) :: ([] : List Value)))), ((um 11), .inl (cy 0, 296, .inl (fun _ => 0)))] := hw
  obtain rfl : r5 = (-2) := hp6
  refine lv_icmp_eq (tgt := 1252) hx hb dL_law_990 (by decide) (fun _ => ?_) (fun c => absurd (by decide) c)
  exact law_end hx hb hC hr hlocks hX hbl hbA hAe hw hl (Nat.le_of_ble_eq_true rfl) (Nat.le_of_ble_eq_true rfl)
set_option maxHeartbeats 4000000 in
set_option maxRecDepth 100000 in
theorem lc_sight_1 {p : Program} {e : Env} {s : State} {m : MethodId} {below : List Frame} {meth : Method} {c : Code} {l : Launch} {b : Nat} {xs : Nat → Int32} {adK adV : Nat → Nat} {dC : Nat → ClassId} {dI : Nat → Nat → Nat} {cy : Nat → ClassId} {A : Nat → Prop} (hC : CallFix p m c code 4 s #[Value.ref b] wsR RL) (hr : meth.sig.returnType = ret) (hlocks : meth.locks = false) (hK : KK dC dI cy s) (hE : SE adK adV A s s.heap) (hSR : SR adK s) (hAe : A = fun q : Nat => s.heap.size ≤ q) (hA : ∀ q : Nat, s.heap.size ≤ q → A q) (hbA : ¬ A b) (hX : va_X b 6 xs s s.heap) (hbl : b < s.heap.size) {qx qm : Nat} {ux um : Nat → Nat} (hs1 : xs 1 = (-1)) {s2 : Int32} (hs2 : xs 2 = s2) {H : Heap} {locs : List Loc} {ls : Array Slot} (hw : Wd dC dI A s.heap H locs [(qx, .inr (11, [.ref (ux 0), .ref (ux 1), .ref (ux 2), .ref (ux 3), .ref (ux 4), .ref (ux 5), .ref (ux 6), .ref (ux 7), .ref (ux 8), .ref (ux 9), .ref (ux 10), .ref (ux 11), .int 0])), ((ux 4), .inr (5, [.ref (ux 27), .ref (ux 28), .ref (ux 29), .ref (ux 30), .ref (ux 31), .ref (ux 32), .ref (ux 33), .ref (ux 34), .int 0, .int 0, .int 0, .int 0, .int 0, .int 0])), (qm, .inr (12, (.ref (um 0) :: .int 0 :: .int 0 :: .ref (um 1) :: .ref (um 2) :: .ref (um 3) :: .ref (um 4) :: .int 0 :: .int 0 :: .int 0 :: .int 0 :: .ref (um 5) :: .ref (um 6) :: .ref (um 7) :: .int 0 :: .int 0 :: .int 0 :: .int 0 :: .int 0 :: .int 0 :: .int 0 :: .ref (um 8) :: .int 0 :: .ref (um 9) :: .int 0 :: .ref (um 10) :: .ref (um 11) :: .int 1 :: .ref (um 12) :: .ref (um 13) :: .int 0 :: .int 0 :: .ref (um 14) :: .ref (um 15) :: .ref (um 16) :: .ref (um 17) :: .ref (um 18) :: .int 0 :: .ref (um 19) :: .long 0 :: .ref (um 20) :: .ref (um 21) :: ([] : List Value)))), ((um 11), .inl (cy 0, 296, .inl (fun _ => 0)))]) (hl : lv_has ls 4 [(3, .int 0), (2, .ref qm), (1, .ref qx), (0, .ref b)]) : W p l e room_1 s m #[Value.ref b] below meth c H locs 184 18569 (lw_Z below #[Value.ref b] s) (F0 m 962 ls []) := by
  have hx := hC.1
  have hb := hC.2.1
  refine lv_aload_n hx hb dL_law_962 rfl (lv_at hl 2 rfl) ?_
  refine lv_aload_n hx hb dL_law_963 rfl (lv_at hl 3 rfl) ?_
  refine lv_iload_n hx hb dL_law_964 rfl (lv_at hl 0 rfl) ?_
  refine lv_iconst (v := 1) hx hb dL_law_965 (by decide) ?_
  refine lv_iadd hx hb dL_law_966 ?_
  refine wk_top 1 (by decide) ?_
  refine va_sld hx hb hX hbl hbA hw.2.2 (show ¬ ((1 : Int32) < 0 ∨ 6 ≤ (1 : Int32).toNatClampNeg) by decide) dL_law_967 ?_
  refine wk_top (-1) hs1 ?_
  refine lv_aload_n hx hb dL_law_968 rfl (lv_at hl 3 rfl) ?_
  refine lv_iload_n hx hb dL_law_969 rfl (lv_at hl 0 rfl) ?_
  refine lv_iconst (v := 2) hx hb dL_law_970 (by decide) ?_
  refine lv_iadd hx hb dL_law_971 ?_
  refine wk_top 2 (by decide) ?_
  refine va_sld hx hb hX hbl hbA hw.2.2 (show ¬ ((2 : Int32) < 0 ∨ 6 ≤ (2 : Int32).toNatClampNeg) by decide) dL_law_972 ?_
  refine wk_top s2 hs2 ?_
  refine wk_Vi hC hK hw hA [0, 1] [2, 3] rfl rfl rfl rfl (by decide) (t_X11_sight_1 l dC dI cy qx ux s2 H.size ) (cwV 2 hC.2.2.2.2 gL_law_X11_sight rfl rfl rfl (by decide +kernel) ⟨Nat.le_of_ble_eq_true rfl, Nat.le_of_ble_eq_true rfl⟩) rfl 0 rfl rfl hl.1 rfl (Nat.le_of_ble_eq_true rfl) dL_law_973 184 18569 ⟨rfl, rfl⟩ ⟨Nat.le_of_ble_eq_true rfl, Nat.le_of_ble_eq_true rfl⟩ (fun r2 u1 H locs hp3 hw => ?_)
  have hw : Wd dC dI A s.heap H locs [(qm, .inr (12, (.ref (um 0) :: .int 0 :: .int 0 :: .ref (um 1) :: .ref (um 2) :: .ref (um 3) :: .ref (um 4) :: .int 0 :: .int 0 :: .int 0 :: .int 0 :: .ref (um 5) :: .ref (um 6) :: .ref (um 7) :: .int 0 :: .int 0 :: .int 0 :: .int 0 :: .int 0 :: .int 0 :: .int 0 :: .ref (um 8) :: .int 0 :: .ref (um 9) :: .int 0 :: .ref (um 10) :: .ref (um 11) :: .int 1 :: .ref (um 12) :: .ref (um 13) :: .int 0 :: .int 0 :: .ref (um 14) :: .ref (um 15) :: .ref (um 16) :: .ref (um 17) :: .ref (um 18) :: .int 0 :: .ref (um 19) :: .long 0 :: .ref (um 20) :: .ref (um 21) :: ([] : List Value)))), ((um 11), .inl (cy 0, 296, .inl (fun _ => 0))), (qx, .inr (11, [.ref (ux 0), .ref (ux 1), .ref (ux 2), .ref (ux 3), .ref (ux 4), .ref (ux 5), .ref (ux 6), .ref (ux 7), .ref (ux 8), .ref (ux 9), .ref (ux 10), .ref (ux 11), .int 0])), ((ux 4), .inr (5, [.ref (ux 27), .ref (ux 28), .ref (ux 29), .ref (ux 30), .ref (ux 31), .ref (ux 32), .ref (ux 33), .ref (ux 34), .int 0, .int 0, .int 0, .int 0, .int 0, .int 0]))] := hw
  obtain rfl : r2 = 0 := hp3
  refine lv_aload_n hx hb dL_law_976 rfl (lv_at hl 1 rfl) ?_
  refine lv_aload_n hx hb dL_law_977 rfl (lv_at hl 3 rfl) ?_
  refine lv_iload_n hx hb dL_law_978 rfl (lv_at hl 0 rfl) ?_
  refine lv_iconst (v := 1) hx hb dL_law_979 (by decide) ?_
  refine lv_iadd hx hb dL_law_980 ?_
  refine wk_top 1 (by decide) ?_
  refine va_sld hx hb hX hbl hbA hw.2.2 (show ¬ ((1 : Int32) < 0 ∨ 6 ≤ (1 : Int32).toNatClampNeg) by decide) dL_law_981 ?_
  refine wk_top (-1) hs1 ?_
  refine lv_aload_n hx hb dL_law_982 rfl (lv_at hl 3 rfl) ?_
  refine lv_iload_n hx hb dL_law_983 rfl (lv_at hl 0 rfl) ?_
  refine lv_iconst (v := 2) hx hb dL_law_984 (by decide) ?_
  refine lv_iadd hx hb dL_law_985 ?_
  refine wk_top 2 (by decide) ?_
  refine va_sld hx hb hX hbl hbA hw.2.2 (show ¬ ((2 : Int32) < 0 ∨ 6 ≤ (2 : Int32).toNatClampNeg) by decide) dL_law_986 ?_
  refine wk_top s2 hs2 ?_
  refine wk_Vi hC hK hw hA [0, 1] [2, 3] rfl rfl rfl rfl (by decide) (t_X12_sight_1 l dC dI cy qm um s2 H.size ) (cwV 2 hC.2.2.2.2 gL_law_X12_sight rfl rfl rfl (by decide +kernel) ⟨Nat.le_of_ble_eq_true rfl, Nat.le_of_ble_eq_true rfl⟩) rfl 0 rfl rfl hl.1 rfl (Nat.le_of_ble_eq_true rfl) dL_law_987 184 18569 ⟨rfl, rfl⟩ ⟨Nat.le_of_ble_eq_true rfl, Nat.le_of_ble_eq_true rfl⟩ (fun r5 u4 H locs hp6 hw => ?_)
  have hw : Wd dC dI A s.heap H locs [(qx, .inr (11, [.ref (ux 0), .ref (ux 1), .ref (ux 2), .ref (ux 3), .ref (ux 4), .ref (ux 5), .ref (ux 6), .ref (ux 7), .ref (ux 8), .ref (ux 9), .ref (ux 10), .ref (ux 11), .int 0])), ((ux 4), .inr (5, [.ref (ux 27), .ref (ux 28), .ref (ux 29), .ref (ux 30), .ref (ux 31), .ref (ux 32), .ref (ux 33), .ref (ux 34), .int 0, .int 0, .int 0, .int 0, .int 0, .int 0])), (qm, .inr (12, (.ref (um 0) :: .int 0 :: .int 0 :: .ref (um 1) :: .ref (um 2) :: .ref (um 3) :: .ref (um 4) :: .int 0 :: .int 0 :: .int 0 :: .int 0 :: .ref (um 5) :: .ref (um 6) :: .ref (um 7) :: .int 0 :: .int 0 :: .int 0 :: .int 0 :: .int 0 :: .int 0 :: .int 0 :: .ref (um 8) :: .int 0 :: .ref (um 9) :: .int 0 :: .ref (um 10) :: .ref (um 11) :: .int 1 :: .ref (um 12) :: .ref (um 13) :: .int 0 :: .int 0 :: .ref (um 14) :: .ref (um 15) :: .ref (um 16) :: .ref (um 17) :: .ref (um 18) :: .int 0 :: .ref (um 19) :: .long 0 :: .ref (um 20) :: .ref (um 21) :: ([] : List Value)))), ((um 11), .inl (cy 0, 296, .inl (u4.2 0)))] := hw
  obtain rfl : r5 = 0 := hp6
  refine lv_icmp_eq (tgt := 1252) hx hb dL_law_990 (by decide) (fun _ => ?_) (fun c => absurd (by decide) c)
  exact law_end hx hb hC hr hlocks hX hbl hbA hAe hw hl (Nat.le_of_ble_eq_true rfl) (Nat.le_of_ble_eq_true rfl)
set_option maxHeartbeats 4000000 in
set_option maxRecDepth 100000 in
theorem lc_sight_2 {p : Program} {e : Env} {s : State} {m : MethodId} {below : List Frame} {meth : Method} {c : Code} {l : Launch} {b : Nat} {xs : Nat → Int32} {adK adV : Nat → Nat} {dC : Nat → ClassId} {dI : Nat → Nat → Nat} {cy : Nat → ClassId} {A : Nat → Prop} (hC : CallFix p m c code 4 s #[Value.ref b] wsR RL) (hr : meth.sig.returnType = ret) (hlocks : meth.locks = false) (hK : KK dC dI cy s) (hE : SE adK adV A s s.heap) (hSR : SR adK s) (hAe : A = fun q : Nat => s.heap.size ≤ q) (hA : ∀ q : Nat, s.heap.size ≤ q → A q) (hbA : ¬ A b) (hX : va_X b 6 xs s s.heap) (hbl : b < s.heap.size) {qx qm : Nat} {ux um : Nat → Nat} {s1 : Int32} (hs1 : xs 1 = s1) {s2 : Int32} (hs2 : xs 2 = s2) (hcs : 0 ≤ s1.toInt) {H : Heap} {locs : List Loc} {ls : Array Slot} (hw : Wd dC dI A s.heap H locs [(qx, .inr (11, [.ref (ux 0), .ref (ux 1), .ref (ux 2), .ref (ux 3), .ref (ux 4), .ref (ux 5), .ref (ux 6), .ref (ux 7), .ref (ux 8), .ref (ux 9), .ref (ux 10), .ref (ux 11), .int 0])), ((ux 4), .inr (5, [.ref (ux 27), .ref (ux 28), .ref (ux 29), .ref (ux 30), .ref (ux 31), .ref (ux 32), .ref (ux 33), .ref (ux 34), .int 0, .int 0, .int 0, .int 0, .int 0, .int 0])), ((ux 27), .inr (7, [.ref (ux 68), .ref (ux 69), .ref (ux 70), .ref (ux 71), .ref (ux 72), .ref (ux 73), .ref (ux 74), .ref (ux 75), .int 0, .int 0, .int 0, .int 0])), (qm, .inr (12, (.ref (um 0) :: .int 0 :: .int 0 :: .ref (um 1) :: .ref (um 2) :: .ref (um 3) :: .ref (um 4) :: .int 0 :: .int 0 :: .int 0 :: .int 0 :: .ref (um 5) :: .ref (um 6) :: .ref (um 7) :: .int 0 :: .int 0 :: .int 0 :: .int 0 :: .int 0 :: .int 0 :: .int 0 :: .ref (um 8) :: .int 0 :: .ref (um 9) :: .int 0 :: .ref (um 10) :: .ref (um 11) :: .int 1 :: .ref (um 12) :: .ref (um 13) :: .int 0 :: .int 0 :: .ref (um 14) :: .ref (um 15) :: .ref (um 16) :: .ref (um 17) :: .ref (um 18) :: .int 0 :: .ref (um 19) :: .long 0 :: .ref (um 20) :: .ref (um 21) :: ([] : List Value)))), ((um 11), .inl (cy 0, 296, .inl (fun _ => 0)))]) (hl : lv_has ls 4 [(3, .int 0), (2, .ref qm), (1, .ref qx), (0, .ref b)]) : W p l e room_1 s m #[Value.ref b] below meth c H locs 184 18569 (lw_Z below #[Value.ref b] s) (F0 m 962 ls []) := by
  have hx := hC.1
  have hb := hC.2.1
  refine lv_aload_n hx hb dL_law_962 rfl (lv_at hl 2 rfl) ?_
  refine lv_aload_n hx hb dL_law_963 rfl (lv_at hl 3 rfl) ?_
  refine lv_iload_n hx hb dL_law_964 rfl (lv_at hl 0 rfl) ?_
  refine lv_iconst (v := 1) hx hb dL_law_965 (by decide) ?_
  refine lv_iadd hx hb dL_law_966 ?_
  refine wk_top 1 (by decide) ?_
  refine va_sld hx hb hX hbl hbA hw.2.2 (show ¬ ((1 : Int32) < 0 ∨ 6 ≤ (1 : Int32).toNatClampNeg) by decide) dL_law_967 ?_
  refine wk_top s1 hs1 ?_
  refine lv_aload_n hx hb dL_law_968 rfl (lv_at hl 3 rfl) ?_
  refine lv_iload_n hx hb dL_law_969 rfl (lv_at hl 0 rfl) ?_
  refine lv_iconst (v := 2) hx hb dL_law_970 (by decide) ?_
  refine lv_iadd hx hb dL_law_971 ?_
  refine wk_top 2 (by decide) ?_
  refine va_sld hx hb hX hbl hbA hw.2.2 (show ¬ ((2 : Int32) < 0 ∨ 6 ≤ (2 : Int32).toNatClampNeg) by decide) dL_law_972 ?_
  refine wk_top s2 hs2 ?_
  refine wk_Vi hC hK hw hA [0, 1, 2] [3, 4] rfl rfl rfl rfl (by decide) (t_X11_sight_2 l dC dI cy qx ux s1 s2 H.size (show 0 ≤ s1.toInt by omega)) (cwV 2 hC.2.2.2.2 gL_law_X11_sight rfl rfl rfl (by decide +kernel) ⟨Nat.le_of_ble_eq_true rfl, Nat.le_of_ble_eq_true rfl⟩) rfl 0 rfl rfl hl.1 rfl (Nat.le_of_ble_eq_true rfl) dL_law_973 184 18569 ⟨rfl, rfl⟩ ⟨Nat.le_of_ble_eq_true rfl, Nat.le_of_ble_eq_true rfl⟩ (fun r2 u1 H locs hp3 hw => ?_)
  have hw : Wd dC dI A s.heap H locs [(qm, .inr (12, (.ref (um 0) :: .int 0 :: .int 0 :: .ref (um 1) :: .ref (um 2) :: .ref (um 3) :: .ref (um 4) :: .int 0 :: .int 0 :: .int 0 :: .int 0 :: .ref (um 5) :: .ref (um 6) :: .ref (um 7) :: .int 0 :: .int 0 :: .int 0 :: .int 0 :: .int 0 :: .int 0 :: .int 0 :: .ref (um 8) :: .int 0 :: .ref (um 9) :: .int 0 :: .ref (um 10) :: .ref (um 11) :: .int 1 :: .ref (um 12) :: .ref (um 13) :: .int 0 :: .int 0 :: .ref (um 14) :: .ref (um 15) :: .ref (um 16) :: .ref (um 17) :: .ref (um 18) :: .int 0 :: .ref (um 19) :: .long 0 :: .ref (um 20) :: .ref (um 21) :: ([] : List Value)))), ((um 11), .inl (cy 0, 296, .inl (fun _ => 0))), (qx, .inr (11, [.ref (ux 0), .ref (ux 1), .ref (ux 2), .ref (ux 3), .ref (ux 4), .ref (ux 5), .ref (ux 6), .ref (ux 7), .ref (ux 8), .ref (ux 9), .ref (ux 10), .ref (ux 11), .int 0])), ((ux 4), .inr (5, [.ref (ux 27), .ref (ux 28), .ref (ux 29), .ref (ux 30), .ref (ux 31), .ref (ux 32), .ref (ux 33), .ref (ux 34), .int 0, .int 0, .int 0, .int 0, .int 0, .int 0])), ((ux 27), .inr (7, [.ref (ux 68), .ref (ux 69), .ref (ux 70), .ref (ux 71), .ref (ux 72), .ref (ux 73), .ref (ux 74), .ref (ux 75), .int 0, .int 0, .int 0, .int 0]))] := hw
  obtain rfl : r2 = (-2) := hp3
  refine lv_aload_n hx hb dL_law_976 rfl (lv_at hl 1 rfl) ?_
  refine lv_aload_n hx hb dL_law_977 rfl (lv_at hl 3 rfl) ?_
  refine lv_iload_n hx hb dL_law_978 rfl (lv_at hl 0 rfl) ?_
  refine lv_iconst (v := 1) hx hb dL_law_979 (by decide) ?_
  refine lv_iadd hx hb dL_law_980 ?_
  refine wk_top 1 (by decide) ?_
  refine va_sld hx hb hX hbl hbA hw.2.2 (show ¬ ((1 : Int32) < 0 ∨ 6 ≤ (1 : Int32).toNatClampNeg) by decide) dL_law_981 ?_
  refine wk_top s1 hs1 ?_
  refine lv_aload_n hx hb dL_law_982 rfl (lv_at hl 3 rfl) ?_
  refine lv_iload_n hx hb dL_law_983 rfl (lv_at hl 0 rfl) ?_
  refine lv_iconst (v := 2) hx hb dL_law_984 (by decide) ?_
  refine lv_iadd hx hb dL_law_985 ?_
  refine wk_top 2 (by decide) ?_
  refine va_sld hx hb hX hbl hbA hw.2.2 (show ¬ ((2 : Int32) < 0 ∨ 6 ≤ (2 : Int32).toNatClampNeg) by decide) dL_law_986 ?_
  refine wk_top s2 hs2 ?_
  refine wk_Vi hC hK hw hA [0, 1] [2, 3, 4] rfl rfl rfl rfl (by decide) (t_X12_sight_2 l dC dI cy qm um s1 s2 H.size (show 0 ≤ s1.toInt by omega)) (cwV 2 hC.2.2.2.2 gL_law_X12_sight rfl rfl rfl (by decide +kernel) ⟨Nat.le_of_ble_eq_true rfl, Nat.le_of_ble_eq_true rfl⟩) rfl 0 rfl rfl hl.1 rfl (Nat.le_of_ble_eq_true rfl) dL_law_987 184 18569 ⟨rfl, rfl⟩ ⟨Nat.le_of_ble_eq_true rfl, Nat.le_of_ble_eq_true rfl⟩ (fun r5 u4 H locs hp6 hw => ?_)
  have hw : Wd dC dI A s.heap H locs [(qx, .inr (11, [.ref (ux 0), .ref (ux 1), .ref (ux 2), .ref (ux 3), .ref (ux 4), .ref (ux 5), .ref (ux 6), .ref (ux 7), .ref (ux 8), .ref (ux 9), .ref (ux 10), .ref (ux 11), .int 0])), ((ux 4), .inr (5, [.ref (ux 27), .ref (ux 28), .ref (ux 29), .ref (ux 30), .ref (ux 31), .ref (ux 32), .ref (ux 33), .ref (ux 34), .int 0, .int 0, .int 0, .int 0, .int 0, .int 0])), ((ux 27), .inr (7, [.ref (ux 68), .ref (ux 69), .ref (ux 70), .ref (ux 71), .ref (ux 72), .ref (ux 73), .ref (ux 74), .ref (ux 75), .int 0, .int 0, .int 0, .int 0])), (qm, .inr (12, (.ref (um 0) :: .int 0 :: .int 0 :: .ref (um 1) :: .ref (um 2) :: .ref (um 3) :: .ref (um 4) :: .int 0 :: .int 0 :: .int 0 :: .int 0 :: .ref (um 5) :: .ref (um 6) :: .ref (um 7) :: .int 0 :: .int 0 :: .int 0 :: .int 0 :: .int 0 :: .int 0 :: .int 0 :: .ref (um 8) :: .int 0 :: .ref (um 9) :: .int 0 :: .ref (um 10) :: .ref (um 11) :: .int 1 :: .ref (um 12) :: .ref (um 13) :: .int 0 :: .int 0 :: .ref (um 14) :: .ref (um 15) :: .ref (um 16) :: .ref (um 17) :: .ref (um 18) :: .int 0 :: .ref (um 19) :: .long 0 :: .ref (um 20) :: .ref (um 21) :: ([] : List Value)))), ((um 11), .inl (cy 0, 296, .inl (fun _ => 0)))] := hw
  obtain rfl : r5 = (-2) := hp6
  refine lv_icmp_eq (tgt := 1252) hx hb dL_law_990 (by decide) (fun _ => ?_) (fun c => absurd (by decide) c)
  exact law_end hx hb hC hr hlocks hX hbl hbA hAe hw hl (Nat.le_of_ble_eq_true rfl) (Nat.le_of_ble_eq_true rfl)
set_option maxHeartbeats 4000000 in
set_option maxRecDepth 100000 in
theorem lc_weekdays {p : Program} {e : Env} {s : State} {m : MethodId} {below : List Frame} {meth : Method} {c : Code} {l : Launch} {b : Nat} {xs : Nat → Int32} {adK adV : Nat → Nat} {dC : Nat → ClassId} {dI : Nat → Nat → Nat} {cy : Nat → ClassId} {A : Nat → Prop} (hC : CallFix p m c code 4 s #[Value.ref b] wsR RL) (hr : meth.sig.returnType = ret) (hlocks : meth.locks = false) (hK : KK dC dI cy s) (hE : SE adK adV A s s.heap) (hSR : SR adK s) (hAe : A = fun q : Nat => s.heap.size ≤ q) (hA : ∀ q : Nat, s.heap.size ≤ q → A q) (hbA : ¬ A b) (hX : va_X b 6 xs s s.heap) (hbl : b < s.heap.size) {qx qm : Nat} {ux um : Nat → Nat} {s1 : Int32} (hs1 : xs 1 = s1) {H : Heap} {locs : List Loc} {ls : Array Slot} (hw : Wd dC dI A s.heap H locs [(qx, .inr (11, [.ref (ux 0), .ref (ux 1), .ref (ux 2), .ref (ux 3), .ref (ux 4), .ref (ux 5), .ref (ux 6), .ref (ux 7), .ref (ux 8), .ref (ux 9), .ref (ux 10), .ref (ux 11), .int 0])), ((ux 4), .inr (5, [.ref (ux 27), .ref (ux 28), .ref (ux 29), .ref (ux 30), .ref (ux 31), .ref (ux 32), .ref (ux 33), .ref (ux 34), .int 0, .int 0, .int 0, .int 0, .int 0, .int 0])), ((ux 27), .inr (7, [.ref (ux 68), .ref (ux 69), .ref (ux 70), .ref (ux 71), .ref (ux 72), .ref (ux 73), .ref (ux 74), .ref (ux 75), .int 0, .int 0, .int 0, .int 0])), (qm, .inr (12, (.ref (um 0) :: .int 0 :: .int 0 :: .ref (um 1) :: .ref (um 2) :: .ref (um 3) :: .ref (um 4) :: .int 0 :: .int 0 :: .int 0 :: .int 0 :: .ref (um 5) :: .ref (um 6) :: .ref (um 7) :: .int 0 :: .int 0 :: .int 0 :: .int 0 :: .int 0 :: .int 0 :: .int 0 :: .ref (um 8) :: .int 0 :: .ref (um 9) :: .int 0 :: .ref (um 10) :: .ref (um 11) :: .int 1 :: .ref (um 12) :: .ref (um 13) :: .int 0 :: .int 0 :: .ref (um 14) :: .ref (um 15) :: .ref (um 16) :: .ref (um 17) :: .ref (um 18) :: .int 0 :: .ref (um 19) :: .long 0 :: .ref (um 20) :: .ref (um 21) :: ([] : List Value)))), ((um 11), .inl (cy 0, 296, .inl (fun _ => 0)))]) (hl : lv_has ls 4 [(3, .int 0), (2, .ref qm), (1, .ref qx), (0, .ref b)]) : W p l e room_1 s m #[Value.ref b] below meth c H locs 184 18569 (lw_Z below #[Value.ref b] s) (F0 m 995 ls []) := by
  have hx := hC.1
  have hb := hC.2.1
  refine lv_aload_n hx hb dL_law_995 rfl (lv_at hl 2 rfl) ?_
  refine lv_aload_n hx hb dL_law_996 rfl (lv_at hl 3 rfl) ?_
  refine lv_iload_n hx hb dL_law_997 rfl (lv_at hl 0 rfl) ?_
  refine lv_iconst (v := 1) hx hb dL_law_998 (by decide) ?_
  refine lv_iadd hx hb dL_law_999 ?_
  refine wk_top 1 (by decide) ?_
  refine va_sld hx hb hX hbl hbA hw.2.2 (show ¬ ((1 : Int32) < 0 ∨ 6 ≤ (1 : Int32).toNatClampNeg) by decide) dL_law_1000 ?_
  refine wk_top s1 hs1 ?_
  refine wk_Vi hC hK hw hA [0, 1, 2] [3, 4] rfl rfl rfl rfl (by decide) (t_X11_weekdays l dC dI cy qx ux s1 H.size ) (cwV 1 hC.2.2.2.2 gL_law_X11_weekdays rfl rfl rfl (by decide +kernel) ⟨Nat.le_of_ble_eq_true rfl, Nat.le_of_ble_eq_true rfl⟩) rfl 0 rfl rfl hl.1 rfl (Nat.le_of_ble_eq_true rfl) dL_law_1001 184 18569 ⟨rfl, rfl⟩ ⟨Nat.le_of_ble_eq_true rfl, Nat.le_of_ble_eq_true rfl⟩ (fun r2 u1 H locs hp3 hw => ?_)
  have hw : Wd dC dI A s.heap H locs [(qm, .inr (12, (.ref (um 0) :: .int 0 :: .int 0 :: .ref (um 1) :: .ref (um 2) :: .ref (um 3) :: .ref (um 4) :: .int 0 :: .int 0 :: .int 0 :: .int 0 :: .ref (um 5) :: .ref (um 6) :: .ref (um 7) :: .int 0 :: .int 0 :: .int 0 :: .int 0 :: .int 0 :: .int 0 :: .int 0 :: .ref (um 8) :: .int 0 :: .ref (um 9) :: .int 0 :: .ref (um 10) :: .ref (um 11) :: .int 1 :: .ref (um 12) :: .ref (um 13) :: .int 0 :: .int 0 :: .ref (um 14) :: .ref (um 15) :: .ref (um 16) :: .ref (um 17) :: .ref (um 18) :: .int 0 :: .ref (um 19) :: .long 0 :: .ref (um 20) :: .ref (um 21) :: ([] : List Value)))), ((um 11), .inl (cy 0, 296, .inl (fun _ => 0))), (qx, .inr (11, [.ref (ux 0), .ref (ux 1), .ref (ux 2), .ref (ux 3), .ref (ux 4), .ref (ux 5), .ref (ux 6), .ref (ux 7), .ref (ux 8), .ref (ux 9), .ref (ux 10), .ref (ux 11), .int 0])), ((ux 4), .inr (5, [.ref (ux 27), .ref (ux 28), .ref (ux 29), .ref (ux 30), .ref (ux 31), .ref (ux 32), .ref (ux 33), .ref (ux 34), .int 0, .int 0, .int 0, .int 0, .int 0, .int 0])), ((ux 27), .inr (7, [.ref (ux 68), .ref (ux 69), .ref (ux 70), .ref (ux 71), .ref (ux 72), .ref (ux 73), .ref (ux 74), .ref (ux 75), .int 0, .int 0, .int 0, .int 0]))] := hw
  obtain rfl : r2 = (-1) := hp3
  refine lv_aload_n hx hb dL_law_1004 rfl (lv_at hl 1 rfl) ?_
  refine lv_aload_n hx hb dL_law_1005 rfl (lv_at hl 3 rfl) ?_
  refine lv_iload_n hx hb dL_law_1006 rfl (lv_at hl 0 rfl) ?_
  refine lv_iconst (v := 1) hx hb dL_law_1007 (by decide) ?_
  refine lv_iadd hx hb dL_law_1008 ?_
  refine wk_top 1 (by decide) ?_
  refine va_sld hx hb hX hbl hbA hw.2.2 (show ¬ ((1 : Int32) < 0 ∨ 6 ≤ (1 : Int32).toNatClampNeg) by decide) dL_law_1009 ?_
  refine wk_top s1 hs1 ?_
  refine wk_Vi hC hK hw hA [0, 1] [2, 3, 4] rfl rfl rfl rfl (by decide) (t_X12_weekdays l dC dI cy qm um s1 H.size ) (cwV 1 hC.2.2.2.2 gL_law_X12_weekdays rfl rfl rfl (by decide +kernel) ⟨Nat.le_of_ble_eq_true rfl, Nat.le_of_ble_eq_true rfl⟩) rfl 0 rfl rfl hl.1 rfl (Nat.le_of_ble_eq_true rfl) dL_law_1010 184 18569 ⟨rfl, rfl⟩ ⟨Nat.le_of_ble_eq_true rfl, Nat.le_of_ble_eq_true rfl⟩ (fun r5 u4 H locs hp6 hw => ?_)
  have hw : Wd dC dI A s.heap H locs [(qx, .inr (11, [.ref (ux 0), .ref (ux 1), .ref (ux 2), .ref (ux 3), .ref (ux 4), .ref (ux 5), .ref (ux 6), .ref (ux 7), .ref (ux 8), .ref (ux 9), .ref (ux 10), .ref (ux 11), .int 0])), ((ux 4), .inr (5, [.ref (ux 27), .ref (ux 28), .ref (ux 29), .ref (ux 30), .ref (ux 31), .ref (ux 32), .ref (ux 33), .ref (ux 34), .int 0, .int 0, .int 0, .int 0, .int 0, .int 0])), ((ux 27), .inr (7, [.ref (ux 68), .ref (ux 69), .ref (ux 70), .ref (ux 71), .ref (ux 72), .ref (ux 73), .ref (ux 74), .ref (ux 75), .int 0, .int 0, .int 0, .int 0])), (qm, .inr (12, (.ref (um 0) :: .int 0 :: .int 0 :: .ref (um 1) :: .ref (um 2) :: .ref (um 3) :: .ref (um 4) :: .int 0 :: .int 0 :: .int 0 :: .int 0 :: .ref (um 5) :: .ref (um 6) :: .ref (um 7) :: .int 0 :: .int 0 :: .int 0 :: .int 0 :: .int 0 :: .int 0 :: .int 0 :: .ref (um 8) :: .int 0 :: .ref (um 9) :: .int 0 :: .ref (um 10) :: .ref (um 11) :: .int 1 :: .ref (um 12) :: .ref (um 13) :: .int 0 :: .int 0 :: .ref (um 14) :: .ref (um 15) :: .ref (um 16) :: .ref (um 17) :: .ref (um 18) :: .int 0 :: .ref (um 19) :: .long 0 :: .ref (um 20) :: .ref (um 21) :: ([] : List Value)))), ((um 11), .inl (cy 0, 296, .inl (fun _ => 0)))] := hw
  obtain rfl : r5 = (-1) := hp6
  refine lv_icmp_eq (tgt := 1252) hx hb dL_law_1013 (by decide) (fun _ => ?_) (fun c => absurd (by decide) c)
  exact law_end hx hb hC hr hlocks hX hbl hbA hAe hw hl (Nat.le_of_ble_eq_true rfl) (Nat.le_of_ble_eq_true rfl)
set_option maxHeartbeats 4000000 in
set_option maxRecDepth 100000 in
theorem lc_came_0 {p : Program} {e : Env} {s : State} {m : MethodId} {below : List Frame} {meth : Method} {c : Code} {l : Launch} {b : Nat} {xs : Nat → Int32} {adK adV : Nat → Nat} {dC : Nat → ClassId} {dI : Nat → Nat → Nat} {cy : Nat → ClassId} {A : Nat → Prop} (hC : CallFix p m c code 4 s #[Value.ref b] wsR RL) (hr : meth.sig.returnType = ret) (hlocks : meth.locks = false) (hK : KK dC dI cy s) (hE : SE adK adV A s s.heap) (hSR : SR adK s) (hAe : A = fun q : Nat => s.heap.size ≤ q) (hA : ∀ q : Nat, s.heap.size ≤ q → A q) (hbA : ¬ A b) (hX : va_X b 6 xs s s.heap) (hbl : b < s.heap.size) {qx qm : Nat} {ux um : Nat → Nat} {s1 : Int32} (hs1 : xs 1 = s1) (hcs : s1.toInt ≤ -2) {H : Heap} {locs : List Loc} {ls : Array Slot} (hw : Wd dC dI A s.heap H locs [(qx, .inr (11, [.ref (ux 0), .ref (ux 1), .ref (ux 2), .ref (ux 3), .ref (ux 4), .ref (ux 5), .ref (ux 6), .ref (ux 7), .ref (ux 8), .ref (ux 9), .ref (ux 10), .ref (ux 11), .int 0])), ((ux 4), .inr (5, [.ref (ux 27), .ref (ux 28), .ref (ux 29), .ref (ux 30), .ref (ux 31), .ref (ux 32), .ref (ux 33), .ref (ux 34), .int 0, .int 0, .int 0, .int 0, .int 0, .int 0])), ((ux 27), .inr (7, [.ref (ux 68), .ref (ux 69), .ref (ux 70), .ref (ux 71), .ref (ux 72), .ref (ux 73), .ref (ux 74), .ref (ux 75), .int 0, .int 0, .int 0, .int 0])), (qm, .inr (12, (.ref (um 0) :: .int 0 :: .int 0 :: .ref (um 1) :: .ref (um 2) :: .ref (um 3) :: .ref (um 4) :: .int 0 :: .int 0 :: .int 0 :: .int 0 :: .ref (um 5) :: .ref (um 6) :: .ref (um 7) :: .int 0 :: .int 0 :: .int 0 :: .int 0 :: .int 0 :: .int 0 :: .int 0 :: .ref (um 8) :: .int 0 :: .ref (um 9) :: .int 0 :: .ref (um 10) :: .ref (um 11) :: .int 1 :: .ref (um 12) :: .ref (um 13) :: .int 0 :: .int 0 :: .ref (um 14) :: .ref (um 15) :: .ref (um 16) :: .ref (um 17) :: .ref (um 18) :: .int 0 :: .ref (um 19) :: .long 0 :: .ref (um 20) :: .ref (um 21) :: ([] : List Value)))), ((um 11), .inl (cy 0, 296, .inl (fun _ => 0)))]) (hl : lv_has ls 4 [(3, .int 0), (2, .ref qm), (1, .ref qx), (0, .ref b)]) : W p l e room_1 s m #[Value.ref b] below meth c H locs 184 18569 (lw_Z below #[Value.ref b] s) (F0 m 1018 ls []) := by
  have hx := hC.1
  have hb := hC.2.1
  refine lv_aload_n hx hb dL_law_1018 rfl (lv_at hl 2 rfl) ?_
  refine lv_aload_n hx hb dL_law_1019 rfl (lv_at hl 3 rfl) ?_
  refine lv_iload_n hx hb dL_law_1020 rfl (lv_at hl 0 rfl) ?_
  refine lv_iconst (v := 1) hx hb dL_law_1021 (by decide) ?_
  refine lv_iadd hx hb dL_law_1022 ?_
  refine wk_top 1 (by decide) ?_
  refine va_sld hx hb hX hbl hbA hw.2.2 (show ¬ ((1 : Int32) < 0 ∨ 6 ≤ (1 : Int32).toNatClampNeg) by decide) dL_law_1023 ?_
  refine wk_top s1 hs1 ?_
  refine wk_Vi hC hK hw hA [0, 1, 2] [3, 4] rfl rfl rfl rfl (by decide) (t_X11_came_0 l dC dI cy qx ux s1 H.size (show s1.toInt ≤ -2 by omega)) (cwV 1 hC.2.2.2.2 gL_law_X11_came rfl rfl rfl (by decide +kernel) ⟨Nat.le_of_ble_eq_true rfl, Nat.le_of_ble_eq_true rfl⟩) rfl 0 rfl rfl hl.1 rfl (Nat.le_of_ble_eq_true rfl) dL_law_1024 184 18569 ⟨rfl, rfl⟩ ⟨Nat.le_of_ble_eq_true rfl, Nat.le_of_ble_eq_true rfl⟩ (fun r2 u1 H locs hp3 hw => ?_)
  have hw : Wd dC dI A s.heap H locs [(qm, .inr (12, (.ref (um 0) :: .int 0 :: .int 0 :: .ref (um 1) :: .ref (um 2) :: .ref (um 3) :: .ref (um 4) :: .int 0 :: .int 0 :: .int 0 :: .int 0 :: .ref (um 5) :: .ref (um 6) :: .ref (um 7) :: .int 0 :: .int 0 :: .int 0 :: .int 0 :: .int 0 :: .int 0 :: .int 0 :: .ref (um 8) :: .int 0 :: .ref (um 9) :: .int 0 :: .ref (um 10) :: .ref (um 11) :: .int 1 :: .ref (um 12) :: .ref (um 13) :: .int 0 :: .int 0 :: .ref (um 14) :: .ref (um 15) :: .ref (um 16) :: .ref (um 17) :: .ref (um 18) :: .int 0 :: .ref (um 19) :: .long 0 :: .ref (um 20) :: .ref (um 21) :: ([] : List Value)))), ((um 11), .inl (cy 0, 296, .inl (fun _ => 0))), (qx, .inr (11, [.ref (ux 0), .ref (ux 1), .ref (ux 2), .ref (ux 3), .ref (ux 4), .ref (ux 5), .ref (ux 6), .ref (ux 7), .ref (ux 8), .ref (ux 9), .ref (ux 10), .ref (ux 11), .int 0])), ((ux 4), .inr (5, [.ref (ux 27), .ref (ux 28), .ref (ux 29), .ref (ux 30), .ref (ux 31), .ref (ux 32), .ref (ux 33), .ref (ux 34), .int 0, .int 0, .int 0, .int 0, .int 0, .int 0])), ((ux 27), .inr (7, [.ref (ux 68), .ref (ux 69), .ref (ux 70), .ref (ux 71), .ref (ux 72), .ref (ux 73), .ref (ux 74), .ref (ux 75), .int 0, .int 0, .int 0, .int 0]))] := hw
  obtain rfl : r2 = (-2) := hp3
  refine lv_aload_n hx hb dL_law_1027 rfl (lv_at hl 1 rfl) ?_
  refine lv_aload_n hx hb dL_law_1028 rfl (lv_at hl 3 rfl) ?_
  refine lv_iload_n hx hb dL_law_1029 rfl (lv_at hl 0 rfl) ?_
  refine lv_iconst (v := 1) hx hb dL_law_1030 (by decide) ?_
  refine lv_iadd hx hb dL_law_1031 ?_
  refine wk_top 1 (by decide) ?_
  refine va_sld hx hb hX hbl hbA hw.2.2 (show ¬ ((1 : Int32) < 0 ∨ 6 ≤ (1 : Int32).toNatClampNeg) by decide) dL_law_1032 ?_
  refine wk_top s1 hs1 ?_
  refine wk_Vi hC hK hw hA [0, 1] [2, 3, 4] rfl rfl rfl rfl (by decide) (t_X12_came_0 l dC dI cy qm um s1 H.size (show s1.toInt ≤ -2 by omega)) (cwV 1 hC.2.2.2.2 gL_law_X12_came rfl rfl rfl (by decide +kernel) ⟨Nat.le_of_ble_eq_true rfl, Nat.le_of_ble_eq_true rfl⟩) rfl 0 rfl rfl hl.1 rfl (Nat.le_of_ble_eq_true rfl) dL_law_1033 184 18569 ⟨rfl, rfl⟩ ⟨Nat.le_of_ble_eq_true rfl, Nat.le_of_ble_eq_true rfl⟩ (fun r5 u4 H locs hp6 hw => ?_)
  have hw : Wd dC dI A s.heap H locs [(qx, .inr (11, [.ref (ux 0), .ref (ux 1), .ref (ux 2), .ref (ux 3), .ref (ux 4), .ref (ux 5), .ref (ux 6), .ref (ux 7), .ref (ux 8), .ref (ux 9), .ref (ux 10), .ref (ux 11), .int 0])), ((ux 4), .inr (5, [.ref (ux 27), .ref (ux 28), .ref (ux 29), .ref (ux 30), .ref (ux 31), .ref (ux 32), .ref (ux 33), .ref (ux 34), .int 0, .int 0, .int 0, .int 0, .int 0, .int 0])), ((ux 27), .inr (7, [.ref (ux 68), .ref (ux 69), .ref (ux 70), .ref (ux 71), .ref (ux 72), .ref (ux 73), .ref (ux 74), .ref (ux 75), .int 0, .int 0, .int 0, .int 0])), (qm, .inr (12, (.ref (um 0) :: .int 0 :: .int 0 :: .ref (um 1) :: .ref (um 2) :: .ref (um 3) :: .ref (um 4) :: .int 0 :: .int 0 :: .int 0 :: .int 0 :: .ref (um 5) :: .ref (um 6) :: .ref (um 7) :: .int 0 :: .int 0 :: .int 0 :: .int 0 :: .int 0 :: .int 0 :: .int 0 :: .ref (um 8) :: .int 0 :: .ref (um 9) :: .int 0 :: .ref (um 10) :: .ref (um 11) :: .int 1 :: .ref (um 12) :: .ref (um 13) :: .int 0 :: .int 0 :: .ref (um 14) :: .ref (um 15) :: .ref (um 16) :: .ref (um 17) :: .ref (um 18) :: .int 0 :: .ref (um 19) :: .long 0 :: .ref (um 20) :: .ref (um 21) :: ([] : List Value)))), ((um 11), .inl (cy 0, 296, .inl (fun _ => 0)))] := hw
  obtain rfl : r5 = (-2) := hp6
  refine lv_icmp_eq (tgt := 1252) hx hb dL_law_1036 (by decide) (fun _ => ?_) (fun c => absurd (by decide) c)
  exact law_end hx hb hC hr hlocks hX hbl hbA hAe hw hl (Nat.le_of_ble_eq_true rfl) (Nat.le_of_ble_eq_true rfl)
set_option maxHeartbeats 4000000 in
set_option maxRecDepth 100000 in
theorem lc_came_1 {p : Program} {e : Env} {s : State} {m : MethodId} {below : List Frame} {meth : Method} {c : Code} {l : Launch} {b : Nat} {xs : Nat → Int32} {adK adV : Nat → Nat} {dC : Nat → ClassId} {dI : Nat → Nat → Nat} {cy : Nat → ClassId} {A : Nat → Prop} (hC : CallFix p m c code 4 s #[Value.ref b] wsR RL) (hr : meth.sig.returnType = ret) (hlocks : meth.locks = false) (hK : KK dC dI cy s) (hE : SE adK adV A s s.heap) (hSR : SR adK s) (hAe : A = fun q : Nat => s.heap.size ≤ q) (hA : ∀ q : Nat, s.heap.size ≤ q → A q) (hbA : ¬ A b) (hX : va_X b 6 xs s s.heap) (hbl : b < s.heap.size) {qx qm : Nat} {ux um : Nat → Nat} (hs1 : xs 1 = (-1))  {H : Heap} {locs : List Loc} {ls : Array Slot} (hw : Wd dC dI A s.heap H locs [(qx, .inr (11, [.ref (ux 0), .ref (ux 1), .ref (ux 2), .ref (ux 3), .ref (ux 4), .ref (ux 5), .ref (ux 6), .ref (ux 7), .ref (ux 8), .ref (ux 9), .ref (ux 10), .ref (ux 11), .int 0])), ((ux 4), .inr (5, [.ref (ux 27), .ref (ux 28), .ref (ux 29), .ref (ux 30), .ref (ux 31), .ref (ux 32), .ref (ux 33), .ref (ux 34), .int 0, .int 0, .int 0, .int 0, .int 0, .int 0])), (qm, .inr (12, (.ref (um 0) :: .int 0 :: .int 0 :: .ref (um 1) :: .ref (um 2) :: .ref (um 3) :: .ref (um 4) :: .int 0 :: .int 0 :: .int 0 :: .int 0 :: .ref (um 5) :: .ref (um 6) :: .ref (um 7) :: .int 0 :: .int 0 :: .int 0 :: .int 0 :: .int 0 :: .int 0 :: .int 0 :: .ref (um 8) :: .int 0 :: .ref (um 9) :: .int 0 :: .ref (um 10) :: .ref (um 11) :: .int 1 :: .ref (um 12) :: .ref (um 13) :: .int 0 :: .int 0 :: .ref (um 14) :: .ref (um 15) :: .ref (um 16) :: .ref (um 17) :: .ref (um 18) :: .int 0 :: .ref (um 19) :: .long 0 :: .ref (um 20) :: .ref (um 21) :: ([] : List Value)))), ((um 11), .inl (cy 0, 296, .inl (fun _ => 0)))]) (hl : lv_has ls 4 [(3, .int 0), (2, .ref qm), (1, .ref qx), (0, .ref b)]) : W p l e room_1 s m #[Value.ref b] below meth c H locs 184 18569 (lw_Z below #[Value.ref b] s) (F0 m 1018 ls []) := by
  have hx := hC.1
  have hb := hC.2.1
  refine lv_aload_n hx hb dL_law_1018 rfl (lv_at hl 2 rfl) ?_
  refine lv_aload_n hx hb dL_law_1019 rfl (lv_at hl 3 rfl) ?_
  refine lv_iload_n hx hb dL_law_1020 rfl (lv_at hl 0 rfl) ?_
  refine lv_iconst (v := 1) hx hb dL_law_1021 (by decide) ?_
  refine lv_iadd hx hb dL_law_1022 ?_
  refine wk_top 1 (by decide) ?_
  refine va_sld hx hb hX hbl hbA hw.2.2 (show ¬ ((1 : Int32) < 0 ∨ 6 ≤ (1 : Int32).toNatClampNeg) by decide) dL_law_1023 ?_
  refine wk_top (-1) hs1 ?_
  refine wk_Vi hC hK hw hA [0, 1] [2, 3] rfl rfl rfl rfl (by decide) (t_X11_came_1 l dC dI cy qx ux H.size ) (cwV 1 hC.2.2.2.2 gL_law_X11_came rfl rfl rfl (by decide +kernel) ⟨Nat.le_of_ble_eq_true rfl, Nat.le_of_ble_eq_true rfl⟩) rfl 0 rfl rfl hl.1 rfl (Nat.le_of_ble_eq_true rfl) dL_law_1024 184 18569 ⟨rfl, rfl⟩ ⟨Nat.le_of_ble_eq_true rfl, Nat.le_of_ble_eq_true rfl⟩ (fun r2 u1 H locs hp3 hw => ?_)
  have hw : Wd dC dI A s.heap H locs [(qm, .inr (12, (.ref (um 0) :: .int 0 :: .int 0 :: .ref (um 1) :: .ref (um 2) :: .ref (um 3) :: .ref (um 4) :: .int 0 :: .int 0 :: .int 0 :: .int 0 :: .ref (um 5) :: .ref (um 6) :: .ref (um 7) :: .int 0 :: .int 0 :: .int 0 :: .int 0 :: .int 0 :: .int 0 :: .int 0 :: .ref (um 8) :: .int 0 :: .ref (um 9) :: .int 0 :: .ref (um 10) :: .ref (um 11) :: .int 1 :: .ref (um 12) :: .ref (um 13) :: .int 0 :: .int 0 :: .ref (um 14) :: .ref (um 15) :: .ref (um 16) :: .ref (um 17) :: .ref (um 18) :: .int 0 :: .ref (um 19) :: .long 0 :: .ref (um 20) :: .ref (um 21) :: ([] : List Value)))), ((um 11), .inl (cy 0, 296, .inl (fun _ => 0))), (qx, .inr (11, [.ref (ux 0), .ref (ux 1), .ref (ux 2), .ref (ux 3), .ref (ux 4), .ref (ux 5), .ref (ux 6), .ref (ux 7), .ref (ux 8), .ref (ux 9), .ref (ux 10), .ref (ux 11), .int 0])), ((ux 4), .inr (5, [.ref (ux 27), .ref (ux 28), .ref (ux 29), .ref (ux 30), .ref (ux 31), .ref (ux 32), .ref (ux 33), .ref (ux 34), .int 0, .int 0, .int 0, .int 0, .int 0, .int 0]))] := hw
  obtain rfl : r2 = 0 := hp3
  refine lv_aload_n hx hb dL_law_1027 rfl (lv_at hl 1 rfl) ?_
  refine lv_aload_n hx hb dL_law_1028 rfl (lv_at hl 3 rfl) ?_
  refine lv_iload_n hx hb dL_law_1029 rfl (lv_at hl 0 rfl) ?_
  refine lv_iconst (v := 1) hx hb dL_law_1030 (by decide) ?_
  refine lv_iadd hx hb dL_law_1031 ?_
  refine wk_top 1 (by decide) ?_
  refine va_sld hx hb hX hbl hbA hw.2.2 (show ¬ ((1 : Int32) < 0 ∨ 6 ≤ (1 : Int32).toNatClampNeg) by decide) dL_law_1032 ?_
  refine wk_top (-1) hs1 ?_
  refine wk_Vi hC hK hw hA [0, 1] [2, 3] rfl rfl rfl rfl (by decide) (t_X12_came_1 l dC dI cy qm um H.size ) (cwV 1 hC.2.2.2.2 gL_law_X12_came rfl rfl rfl (by decide +kernel) ⟨Nat.le_of_ble_eq_true rfl, Nat.le_of_ble_eq_true rfl⟩) rfl 0 rfl rfl hl.1 rfl (Nat.le_of_ble_eq_true rfl) dL_law_1033 184 18569 ⟨rfl, rfl⟩ ⟨Nat.le_of_ble_eq_true rfl, Nat.le_of_ble_eq_true rfl⟩ (fun r5 u4 H locs hp6 hw => ?_)
  have hw : Wd dC dI A s.heap H locs [(qx, .inr (11, [.ref (ux 0), .ref (ux 1), .ref (ux 2), .ref (ux 3), .ref (ux 4), .ref (ux 5), .ref (ux 6), .ref (ux 7), .ref (ux 8), .ref (ux 9), .ref (ux 10), .ref (ux 11), .int 0])), ((ux 4), .inr (5, [.ref (ux 27), .ref (ux 28), .ref (ux 29), .ref (ux 30), .ref (ux 31), .ref (ux 32), .ref (ux 33), .ref (ux 34), .int 0, .int 0, .int 0, .int 0, .int 0, .int 0])), (qm, .inr (12, (.ref (um 0) :: .int 0 :: .int 0 :: .ref (um 1) :: .ref (um 2) :: .ref (um 3) :: .ref (um 4) :: .int 0 :: .int 0 :: .int 0 :: .int 0 :: .ref (um 5) :: .ref (um 6) :: .ref (um 7) :: .int 0 :: .int 0 :: .int 0 :: .int 0 :: .int 0 :: .int 0 :: .int 0 :: .ref (um 8) :: .int 0 :: .ref (um 9) :: .int 0 :: .ref (um 10) :: .ref (um 11) :: .int 1 :: .ref (um 12) :: .ref (um 13) :: .int 0 :: .int 0 :: .ref (um 14) :: .ref (um 15) :: .ref (um 16) :: .ref (um 17) :: .ref (um 18) :: .int 0 :: .ref (um 19) :: .long 0 :: .ref (um 20) :: .ref (um 21) :: ([] : List Value)))), ((um 11), .inl (cy 0, 296, .inl (u4.2 0)))] := hw
  obtain rfl : r5 = 0 := hp6
  refine lv_icmp_eq (tgt := 1252) hx hb dL_law_1036 (by decide) (fun _ => ?_) (fun c => absurd (by decide) c)
  exact law_end hx hb hC hr hlocks hX hbl hbA hAe hw hl (Nat.le_of_ble_eq_true rfl) (Nat.le_of_ble_eq_true rfl)
set_option maxHeartbeats 4000000 in
set_option maxRecDepth 100000 in
theorem lc_came_2 {p : Program} {e : Env} {s : State} {m : MethodId} {below : List Frame} {meth : Method} {c : Code} {l : Launch} {b : Nat} {xs : Nat → Int32} {adK adV : Nat → Nat} {dC : Nat → ClassId} {dI : Nat → Nat → Nat} {cy : Nat → ClassId} {A : Nat → Prop} (hC : CallFix p m c code 4 s #[Value.ref b] wsR RL) (hr : meth.sig.returnType = ret) (hlocks : meth.locks = false) (hK : KK dC dI cy s) (hE : SE adK adV A s s.heap) (hSR : SR adK s) (hAe : A = fun q : Nat => s.heap.size ≤ q) (hA : ∀ q : Nat, s.heap.size ≤ q → A q) (hbA : ¬ A b) (hX : va_X b 6 xs s s.heap) (hbl : b < s.heap.size) {qx qm : Nat} {ux um : Nat → Nat} {s1 : Int32} (hs1 : xs 1 = s1) (hcs : 0 ≤ s1.toInt) {H : Heap} {locs : List Loc} {ls : Array Slot} (hw : Wd dC dI A s.heap H locs [(qx, .inr (11, [.ref (ux 0), .ref (ux 1), .ref (ux 2), .ref (ux 3), .ref (ux 4), .ref (ux 5), .ref (ux 6), .ref (ux 7), .ref (ux 8), .ref (ux 9), .ref (ux 10), .ref (ux 11), .int 0])), ((ux 4), .inr (5, [.ref (ux 27), .ref (ux 28), .ref (ux 29), .ref (ux 30), .ref (ux 31), .ref (ux 32), .ref (ux 33), .ref (ux 34), .int 0, .int 0, .int 0, .int 0, .int 0, .int 0])), ((ux 27), .inr (7, [.ref (ux 68), .ref (ux 69), .ref (ux 70), .ref (ux 71), .ref (ux 72), .ref (ux 73), .ref (ux 74), .ref (ux 75), .int 0, .int 0, .int 0, .int 0])), (qm, .inr (12, (.ref (um 0) :: .int 0 :: .int 0 :: .ref (um 1) :: .ref (um 2) :: .ref (um 3) :: .ref (um 4) :: .int 0 :: .int 0 :: .int 0 :: .int 0 :: .ref (um 5) :: .ref (um 6) :: .ref (um 7) :: .int 0 :: .int 0 :: .int 0 :: .int 0 :: .int 0 :: .int 0 :: .int 0 :: .ref (um 8) :: .int 0 :: .ref (um 9) :: .int 0 :: .ref (um 10) :: .ref (um 11) :: .int 1 :: .ref (um 12) :: .ref (um 13) :: .int 0 :: .int 0 :: .ref (um 14) :: .ref (um 15) :: .ref (um 16) :: .ref (um 17) :: .ref (um 18) :: .int 0 :: .ref (um 19) :: .long 0 :: .ref (um 20) :: .ref (um 21) :: ([] : List Value)))), ((um 11), .inl (cy 0, 296, .inl (fun _ => 0)))]) (hl : lv_has ls 4 [(3, .int 0), (2, .ref qm), (1, .ref qx), (0, .ref b)]) : W p l e room_1 s m #[Value.ref b] below meth c H locs 184 18569 (lw_Z below #[Value.ref b] s) (F0 m 1018 ls []) := by
  have hx := hC.1
  have hb := hC.2.1
  refine lv_aload_n hx hb dL_law_1018 rfl (lv_at hl 2 rfl) ?_
  refine lv_aload_n hx hb dL_law_1019 rfl (lv_at hl 3 rfl) ?_
  refine lv_iload_n hx hb dL_law_1020 rfl (lv_at hl 0 rfl) ?_
  refine lv_iconst (v := 1) hx hb dL_law_1021 (by decide) ?_
  refine lv_iadd hx hb dL_law_1022 ?_
  refine wk_top 1 (by decide) ?_
  refine va_sld hx hb hX hbl hbA hw.2.2 (show ¬ ((1 : Int32) < 0 ∨ 6 ≤ (1 : Int32).toNatClampNeg) by decide) dL_law_1023 ?_
  refine wk_top s1 hs1 ?_
  refine wk_Vi hC hK hw hA [0, 1, 2] [3, 4] rfl rfl rfl rfl (by decide) (t_X11_came_2 l dC dI cy qx ux s1 H.size (show 0 ≤ s1.toInt by omega)) (cwV 1 hC.2.2.2.2 gL_law_X11_came rfl rfl rfl (by decide +kernel) ⟨Nat.le_of_ble_eq_true rfl, Nat.le_of_ble_eq_true rfl⟩) rfl 0 rfl rfl hl.1 rfl (Nat.le_of_ble_eq_true rfl) dL_law_1024 184 18569 ⟨rfl, rfl⟩ ⟨Nat.le_of_ble_eq_true rfl, Nat.le_of_ble_eq_true rfl⟩ (fun r2 u1 H locs hp3 hw => ?_)
  have hw : Wd dC dI A s.heap H locs [(qm, .inr (12, (.ref (um 0) :: .int 0 :: .int 0 :: .ref (um 1) :: .ref (um 2) :: .ref (um 3) :: .ref (um 4) :: .int 0 :: .int 0 :: .int 0 :: .int 0 :: .ref (um 5) :: .ref (um 6) :: .ref (um 7) :: .int 0 :: .int 0 :: .int 0 :: .int 0 :: .int 0 :: .int 0 :: .int 0 :: .ref (um 8) :: .int 0 :: .ref (um 9) :: .int 0 :: .ref (um 10) :: .ref (um 11) :: .int 1 :: .ref (um 12) :: .ref (um 13) :: .int 0 :: .int 0 :: .ref (um 14) :: .ref (um 15) :: .ref (um 16) :: .ref (um 17) :: .ref (um 18) :: .int 0 :: .ref (um 19) :: .long 0 :: .ref (um 20) :: .ref (um 21) :: ([] : List Value)))), ((um 11), .inl (cy 0, 296, .inl (fun _ => 0))), (qx, .inr (11, [.ref (ux 0), .ref (ux 1), .ref (ux 2), .ref (ux 3), .ref (ux 4), .ref (ux 5), .ref (ux 6), .ref (ux 7), .ref (ux 8), .ref (ux 9), .ref (ux 10), .ref (ux 11), .int 0])), ((ux 4), .inr (5, [.ref (ux 27), .ref (ux 28), .ref (ux 29), .ref (ux 30), .ref (ux 31), .ref (ux 32), .ref (ux 33), .ref (ux 34), .int 0, .int 0, .int 0, .int 0, .int 0, .int 0])), ((ux 27), .inr (7, [.ref (ux 68), .ref (ux 69), .ref (ux 70), .ref (ux 71), .ref (ux 72), .ref (ux 73), .ref (ux 74), .ref (ux 75), .int 0, .int 0, .int 0, .int 0]))] := hw
  obtain rfl : r2 = (-2) := hp3
  refine lv_aload_n hx hb dL_law_1027 rfl (lv_at hl 1 rfl) ?_
  refine lv_aload_n hx hb dL_law_1028 rfl (lv_at hl 3 rfl) ?_
  refine lv_iload_n hx hb dL_law_1029 rfl (lv_at hl 0 rfl) ?_
  refine lv_iconst (v := 1) hx hb dL_law_1030 (by decide) ?_
  refine lv_iadd hx hb dL_law_1031 ?_
  refine wk_top 1 (by decide) ?_
  refine va_sld hx hb hX hbl hbA hw.2.2 (show ¬ ((1 : Int32) < 0 ∨ 6 ≤ (1 : Int32).toNatClampNeg) by decide) dL_law_1032 ?_
  refine wk_top s1 hs1 ?_
  refine wk_Vi hC hK hw hA [0, 1] [2, 3, 4] rfl rfl rfl rfl (by decide) (t_X12_came_2 l dC dI cy qm um s1 H.size (show 0 ≤ s1.toInt by omega)) (cwV 1 hC.2.2.2.2 gL_law_X12_came rfl rfl rfl (by decide +kernel) ⟨Nat.le_of_ble_eq_true rfl, Nat.le_of_ble_eq_true rfl⟩) rfl 0 rfl rfl hl.1 rfl (Nat.le_of_ble_eq_true rfl) dL_law_1033 184 18569 ⟨rfl, rfl⟩ ⟨Nat.le_of_ble_eq_true rfl, Nat.le_of_ble_eq_true rfl⟩ (fun r5 u4 H locs hp6 hw => ?_)
  have hw : Wd dC dI A s.heap H locs [(qx, .inr (11, [.ref (ux 0), .ref (ux 1), .ref (ux 2), .ref (ux 3), .ref (ux 4), .ref (ux 5), .ref (ux 6), .ref (ux 7), .ref (ux 8), .ref (ux 9), .ref (ux 10), .ref (ux 11), .int 0])), ((ux 4), .inr (5, [.ref (ux 27), .ref (ux 28), .ref (ux 29), .ref (ux 30), .ref (ux 31), .ref (ux 32), .ref (ux 33), .ref (ux 34), .int 0, .int 0, .int 0, .int 0, .int 0, .int 0])), ((ux 27), .inr (7, [.ref (ux 68), .ref (ux 69), .ref (ux 70), .ref (ux 71), .ref (ux 72), .ref (ux 73), .ref (ux 74), .ref (ux 75), .int 0, .int 0, .int 0, .int 0])), (qm, .inr (12, (.ref (um 0) :: .int 0 :: .int 0 :: .ref (um 1) :: .ref (um 2) :: .ref (um 3) :: .ref (um 4) :: .int 0 :: .int 0 :: .int 0 :: .int 0 :: .ref (um 5) :: .ref (um 6) :: .ref (um 7) :: .int 0 :: .int 0 :: .int 0 :: .int 0 :: .int 0 :: .int 0 :: .int 0 :: .ref (um 8) :: .int 0 :: .ref (um 9) :: .int 0 :: .ref (um 10) :: .ref (um 11) :: .int 1 :: .ref (um 12) :: .ref (um 13) :: .int 0 :: .int 0 :: .ref (um 14) :: .ref (um 15) :: .ref (um 16) :: .ref (um 17) :: .ref (um 18) :: .int 0 :: .ref (um 19) :: .long 0 :: .ref (um 20) :: .ref (um 21) :: ([] : List Value)))), ((um 11), .inl (cy 0, 296, .inl (fun _ => 0)))] := hw
  obtain rfl : r5 = (-2) := hp6
  refine lv_icmp_eq (tgt := 1252) hx hb dL_law_1036 (by decide) (fun _ => ?_) (fun c => absurd (by decide) c)
  exact law_end hx hb hC hr hlocks hX hbl hbA hAe hw hl (Nat.le_of_ble_eq_true rfl) (Nat.le_of_ble_eq_true rfl)
set_option maxHeartbeats 4000000 in
set_option maxRecDepth 100000 in
theorem lc_had {p : Program} {e : Env} {s : State} {m : MethodId} {below : List Frame} {meth : Method} {c : Code} {l : Launch} {b : Nat} {xs : Nat → Int32} {adK adV : Nat → Nat} {dC : Nat → ClassId} {dI : Nat → Nat → Nat} {cy : Nat → ClassId} {A : Nat → Prop} (hC : CallFix p m c code 4 s #[Value.ref b] wsR RL) (hr : meth.sig.returnType = ret) (hlocks : meth.locks = false) (hK : KK dC dI cy s) (hE : SE adK adV A s s.heap) (hSR : SR adK s) (hAe : A = fun q : Nat => s.heap.size ≤ q) (hA : ∀ q : Nat, s.heap.size ≤ q → A q) (hbA : ¬ A b) (hX : va_X b 6 xs s s.heap) (hbl : b < s.heap.size) {qx qm : Nat} {ux um : Nat → Nat} {s1 : Int32} (hs1 : xs 1 = s1) {H : Heap} {locs : List Loc} {ls : Array Slot} (hw : Wd dC dI A s.heap H locs [(qx, .inr (11, [.ref (ux 0), .ref (ux 1), .ref (ux 2), .ref (ux 3), .ref (ux 4), .ref (ux 5), .ref (ux 6), .ref (ux 7), .ref (ux 8), .ref (ux 9), .ref (ux 10), .ref (ux 11), .int 0])), ((ux 4), .inr (5, [.ref (ux 27), .ref (ux 28), .ref (ux 29), .ref (ux 30), .ref (ux 31), .ref (ux 32), .ref (ux 33), .ref (ux 34), .int 0, .int 0, .int 0, .int 0, .int 0, .int 0])), (qm, .inr (12, (.ref (um 0) :: .int 0 :: .int 0 :: .ref (um 1) :: .ref (um 2) :: .ref (um 3) :: .ref (um 4) :: .int 0 :: .int 0 :: .int 0 :: .int 0 :: .ref (um 5) :: .ref (um 6) :: .ref (um 7) :: .int 0 :: .int 0 :: .int 0 :: .int 0 :: .int 0 :: .int 0 :: .int 0 :: .ref (um 8) :: .int 0 :: .ref (um 9) :: .int 0 :: .ref (um 10) :: .ref (um 11) :: .int 1 :: .ref (um 12) :: .ref (um 13) :: .int 0 :: .int 0 :: .ref (um 14) :: .ref (um 15) :: .ref (um 16) :: .ref (um 17) :: .ref (um 18) :: .int 0 :: .ref (um 19) :: .long 0 :: .ref (um 20) :: .ref (um 21) :: ([] : List Value)))), ((um 11), .inl (cy 0, 296, .inl (fun _ => 0)))]) (hl : lv_has ls 4 [(3, .int 0), (2, .ref qm), (1, .ref qx), (0, .ref b)]) : W p l e room_1 s m #[Value.ref b] below meth c H locs 184 18569 (lw_Z below #[Value.ref b] s) (F0 m 1041 ls []) := by
  have hx := hC.1
  have hb := hC.2.1
  refine lv_aload_n hx hb dL_law_1041 rfl (lv_at hl 2 rfl) ?_
  refine lv_aload_n hx hb dL_law_1042 rfl (lv_at hl 3 rfl) ?_
  refine lv_iload_n hx hb dL_law_1043 rfl (lv_at hl 0 rfl) ?_
  refine lv_iconst (v := 1) hx hb dL_law_1044 (by decide) ?_
  refine lv_iadd hx hb dL_law_1045 ?_
  refine wk_top 1 (by decide) ?_
  refine va_sld hx hb hX hbl hbA hw.2.2 (show ¬ ((1 : Int32) < 0 ∨ 6 ≤ (1 : Int32).toNatClampNeg) by decide) dL_law_1046 ?_
  refine wk_top s1 hs1 ?_
  refine wk_Vi hC hK hw hA [0, 1] [2, 3] rfl rfl rfl rfl (by decide) (t_X11_had l dC dI cy qx ux s1 H.size ) (cwV 1 hC.2.2.2.2 gL_law_X11_had rfl rfl rfl (by decide +kernel) ⟨Nat.le_of_ble_eq_true rfl, Nat.le_of_ble_eq_true rfl⟩) rfl 0 rfl rfl hl.1 rfl (Nat.le_of_ble_eq_true rfl) dL_law_1047 184 18569 ⟨rfl, rfl⟩ ⟨Nat.le_of_ble_eq_true rfl, Nat.le_of_ble_eq_true rfl⟩ (fun r2 u1 H locs hp3 hw => ?_)
  have hw : Wd dC dI A s.heap H locs [(qm, .inr (12, (.ref (um 0) :: .int 0 :: .int 0 :: .ref (um 1) :: .ref (um 2) :: .ref (um 3) :: .ref (um 4) :: .int 0 :: .int 0 :: .int 0 :: .int 0 :: .ref (um 5) :: .ref (um 6) :: .ref (um 7) :: .int 0 :: .int 0 :: .int 0 :: .int 0 :: .int 0 :: .int 0 :: .int 0 :: .ref (um 8) :: .int 0 :: .ref (um 9) :: .int 0 :: .ref (um 10) :: .ref (um 11) :: .int 1 :: .ref (um 12) :: .ref (um 13) :: .int 0 :: .int 0 :: .ref (um 14) :: .ref (um 15) :: .ref (um 16) :: .ref (um 17) :: .ref (um 18) :: .int 0 :: .ref (um 19) :: .long 0 :: .ref (um 20) :: .ref (um 21) :: ([] : List Value)))), ((um 11), .inl (cy 0, 296, .inl (fun _ => 0))), (qx, .inr (11, [.ref (ux 0), .ref (ux 1), .ref (ux 2), .ref (ux 3), .ref (ux 4), .ref (ux 5), .ref (ux 6), .ref (ux 7), .ref (ux 8), .ref (ux 9), .ref (ux 10), .ref (ux 11), .int 0])), ((ux 4), .inr (5, [.ref (ux 27), .ref (ux 28), .ref (ux 29), .ref (ux 30), .ref (ux 31), .ref (ux 32), .ref (ux 33), .ref (ux 34), .int 0, .int 0, .int 0, .int 0, .int 0, .int 0]))] := hw
  obtain rfl : r2 = (-1) := hp3
  refine lv_aload_n hx hb dL_law_1050 rfl (lv_at hl 1 rfl) ?_
  refine lv_aload_n hx hb dL_law_1051 rfl (lv_at hl 3 rfl) ?_
  refine lv_iload_n hx hb dL_law_1052 rfl (lv_at hl 0 rfl) ?_
  refine lv_iconst (v := 1) hx hb dL_law_1053 (by decide) ?_
  refine lv_iadd hx hb dL_law_1054 ?_
  refine wk_top 1 (by decide) ?_
  refine va_sld hx hb hX hbl hbA hw.2.2 (show ¬ ((1 : Int32) < 0 ∨ 6 ≤ (1 : Int32).toNatClampNeg) by decide) dL_law_1055 ?_
  refine wk_top s1 hs1 ?_
  refine wk_Vi hC hK hw hA [0, 1] [2, 3] rfl rfl rfl rfl (by decide) (t_X12_had l dC dI cy qm um s1 H.size ) (cwV 1 hC.2.2.2.2 gL_law_X12_had rfl rfl rfl (by decide +kernel) ⟨Nat.le_of_ble_eq_true rfl, Nat.le_of_ble_eq_true rfl⟩) rfl 0 rfl rfl hl.1 rfl (Nat.le_of_ble_eq_true rfl) dL_law_1056 184 18569 ⟨rfl, rfl⟩ ⟨Nat.le_of_ble_eq_true rfl, Nat.le_of_ble_eq_true rfl⟩ (fun r5 u4 H locs hp6 hw => ?_)
  have hw : Wd dC dI A s.heap H locs [(qx, .inr (11, [.ref (ux 0), .ref (ux 1), .ref (ux 2), .ref (ux 3), .ref (ux 4), .ref (ux 5), .ref (ux 6), .ref (ux 7), .ref (ux 8), .ref (ux 9), .ref (ux 10), .ref (ux 11), .int 0])), ((ux 4), .inr (5, [.ref (ux 27), .ref (ux 28), .ref (ux 29), .ref (ux 30), .ref (ux 31), .ref (ux 32), .ref (ux 33), .ref (ux 34), .int 0, .int 0, .int 0, .int 0, .int 0, .int 0])), (qm, .inr (12, (.ref (um 0) :: .int 0 :: .int 0 :: .ref (um 1) :: .ref (um 2) :: .ref (um 3) :: .ref (um 4) :: .int 0 :: .int 0 :: .int 0 :: .int 0 :: .ref (um 5) :: .ref (um 6) :: .ref (um 7) :: .int 0 :: .int 0 :: .int 0 :: .int 0 :: .int 0 :: .int 0 :: .int 0 :: .ref (um 8) :: .int 0 :: .ref (um 9) :: .int 0 :: .ref (um 10) :: .ref (um 11) :: .int 1 :: .ref (um 12) :: .ref (um 13) :: .int 0 :: .int 0 :: .ref (um 14) :: .ref (um 15) :: .ref (um 16) :: .ref (um 17) :: .ref (um 18) :: .int 0 :: .ref (um 19) :: .long 0 :: .ref (um 20) :: .ref (um 21) :: ([] : List Value)))), ((um 11), .inl (cy 0, 296, .inl (fun _ => 0)))] := hw
  obtain rfl : r5 = (-1) := hp6
  refine lv_icmp_eq (tgt := 1252) hx hb dL_law_1059 (by decide) (fun _ => ?_) (fun c => absurd (by decide) c)
  exact law_end hx hb hC hr hlocks hX hbl hbA hAe hw hl (Nat.le_of_ble_eq_true rfl) (Nat.le_of_ble_eq_true rfl)
set_option maxHeartbeats 4000000 in
set_option maxRecDepth 100000 in
theorem lc_built {p : Program} {e : Env} {s : State} {m : MethodId} {below : List Frame} {meth : Method} {c : Code} {l : Launch} {b : Nat} {xs : Nat → Int32} {adK adV : Nat → Nat} {dC : Nat → ClassId} {dI : Nat → Nat → Nat} {cy : Nat → ClassId} {A : Nat → Prop} (hC : CallFix p m c code 4 s #[Value.ref b] wsR RL) (hr : meth.sig.returnType = ret) (hlocks : meth.locks = false) (hK : KK dC dI cy s) (hE : SE adK adV A s s.heap) (hSR : SR adK s) (hAe : A = fun q : Nat => s.heap.size ≤ q) (hA : ∀ q : Nat, s.heap.size ≤ q → A q) (hbA : ¬ A b) (hX : va_X b 6 xs s s.heap) (hbl : b < s.heap.size) {qx qm : Nat} {ux um : Nat → Nat} {s1 : Int32} (hs1 : xs 1 = s1) {s2 : Int32} (hs2 : xs 2 = s2) {s3 : Int32} (hs3 : xs 3 = s3) {H : Heap} {locs : List Loc} {ls : Array Slot} (hw : Wd dC dI A s.heap H locs [(qx, .inr (11, [.ref (ux 0), .ref (ux 1), .ref (ux 2), .ref (ux 3), .ref (ux 4), .ref (ux 5), .ref (ux 6), .ref (ux 7), .ref (ux 8), .ref (ux 9), .ref (ux 10), .ref (ux 11), .int 0])), ((ux 4), .inr (5, [.ref (ux 27), .ref (ux 28), .ref (ux 29), .ref (ux 30), .ref (ux 31), .ref (ux 32), .ref (ux 33), .ref (ux 34), .int 0, .int 0, .int 0, .int 0, .int 0, .int 0])), ((ux 27), .inr (7, [.ref (ux 68), .ref (ux 69), .ref (ux 70), .ref (ux 71), .ref (ux 72), .ref (ux 73), .ref (ux 74), .ref (ux 75), .int 0, .int 0, .int 0, .int 0])), (qm, .inr (12, (.ref (um 0) :: .int 0 :: .int 0 :: .ref (um 1) :: .ref (um 2) :: .ref (um 3) :: .ref (um 4) :: .int 0 :: .int 0 :: .int 0 :: .int 0 :: .ref (um 5) :: .ref (um 6) :: .ref (um 7) :: .int 0 :: .int 0 :: .int 0 :: .int 0 :: .int 0 :: .int 0 :: .int 0 :: .ref (um 8) :: .int 0 :: .ref (um 9) :: .int 0 :: .ref (um 10) :: .ref (um 11) :: .int 1 :: .ref (um 12) :: .ref (um 13) :: .int 0 :: .int 0 :: .ref (um 14) :: .ref (um 15) :: .ref (um 16) :: .ref (um 17) :: .ref (um 18) :: .int 0 :: .ref (um 19) :: .long 0 :: .ref (um 20) :: .ref (um 21) :: ([] : List Value)))), ((um 11), .inl (cy 0, 296, .inl (fun _ => 0)))]) (hl : lv_has ls 4 [(3, .int 0), (2, .ref qm), (1, .ref qx), (0, .ref b)]) : W p l e room_1 s m #[Value.ref b] below meth c H locs 184 18569 (lw_Z below #[Value.ref b] s) (F0 m 1064 ls []) := by
  have hx := hC.1
  have hb := hC.2.1
  refine lv_aload_n hx hb dL_law_1064 rfl (lv_at hl 2 rfl) ?_
  refine lv_aload_n hx hb dL_law_1065 rfl (lv_at hl 3 rfl) ?_
  refine lv_iload_n hx hb dL_law_1066 rfl (lv_at hl 0 rfl) ?_
  refine lv_iconst (v := 1) hx hb dL_law_1067 (by decide) ?_
  refine lv_iadd hx hb dL_law_1068 ?_
  refine wk_top 1 (by decide) ?_
  refine va_sld hx hb hX hbl hbA hw.2.2 (show ¬ ((1 : Int32) < 0 ∨ 6 ≤ (1 : Int32).toNatClampNeg) by decide) dL_law_1069 ?_
  refine wk_top s1 hs1 ?_
  refine lv_aload_n hx hb dL_law_1070 rfl (lv_at hl 3 rfl) ?_
  refine lv_iload_n hx hb dL_law_1071 rfl (lv_at hl 0 rfl) ?_
  refine lv_iconst (v := 2) hx hb dL_law_1072 (by decide) ?_
  refine lv_iadd hx hb dL_law_1073 ?_
  refine wk_top 2 (by decide) ?_
  refine va_sld hx hb hX hbl hbA hw.2.2 (show ¬ ((2 : Int32) < 0 ∨ 6 ≤ (2 : Int32).toNatClampNeg) by decide) dL_law_1074 ?_
  refine wk_top s2 hs2 ?_
  refine lv_aload_n hx hb dL_law_1075 rfl (lv_at hl 3 rfl) ?_
  refine lv_iload_n hx hb dL_law_1076 rfl (lv_at hl 0 rfl) ?_
  refine lv_iconst (v := 3) hx hb dL_law_1077 (by decide) ?_
  refine lv_iadd hx hb dL_law_1078 ?_
  refine wk_top 3 (by decide) ?_
  refine va_sld hx hb hX hbl hbA hw.2.2 (show ¬ ((3 : Int32) < 0 ∨ 6 ≤ (3 : Int32).toNatClampNeg) by decide) dL_law_1079 ?_
  refine wk_top s3 hs3 ?_
  refine wk_Vi hC hK hw hA [0, 1, 2] [3, 4] rfl rfl rfl rfl (by decide) (t_X11_built l dC dI cy qx ux s1 s2 s3 H.size ) (cwV 3 hC.2.2.2.2 gL_law_X11_built rfl rfl rfl (by decide +kernel) ⟨Nat.le_of_ble_eq_true rfl, Nat.le_of_ble_eq_true rfl⟩) rfl 0 rfl rfl hl.1 rfl (Nat.le_of_ble_eq_true rfl) dL_law_1080 184 18569 ⟨rfl, rfl⟩ ⟨Nat.le_of_ble_eq_true rfl, Nat.le_of_ble_eq_true rfl⟩ (fun r2 u1 H locs hp3 hw => ?_)
  have hw : Wd dC dI A s.heap H locs [(qm, .inr (12, (.ref (um 0) :: .int 0 :: .int 0 :: .ref (um 1) :: .ref (um 2) :: .ref (um 3) :: .ref (um 4) :: .int 0 :: .int 0 :: .int 0 :: .int 0 :: .ref (um 5) :: .ref (um 6) :: .ref (um 7) :: .int 0 :: .int 0 :: .int 0 :: .int 0 :: .int 0 :: .int 0 :: .int 0 :: .ref (um 8) :: .int 0 :: .ref (um 9) :: .int 0 :: .ref (um 10) :: .ref (um 11) :: .int 1 :: .ref (um 12) :: .ref (um 13) :: .int 0 :: .int 0 :: .ref (um 14) :: .ref (um 15) :: .ref (um 16) :: .ref (um 17) :: .ref (um 18) :: .int 0 :: .ref (um 19) :: .long 0 :: .ref (um 20) :: .ref (um 21) :: ([] : List Value)))), ((um 11), .inl (cy 0, 296, .inl (fun _ => 0))), (qx, .inr (11, [.ref (ux 0), .ref (ux 1), .ref (ux 2), .ref (ux 3), .ref (ux 4), .ref (ux 5), .ref (ux 6), .ref (ux 7), .ref (ux 8), .ref (ux 9), .ref (ux 10), .ref (ux 11), .int 0])), ((ux 4), .inr (5, [.ref (ux 27), .ref (ux 28), .ref (ux 29), .ref (ux 30), .ref (ux 31), .ref (ux 32), .ref (ux 33), .ref (ux 34), .int 0, .int 0, .int 0, .int 0, .int 0, .int 0])), ((ux 27), .inr (7, [.ref (ux 68), .ref (ux 69), .ref (ux 70), .ref (ux 71), .ref (ux 72), .ref (ux 73), .ref (ux 74), .ref (ux 75), .int 0, .int 0, .int 0, .int 0]))] := hw
  obtain rfl : r2 = (-1) := hp3
  refine lv_aload_n hx hb dL_law_1083 rfl (lv_at hl 1 rfl) ?_
  refine lv_aload_n hx hb dL_law_1084 rfl (lv_at hl 3 rfl) ?_
  refine lv_iload_n hx hb dL_law_1085 rfl (lv_at hl 0 rfl) ?_
  refine lv_iconst (v := 1) hx hb dL_law_1086 (by decide) ?_
  refine lv_iadd hx hb dL_law_1087 ?_
  refine wk_top 1 (by decide) ?_
  refine va_sld hx hb hX hbl hbA hw.2.2 (show ¬ ((1 : Int32) < 0 ∨ 6 ≤ (1 : Int32).toNatClampNeg) by decide) dL_law_1088 ?_
  refine wk_top s1 hs1 ?_
  refine lv_aload_n hx hb dL_law_1089 rfl (lv_at hl 3 rfl) ?_
  refine lv_iload_n hx hb dL_law_1090 rfl (lv_at hl 0 rfl) ?_
  refine lv_iconst (v := 2) hx hb dL_law_1091 (by decide) ?_
  refine lv_iadd hx hb dL_law_1092 ?_
  refine wk_top 2 (by decide) ?_
  refine va_sld hx hb hX hbl hbA hw.2.2 (show ¬ ((2 : Int32) < 0 ∨ 6 ≤ (2 : Int32).toNatClampNeg) by decide) dL_law_1093 ?_
  refine wk_top s2 hs2 ?_
  refine lv_aload_n hx hb dL_law_1094 rfl (lv_at hl 3 rfl) ?_
  refine lv_iload_n hx hb dL_law_1095 rfl (lv_at hl 0 rfl) ?_
  refine lv_iconst (v := 3) hx hb dL_law_1096 (by decide) ?_
  refine lv_iadd hx hb dL_law_1097 ?_
  refine wk_top 3 (by decide) ?_
  refine va_sld hx hb hX hbl hbA hw.2.2 (show ¬ ((3 : Int32) < 0 ∨ 6 ≤ (3 : Int32).toNatClampNeg) by decide) dL_law_1098 ?_
  refine wk_top s3 hs3 ?_
  refine wk_Vi hC hK hw hA [0, 1] [2, 3, 4] rfl rfl rfl rfl (by decide) (t_X12_built l dC dI cy qm um s1 s2 s3 H.size ) (cwV 3 hC.2.2.2.2 gL_law_X12_built rfl rfl rfl (by decide +kernel) ⟨Nat.le_of_ble_eq_true rfl, Nat.le_of_ble_eq_true rfl⟩) rfl 0 rfl rfl hl.1 rfl (Nat.le_of_ble_eq_true rfl) dL_law_1099 184 18569 ⟨rfl, rfl⟩ ⟨Nat.le_of_ble_eq_true rfl, Nat.le_of_ble_eq_true rfl⟩ (fun r5 u4 H locs hp6 hw => ?_)
  have hw : Wd dC dI A s.heap H locs [(qx, .inr (11, [.ref (ux 0), .ref (ux 1), .ref (ux 2), .ref (ux 3), .ref (ux 4), .ref (ux 5), .ref (ux 6), .ref (ux 7), .ref (ux 8), .ref (ux 9), .ref (ux 10), .ref (ux 11), .int 0])), ((ux 4), .inr (5, [.ref (ux 27), .ref (ux 28), .ref (ux 29), .ref (ux 30), .ref (ux 31), .ref (ux 32), .ref (ux 33), .ref (ux 34), .int 0, .int 0, .int 0, .int 0, .int 0, .int 0])), ((ux 27), .inr (7, [.ref (ux 68), .ref (ux 69), .ref (ux 70), .ref (ux 71), .ref (ux 72), .ref (ux 73), .ref (ux 74), .ref (ux 75), .int 0, .int 0, .int 0, .int 0])), (qm, .inr (12, (.ref (um 0) :: .int 0 :: .int 0 :: .ref (um 1) :: .ref (um 2) :: .ref (um 3) :: .ref (um 4) :: .int 0 :: .int 0 :: .int 0 :: .int 0 :: .ref (um 5) :: .ref (um 6) :: .ref (um 7) :: .int 0 :: .int 0 :: .int 0 :: .int 0 :: .int 0 :: .int 0 :: .int 0 :: .ref (um 8) :: .int 0 :: .ref (um 9) :: .int 0 :: .ref (um 10) :: .ref (um 11) :: .int 1 :: .ref (um 12) :: .ref (um 13) :: .int 0 :: .int 0 :: .ref (um 14) :: .ref (um 15) :: .ref (um 16) :: .ref (um 17) :: .ref (um 18) :: .int 0 :: .ref (um 19) :: .long 0 :: .ref (um 20) :: .ref (um 21) :: ([] : List Value)))), ((um 11), .inl (cy 0, 296, .inl (fun _ => 0)))] := hw
  obtain rfl : r5 = (-1) := hp6
  refine lv_icmp_eq (tgt := 1252) hx hb dL_law_1102 (by decide) (fun _ => ?_) (fun c => absurd (by decide) c)
  exact law_end hx hb hC hr hlocks hX hbl hbA hAe hw hl (Nat.le_of_ble_eq_true rfl) (Nat.le_of_ble_eq_true rfl)
set_option maxHeartbeats 4000000 in
set_option maxRecDepth 100000 in
theorem lc_seed_0 {p : Program} {e : Env} {s : State} {m : MethodId} {below : List Frame} {meth : Method} {c : Code} {l : Launch} {b : Nat} {xs : Nat → Int32} {adK adV : Nat → Nat} {dC : Nat → ClassId} {dI : Nat → Nat → Nat} {cy : Nat → ClassId} {A : Nat → Prop} (hC : CallFix p m c code 4 s #[Value.ref b] wsR RL) (hr : meth.sig.returnType = ret) (hlocks : meth.locks = false) (hK : KK dC dI cy s) (hE : SE adK adV A s s.heap) (hSR : SR adK s) (hAe : A = fun q : Nat => s.heap.size ≤ q) (hA : ∀ q : Nat, s.heap.size ≤ q → A q) (hbA : ¬ A b) (hX : va_X b 6 xs s s.heap) (hbl : b < s.heap.size) {qx qm : Nat} {ux um : Nat → Nat} {s1 : Int32} (hs1 : xs 1 = s1) (hcs : s1.toInt ≤ -1) {H : Heap} {locs : List Loc} {ls : Array Slot} (hw : Wd dC dI A s.heap H locs [(qx, .inr (11, [.ref (ux 0), .ref (ux 1), .ref (ux 2), .ref (ux 3), .ref (ux 4), .ref (ux 5), .ref (ux 6), .ref (ux 7), .ref (ux 8), .ref (ux 9), .ref (ux 10), .ref (ux 11), .int 0])), (qm, .inr (12, (.ref (um 0) :: .int 0 :: .int 0 :: .ref (um 1) :: .ref (um 2) :: .ref (um 3) :: .ref (um 4) :: .int 0 :: .int 0 :: .int 0 :: .int 0 :: .ref (um 5) :: .ref (um 6) :: .ref (um 7) :: .int 0 :: .int 0 :: .int 0 :: .int 0 :: .int 0 :: .int 0 :: .int 0 :: .ref (um 8) :: .int 0 :: .ref (um 9) :: .int 0 :: .ref (um 10) :: .ref (um 11) :: .int 1 :: .ref (um 12) :: .ref (um 13) :: .int 0 :: .int 0 :: .ref (um 14) :: .ref (um 15) :: .ref (um 16) :: .ref (um 17) :: .ref (um 18) :: .int 0 :: .ref (um 19) :: .long 0 :: .ref (um 20) :: .ref (um 21) :: ([] : List Value))))]) (hl : lv_has ls 4 [(3, .int 0), (2, .ref qm), (1, .ref qx), (0, .ref b)]) : W p l e room_1 s m #[Value.ref b] below meth c H locs 184 18569 (lw_Z below #[Value.ref b] s) (F0 m 1107 ls []) := by
  have hx := hC.1
  have hb := hC.2.1
  refine lv_aload_n hx hb dL_law_1107 rfl (lv_at hl 2 rfl) ?_
  refine lv_aload_n hx hb dL_law_1108 rfl (lv_at hl 3 rfl) ?_
  refine lv_iload_n hx hb dL_law_1109 rfl (lv_at hl 0 rfl) ?_
  refine lv_iconst (v := 1) hx hb dL_law_1110 (by decide) ?_
  refine lv_iadd hx hb dL_law_1111 ?_
  refine wk_top 1 (by decide) ?_
  refine va_sld hx hb hX hbl hbA hw.2.2 (show ¬ ((1 : Int32) < 0 ∨ 6 ≤ (1 : Int32).toNatClampNeg) by decide) dL_law_1112 ?_
  refine wk_top s1 hs1 ?_
  refine wk_Vi hC hK hw hA [0] [1] rfl rfl rfl rfl (by decide) (t_X11_seed_0 l dC dI cy qx ux s1 H.size (show s1.toInt ≤ -1 by omega)) (cwV 1 hC.2.2.2.2 gL_law_X11_seed rfl rfl rfl (by decide +kernel) ⟨Nat.le_of_ble_eq_true rfl, Nat.le_of_ble_eq_true rfl⟩) rfl 0 rfl rfl hl.1 rfl (Nat.le_of_ble_eq_true rfl) dL_law_1113 184 18569 ⟨rfl, rfl⟩ ⟨Nat.le_of_ble_eq_true rfl, Nat.le_of_ble_eq_true rfl⟩ (fun r2 u1 H locs hp3 hw => ?_)
  have hw : Wd dC dI A s.heap H locs [(qm, .inr (12, (.ref (um 0) :: .int 0 :: .int 0 :: .ref (um 1) :: .ref (um 2) :: .ref (um 3) :: .ref (um 4) :: .int 0 :: .int 0 :: .int 0 :: .int 0 :: .ref (um 5) :: .ref (um 6) :: .ref (um 7) :: .int 0 :: .int 0 :: .int 0 :: .int 0 :: .int 0 :: .int 0 :: .int 0 :: .ref (um 8) :: .int 0 :: .ref (um 9) :: .int 0 :: .ref (um 10) :: .ref (um 11) :: .int 1 :: .ref (um 12) :: .ref (um 13) :: .int 0 :: .int 0 :: .ref (um 14) :: .ref (um 15) :: .ref (um 16) :: .ref (um 17) :: .ref (um 18) :: .int 0 :: .ref (um 19) :: .long 0 :: .ref (um 20) :: .ref (um 21) :: ([] : List Value)))), (qx, .inr (11, [.ref (ux 0), .ref (ux 1), .ref (ux 2), .ref (ux 3), .ref (ux 4), .ref (ux 5), .ref (ux 6), .ref (ux 7), .ref (ux 8), .ref (ux 9), .ref (ux 10), .ref (ux 11), .int 0]))] := hw
  obtain rfl : r2 = (-1) := hp3
  refine lv_aload_n hx hb dL_law_1116 rfl (lv_at hl 1 rfl) ?_
  refine lv_aload_n hx hb dL_law_1117 rfl (lv_at hl 3 rfl) ?_
  refine lv_iload_n hx hb dL_law_1118 rfl (lv_at hl 0 rfl) ?_
  refine lv_iconst (v := 1) hx hb dL_law_1119 (by decide) ?_
  refine lv_iadd hx hb dL_law_1120 ?_
  refine wk_top 1 (by decide) ?_
  refine va_sld hx hb hX hbl hbA hw.2.2 (show ¬ ((1 : Int32) < 0 ∨ 6 ≤ (1 : Int32).toNatClampNeg) by decide) dL_law_1121 ?_
  refine wk_top s1 hs1 ?_
  refine wk_Vi hC hK hw hA [0] [1] rfl rfl rfl rfl (by decide) (t_X12_seed_0 l dC dI cy qm um s1 H.size (show s1.toInt ≤ -1 by omega)) (cwV 1 hC.2.2.2.2 gL_law_X12_seed rfl rfl rfl (by decide +kernel) ⟨Nat.le_of_ble_eq_true rfl, Nat.le_of_ble_eq_true rfl⟩) rfl 0 rfl rfl hl.1 rfl (Nat.le_of_ble_eq_true rfl) dL_law_1122 184 18569 ⟨rfl, rfl⟩ ⟨Nat.le_of_ble_eq_true rfl, Nat.le_of_ble_eq_true rfl⟩ (fun r5 u4 H locs hp6 hw => ?_)
  have hw : Wd dC dI A s.heap H locs [(qx, .inr (11, [.ref (ux 0), .ref (ux 1), .ref (ux 2), .ref (ux 3), .ref (ux 4), .ref (ux 5), .ref (ux 6), .ref (ux 7), .ref (ux 8), .ref (ux 9), .ref (ux 10), .ref (ux 11), .int 0])), (qm, .inr (12, (.ref (um 0) :: .int 0 :: .int 0 :: .ref (um 1) :: .ref (um 2) :: .ref (um 3) :: .ref (um 4) :: .int 0 :: .int 0 :: .int 0 :: .int 0 :: .ref (um 5) :: .ref (um 6) :: .ref (um 7) :: .int 0 :: .int 0 :: .int 0 :: .int 0 :: .int 0 :: .int 0 :: .int 0 :: .ref (um 8) :: .int 0 :: .ref (um 9) :: .int 0 :: .ref (um 10) :: .ref (um 11) :: .int 1 :: .ref (um 12) :: .ref (um 13) :: .int 0 :: .int 0 :: .ref (um 14) :: .ref (um 15) :: .ref (um 16) :: .ref (um 17) :: .ref (um 18) :: .int 0 :: .ref (um 19) :: .long 0 :: .ref (um 20) :: .ref (um 21) :: ([] : List Value))))] := hw
  obtain rfl : r5 = (-1) := hp6
  refine lv_icmp_eq (tgt := 1252) hx hb dL_law_1125 (by decide) (fun _ => ?_) (fun c => absurd (by decide) c)
  exact law_end hx hb hC hr hlocks hX hbl hbA hAe hw hl (Nat.le_of_ble_eq_true rfl) (Nat.le_of_ble_eq_true rfl)
set_option maxHeartbeats 4000000 in
set_option maxRecDepth 100000 in
theorem lc_seed_1 {p : Program} {e : Env} {s : State} {m : MethodId} {below : List Frame} {meth : Method} {c : Code} {l : Launch} {b : Nat} {xs : Nat → Int32} {adK adV : Nat → Nat} {dC : Nat → ClassId} {dI : Nat → Nat → Nat} {cy : Nat → ClassId} {A : Nat → Prop} (hC : CallFix p m c code 4 s #[Value.ref b] wsR RL) (hr : meth.sig.returnType = ret) (hlocks : meth.locks = false) (hK : KK dC dI cy s) (hE : SE adK adV A s s.heap) (hSR : SR adK s) (hAe : A = fun q : Nat => s.heap.size ≤ q) (hA : ∀ q : Nat, s.heap.size ≤ q → A q) (hbA : ¬ A b) (hX : va_X b 6 xs s s.heap) (hbl : b < s.heap.size) {qx qm : Nat} {ux um : Nat → Nat} {s1 : Int32} (hs1 : xs 1 = s1) (hcs : 0 ≤ s1.toInt) {H : Heap} {locs : List Loc} {ls : Array Slot} (hw : Wd dC dI A s.heap H locs [(qx, .inr (11, [.ref (ux 0), .ref (ux 1), .ref (ux 2), .ref (ux 3), .ref (ux 4), .ref (ux 5), .ref (ux 6), .ref (ux 7), .ref (ux 8), .ref (ux 9), .ref (ux 10), .ref (ux 11), .int 0])), ((ux 4), .inr (5, [.ref (ux 27), .ref (ux 28), .ref (ux 29), .ref (ux 30), .ref (ux 31), .ref (ux 32), .ref (ux 33), .ref (ux 34), .int 0, .int 0, .int 0, .int 0, .int 0, .int 0])), (qm, .inr (12, (.ref (um 0) :: .int 0 :: .int 0 :: .ref (um 1) :: .ref (um 2) :: .ref (um 3) :: .ref (um 4) :: .int 0 :: .int 0 :: .int 0 :: .int 0 :: .ref (um 5) :: .ref (um 6) :: .ref (um 7) :: .int 0 :: .int 0 :: .int 0 :: .int 0 :: .int 0 :: .int 0 :: .int 0 :: .ref (um 8) :: .int 0 :: .ref (um 9) :: .int 0 :: .ref (um 10) :: .ref (um 11) :: .int 1 :: .ref (um 12) :: .ref (um 13) :: .int 0 :: .int 0 :: .ref (um 14) :: .ref (um 15) :: .ref (um 16) :: .ref (um 17) :: .ref (um 18) :: .int 0 :: .ref (um 19) :: .long 0 :: .ref (um 20) :: .ref (um 21) :: ([] : List Value)))), ((um 11), .inl (cy 0, 296, .inl (fun _ => 0)))]) (hl : lv_has ls 4 [(3, .int 0), (2, .ref qm), (1, .ref qx), (0, .ref b)]) : W p l e room_1 s m #[Value.ref b] below meth c H locs 184 18569 (lw_Z below #[Value.ref b] s) (F0 m 1107 ls []) := by
  have hx := hC.1
  have hb := hC.2.1
  refine lv_aload_n hx hb dL_law_1107 rfl (lv_at hl 2 rfl) ?_
  refine lv_aload_n hx hb dL_law_1108 rfl (lv_at hl 3 rfl) ?_
  refine lv_iload_n hx hb dL_law_1109 rfl (lv_at hl 0 rfl) ?_
  refine lv_iconst (v := 1) hx hb dL_law_1110 (by decide) ?_
  refine lv_iadd hx hb dL_law_1111 ?_
  refine wk_top 1 (by decide) ?_
  refine va_sld hx hb hX hbl hbA hw.2.2 (show ¬ ((1 : Int32) < 0 ∨ 6 ≤ (1 : Int32).toNatClampNeg) by decide) dL_law_1112 ?_
  refine wk_top s1 hs1 ?_
  refine wk_Vi hC hK hw hA [0, 1] [2, 3] rfl rfl rfl rfl (by decide) (t_X11_seed_1 l dC dI cy qx ux s1 H.size (show 0 ≤ s1.toInt by omega)) (cwV 1 hC.2.2.2.2 gL_law_X11_seed rfl rfl rfl (by decide +kernel) ⟨Nat.le_of_ble_eq_true rfl, Nat.le_of_ble_eq_true rfl⟩) rfl 0 rfl rfl hl.1 rfl (Nat.le_of_ble_eq_true rfl) dL_law_1113 184 18569 ⟨rfl, rfl⟩ ⟨Nat.le_of_ble_eq_true rfl, Nat.le_of_ble_eq_true rfl⟩ (fun r2 u1 H locs hp3 hw => ?_)
  have hw : Wd dC dI A s.heap H locs [(qm, .inr (12, (.ref (um 0) :: .int 0 :: .int 0 :: .ref (um 1) :: .ref (um 2) :: .ref (um 3) :: .ref (um 4) :: .int 0 :: .int 0 :: .int 0 :: .int 0 :: .ref (um 5) :: .ref (um 6) :: .ref (um 7) :: .int 0 :: .int 0 :: .int 0 :: .int 0 :: .int 0 :: .int 0 :: .int 0 :: .ref (um 8) :: .int 0 :: .ref (um 9) :: .int 0 :: .ref (um 10) :: .ref (um 11) :: .int 1 :: .ref (um 12) :: .ref (um 13) :: .int 0 :: .int 0 :: .ref (um 14) :: .ref (um 15) :: .ref (um 16) :: .ref (um 17) :: .ref (um 18) :: .int 0 :: .ref (um 19) :: .long 0 :: .ref (um 20) :: .ref (um 21) :: ([] : List Value)))), ((um 11), .inl (cy 0, 296, .inl (fun _ => 0))), (qx, .inr (11, [.ref (ux 0), .ref (ux 1), .ref (ux 2), .ref (ux 3), .ref (ux 4), .ref (ux 5), .ref (ux 6), .ref (ux 7), .ref (ux 8), .ref (ux 9), .ref (ux 10), .ref (ux 11), .int 0])), ((ux 4), .inr (5, [.ref (ux 27), .ref (ux 28), .ref (ux 29), .ref (ux 30), .ref (ux 31), .ref (ux 32), .ref (ux 33), .ref (ux 34), .int 0, .int 0, .int 0, .int 0, .int 0, .int s1]))] := hw
  obtain rfl : r2 = 0 := hp3
  refine lv_aload_n hx hb dL_law_1116 rfl (lv_at hl 1 rfl) ?_
  refine lv_aload_n hx hb dL_law_1117 rfl (lv_at hl 3 rfl) ?_
  refine lv_iload_n hx hb dL_law_1118 rfl (lv_at hl 0 rfl) ?_
  refine lv_iconst (v := 1) hx hb dL_law_1119 (by decide) ?_
  refine lv_iadd hx hb dL_law_1120 ?_
  refine wk_top 1 (by decide) ?_
  refine va_sld hx hb hX hbl hbA hw.2.2 (show ¬ ((1 : Int32) < 0 ∨ 6 ≤ (1 : Int32).toNatClampNeg) by decide) dL_law_1121 ?_
  refine wk_top s1 hs1 ?_
  refine wk_Vi hC hK hw hA [0, 1] [2, 3] rfl rfl rfl rfl (by decide) (t_X12_seed_1 l dC dI cy qm um s1 H.size (show 0 ≤ s1.toInt by omega)) (cwV 1 hC.2.2.2.2 gL_law_X12_seed rfl rfl rfl (by decide +kernel) ⟨Nat.le_of_ble_eq_true rfl, Nat.le_of_ble_eq_true rfl⟩) rfl 0 rfl rfl hl.1 rfl (Nat.le_of_ble_eq_true rfl) dL_law_1122 184 18569 ⟨rfl, rfl⟩ ⟨Nat.le_of_ble_eq_true rfl, Nat.le_of_ble_eq_true rfl⟩ (fun r5 u4 H locs hp6 hw => ?_)
  have hw : Wd dC dI A s.heap H locs [(qx, .inr (11, [.ref (ux 0), .ref (ux 1), .ref (ux 2), .ref (ux 3), .ref (ux 4), .ref (ux 5), .ref (ux 6), .ref (ux 7), .ref (ux 8), .ref (ux 9), .ref (ux 10), .ref (ux 11), .int 0])), ((ux 4), .inr (5, [.ref (ux 27), .ref (ux 28), .ref (ux 29), .ref (ux 30), .ref (ux 31), .ref (ux 32), .ref (ux 33), .ref (ux 34), .int 0, .int 0, .int 0, .int 0, .int 0, .int s1])), (qm, .inr (12, (.ref (um 0) :: .int 0 :: .int 0 :: .ref (um 1) :: .ref (um 2) :: .ref (um 3) :: .ref (um 4) :: .int 0 :: .int 0 :: .int 0 :: .int 0 :: .ref (um 5) :: .ref (um 6) :: .ref (um 7) :: .int 0 :: .int 0 :: .int 0 :: .int 0 :: .int 0 :: .int 0 :: .int 0 :: .ref (um 8) :: .int 0 :: .ref (um 9) :: .int 0 :: .ref (um 10) :: .ref (um 11) :: .int 1 :: .ref (um 12) :: .ref (um 13) :: .int 0 :: .int 0 :: .ref (um 14) :: .ref (um 15) :: .ref (um 16) :: .ref (um 17) :: .ref (um 18) :: .int 0 :: .ref (um 19) :: .long 0 :: .ref (um 20) :: .ref (um 21) :: ([] : List Value)))), ((um 11), .inl (cy 0, 296, .inl (u4.2 0)))] := hw
  obtain rfl : r5 = 0 := hp6
  refine lv_icmp_eq (tgt := 1252) hx hb dL_law_1125 (by decide) (fun _ => ?_) (fun c => absurd (by decide) c)
  exact law_end hx hb hC hr hlocks hX hbl hbA hAe hw hl (Nat.le_of_ble_eq_true rfl) (Nat.le_of_ble_eq_true rfl)
set_option maxHeartbeats 4000000 in
set_option maxRecDepth 100000 in
theorem lc_strangers {p : Program} {e : Env} {s : State} {m : MethodId} {below : List Frame} {meth : Method} {c : Code} {l : Launch} {b : Nat} {xs : Nat → Int32} {adK adV : Nat → Nat} {dC : Nat → ClassId} {dI : Nat → Nat → Nat} {cy : Nat → ClassId} {A : Nat → Prop} (hC : CallFix p m c code 4 s #[Value.ref b] wsR RL) (hr : meth.sig.returnType = ret) (hlocks : meth.locks = false) (hK : KK dC dI cy s) (hE : SE adK adV A s s.heap) (hSR : SR adK s) (hAe : A = fun q : Nat => s.heap.size ≤ q) (hA : ∀ q : Nat, s.heap.size ≤ q → A q) (hbA : ¬ A b) (hX : va_X b 6 xs s s.heap) (hbl : b < s.heap.size) {qx qm : Nat} {ux um : Nat → Nat} {s1 : Int32} (hs1 : xs 1 = s1) {s2 : Int32} (hs2 : xs 2 = s2) {s3 : Int32} (hs3 : xs 3 = s3) {s4 : Int32} (hs4 : xs 4 = s4) {H : Heap} {locs : List Loc} {ls : Array Slot} (hw : Wd dC dI A s.heap H locs [(qx, .inr (11, [.ref (ux 0), .ref (ux 1), .ref (ux 2), .ref (ux 3), .ref (ux 4), .ref (ux 5), .ref (ux 6), .ref (ux 7), .ref (ux 8), .ref (ux 9), .ref (ux 10), .ref (ux 11), .int 0])), ((ux 4), .inr (5, [.ref (ux 27), .ref (ux 28), .ref (ux 29), .ref (ux 30), .ref (ux 31), .ref (ux 32), .ref (ux 33), .ref (ux 34), .int 0, .int 0, .int 0, .int 0, .int 0, .int 0])), (qm, .inr (12, (.ref (um 0) :: .int 0 :: .int 0 :: .ref (um 1) :: .ref (um 2) :: .ref (um 3) :: .ref (um 4) :: .int 0 :: .int 0 :: .int 0 :: .int 0 :: .ref (um 5) :: .ref (um 6) :: .ref (um 7) :: .int 0 :: .int 0 :: .int 0 :: .int 0 :: .int 0 :: .int 0 :: .int 0 :: .ref (um 8) :: .int 0 :: .ref (um 9) :: .int 0 :: .ref (um 10) :: .ref (um 11) :: .int 1 :: .ref (um 12) :: .ref (um 13) :: .int 0 :: .int 0 :: .ref (um 14) :: .ref (um 15) :: .ref (um 16) :: .ref (um 17) :: .ref (um 18) :: .int 0 :: .ref (um 19) :: .long 0 :: .ref (um 20) :: .ref (um 21) :: ([] : List Value)))), ((um 11), .inl (cy 0, 296, .inl (fun _ => 0)))]) (hl : lv_has ls 4 [(3, .int 0), (2, .ref qm), (1, .ref qx), (0, .ref b)]) : W p l e room_1 s m #[Value.ref b] below meth c H locs 184 18569 (lw_Z below #[Value.ref b] s) (F0 m 1130 ls []) := by
  have hx := hC.1
  have hb := hC.2.1
  refine lv_aload_n hx hb dL_law_1130 rfl (lv_at hl 2 rfl) ?_
  refine lv_aload_n hx hb dL_law_1131 rfl (lv_at hl 3 rfl) ?_
  refine lv_iload_n hx hb dL_law_1132 rfl (lv_at hl 0 rfl) ?_
  refine lv_iconst (v := 1) hx hb dL_law_1133 (by decide) ?_
  refine lv_iadd hx hb dL_law_1134 ?_
  refine wk_top 1 (by decide) ?_
  refine va_sld hx hb hX hbl hbA hw.2.2 (show ¬ ((1 : Int32) < 0 ∨ 6 ≤ (1 : Int32).toNatClampNeg) by decide) dL_law_1135 ?_
  refine wk_top s1 hs1 ?_
  refine lv_aload_n hx hb dL_law_1136 rfl (lv_at hl 3 rfl) ?_
  refine lv_iload_n hx hb dL_law_1137 rfl (lv_at hl 0 rfl) ?_
  refine lv_iconst (v := 2) hx hb dL_law_1138 (by decide) ?_
  refine lv_iadd hx hb dL_law_1139 ?_
  refine wk_top 2 (by decide) ?_
  refine va_sld hx hb hX hbl hbA hw.2.2 (show ¬ ((2 : Int32) < 0 ∨ 6 ≤ (2 : Int32).toNatClampNeg) by decide) dL_law_1140 ?_
  refine wk_top s2 hs2 ?_
  refine lv_aload_n hx hb dL_law_1141 rfl (lv_at hl 3 rfl) ?_
  refine lv_iload_n hx hb dL_law_1142 rfl (lv_at hl 0 rfl) ?_
  refine lv_iconst (v := 3) hx hb dL_law_1143 (by decide) ?_
  refine lv_iadd hx hb dL_law_1144 ?_
  refine wk_top 3 (by decide) ?_
  refine va_sld hx hb hX hbl hbA hw.2.2 (show ¬ ((3 : Int32) < 0 ∨ 6 ≤ (3 : Int32).toNatClampNeg) by decide) dL_law_1145 ?_
  refine wk_top s3 hs3 ?_
  refine lv_aload_n hx hb dL_law_1146 rfl (lv_at hl 3 rfl) ?_
  refine lv_iload_n hx hb dL_law_1147 rfl (lv_at hl 0 rfl) ?_
  refine lv_iconst (v := 4) hx hb dL_law_1148 (by decide) ?_
  refine lv_iadd hx hb dL_law_1149 ?_
  refine wk_top 4 (by decide) ?_
  refine va_sld hx hb hX hbl hbA hw.2.2 (show ¬ ((4 : Int32) < 0 ∨ 6 ≤ (4 : Int32).toNatClampNeg) by decide) dL_law_1150 ?_
  refine wk_top s4 hs4 ?_
  refine wk_Vi hC hK hw hA [0, 1] [2, 3] rfl rfl rfl rfl (by decide) (t_X11_strangers l dC dI cy qx ux s1 s2 s3 s4 H.size ) (cwV 4 hC.2.2.2.2 gL_law_X11_strangers rfl rfl rfl (by decide +kernel) ⟨Nat.le_of_ble_eq_true rfl, Nat.le_of_ble_eq_true rfl⟩) rfl 0 rfl rfl hl.1 rfl (Nat.le_of_ble_eq_true rfl) dL_law_1151 184 18569 ⟨rfl, rfl⟩ ⟨Nat.le_of_ble_eq_true rfl, Nat.le_of_ble_eq_true rfl⟩ (fun r2 u1 H locs hp3 hw => ?_)
  have hw : Wd dC dI A s.heap H locs [(qm, .inr (12, (.ref (um 0) :: .int 0 :: .int 0 :: .ref (um 1) :: .ref (um 2) :: .ref (um 3) :: .ref (um 4) :: .int 0 :: .int 0 :: .int 0 :: .int 0 :: .ref (um 5) :: .ref (um 6) :: .ref (um 7) :: .int 0 :: .int 0 :: .int 0 :: .int 0 :: .int 0 :: .int 0 :: .int 0 :: .ref (um 8) :: .int 0 :: .ref (um 9) :: .int 0 :: .ref (um 10) :: .ref (um 11) :: .int 1 :: .ref (um 12) :: .ref (um 13) :: .int 0 :: .int 0 :: .ref (um 14) :: .ref (um 15) :: .ref (um 16) :: .ref (um 17) :: .ref (um 18) :: .int 0 :: .ref (um 19) :: .long 0 :: .ref (um 20) :: .ref (um 21) :: ([] : List Value)))), ((um 11), .inl (cy 0, 296, .inl (fun _ => 0))), (qx, .inr (11, [.ref (ux 0), .ref (ux 1), .ref (ux 2), .ref (ux 3), .ref (ux 4), .ref (ux 5), .ref (ux 6), .ref (ux 7), .ref (ux 8), .ref (ux 9), .ref (ux 10), .ref (ux 11), .int 0])), ((ux 4), .inr (5, [.ref (ux 27), .ref (ux 28), .ref (ux 29), .ref (ux 30), .ref (ux 31), .ref (ux 32), .ref (ux 33), .ref (ux 34), .int 0, .int 0, .int 0, .int 0, .int 0, .int 0]))] := hw
  obtain rfl : r2 = (-1) := hp3
  refine lv_aload_n hx hb dL_law_1154 rfl (lv_at hl 1 rfl) ?_
  refine lv_aload_n hx hb dL_law_1155 rfl (lv_at hl 3 rfl) ?_
  refine lv_iload_n hx hb dL_law_1156 rfl (lv_at hl 0 rfl) ?_
  refine lv_iconst (v := 1) hx hb dL_law_1157 (by decide) ?_
  refine lv_iadd hx hb dL_law_1158 ?_
  refine wk_top 1 (by decide) ?_
  refine va_sld hx hb hX hbl hbA hw.2.2 (show ¬ ((1 : Int32) < 0 ∨ 6 ≤ (1 : Int32).toNatClampNeg) by decide) dL_law_1159 ?_
  refine wk_top s1 hs1 ?_
  refine lv_aload_n hx hb dL_law_1160 rfl (lv_at hl 3 rfl) ?_
  refine lv_iload_n hx hb dL_law_1161 rfl (lv_at hl 0 rfl) ?_
  refine lv_iconst (v := 2) hx hb dL_law_1162 (by decide) ?_
  refine lv_iadd hx hb dL_law_1163 ?_
  refine wk_top 2 (by decide) ?_
  refine va_sld hx hb hX hbl hbA hw.2.2 (show ¬ ((2 : Int32) < 0 ∨ 6 ≤ (2 : Int32).toNatClampNeg) by decide) dL_law_1164 ?_
  refine wk_top s2 hs2 ?_
  refine lv_aload_n hx hb dL_law_1165 rfl (lv_at hl 3 rfl) ?_
  refine lv_iload_n hx hb dL_law_1166 rfl (lv_at hl 0 rfl) ?_
  refine lv_iconst (v := 3) hx hb dL_law_1167 (by decide) ?_
  refine lv_iadd hx hb dL_law_1168 ?_
  refine wk_top 3 (by decide) ?_
  refine va_sld hx hb hX hbl hbA hw.2.2 (show ¬ ((3 : Int32) < 0 ∨ 6 ≤ (3 : Int32).toNatClampNeg) by decide) dL_law_1169 ?_
  refine wk_top s3 hs3 ?_
  refine lv_aload_n hx hb dL_law_1170 rfl (lv_at hl 3 rfl) ?_
  refine lv_iload_n hx hb dL_law_1171 rfl (lv_at hl 0 rfl) ?_
  refine lv_iconst (v := 4) hx hb dL_law_1172 (by decide) ?_
  refine lv_iadd hx hb dL_law_1173 ?_
  refine wk_top 4 (by decide) ?_
  refine va_sld hx hb hX hbl hbA hw.2.2 (show ¬ ((4 : Int32) < 0 ∨ 6 ≤ (4 : Int32).toNatClampNeg) by decide) dL_law_1174 ?_
  refine wk_top s4 hs4 ?_
  refine wk_Vi hC hK hw hA [0, 1] [2, 3] rfl rfl rfl rfl (by decide) (t_X12_strangers l dC dI cy qm um s1 s2 s3 s4 H.size ) (cwV 4 hC.2.2.2.2 gL_law_X12_strangers rfl rfl rfl (by decide +kernel) ⟨Nat.le_of_ble_eq_true rfl, Nat.le_of_ble_eq_true rfl⟩) rfl 0 rfl rfl hl.1 rfl (Nat.le_of_ble_eq_true rfl) dL_law_1175 184 18569 ⟨rfl, rfl⟩ ⟨Nat.le_of_ble_eq_true rfl, Nat.le_of_ble_eq_true rfl⟩ (fun r5 u4 H locs hp6 hw => ?_)
  have hw : Wd dC dI A s.heap H locs [(qx, .inr (11, [.ref (ux 0), .ref (ux 1), .ref (ux 2), .ref (ux 3), .ref (ux 4), .ref (ux 5), .ref (ux 6), .ref (ux 7), .ref (ux 8), .ref (ux 9), .ref (ux 10), .ref (ux 11), .int 0])), ((ux 4), .inr (5, [.ref (ux 27), .ref (ux 28), .ref (ux 29), .ref (ux 30), .ref (ux 31), .ref (ux 32), .ref (ux 33), .ref (ux 34), .int 0, .int 0, .int 0, .int 0, .int 0, .int 0])), (qm, .inr (12, (.ref (um 0) :: .int 0 :: .int 0 :: .ref (um 1) :: .ref (um 2) :: .ref (um 3) :: .ref (um 4) :: .int 0 :: .int 0 :: .int 0 :: .int 0 :: .ref (um 5) :: .ref (um 6) :: .ref (um 7) :: .int 0 :: .int 0 :: .int 0 :: .int 0 :: .int 0 :: .int 0 :: .int 0 :: .ref (um 8) :: .int 0 :: .ref (um 9) :: .int 0 :: .ref (um 10) :: .ref (um 11) :: .int 1 :: .ref (um 12) :: .ref (um 13) :: .int 0 :: .int 0 :: .ref (um 14) :: .ref (um 15) :: .ref (um 16) :: .ref (um 17) :: .ref (um 18) :: .int 0 :: .ref (um 19) :: .long 0 :: .ref (um 20) :: .ref (um 21) :: ([] : List Value)))), ((um 11), .inl (cy 0, 296, .inl (fun _ => 0)))] := hw
  obtain rfl : r5 = (-1) := hp6
  refine lv_icmp_eq (tgt := 1252) hx hb dL_law_1178 (by decide) (fun _ => ?_) (fun c => absurd (by decide) c)
  exact law_end hx hb hC hr hlocks hX hbl hbA hAe hw hl (Nat.le_of_ble_eq_true rfl) (Nat.le_of_ble_eq_true rfl)
set_option maxHeartbeats 4000000 in
set_option maxRecDepth 100000 in
theorem lc_count_0 {p : Program} {e : Env} {s : State} {m : MethodId} {below : List Frame} {meth : Method} {c : Code} {l : Launch} {b : Nat} {xs : Nat → Int32} {adK adV : Nat → Nat} {dC : Nat → ClassId} {dI : Nat → Nat → Nat} {cy : Nat → ClassId} {A : Nat → Prop} (hC : CallFix p m c code 4 s #[Value.ref b] wsR RL) (hr : meth.sig.returnType = ret) (hlocks : meth.locks = false) (hK : KK dC dI cy s) (hE : SE adK adV A s s.heap) (hSR : SR adK s) (hAe : A = fun q : Nat => s.heap.size ≤ q) (hA : ∀ q : Nat, s.heap.size ≤ q → A q) (hbA : ¬ A b) (hX : va_X b 6 xs s s.heap) (hbl : b < s.heap.size) {qx qm : Nat} {ux um : Nat → Nat} {s1 : Int32} (hs1 : xs 1 = s1) (hcs : s1.toInt ≤ -1) {H : Heap} {locs : List Loc} {ls : Array Slot} (hw : Wd dC dI A s.heap H locs [(qx, .inr (11, [.ref (ux 0), .ref (ux 1), .ref (ux 2), .ref (ux 3), .ref (ux 4), .ref (ux 5), .ref (ux 6), .ref (ux 7), .ref (ux 8), .ref (ux 9), .ref (ux 10), .ref (ux 11), .int 0])), (qm, .inr (12, (.ref (um 0) :: .int 0 :: .int 0 :: .ref (um 1) :: .ref (um 2) :: .ref (um 3) :: .ref (um 4) :: .int 0 :: .int 0 :: .int 0 :: .int 0 :: .ref (um 5) :: .ref (um 6) :: .ref (um 7) :: .int 0 :: .int 0 :: .int 0 :: .int 0 :: .int 0 :: .int 0 :: .int 0 :: .ref (um 8) :: .int 0 :: .ref (um 9) :: .int 0 :: .ref (um 10) :: .ref (um 11) :: .int 1 :: .ref (um 12) :: .ref (um 13) :: .int 0 :: .int 0 :: .ref (um 14) :: .ref (um 15) :: .ref (um 16) :: .ref (um 17) :: .ref (um 18) :: .int 0 :: .ref (um 19) :: .long 0 :: .ref (um 20) :: .ref (um 21) :: ([] : List Value))))]) (hl : lv_has ls 4 [(3, .int 0), (2, .ref qm), (1, .ref qx), (0, .ref b)]) : W p l e room_1 s m #[Value.ref b] below meth c H locs 184 18569 (lw_Z below #[Value.ref b] s) (F0 m 1183 ls []) := by
  have hx := hC.1
  have hb := hC.2.1
  refine lv_aload_n hx hb dL_law_1183 rfl (lv_at hl 2 rfl) ?_
  refine lv_aload_n hx hb dL_law_1184 rfl (lv_at hl 3 rfl) ?_
  refine lv_iload_n hx hb dL_law_1185 rfl (lv_at hl 0 rfl) ?_
  refine lv_iconst (v := 1) hx hb dL_law_1186 (by decide) ?_
  refine lv_iadd hx hb dL_law_1187 ?_
  refine wk_top 1 (by decide) ?_
  refine va_sld hx hb hX hbl hbA hw.2.2 (show ¬ ((1 : Int32) < 0 ∨ 6 ≤ (1 : Int32).toNatClampNeg) by decide) dL_law_1188 ?_
  refine wk_top s1 hs1 ?_
  refine wk_Vi hC hK hw hA [0] [1] rfl rfl rfl rfl (by decide) (t_X11_count_0 l dC dI cy qx ux s1 H.size (show s1.toInt ≤ -1 by omega)) (cwV 1 hC.2.2.2.2 gL_law_X11_count rfl rfl rfl (by decide +kernel) ⟨Nat.le_of_ble_eq_true rfl, Nat.le_of_ble_eq_true rfl⟩) rfl 0 rfl rfl hl.1 rfl (Nat.le_of_ble_eq_true rfl) dL_law_1189 184 18569 ⟨rfl, rfl⟩ ⟨Nat.le_of_ble_eq_true rfl, Nat.le_of_ble_eq_true rfl⟩ (fun r2 u1 H locs hp3 hw => ?_)
  have hw : Wd dC dI A s.heap H locs [(qm, .inr (12, (.ref (um 0) :: .int 0 :: .int 0 :: .ref (um 1) :: .ref (um 2) :: .ref (um 3) :: .ref (um 4) :: .int 0 :: .int 0 :: .int 0 :: .int 0 :: .ref (um 5) :: .ref (um 6) :: .ref (um 7) :: .int 0 :: .int 0 :: .int 0 :: .int 0 :: .int 0 :: .int 0 :: .int 0 :: .ref (um 8) :: .int 0 :: .ref (um 9) :: .int 0 :: .ref (um 10) :: .ref (um 11) :: .int 1 :: .ref (um 12) :: .ref (um 13) :: .int 0 :: .int 0 :: .ref (um 14) :: .ref (um 15) :: .ref (um 16) :: .ref (um 17) :: .ref (um 18) :: .int 0 :: .ref (um 19) :: .long 0 :: .ref (um 20) :: .ref (um 21) :: ([] : List Value)))), (qx, .inr (11, [.ref (ux 0), .ref (ux 1), .ref (ux 2), .ref (ux 3), .ref (ux 4), .ref (ux 5), .ref (ux 6), .ref (ux 7), .ref (ux 8), .ref (ux 9), .ref (ux 10), .ref (ux 11), .int 0]))] := hw
  obtain rfl : r2 = (-1) := hp3
  refine lv_aload_n hx hb dL_law_1192 rfl (lv_at hl 1 rfl) ?_
  refine lv_aload_n hx hb dL_law_1193 rfl (lv_at hl 3 rfl) ?_
  refine lv_iload_n hx hb dL_law_1194 rfl (lv_at hl 0 rfl) ?_
  refine lv_iconst (v := 1) hx hb dL_law_1195 (by decide) ?_
  refine lv_iadd hx hb dL_law_1196 ?_
  refine wk_top 1 (by decide) ?_
  refine va_sld hx hb hX hbl hbA hw.2.2 (show ¬ ((1 : Int32) < 0 ∨ 6 ≤ (1 : Int32).toNatClampNeg) by decide) dL_law_1197 ?_
  refine wk_top s1 hs1 ?_
  refine wk_Vi hC hK hw hA [0] [1] rfl rfl rfl rfl (by decide) (t_X12_count_0 l dC dI cy qm um s1 H.size (show s1.toInt ≤ -1 by omega)) (cwV 1 hC.2.2.2.2 gL_law_X12_count rfl rfl rfl (by decide +kernel) ⟨Nat.le_of_ble_eq_true rfl, Nat.le_of_ble_eq_true rfl⟩) rfl 0 rfl rfl hl.1 rfl (Nat.le_of_ble_eq_true rfl) dL_law_1198 184 18569 ⟨rfl, rfl⟩ ⟨Nat.le_of_ble_eq_true rfl, Nat.le_of_ble_eq_true rfl⟩ (fun r5 u4 H locs hp6 hw => ?_)
  have hw : Wd dC dI A s.heap H locs [(qx, .inr (11, [.ref (ux 0), .ref (ux 1), .ref (ux 2), .ref (ux 3), .ref (ux 4), .ref (ux 5), .ref (ux 6), .ref (ux 7), .ref (ux 8), .ref (ux 9), .ref (ux 10), .ref (ux 11), .int 0])), (qm, .inr (12, (.ref (um 0) :: .int 0 :: .int 0 :: .ref (um 1) :: .ref (um 2) :: .ref (um 3) :: .ref (um 4) :: .int 0 :: .int 0 :: .int 0 :: .int 0 :: .ref (um 5) :: .ref (um 6) :: .ref (um 7) :: .int 0 :: .int 0 :: .int 0 :: .int 0 :: .int 0 :: .int 0 :: .int 0 :: .ref (um 8) :: .int 0 :: .ref (um 9) :: .int 0 :: .ref (um 10) :: .ref (um 11) :: .int 1 :: .ref (um 12) :: .ref (um 13) :: .int 0 :: .int 0 :: .ref (um 14) :: .ref (um 15) :: .ref (um 16) :: .ref (um 17) :: .ref (um 18) :: .int 0 :: .ref (um 19) :: .long 0 :: .ref (um 20) :: .ref (um 21) :: ([] : List Value))))] := hw
  obtain rfl : r5 = (-1) := hp6
  refine lv_icmp_eq (tgt := 1252) hx hb dL_law_1201 (by decide) (fun _ => ?_) (fun c => absurd (by decide) c)
  exact law_end hx hb hC hr hlocks hX hbl hbA hAe hw hl (Nat.le_of_ble_eq_true rfl) (Nat.le_of_ble_eq_true rfl)
set_option maxHeartbeats 4000000 in
set_option maxRecDepth 100000 in
theorem lc_count_1 {p : Program} {e : Env} {s : State} {m : MethodId} {below : List Frame} {meth : Method} {c : Code} {l : Launch} {b : Nat} {xs : Nat → Int32} {adK adV : Nat → Nat} {dC : Nat → ClassId} {dI : Nat → Nat → Nat} {cy : Nat → ClassId} {A : Nat → Prop} (hC : CallFix p m c code 4 s #[Value.ref b] wsR RL) (hr : meth.sig.returnType = ret) (hlocks : meth.locks = false) (hK : KK dC dI cy s) (hE : SE adK adV A s s.heap) (hSR : SR adK s) (hAe : A = fun q : Nat => s.heap.size ≤ q) (hA : ∀ q : Nat, s.heap.size ≤ q → A q) (hbA : ¬ A b) (hX : va_X b 6 xs s s.heap) (hbl : b < s.heap.size) {qx qm : Nat} {ux um : Nat → Nat} (hs1 : xs 1 = 0)  {H : Heap} {locs : List Loc} {ls : Array Slot} (hw : Wd dC dI A s.heap H locs [(qx, .inr (11, [.ref (ux 0), .ref (ux 1), .ref (ux 2), .ref (ux 3), .ref (ux 4), .ref (ux 5), .ref (ux 6), .ref (ux 7), .ref (ux 8), .ref (ux 9), .ref (ux 10), .ref (ux 11), .int 0])), ((ux 4), .inr (5, [.ref (ux 27), .ref (ux 28), .ref (ux 29), .ref (ux 30), .ref (ux 31), .ref (ux 32), .ref (ux 33), .ref (ux 34), .int 0, .int 0, .int 0, .int 0, .int 0, .int 0])), ((ux 27), .inr (7, [.ref (ux 68), .ref (ux 69), .ref (ux 70), .ref (ux 71), .ref (ux 72), .ref (ux 73), .ref (ux 74), .ref (ux 75), .int 0, .int 0, .int 0, .int 0])), (qm, .inr (12, (.ref (um 0) :: .int 0 :: .int 0 :: .ref (um 1) :: .ref (um 2) :: .ref (um 3) :: .ref (um 4) :: .int 0 :: .int 0 :: .int 0 :: .int 0 :: .ref (um 5) :: .ref (um 6) :: .ref (um 7) :: .int 0 :: .int 0 :: .int 0 :: .int 0 :: .int 0 :: .int 0 :: .int 0 :: .ref (um 8) :: .int 0 :: .ref (um 9) :: .int 0 :: .ref (um 10) :: .ref (um 11) :: .int 1 :: .ref (um 12) :: .ref (um 13) :: .int 0 :: .int 0 :: .ref (um 14) :: .ref (um 15) :: .ref (um 16) :: .ref (um 17) :: .ref (um 18) :: .int 0 :: .ref (um 19) :: .long 0 :: .ref (um 20) :: .ref (um 21) :: ([] : List Value)))), ((um 11), .inl (cy 0, 296, .inl (fun _ => 0)))]) (hl : lv_has ls 4 [(3, .int 0), (2, .ref qm), (1, .ref qx), (0, .ref b)]) : W p l e room_1 s m #[Value.ref b] below meth c H locs 184 18569 (lw_Z below #[Value.ref b] s) (F0 m 1183 ls []) := by
  have hx := hC.1
  have hb := hC.2.1
  refine lv_aload_n hx hb dL_law_1183 rfl (lv_at hl 2 rfl) ?_
  refine lv_aload_n hx hb dL_law_1184 rfl (lv_at hl 3 rfl) ?_
  refine lv_iload_n hx hb dL_law_1185 rfl (lv_at hl 0 rfl) ?_
  refine lv_iconst (v := 1) hx hb dL_law_1186 (by decide) ?_
  refine lv_iadd hx hb dL_law_1187 ?_
  refine wk_top 1 (by decide) ?_
  refine va_sld hx hb hX hbl hbA hw.2.2 (show ¬ ((1 : Int32) < 0 ∨ 6 ≤ (1 : Int32).toNatClampNeg) by decide) dL_law_1188 ?_
  refine wk_top 0 hs1 ?_
  refine wk_Vi hC hK hw hA [0, 1, 2] [3, 4] rfl rfl rfl rfl (by decide) (t_X11_count_1 l dC dI cy qx ux H.size ) (cwV 1 hC.2.2.2.2 gL_law_X11_count rfl rfl rfl (by decide +kernel) ⟨Nat.le_of_ble_eq_true rfl, Nat.le_of_ble_eq_true rfl⟩) rfl 0 rfl rfl hl.1 rfl (Nat.le_of_ble_eq_true rfl) dL_law_1189 184 18569 ⟨rfl, rfl⟩ ⟨Nat.le_of_ble_eq_true rfl, Nat.le_of_ble_eq_true rfl⟩ (fun r2 u1 H locs hp3 hw => ?_)
  have hw : Wd dC dI A s.heap H locs [(qm, .inr (12, (.ref (um 0) :: .int 0 :: .int 0 :: .ref (um 1) :: .ref (um 2) :: .ref (um 3) :: .ref (um 4) :: .int 0 :: .int 0 :: .int 0 :: .int 0 :: .ref (um 5) :: .ref (um 6) :: .ref (um 7) :: .int 0 :: .int 0 :: .int 0 :: .int 0 :: .int 0 :: .int 0 :: .int 0 :: .ref (um 8) :: .int 0 :: .ref (um 9) :: .int 0 :: .ref (um 10) :: .ref (um 11) :: .int 1 :: .ref (um 12) :: .ref (um 13) :: .int 0 :: .int 0 :: .ref (um 14) :: .ref (um 15) :: .ref (um 16) :: .ref (um 17) :: .ref (um 18) :: .int 0 :: .ref (um 19) :: .long 0 :: .ref (um 20) :: .ref (um 21) :: ([] : List Value)))), ((um 11), .inl (cy 0, 296, .inl (fun _ => 0))), (qx, .inr (11, [.ref (ux 0), .ref (ux 1), .ref (ux 2), .ref (ux 3), .ref (ux 4), .ref (ux 5), .ref (ux 6), .ref (ux 7), .ref (ux 8), .ref (ux 9), .ref (ux 10), .ref (ux 11), .int 0])), ((ux 4), .inr (5, [.ref (ux 27), .ref (ux 28), .ref (ux 29), .ref (ux 30), .ref (ux 31), .ref (ux 32), .ref (ux 33), .ref (ux 34), .int 0, .int 0, .int 0, .int 0, .int 0, .int 0])), ((ux 27), .inr (7, [.ref (ux 68), .ref (ux 69), .ref (ux 70), .ref (ux 71), .ref (ux 72), .ref (ux 73), .ref (ux 74), .ref (ux 75), .int 0, .int 0, .int 0, .int 0]))] := hw
  obtain rfl : r2 = 0 := hp3
  refine lv_aload_n hx hb dL_law_1192 rfl (lv_at hl 1 rfl) ?_
  refine lv_aload_n hx hb dL_law_1193 rfl (lv_at hl 3 rfl) ?_
  refine lv_iload_n hx hb dL_law_1194 rfl (lv_at hl 0 rfl) ?_
  refine lv_iconst (v := 1) hx hb dL_law_1195 (by decide) ?_
  refine lv_iadd hx hb dL_law_1196 ?_
  refine wk_top 1 (by decide) ?_
  refine va_sld hx hb hX hbl hbA hw.2.2 (show ¬ ((1 : Int32) < 0 ∨ 6 ≤ (1 : Int32).toNatClampNeg) by decide) dL_law_1197 ?_
  refine wk_top 0 hs1 ?_
  refine wk_Vi hC hK hw hA [0, 1] [2, 3, 4] rfl rfl rfl rfl (by decide) (t_X12_count_1 l dC dI cy qm um H.size ) (cwV 1 hC.2.2.2.2 gL_law_X12_count rfl rfl rfl (by decide +kernel) ⟨Nat.le_of_ble_eq_true rfl, Nat.le_of_ble_eq_true rfl⟩) rfl 0 rfl rfl hl.1 rfl (Nat.le_of_ble_eq_true rfl) dL_law_1198 184 18569 ⟨rfl, rfl⟩ ⟨Nat.le_of_ble_eq_true rfl, Nat.le_of_ble_eq_true rfl⟩ (fun r5 u4 H locs hp6 hw => ?_)
  have hw : Wd dC dI A s.heap H locs [(qx, .inr (11, [.ref (ux 0), .ref (ux 1), .ref (ux 2), .ref (ux 3), .ref (ux 4), .ref (ux 5), .ref (ux 6), .ref (ux 7), .ref (ux 8), .ref (ux 9), .ref (ux 10), .ref (ux 11), .int 0])), ((ux 4), .inr (5, [.ref (ux 27), .ref (ux 28), .ref (ux 29), .ref (ux 30), .ref (ux 31), .ref (ux 32), .ref (ux 33), .ref (ux 34), .int 0, .int 0, .int 0, .int 0, .int 0, .int 0])), ((ux 27), .inr (7, [.ref (ux 68), .ref (ux 69), .ref (ux 70), .ref (ux 71), .ref (ux 72), .ref (ux 73), .ref (ux 74), .ref (ux 75), .int 0, .int 0, .int 0, .int 0])), (qm, .inr (12, (.ref (um 0) :: .int 0 :: .int 0 :: .ref (um 1) :: .ref (um 2) :: .ref (um 3) :: .ref (um 4) :: .int 0 :: .int 0 :: .int 0 :: .int 0 :: .ref (um 5) :: .ref (um 6) :: .ref (um 7) :: .int 0 :: .int 0 :: .int 0 :: .int 0 :: .int 0 :: .int 0 :: .int 0 :: .ref (um 8) :: .int 0 :: .ref (um 9) :: .int 0 :: .ref (um 10) :: .ref (um 11) :: .int 1 :: .ref (um 12) :: .ref (um 13) :: .int 0 :: .int 0 :: .ref (um 14) :: .ref (um 15) :: .ref (um 16) :: .ref (um 17) :: .ref (um 18) :: .int 0 :: .ref (um 19) :: .long 0 :: .ref (um 20) :: .ref (um 21) :: ([] : List Value)))), ((um 11), .inl (cy 0, 296, .inl (fun _ => 0)))] := hw
  obtain rfl : r5 = 0 := hp6
  refine lv_icmp_eq (tgt := 1252) hx hb dL_law_1201 (by decide) (fun _ => ?_) (fun c => absurd (by decide) c)
  exact law_end hx hb hC hr hlocks hX hbl hbA hAe hw hl (Nat.le_of_ble_eq_true rfl) (Nat.le_of_ble_eq_true rfl)
set_option maxHeartbeats 4000000 in
set_option maxRecDepth 100000 in
theorem lc_count_2 {p : Program} {e : Env} {s : State} {m : MethodId} {below : List Frame} {meth : Method} {c : Code} {l : Launch} {b : Nat} {xs : Nat → Int32} {adK adV : Nat → Nat} {dC : Nat → ClassId} {dI : Nat → Nat → Nat} {cy : Nat → ClassId} {A : Nat → Prop} (hC : CallFix p m c code 4 s #[Value.ref b] wsR RL) (hr : meth.sig.returnType = ret) (hlocks : meth.locks = false) (hK : KK dC dI cy s) (hE : SE adK adV A s s.heap) (hSR : SR adK s) (hAe : A = fun q : Nat => s.heap.size ≤ q) (hA : ∀ q : Nat, s.heap.size ≤ q → A q) (hbA : ¬ A b) (hX : va_X b 6 xs s s.heap) (hbl : b < s.heap.size) {qx qm : Nat} {ux um : Nat → Nat} (hs1 : xs 1 = 1)  {H : Heap} {locs : List Loc} {ls : Array Slot} (hw : Wd dC dI A s.heap H locs [(qx, .inr (11, [.ref (ux 0), .ref (ux 1), .ref (ux 2), .ref (ux 3), .ref (ux 4), .ref (ux 5), .ref (ux 6), .ref (ux 7), .ref (ux 8), .ref (ux 9), .ref (ux 10), .ref (ux 11), .int 0])), ((ux 4), .inr (5, [.ref (ux 27), .ref (ux 28), .ref (ux 29), .ref (ux 30), .ref (ux 31), .ref (ux 32), .ref (ux 33), .ref (ux 34), .int 0, .int 0, .int 0, .int 0, .int 0, .int 0])), ((ux 27), .inr (7, [.ref (ux 68), .ref (ux 69), .ref (ux 70), .ref (ux 71), .ref (ux 72), .ref (ux 73), .ref (ux 74), .ref (ux 75), .int 0, .int 0, .int 0, .int 0])), (qm, .inr (12, (.ref (um 0) :: .int 0 :: .int 0 :: .ref (um 1) :: .ref (um 2) :: .ref (um 3) :: .ref (um 4) :: .int 0 :: .int 0 :: .int 0 :: .int 0 :: .ref (um 5) :: .ref (um 6) :: .ref (um 7) :: .int 0 :: .int 0 :: .int 0 :: .int 0 :: .int 0 :: .int 0 :: .int 0 :: .ref (um 8) :: .int 0 :: .ref (um 9) :: .int 0 :: .ref (um 10) :: .ref (um 11) :: .int 1 :: .ref (um 12) :: .ref (um 13) :: .int 0 :: .int 0 :: .ref (um 14) :: .ref (um 15) :: .ref (um 16) :: .ref (um 17) :: .ref (um 18) :: .int 0 :: .ref (um 19) :: .long 0 :: .ref (um 20) :: .ref (um 21) :: ([] : List Value)))), ((um 11), .inl (cy 0, 296, .inl (fun _ => 0)))]) (hl : lv_has ls 4 [(3, .int 0), (2, .ref qm), (1, .ref qx), (0, .ref b)]) : W p l e room_1 s m #[Value.ref b] below meth c H locs 184 18569 (lw_Z below #[Value.ref b] s) (F0 m 1183 ls []) := by
  have hx := hC.1
  have hb := hC.2.1
  refine lv_aload_n hx hb dL_law_1183 rfl (lv_at hl 2 rfl) ?_
  refine lv_aload_n hx hb dL_law_1184 rfl (lv_at hl 3 rfl) ?_
  refine lv_iload_n hx hb dL_law_1185 rfl (lv_at hl 0 rfl) ?_
  refine lv_iconst (v := 1) hx hb dL_law_1186 (by decide) ?_
  refine lv_iadd hx hb dL_law_1187 ?_
  refine wk_top 1 (by decide) ?_
  refine va_sld hx hb hX hbl hbA hw.2.2 (show ¬ ((1 : Int32) < 0 ∨ 6 ≤ (1 : Int32).toNatClampNeg) by decide) dL_law_1188 ?_
  refine wk_top 1 hs1 ?_
  refine wk_Vi hC hK hw hA [0, 1, 2] [3, 4] rfl rfl rfl rfl (by decide) (t_X11_count_2 l dC dI cy qx ux H.size ) (cwV 1 hC.2.2.2.2 gL_law_X11_count rfl rfl rfl (by decide +kernel) ⟨Nat.le_of_ble_eq_true rfl, Nat.le_of_ble_eq_true rfl⟩) rfl 0 rfl rfl hl.1 rfl (Nat.le_of_ble_eq_true rfl) dL_law_1189 184 18569 ⟨rfl, rfl⟩ ⟨Nat.le_of_ble_eq_true rfl, Nat.le_of_ble_eq_true rfl⟩ (fun r2 u1 H locs hp3 hw => ?_)
  have hw : Wd dC dI A s.heap H locs [(qm, .inr (12, (.ref (um 0) :: .int 0 :: .int 0 :: .ref (um 1) :: .ref (um 2) :: .ref (um 3) :: .ref (um 4) :: .int 0 :: .int 0 :: .int 0 :: .int 0 :: .ref (um 5) :: .ref (um 6) :: .ref (um 7) :: .int 0 :: .int 0 :: .int 0 :: .int 0 :: .int 0 :: .int 0 :: .int 0 :: .ref (um 8) :: .int 0 :: .ref (um 9) :: .int 0 :: .ref (um 10) :: .ref (um 11) :: .int 1 :: .ref (um 12) :: .ref (um 13) :: .int 0 :: .int 0 :: .ref (um 14) :: .ref (um 15) :: .ref (um 16) :: .ref (um 17) :: .ref (um 18) :: .int 0 :: .ref (um 19) :: .long 0 :: .ref (um 20) :: .ref (um 21) :: ([] : List Value)))), ((um 11), .inl (cy 0, 296, .inl (fun _ => 0))), (qx, .inr (11, [.ref (ux 0), .ref (ux 1), .ref (ux 2), .ref (ux 3), .ref (ux 4), .ref (ux 5), .ref (ux 6), .ref (ux 7), .ref (ux 8), .ref (ux 9), .ref (ux 10), .ref (ux 11), .int 0])), ((ux 4), .inr (5, [.ref (ux 27), .ref (ux 28), .ref (ux 29), .ref (ux 30), .ref (ux 31), .ref (ux 32), .ref (ux 33), .ref (ux 34), .int 0, .int 0, .int 0, .int 0, .int 0, .int 0])), ((ux 27), .inr (7, [.ref (ux 68), .ref (ux 69), .ref (ux 70), .ref (ux 71), .ref (ux 72), .ref (ux 73), .ref (ux 74), .ref (ux 75), .int 0, .int 0, .int 0, .int 0]))] := hw
  obtain rfl : r2 = 0 := hp3
  refine lv_aload_n hx hb dL_law_1192 rfl (lv_at hl 1 rfl) ?_
  refine lv_aload_n hx hb dL_law_1193 rfl (lv_at hl 3 rfl) ?_
  refine lv_iload_n hx hb dL_law_1194 rfl (lv_at hl 0 rfl) ?_
  refine lv_iconst (v := 1) hx hb dL_law_1195 (by decide) ?_
  refine lv_iadd hx hb dL_law_1196 ?_
  refine wk_top 1 (by decide) ?_
  refine va_sld hx hb hX hbl hbA hw.2.2 (show ¬ ((1 : Int32) < 0 ∨ 6 ≤ (1 : Int32).toNatClampNeg) by decide) dL_law_1197 ?_
  refine wk_top 1 hs1 ?_
  refine wk_Vi hC hK hw hA [0, 1] [2, 3, 4] rfl rfl rfl rfl (by decide) (t_X12_count_2 l dC dI cy qm um H.size ) (cwV 1 hC.2.2.2.2 gL_law_X12_count rfl rfl rfl (by decide +kernel) ⟨Nat.le_of_ble_eq_true rfl, Nat.le_of_ble_eq_true rfl⟩) rfl 0 rfl rfl hl.1 rfl (Nat.le_of_ble_eq_true rfl) dL_law_1198 184 18569 ⟨rfl, rfl⟩ ⟨Nat.le_of_ble_eq_true rfl, Nat.le_of_ble_eq_true rfl⟩ (fun r5 u4 H locs hp6 hw => ?_)
  have hw : Wd dC dI A s.heap H locs [(qx, .inr (11, [.ref (ux 0), .ref (ux 1), .ref (ux 2), .ref (ux 3), .ref (ux 4), .ref (ux 5), .ref (ux 6), .ref (ux 7), .ref (ux 8), .ref (ux 9), .ref (ux 10), .ref (ux 11), .int 0])), ((ux 4), .inr (5, [.ref (ux 27), .ref (ux 28), .ref (ux 29), .ref (ux 30), .ref (ux 31), .ref (ux 32), .ref (ux 33), .ref (ux 34), .int 0, .int 0, .int 0, .int 0, .int 0, .int 0])), ((ux 27), .inr (7, [.ref (ux 68), .ref (ux 69), .ref (ux 70), .ref (ux 71), .ref (ux 72), .ref (ux 73), .ref (ux 74), .ref (ux 75), .int 0, .int 0, .int 0, .int 0])), (qm, .inr (12, (.ref (um 0) :: .int 0 :: .int 0 :: .ref (um 1) :: .ref (um 2) :: .ref (um 3) :: .ref (um 4) :: .int 0 :: .int 0 :: .int 0 :: .int 0 :: .ref (um 5) :: .ref (um 6) :: .ref (um 7) :: .int 0 :: .int 0 :: .int 0 :: .int 0 :: .int 0 :: .int 0 :: .int 0 :: .ref (um 8) :: .int 0 :: .ref (um 9) :: .int 0 :: .ref (um 10) :: .ref (um 11) :: .int 1 :: .ref (um 12) :: .ref (um 13) :: .int 0 :: .int 0 :: .ref (um 14) :: .ref (um 15) :: .ref (um 16) :: .ref (um 17) :: .ref (um 18) :: .int 0 :: .ref (um 19) :: .long 0 :: .ref (um 20) :: .ref (um 21) :: ([] : List Value)))), ((um 11), .inl (cy 0, 296, .inl (fun _ => 0)))] := hw
  obtain rfl : r5 = 0 := hp6
  refine lv_icmp_eq (tgt := 1252) hx hb dL_law_1201 (by decide) (fun _ => ?_) (fun c => absurd (by decide) c)
  exact law_end hx hb hC hr hlocks hX hbl hbA hAe hw hl (Nat.le_of_ble_eq_true rfl) (Nat.le_of_ble_eq_true rfl)
set_option maxHeartbeats 4000000 in
set_option maxRecDepth 100000 in
theorem lc_count_3 {p : Program} {e : Env} {s : State} {m : MethodId} {below : List Frame} {meth : Method} {c : Code} {l : Launch} {b : Nat} {xs : Nat → Int32} {adK adV : Nat → Nat} {dC : Nat → ClassId} {dI : Nat → Nat → Nat} {cy : Nat → ClassId} {A : Nat → Prop} (hC : CallFix p m c code 4 s #[Value.ref b] wsR RL) (hr : meth.sig.returnType = ret) (hlocks : meth.locks = false) (hK : KK dC dI cy s) (hE : SE adK adV A s s.heap) (hSR : SR adK s) (hAe : A = fun q : Nat => s.heap.size ≤ q) (hA : ∀ q : Nat, s.heap.size ≤ q → A q) (hbA : ¬ A b) (hX : va_X b 6 xs s s.heap) (hbl : b < s.heap.size) {qx qm : Nat} {ux um : Nat → Nat} (hs1 : xs 1 = 2)  {H : Heap} {locs : List Loc} {ls : Array Slot} (hw : Wd dC dI A s.heap H locs [(qx, .inr (11, [.ref (ux 0), .ref (ux 1), .ref (ux 2), .ref (ux 3), .ref (ux 4), .ref (ux 5), .ref (ux 6), .ref (ux 7), .ref (ux 8), .ref (ux 9), .ref (ux 10), .ref (ux 11), .int 0])), ((ux 4), .inr (5, [.ref (ux 27), .ref (ux 28), .ref (ux 29), .ref (ux 30), .ref (ux 31), .ref (ux 32), .ref (ux 33), .ref (ux 34), .int 0, .int 0, .int 0, .int 0, .int 0, .int 0])), ((ux 27), .inr (7, [.ref (ux 68), .ref (ux 69), .ref (ux 70), .ref (ux 71), .ref (ux 72), .ref (ux 73), .ref (ux 74), .ref (ux 75), .int 0, .int 0, .int 0, .int 0])), (qm, .inr (12, (.ref (um 0) :: .int 0 :: .int 0 :: .ref (um 1) :: .ref (um 2) :: .ref (um 3) :: .ref (um 4) :: .int 0 :: .int 0 :: .int 0 :: .int 0 :: .ref (um 5) :: .ref (um 6) :: .ref (um 7) :: .int 0 :: .int 0 :: .int 0 :: .int 0 :: .int 0 :: .int 0 :: .int 0 :: .ref (um 8) :: .int 0 :: .ref (um 9) :: .int 0 :: .ref (um 10) :: .ref (um 11) :: .int 1 :: .ref (um 12) :: .ref (um 13) :: .int 0 :: .int 0 :: .ref (um 14) :: .ref (um 15) :: .ref (um 16) :: .ref (um 17) :: .ref (um 18) :: .int 0 :: .ref (um 19) :: .long 0 :: .ref (um 20) :: .ref (um 21) :: ([] : List Value)))), ((um 11), .inl (cy 0, 296, .inl (fun _ => 0)))]) (hl : lv_has ls 4 [(3, .int 0), (2, .ref qm), (1, .ref qx), (0, .ref b)]) : W p l e room_1 s m #[Value.ref b] below meth c H locs 184 18569 (lw_Z below #[Value.ref b] s) (F0 m 1183 ls []) := by
  have hx := hC.1
  have hb := hC.2.1
  refine lv_aload_n hx hb dL_law_1183 rfl (lv_at hl 2 rfl) ?_
  refine lv_aload_n hx hb dL_law_1184 rfl (lv_at hl 3 rfl) ?_
  refine lv_iload_n hx hb dL_law_1185 rfl (lv_at hl 0 rfl) ?_
  refine lv_iconst (v := 1) hx hb dL_law_1186 (by decide) ?_
  refine lv_iadd hx hb dL_law_1187 ?_
  refine wk_top 1 (by decide) ?_
  refine va_sld hx hb hX hbl hbA hw.2.2 (show ¬ ((1 : Int32) < 0 ∨ 6 ≤ (1 : Int32).toNatClampNeg) by decide) dL_law_1188 ?_
  refine wk_top 2 hs1 ?_
  refine wk_Vi hC hK hw hA [0, 1, 2] [3, 4] rfl rfl rfl rfl (by decide) (t_X11_count_3 l dC dI cy qx ux H.size ) (cwV 1 hC.2.2.2.2 gL_law_X11_count rfl rfl rfl (by decide +kernel) ⟨Nat.le_of_ble_eq_true rfl, Nat.le_of_ble_eq_true rfl⟩) rfl 0 rfl rfl hl.1 rfl (Nat.le_of_ble_eq_true rfl) dL_law_1189 184 18569 ⟨rfl, rfl⟩ ⟨Nat.le_of_ble_eq_true rfl, Nat.le_of_ble_eq_true rfl⟩ (fun r2 u1 H locs hp3 hw => ?_)
  have hw : Wd dC dI A s.heap H locs [(qm, .inr (12, (.ref (um 0) :: .int 0 :: .int 0 :: .ref (um 1) :: .ref (um 2) :: .ref (um 3) :: .ref (um 4) :: .int 0 :: .int 0 :: .int 0 :: .int 0 :: .ref (um 5) :: .ref (um 6) :: .ref (um 7) :: .int 0 :: .int 0 :: .int 0 :: .int 0 :: .int 0 :: .int 0 :: .int 0 :: .ref (um 8) :: .int 0 :: .ref (um 9) :: .int 0 :: .ref (um 10) :: .ref (um 11) :: .int 1 :: .ref (um 12) :: .ref (um 13) :: .int 0 :: .int 0 :: .ref (um 14) :: .ref (um 15) :: .ref (um 16) :: .ref (um 17) :: .ref (um 18) :: .int 0 :: .ref (um 19) :: .long 0 :: .ref (um 20) :: .ref (um 21) :: ([] : List Value)))), ((um 11), .inl (cy 0, 296, .inl (fun _ => 0))), (qx, .inr (11, [.ref (ux 0), .ref (ux 1), .ref (ux 2), .ref (ux 3), .ref (ux 4), .ref (ux 5), .ref (ux 6), .ref (ux 7), .ref (ux 8), .ref (ux 9), .ref (ux 10), .ref (ux 11), .int 0])), ((ux 4), .inr (5, [.ref (ux 27), .ref (ux 28), .ref (ux 29), .ref (ux 30), .ref (ux 31), .ref (ux 32), .ref (ux 33), .ref (ux 34), .int 0, .int 0, .int 0, .int 0, .int 0, .int 0])), ((ux 27), .inr (7, [.ref (ux 68), .ref (ux 69), .ref (ux 70), .ref (ux 71), .ref (ux 72), .ref (ux 73), .ref (ux 74), .ref (ux 75), .int 0, .int 0, .int 0, .int 0]))] := hw
  obtain rfl : r2 = 0 := hp3
  refine lv_aload_n hx hb dL_law_1192 rfl (lv_at hl 1 rfl) ?_
  refine lv_aload_n hx hb dL_law_1193 rfl (lv_at hl 3 rfl) ?_
  refine lv_iload_n hx hb dL_law_1194 rfl (lv_at hl 0 rfl) ?_
  refine lv_iconst (v := 1) hx hb dL_law_1195 (by decide) ?_
  refine lv_iadd hx hb dL_law_1196 ?_
  refine wk_top 1 (by decide) ?_
  refine va_sld hx hb hX hbl hbA hw.2.2 (show ¬ ((1 : Int32) < 0 ∨ 6 ≤ (1 : Int32).toNatClampNeg) by decide) dL_law_1197 ?_
  refine wk_top 2 hs1 ?_
  refine wk_Vi hC hK hw hA [0, 1] [2, 3, 4] rfl rfl rfl rfl (by decide) (t_X12_count_3 l dC dI cy qm um H.size ) (cwV 1 hC.2.2.2.2 gL_law_X12_count rfl rfl rfl (by decide +kernel) ⟨Nat.le_of_ble_eq_true rfl, Nat.le_of_ble_eq_true rfl⟩) rfl 0 rfl rfl hl.1 rfl (Nat.le_of_ble_eq_true rfl) dL_law_1198 184 18569 ⟨rfl, rfl⟩ ⟨Nat.le_of_ble_eq_true rfl, Nat.le_of_ble_eq_true rfl⟩ (fun r5 u4 H locs hp6 hw => ?_)
  have hw : Wd dC dI A s.heap H locs [(qx, .inr (11, [.ref (ux 0), .ref (ux 1), .ref (ux 2), .ref (ux 3), .ref (ux 4), .ref (ux 5), .ref (ux 6), .ref (ux 7), .ref (ux 8), .ref (ux 9), .ref (ux 10), .ref (ux 11), .int 0])), ((ux 4), .inr (5, [.ref (ux 27), .ref (ux 28), .ref (ux 29), .ref (ux 30), .ref (ux 31), .ref (ux 32), .ref (ux 33), .ref (ux 34), .int 0, .int 0, .int 0, .int 0, .int 0, .int 0])), ((ux 27), .inr (7, [.ref (ux 68), .ref (ux 69), .ref (ux 70), .ref (ux 71), .ref (ux 72), .ref (ux 73), .ref (ux 74), .ref (ux 75), .int 0, .int 0, .int 0, .int 0])), (qm, .inr (12, (.ref (um 0) :: .int 0 :: .int 0 :: .ref (um 1) :: .ref (um 2) :: .ref (um 3) :: .ref (um 4) :: .int 0 :: .int 0 :: .int 0 :: .int 0 :: .ref (um 5) :: .ref (um 6) :: .ref (um 7) :: .int 0 :: .int 0 :: .int 0 :: .int 0 :: .int 0 :: .int 0 :: .int 0 :: .ref (um 8) :: .int 0 :: .ref (um 9) :: .int 0 :: .ref (um 10) :: .ref (um 11) :: .int 1 :: .ref (um 12) :: .ref (um 13) :: .int 0 :: .int 0 :: .ref (um 14) :: .ref (um 15) :: .ref (um 16) :: .ref (um 17) :: .ref (um 18) :: .int 0 :: .ref (um 19) :: .long 0 :: .ref (um 20) :: .ref (um 21) :: ([] : List Value)))), ((um 11), .inl (cy 0, 296, .inl (fun _ => 0)))] := hw
  obtain rfl : r5 = 0 := hp6
  refine lv_icmp_eq (tgt := 1252) hx hb dL_law_1201 (by decide) (fun _ => ?_) (fun c => absurd (by decide) c)
  exact law_end hx hb hC hr hlocks hX hbl hbA hAe hw hl (Nat.le_of_ble_eq_true rfl) (Nat.le_of_ble_eq_true rfl)
set_option maxHeartbeats 4000000 in
set_option maxRecDepth 100000 in
theorem lc_count_4 {p : Program} {e : Env} {s : State} {m : MethodId} {below : List Frame} {meth : Method} {c : Code} {l : Launch} {b : Nat} {xs : Nat → Int32} {adK adV : Nat → Nat} {dC : Nat → ClassId} {dI : Nat → Nat → Nat} {cy : Nat → ClassId} {A : Nat → Prop} (hC : CallFix p m c code 4 s #[Value.ref b] wsR RL) (hr : meth.sig.returnType = ret) (hlocks : meth.locks = false) (hK : KK dC dI cy s) (hE : SE adK adV A s s.heap) (hSR : SR adK s) (hAe : A = fun q : Nat => s.heap.size ≤ q) (hA : ∀ q : Nat, s.heap.size ≤ q → A q) (hbA : ¬ A b) (hX : va_X b 6 xs s s.heap) (hbl : b < s.heap.size) {qx qm : Nat} {ux um : Nat → Nat} (hs1 : xs 1 = 3)  {H : Heap} {locs : List Loc} {ls : Array Slot} (hw : Wd dC dI A s.heap H locs [(qx, .inr (11, [.ref (ux 0), .ref (ux 1), .ref (ux 2), .ref (ux 3), .ref (ux 4), .ref (ux 5), .ref (ux 6), .ref (ux 7), .ref (ux 8), .ref (ux 9), .ref (ux 10), .ref (ux 11), .int 0])), ((ux 4), .inr (5, [.ref (ux 27), .ref (ux 28), .ref (ux 29), .ref (ux 30), .ref (ux 31), .ref (ux 32), .ref (ux 33), .ref (ux 34), .int 0, .int 0, .int 0, .int 0, .int 0, .int 0])), ((ux 27), .inr (7, [.ref (ux 68), .ref (ux 69), .ref (ux 70), .ref (ux 71), .ref (ux 72), .ref (ux 73), .ref (ux 74), .ref (ux 75), .int 0, .int 0, .int 0, .int 0])), (qm, .inr (12, (.ref (um 0) :: .int 0 :: .int 0 :: .ref (um 1) :: .ref (um 2) :: .ref (um 3) :: .ref (um 4) :: .int 0 :: .int 0 :: .int 0 :: .int 0 :: .ref (um 5) :: .ref (um 6) :: .ref (um 7) :: .int 0 :: .int 0 :: .int 0 :: .int 0 :: .int 0 :: .int 0 :: .int 0 :: .ref (um 8) :: .int 0 :: .ref (um 9) :: .int 0 :: .ref (um 10) :: .ref (um 11) :: .int 1 :: .ref (um 12) :: .ref (um 13) :: .int 0 :: .int 0 :: .ref (um 14) :: .ref (um 15) :: .ref (um 16) :: .ref (um 17) :: .ref (um 18) :: .int 0 :: .ref (um 19) :: .long 0 :: .ref (um 20) :: .ref (um 21) :: ([] : List Value)))), ((um 11), .inl (cy 0, 296, .inl (fun _ => 0)))]) (hl : lv_has ls 4 [(3, .int 0), (2, .ref qm), (1, .ref qx), (0, .ref b)]) : W p l e room_1 s m #[Value.ref b] below meth c H locs 184 18569 (lw_Z below #[Value.ref b] s) (F0 m 1183 ls []) := by
  have hx := hC.1
  have hb := hC.2.1
  refine lv_aload_n hx hb dL_law_1183 rfl (lv_at hl 2 rfl) ?_
  refine lv_aload_n hx hb dL_law_1184 rfl (lv_at hl 3 rfl) ?_
  refine lv_iload_n hx hb dL_law_1185 rfl (lv_at hl 0 rfl) ?_
  refine lv_iconst (v := 1) hx hb dL_law_1186 (by decide) ?_
  refine lv_iadd hx hb dL_law_1187 ?_
  refine wk_top 1 (by decide) ?_
  refine va_sld hx hb hX hbl hbA hw.2.2 (show ¬ ((1 : Int32) < 0 ∨ 6 ≤ (1 : Int32).toNatClampNeg) by decide) dL_law_1188 ?_
  refine wk_top 3 hs1 ?_
  refine wk_Vi hC hK hw hA [0, 1, 2] [3, 4] rfl rfl rfl rfl (by decide) (t_X11_count_4 l dC dI cy qx ux H.size ) (cwV 1 hC.2.2.2.2 gL_law_X11_count rfl rfl rfl (by decide +kernel) ⟨Nat.le_of_ble_eq_true rfl, Nat.le_of_ble_eq_true rfl⟩) rfl 0 rfl rfl hl.1 rfl (Nat.le_of_ble_eq_true rfl) dL_law_1189 184 18569 ⟨rfl, rfl⟩ ⟨Nat.le_of_ble_eq_true rfl, Nat.le_of_ble_eq_true rfl⟩ (fun r2 u1 H locs hp3 hw => ?_)
  have hw : Wd dC dI A s.heap H locs [(qm, .inr (12, (.ref (um 0) :: .int 0 :: .int 0 :: .ref (um 1) :: .ref (um 2) :: .ref (um 3) :: .ref (um 4) :: .int 0 :: .int 0 :: .int 0 :: .int 0 :: .ref (um 5) :: .ref (um 6) :: .ref (um 7) :: .int 0 :: .int 0 :: .int 0 :: .int 0 :: .int 0 :: .int 0 :: .int 0 :: .ref (um 8) :: .int 0 :: .ref (um 9) :: .int 0 :: .ref (um 10) :: .ref (um 11) :: .int 1 :: .ref (um 12) :: .ref (um 13) :: .int 0 :: .int 0 :: .ref (um 14) :: .ref (um 15) :: .ref (um 16) :: .ref (um 17) :: .ref (um 18) :: .int 0 :: .ref (um 19) :: .long 0 :: .ref (um 20) :: .ref (um 21) :: ([] : List Value)))), ((um 11), .inl (cy 0, 296, .inl (fun _ => 0))), (qx, .inr (11, [.ref (ux 0), .ref (ux 1), .ref (ux 2), .ref (ux 3), .ref (ux 4), .ref (ux 5), .ref (ux 6), .ref (ux 7), .ref (ux 8), .ref (ux 9), .ref (ux 10), .ref (ux 11), .int 0])), ((ux 4), .inr (5, [.ref (ux 27), .ref (ux 28), .ref (ux 29), .ref (ux 30), .ref (ux 31), .ref (ux 32), .ref (ux 33), .ref (ux 34), .int 0, .int 0, .int 0, .int 0, .int 0, .int 0])), ((ux 27), .inr (7, [.ref (ux 68), .ref (ux 69), .ref (ux 70), .ref (ux 71), .ref (ux 72), .ref (ux 73), .ref (ux 74), .ref (ux 75), .int 0, .int 0, .int 0, .int 0]))] := hw
  obtain rfl : r2 = 0 := hp3
  refine lv_aload_n hx hb dL_law_1192 rfl (lv_at hl 1 rfl) ?_
  refine lv_aload_n hx hb dL_law_1193 rfl (lv_at hl 3 rfl) ?_
  refine lv_iload_n hx hb dL_law_1194 rfl (lv_at hl 0 rfl) ?_
  refine lv_iconst (v := 1) hx hb dL_law_1195 (by decide) ?_
  refine lv_iadd hx hb dL_law_1196 ?_
  refine wk_top 1 (by decide) ?_
  refine va_sld hx hb hX hbl hbA hw.2.2 (show ¬ ((1 : Int32) < 0 ∨ 6 ≤ (1 : Int32).toNatClampNeg) by decide) dL_law_1197 ?_
  refine wk_top 3 hs1 ?_
  refine wk_Vi hC hK hw hA [0, 1] [2, 3, 4] rfl rfl rfl rfl (by decide) (t_X12_count_4 l dC dI cy qm um H.size ) (cwV 1 hC.2.2.2.2 gL_law_X12_count rfl rfl rfl (by decide +kernel) ⟨Nat.le_of_ble_eq_true rfl, Nat.le_of_ble_eq_true rfl⟩) rfl 0 rfl rfl hl.1 rfl (Nat.le_of_ble_eq_true rfl) dL_law_1198 184 18569 ⟨rfl, rfl⟩ ⟨Nat.le_of_ble_eq_true rfl, Nat.le_of_ble_eq_true rfl⟩ (fun r5 u4 H locs hp6 hw => ?_)
  have hw : Wd dC dI A s.heap H locs [(qx, .inr (11, [.ref (ux 0), .ref (ux 1), .ref (ux 2), .ref (ux 3), .ref (ux 4), .ref (ux 5), .ref (ux 6), .ref (ux 7), .ref (ux 8), .ref (ux 9), .ref (ux 10), .ref (ux 11), .int 0])), ((ux 4), .inr (5, [.ref (ux 27), .ref (ux 28), .ref (ux 29), .ref (ux 30), .ref (ux 31), .ref (ux 32), .ref (ux 33), .ref (ux 34), .int 0, .int 0, .int 0, .int 0, .int 0, .int 0])), ((ux 27), .inr (7, [.ref (ux 68), .ref (ux 69), .ref (ux 70), .ref (ux 71), .ref (ux 72), .ref (ux 73), .ref (ux 74), .ref (ux 75), .int 0, .int 0, .int 0, .int 0])), (qm, .inr (12, (.ref (um 0) :: .int 0 :: .int 0 :: .ref (um 1) :: .ref (um 2) :: .ref (um 3) :: .ref (um 4) :: .int 0 :: .int 0 :: .int 0 :: .int 0 :: .ref (um 5) :: .ref (um 6) :: .ref (um 7) :: .int 0 :: .int 0 :: .int 0 :: .int 0 :: .int 0 :: .int 0 :: .int 0 :: .ref (um 8) :: .int 0 :: .ref (um 9) :: .int 0 :: .ref (um 10) :: .ref (um 11) :: .int 1 :: .ref (um 12) :: .ref (um 13) :: .int 0 :: .int 0 :: .ref (um 14) :: .ref (um 15) :: .ref (um 16) :: .ref (um 17) :: .ref (um 18) :: .int 0 :: .ref (um 19) :: .long 0 :: .ref (um 20) :: .ref (um 21) :: ([] : List Value)))), ((um 11), .inl (cy 0, 296, .inl (fun _ => 0)))] := hw
  obtain rfl : r5 = 0 := hp6
  refine lv_icmp_eq (tgt := 1252) hx hb dL_law_1201 (by decide) (fun _ => ?_) (fun c => absurd (by decide) c)
  exact law_end hx hb hC hr hlocks hX hbl hbA hAe hw hl (Nat.le_of_ble_eq_true rfl) (Nat.le_of_ble_eq_true rfl)
