set_option maxHeartbeats 4000000 in
set_option maxRecDepth 100000 in
theorem lc_feed {p : Program} {e : Env} {s : State} {m : MethodId} {below : List Frame} {meth : Method} {c : Code} {l : Launch} {b L : Nat} {xs : Nat → Int32} {adK adV : Nat → Nat} {dC : Nat → ClassId} {dI : Nat → Nat → Nat} {cy : Nat → ClassId} {A : Nat → Prop} (hC : CallFix p m c code 4 s #[Value.ref b] wsR RL) (hK : KK dC dI cy s) (hE : SE adK adV A s s.heap) (hSR : SR adK s) (hA : ∀ q : Nat, s.heap.size ≤ q → A q) (hbA : ¬ A b) (hX : va_X b L xs s s.heap) (hbl : b < s.heap.size) (hL : L ≤ 3072) {adC adM : Nat → Nat} {i : Int32} (hi0 : 0 ≤ i.toInt) (hi1 : i.toInt + 6 ≤ L) {wc wr : va_W} {H : Heap} {locs : List Loc} {ls : Array Slot} (hI : LI adC adM cy i.toInt wc wr) (hw : Wd dC dI A s.heap H locs (wc ++ wr)) (hl : lv_has ls 4 [(3, .int i), (2, .ref (adM 0)), (1, .ref (adC 0)), (0, .ref b)]) (kk : ∀ (H : Heap) (locs : List Loc) (wc wr : va_W), LI adC adM cy (i.toInt + 6) wc wr → Wd dC dI A s.heap H locs (wc ++ wr) → W p l e room_1 s m #[Value.ref b] below meth c H locs 184 18569 (lw_Z below #[Value.ref b] s) (F0 m 1252 ls [])) : W p l e room_1 s m #[Value.ref b] below meth c H locs 184 18569 (lw_Z below #[Value.ref b] s) (F0 m 176 ls []) := by
  have hx := hC.1
  have hb := hC.2.1
  obtain ⟨⟨q1, hT⟩, ⟨q2, hM⟩, hRW, hXR, hSI, hWI, hAI, hLX⟩ := hI
  obtain ⟨s1, hs1⟩ : ∃ y : Int32, xs (i + 1).toNatClampNeg = y := ⟨_, rfl⟩
  obtain ⟨s2, hs2⟩ : ∃ y : Int32, xs (i + 2).toNatClampNeg = y := ⟨_, rfl⟩
  obtain ⟨s3, hs3⟩ : ∃ y : Int32, xs (i + 3).toNatClampNeg = y := ⟨_, rfl⟩
  obtain ⟨s4, hs4⟩ : ∃ y : Int32, xs (i + 4).toNatClampNeg = y := ⟨_, rfl⟩
  obtain ⟨s5, hs5⟩ : ∃ y : Int32, xs (i + 5).toNatClampNeg = y := ⟨_, rfl⟩
  refine lv_aload_n hx hb dL_law_176 rfl (lv_at hl 2 rfl) ?_
  refine lv_aload_n hx hb dL_law_177 rfl (lv_at hl 3 rfl) ?_
  refine lv_iload_n hx hb dL_law_178 rfl (lv_at hl 0 rfl) ?_
  refine lv_iconst (v := 1) hx hb dL_law_179 (by decide) ?_
  refine lv_iadd hx hb dL_law_180 ?_
  refine va_sld hx hb hX hbl hbA hw.2.2 (lx_ok hi0 hi1 hL (by decide) (by decide)) dL_law_181 ?_
  refine wk_top s1 hs1 ?_
  refine lv_aload_n hx hb dL_law_182 rfl (lv_at hl 3 rfl) ?_
  refine lv_iload_n hx hb dL_law_183 rfl (lv_at hl 0 rfl) ?_
  refine lv_iconst (v := 2) hx hb dL_law_184 (by decide) ?_
  refine lv_iadd hx hb dL_law_185 ?_
  refine va_sld hx hb hX hbl hbA hw.2.2 (lx_ok hi0 hi1 hL (by decide) (by decide)) dL_law_186 ?_
  refine wk_top s2 hs2 ?_
  refine lv_aload_n hx hb dL_law_187 rfl (lv_at hl 3 rfl) ?_
  refine lv_iload_n hx hb dL_law_188 rfl (lv_at hl 0 rfl) ?_
  refine lv_iconst (v := 3) hx hb dL_law_189 (by decide) ?_
  refine lv_iadd hx hb dL_law_190 ?_
  refine va_sld hx hb hX hbl hbA hw.2.2 (lx_ok hi0 hi1 hL (by decide) (by decide)) dL_law_191 ?_
  refine wk_top s3 hs3 ?_
  refine lv_aload_n hx hb dL_law_192 rfl (lv_at hl 3 rfl) ?_
  refine lv_iload_n hx hb dL_law_193 rfl (lv_at hl 0 rfl) ?_
  refine lv_iconst (v := 4) hx hb dL_law_194 (by decide) ?_
  refine lv_iadd hx hb dL_law_195 ?_
  refine va_sld hx hb hX hbl hbA hw.2.2 (lx_ok hi0 hi1 hL (by decide) (by decide)) dL_law_196 ?_
  refine wk_top s4 hs4 ?_
  refine lv_aload_n hx hb dL_law_197 rfl (lv_at hl 3 rfl) ?_
  refine lv_iload_n hx hb dL_law_198 rfl (lv_at hl 0 rfl) ?_
  refine lv_iconst (v := 5) hx hb dL_law_199 (by decide) ?_
  refine lv_iadd hx hb dL_law_200 ?_
  refine va_sld hx hb hX hbl hbA hw.2.2 (lx_ok hi0 hi1 hL (by decide) (by decide)) dL_law_201 ?_
  refine wk_top s5 hs5 ?_
  obtain ⟨fsX11, hfX11, -⟩ := hT.2.1 0 11 kC_at0 (by decide)
  refine lr_call (ci := 11) hC hK hw hA hE hSR (kz_X11_feed_1 l adK adV dC dI cy adC (2147483648 + 9000 * i.toInt) (by omega) (by omega) q1 12 s1 s2 s3 s4 s5 wc _ hT) (cwV 5 hC.2.2.2.2 uLV_RL_13 rfl rfl rfl (by decide +kernel) ⟨Nat.le_of_ble_eq_true rfl, Nat.le_of_ble_eq_true rfl⟩) rfl 0 hfX11 rfl hl.1 rfl (by first | exact Nat.le_of_ble_eq_true rfl | decide) dL_law_202 (Nat.le_of_ble_eq_true rfl) (Nat.le_of_ble_eq_true rfl) (fun r1 uc H locs hp1 hw => ?_)
  refine lv_pop hx hb dL_law_205 rfl ?_
  refine lv_aload_n hx hb dL_law_206 rfl (lv_at hl 1 rfl) ?_
  refine lv_aload_n hx hb dL_law_207 rfl (lv_at hl 3 rfl) ?_
  refine lv_iload_n hx hb dL_law_208 rfl (lv_at hl 0 rfl) ?_
  refine lv_iconst (v := 1) hx hb dL_law_209 (by decide) ?_
  refine lv_iadd hx hb dL_law_210 ?_
  refine va_sld hx hb hX hbl hbA hw.2.2 (lx_ok hi0 hi1 hL (by decide) (by decide)) dL_law_211 ?_
  refine wk_top s1 hs1 ?_
  refine lv_aload_n hx hb dL_law_212 rfl (lv_at hl 3 rfl) ?_
  refine lv_iload_n hx hb dL_law_213 rfl (lv_at hl 0 rfl) ?_
  refine lv_iconst (v := 2) hx hb dL_law_214 (by decide) ?_
  refine lv_iadd hx hb dL_law_215 ?_
  refine va_sld hx hb hX hbl hbA hw.2.2 (lx_ok hi0 hi1 hL (by decide) (by decide)) dL_law_216 ?_
  refine wk_top s2 hs2 ?_
  refine lv_aload_n hx hb dL_law_217 rfl (lv_at hl 3 rfl) ?_
  refine lv_iload_n hx hb dL_law_218 rfl (lv_at hl 0 rfl) ?_
  refine lv_iconst (v := 3) hx hb dL_law_219 (by decide) ?_
  refine lv_iadd hx hb dL_law_220 ?_
  refine va_sld hx hb hX hbl hbA hw.2.2 (lx_ok hi0 hi1 hL (by decide) (by decide)) dL_law_221 ?_
  refine wk_top s3 hs3 ?_
  refine lv_aload_n hx hb dL_law_222 rfl (lv_at hl 3 rfl) ?_
  refine lv_iload_n hx hb dL_law_223 rfl (lv_at hl 0 rfl) ?_
  refine lv_iconst (v := 4) hx hb dL_law_224 (by decide) ?_
  refine lv_iadd hx hb dL_law_225 ?_
  refine va_sld hx hb hX hbl hbA hw.2.2 (lx_ok hi0 hi1 hL (by decide) (by decide)) dL_law_226 ?_
  refine wk_top s4 hs4 ?_
  refine lv_aload_n hx hb dL_law_227 rfl (lv_at hl 3 rfl) ?_
  refine lv_iload_n hx hb dL_law_228 rfl (lv_at hl 0 rfl) ?_
  refine lv_iconst (v := 5) hx hb dL_law_229 (by decide) ?_
  refine lv_iadd hx hb dL_law_230 ?_
  refine va_sld hx hb hX hbl hbA hw.2.2 (lx_ok hi0 hi1 hL (by decide) (by decide)) dL_law_231 ?_
  refine wk_top s5 hs5 ?_
  obtain ⟨fsX12, hfX12, -⟩ := hM.2.1 0 12 kM_at0 (by decide)
  refine lr_call (ci := 12) hC hK hw hA hE hSR (kz_X12_feed_1 l adK adV dC dI cy adM (100000 + 9000 * i.toInt) (by omega) (by omega) q2 12 s1 s2 s3 s4 s5 wr _ hM) (cwV 5 hC.2.2.2.2 uLV_RL_17 rfl rfl rfl (by decide +kernel) ⟨Nat.le_of_ble_eq_true rfl, Nat.le_of_ble_eq_true rfl⟩) rfl 0 hfX12 rfl hl.1 rfl (by first | exact Nat.le_of_ble_eq_true rfl | decide) dL_law_232 (Nat.le_of_ble_eq_true rfl) (Nat.le_of_ble_eq_true rfl) (fun r2 ur H locs hp2 hw => ?_)
  obtain ⟨hT1, hF1, hE1, hg1⟩ := hp1
  obtain ⟨hM1, hF2, hE2, hg2⟩ := hp2
  have hR1 : RW ur := RW_FE hF2 (fun _ => rfl) (fun _ => rfl) (fun _ => rfl) hRW
  have hA2 : AIc (sI uc) := AI_FE hAI hF1 rfl
  have hci : gi uc 149 9 = 0 := hF1.gi kC_at149 rfl hLX.2.2.1
  have hf27 : gi ur 0 27 = 1 := hF2.gi kM_at0 rfl hLX.2.2.2.1
  have hf30 : gi ur 0 30 = 0 := hF2.gi kM_at0 rfl hLX.2.2.2.2
  have hRR := RR_C hLX.1 hF1 rfl
  have hRR := RR_M hRR hF2 rfl (fun _ => rfl) (fun _ => rfl) (fun _ => rfl)
  have hXS := XR_C hLX.2.1 hF1 rfl
  have hXS := XR_M hXS hF2 rfl rfl rfl (fun _ => rfl) (fun _ => rfl)
  have hL2 : LX uc ur := ⟨hRR, hXS, hci, hf27, hf30⟩
  have hrx := TR_feed hXR hE1 hE2
  have hS1 : SI (sI uc) (sI wr) := SI_C hSI hF1 rfl
  have hS2 : SI (sI uc) (sI ur) := SI_M hS1 hF2 rfl
  have hW2 : WI (sI ur) := WI_M hWI hF2 rfl
  have hLI : LI adC adM cy (i.toInt + 6) uc ur := (LI_go hT1 (by omega) hM1 (by omega) hR1 hrx.2 hS2 hW2 hA2 hL2)
  refine lv_pop hx hb dL_law_235 rfl ?_
  refine lv_goto (tgt := 1252) hx hb dL_law_236 (by decide) ?_
  exact kk H locs uc ur hLI hw
set_option maxHeartbeats 4000000 in
set_option maxRecDepth 100000 in
theorem lc_end {p : Program} {e : Env} {s : State} {m : MethodId} {below : List Frame} {meth : Method} {c : Code} {l : Launch} {b L : Nat} {xs : Nat → Int32} {adK adV : Nat → Nat} {dC : Nat → ClassId} {dI : Nat → Nat → Nat} {cy : Nat → ClassId} {A : Nat → Prop} (hC : CallFix p m c code 4 s #[Value.ref b] wsR RL) (hK : KK dC dI cy s) (hE : SE adK adV A s s.heap) (hSR : SR adK s) (hA : ∀ q : Nat, s.heap.size ≤ q → A q) (hbA : ¬ A b) (hX : va_X b L xs s s.heap) (hbl : b < s.heap.size) (hL : L ≤ 3072) {adC adM : Nat → Nat} {i : Int32} (hi0 : 0 ≤ i.toInt) (hi1 : i.toInt + 6 ≤ L) {wc wr : va_W} {H : Heap} {locs : List Loc} {ls : Array Slot} (hI : LI adC adM cy i.toInt wc wr) (hw : Wd dC dI A s.heap H locs (wc ++ wr)) (hl : lv_has ls 4 [(3, .int i), (2, .ref (adM 0)), (1, .ref (adC 0)), (0, .ref b)]) (kk : ∀ (H : Heap) (locs : List Loc) (wc wr : va_W), LI adC adM cy (i.toInt + 6) wc wr → Wd dC dI A s.heap H locs (wc ++ wr) → W p l e room_1 s m #[Value.ref b] below meth c H locs 184 18569 (lw_Z below #[Value.ref b] s) (F0 m 1252 ls [])) : W p l e room_1 s m #[Value.ref b] below meth c H locs 184 18569 (lw_Z below #[Value.ref b] s) (F0 m 239 ls []) := by
  have hx := hC.1
  have hb := hC.2.1
  obtain ⟨⟨q1, hT⟩, ⟨q2, hM⟩, hRW, hXR, hSI, hWI, hAI, hLX⟩ := hI
  obtain ⟨s1, hs1⟩ : ∃ y : Int32, xs (i + 1).toNatClampNeg = y := ⟨_, rfl⟩
  refine lv_aload_n hx hb dL_law_239 rfl (lv_at hl 2 rfl) ?_
  refine lv_aload_n hx hb dL_law_240 rfl (lv_at hl 3 rfl) ?_
  refine lv_iload_n hx hb dL_law_241 rfl (lv_at hl 0 rfl) ?_
  refine lv_iconst (v := 1) hx hb dL_law_242 (by decide) ?_
  refine lv_iadd hx hb dL_law_243 ?_
  refine va_sld hx hb hX hbl hbA hw.2.2 (lx_ok hi0 hi1 hL (by decide) (by decide)) dL_law_244 ?_
  refine wk_top s1 hs1 ?_
  obtain ⟨fsX11, hfX11, -⟩ := hT.2.1 0 11 kC_at0 (by decide)
  refine lr_call (ci := 11) hC hK hw hA hE hSR (kz_X11_end_1 l adK adV dC dI cy adC (2147483648 + 9000 * i.toInt) (by omega) (by omega) q1 12 s1 wc _ hT) (cwV 1 hC.2.2.2.2 uLV_RL_18 rfl rfl rfl (by decide +kernel) ⟨Nat.le_of_ble_eq_true rfl, Nat.le_of_ble_eq_true rfl⟩) rfl 0 hfX11 rfl hl.1 rfl (by first | exact Nat.le_of_ble_eq_true rfl | decide) dL_law_245 (Nat.le_of_ble_eq_true rfl) (Nat.le_of_ble_eq_true rfl) (fun r1 uc H locs hp1 hw => ?_)
  refine lv_pop hx hb dL_law_248 rfl ?_
  refine lv_aload_n hx hb dL_law_249 rfl (lv_at hl 1 rfl) ?_
  refine lv_aload_n hx hb dL_law_250 rfl (lv_at hl 3 rfl) ?_
  refine lv_iload_n hx hb dL_law_251 rfl (lv_at hl 0 rfl) ?_
  refine lv_iconst (v := 1) hx hb dL_law_252 (by decide) ?_
  refine lv_iadd hx hb dL_law_253 ?_
  refine va_sld hx hb hX hbl hbA hw.2.2 (lx_ok hi0 hi1 hL (by decide) (by decide)) dL_law_254 ?_
  refine wk_top s1 hs1 ?_
  obtain ⟨fsX12, hfX12, -⟩ := hM.2.1 0 12 kM_at0 (by decide)
  refine lr_call (ci := 12) hC hK hw hA hE hSR (kz_X12_end_1 l adK adV dC dI cy adM (100000 + 9000 * i.toInt) (by omega) (by omega) q2 12 s1 wr _ hM) (cwV 1 hC.2.2.2.2 uLV_RL_22 rfl rfl rfl (by decide +kernel) ⟨Nat.le_of_ble_eq_true rfl, Nat.le_of_ble_eq_true rfl⟩) rfl 0 hfX12 rfl hl.1 rfl (by first | exact Nat.le_of_ble_eq_true rfl | decide) dL_law_255 (Nat.le_of_ble_eq_true rfl) (Nat.le_of_ble_eq_true rfl) (fun r2 ur H locs hp2 hw => ?_)
  obtain ⟨hT1, hF1, hE1, hg1⟩ := hp1
  obtain ⟨hM1, hF2, hE2, hg2⟩ := hp2
  have hR1 : RW ur := RW_FE hF2 (fun _ => rfl) (fun _ => rfl) (fun _ => rfl) hRW
  have hA2 : AIc (sI uc) := AI_FE hAI hF1 rfl
  have hci : gi uc 149 9 = 0 := hF1.gi kC_at149 rfl hLX.2.2.1
  have hf27 : gi ur 0 27 = 1 := hF2.gi kM_at0 rfl hLX.2.2.2.1
  have hf30 : gi ur 0 30 = 0 := hF2.gi kM_at0 rfl hLX.2.2.2.2
  have hRR := RR_C hLX.1 hF1 rfl
  have hRR := RR_M hRR hF2 rfl (fun _ => rfl) (fun _ => rfl) (fun _ => rfl)
  have hXS := XR_C hLX.2.1 hF1 rfl
  have hXS := XR_M hXS hF2 rfl rfl rfl (fun _ => rfl) (fun _ => rfl)
  have hL2 : LX uc ur := ⟨hRR, hXS, hci, hf27, hf30⟩
  have hrx := TR_end hXR hE1 hE2
  have hS1 : SI (sI uc) (sI wr) := SI_C hSI hF1 rfl
  have hS2 : SI (sI uc) (sI ur) := SI_M hS1 hF2 rfl
  have hW2 : WI (sI ur) := WI_M hWI hF2 rfl
  have hLI : LI adC adM cy (i.toInt + 6) uc ur := (LI_go hT1 (by omega) hM1 (by omega) hR1 hrx.2 hS2 hW2 hA2 hL2)
  refine lv_pop hx hb dL_law_258 rfl ?_
  refine lv_goto (tgt := 1252) hx hb dL_law_259 (by decide) ?_
  exact kk H locs uc ur hLI hw
set_option maxHeartbeats 4000000 in
set_option maxRecDepth 100000 in
theorem lc_town {p : Program} {e : Env} {s : State} {m : MethodId} {below : List Frame} {meth : Method} {c : Code} {l : Launch} {b L : Nat} {xs : Nat → Int32} {adK adV : Nat → Nat} {dC : Nat → ClassId} {dI : Nat → Nat → Nat} {cy : Nat → ClassId} {A : Nat → Prop} (hC : CallFix p m c code 4 s #[Value.ref b] wsR RL) (hK : KK dC dI cy s) (hE : SE adK adV A s s.heap) (hSR : SR adK s) (hA : ∀ q : Nat, s.heap.size ≤ q → A q) (hbA : ¬ A b) (hX : va_X b L xs s s.heap) (hbl : b < s.heap.size) (hL : L ≤ 3072) {adC adM : Nat → Nat} {i : Int32} (hi0 : 0 ≤ i.toInt) (hi1 : i.toInt + 6 ≤ L) {wc wr : va_W} {H : Heap} {locs : List Loc} {ls : Array Slot} (hI : LI adC adM cy i.toInt wc wr) (hw : Wd dC dI A s.heap H locs (wc ++ wr)) (hl : lv_has ls 4 [(3, .int i), (2, .ref (adM 0)), (1, .ref (adC 0)), (0, .ref b)]) (kk : ∀ (H : Heap) (locs : List Loc) (wc wr : va_W), LI adC adM cy (i.toInt + 6) wc wr → Wd dC dI A s.heap H locs (wc ++ wr) → W p l e room_1 s m #[Value.ref b] below meth c H locs 184 18569 (lw_Z below #[Value.ref b] s) (F0 m 1252 ls [])) : W p l e room_1 s m #[Value.ref b] below meth c H locs 184 18569 (lw_Z below #[Value.ref b] s) (F0 m 262 ls []) := by
  have hx := hC.1
  have hb := hC.2.1
  obtain ⟨⟨q1, hT⟩, ⟨q2, hM⟩, hRW, hXR, hSI, hWI, hAI, hLX⟩ := hI
  refine lv_aload_n hx hb dL_law_262 rfl (lv_at hl 2 rfl) ?_
  obtain ⟨fsX11, hfX11, -⟩ := hT.2.1 0 11 kC_at0 (by decide)
  refine lr_call (ci := 11) hC hK hw hA hE hSR (kz_X11_town_1 l adK adV dC dI cy adC (2147483648 + 9000 * i.toInt) (by omega) (by omega) q1 12 wc _ hT) (cwV 0 hC.2.2.2.2 uLV_RL_23 rfl rfl rfl (by decide +kernel) ⟨Nat.le_of_ble_eq_true rfl, Nat.le_of_ble_eq_true rfl⟩) rfl 0 hfX11 rfl hl.1 rfl (by first | exact Nat.le_of_ble_eq_true rfl | decide) dL_law_263 (Nat.le_of_ble_eq_true rfl) (Nat.le_of_ble_eq_true rfl) (fun r1 uc H locs hp1 hw => ?_)
  refine lv_pop hx hb dL_law_266 rfl ?_
  refine lv_aload_n hx hb dL_law_267 rfl (lv_at hl 1 rfl) ?_
  obtain ⟨fsX12, hfX12, -⟩ := hM.2.1 0 12 kM_at0 (by decide)
  refine lr_call (ci := 12) hC hK hw hA hE hSR (kz_X12_town_1 l adK adV dC dI cy adM (100000 + 9000 * i.toInt) (by omega) (by omega) q2 12 wr _ hM) (cwV 0 hC.2.2.2.2 uLV_RL_27 rfl rfl rfl (by decide +kernel) ⟨Nat.le_of_ble_eq_true rfl, Nat.le_of_ble_eq_true rfl⟩) rfl 0 hfX12 rfl hl.1 rfl (by first | exact Nat.le_of_ble_eq_true rfl | decide) dL_law_268 (Nat.le_of_ble_eq_true rfl) (Nat.le_of_ble_eq_true rfl) (fun r2 ur H locs hp2 hw => ?_)
  obtain ⟨hT1, hF1, hE1, hg1⟩ := hp1
  obtain ⟨hM1, hF2, hE2, hg2⟩ := hp2
  have hR1 : RW ur := RW_FE hF2 (fun _ => rfl) (fun _ => rfl) (fun _ => rfl) hRW
  have hA2 : AIc (sI uc) := AW_town hXR hT hAI hE1
  have hci : gi uc 149 9 = 0 := hF1.gi kC_at149 rfl hLX.2.2.1
  have hf27 : gi ur 0 27 = 1 := hF2.gi kM_at0 rfl hLX.2.2.2.1
  have hf30 : gi ur 0 30 = 0 := hF2.gi kM_at0 rfl hLX.2.2.2.2
  have hRR := RR_C hLX.1 hF1 rfl
  have hRR := RR_M hRR hF2 rfl (fun _ => rfl) (fun _ => rfl) (fun _ => rfl)
  have hXS := XW_town hXR hLX.2.1 hT hM hF1 rfl hF2 (fun _ => rfl) (fun _ => rfl) (TR_twn hXR hT hM hE1 hE2).2.2 hE2
  have hL2 : LX uc ur := ⟨hRR, hXS, hci, hf27, hf30⟩
  have hq := TR_twn hXR hT hM hE1 hE2
  have hrx : r1 = r2 ∧ TR (sI uc) (sI ur) := ⟨hq.1, hq.2.1⟩
  have hS2 : SI (sI uc) (sI ur) := SI_town hSI (fun k => hF2.sI kM_at21 rfl) (fun k => hF2.sI kM_at22 rfl) hq.2.2
  have hW2 : WI (sI ur) := WI_town hWI (fun k => hF2.sI kM_at21 rfl) (fun k => hF2.sI kM_at22 rfl) hq.2.2
  have hLI : LI adC adM cy (i.toInt + 6) uc ur := (LI_go hT1 (by omega) hM1 (by omega) hR1 hrx.2 hS2 hW2 hA2 hL2)
  refine lv_pop hx hb dL_law_271 rfl ?_
  refine lv_goto (tgt := 1252) hx hb dL_law_272 (by decide) ?_
  exact kk H locs uc ur hLI hw
set_option maxHeartbeats 4000000 in
set_option maxRecDepth 100000 in
theorem lc_rule {p : Program} {e : Env} {s : State} {m : MethodId} {below : List Frame} {meth : Method} {c : Code} {l : Launch} {b L : Nat} {xs : Nat → Int32} {adK adV : Nat → Nat} {dC : Nat → ClassId} {dI : Nat → Nat → Nat} {cy : Nat → ClassId} {A : Nat → Prop} (hC : CallFix p m c code 4 s #[Value.ref b] wsR RL) (hK : KK dC dI cy s) (hE : SE adK adV A s s.heap) (hSR : SR adK s) (hA : ∀ q : Nat, s.heap.size ≤ q → A q) (hbA : ¬ A b) (hX : va_X b L xs s s.heap) (hbl : b < s.heap.size) (hL : L ≤ 3072) {adC adM : Nat → Nat} {i : Int32} (hi0 : 0 ≤ i.toInt) (hi1 : i.toInt + 6 ≤ L) {wc wr : va_W} {H : Heap} {locs : List Loc} {ls : Array Slot} (hI : LI adC adM cy i.toInt wc wr) (hw : Wd dC dI A s.heap H locs (wc ++ wr)) (hl : lv_has ls 4 [(3, .int i), (2, .ref (adM 0)), (1, .ref (adC 0)), (0, .ref b)]) (kk : ∀ (H : Heap) (locs : List Loc) (wc wr : va_W), LI adC adM cy (i.toInt + 6) wc wr → Wd dC dI A s.heap H locs (wc ++ wr) → W p l e room_1 s m #[Value.ref b] below meth c H locs 184 18569 (lw_Z below #[Value.ref b] s) (F0 m 1252 ls [])) : W p l e room_1 s m #[Value.ref b] below meth c H locs 184 18569 (lw_Z below #[Value.ref b] s) (F0 m 275 ls []) := by
  have hx := hC.1
  have hb := hC.2.1
  obtain ⟨⟨q1, hT⟩, ⟨q2, hM⟩, hRW, hXR, hSI, hWI, hAI, hLX⟩ := hI
  refine lv_aload_n hx hb dL_law_275 rfl (lv_at hl 2 rfl) ?_
  obtain ⟨fsX11, hfX11, -⟩ := hT.2.1 0 11 kC_at0 (by decide)
  refine lr_call (ci := 11) hC hK hw hA hE hSR (kz_X11_rule_1 l adK adV dC dI cy adC (2147483648 + 9000 * i.toInt) (by omega) (by omega) q1 12 wc _ hT) (cwV 0 hC.2.2.2.2 uLV_RL_28 rfl rfl rfl (by decide +kernel) ⟨Nat.le_of_ble_eq_true rfl, Nat.le_of_ble_eq_true rfl⟩) rfl 0 hfX11 rfl hl.1 rfl (by first | exact Nat.le_of_ble_eq_true rfl | decide) dL_law_276 (Nat.le_of_ble_eq_true rfl) (Nat.le_of_ble_eq_true rfl) (fun r1 uc H locs hp1 hw => ?_)
  refine lv_pop hx hb dL_law_279 rfl ?_
  refine lv_aload_n hx hb dL_law_280 rfl (lv_at hl 1 rfl) ?_
  obtain ⟨fsX12, hfX12, -⟩ := hM.2.1 0 12 kM_at0 (by decide)
  refine lr_call (ci := 12) hC hK hw hA hE hSR (kz_X12_rule_1 l adK adV dC dI cy adM (100000 + 9000 * i.toInt) (by omega) (by omega) q2 12 wr _ hM hRW) (cwV 0 hC.2.2.2.2 uLV_RL_31 rfl rfl rfl (by decide +kernel) ⟨Nat.le_of_ble_eq_true rfl, Nat.le_of_ble_eq_true rfl⟩) rfl 0 hfX12 rfl hl.1 rfl (by first | exact Nat.le_of_ble_eq_true rfl | decide) dL_law_281 (Nat.le_of_ble_eq_true rfl) (Nat.le_of_ble_eq_true rfl) (fun r2 ur H locs hp2 hw => ?_)
  obtain ⟨⟨q1n, hT1⟩, hF1, hE1, hg1⟩ := hp1
  obtain ⟨hM1, hF2, hE2, hg2⟩ := hp2
  have hR1 : RW ur := by
    rcases hg2 with hq | hq | hq
    · exact hq.2.2.2.2.2.2.2
    · exact hq.2.2.2.2.2.2.2
    · exact hq.2.2
  have hA2 : AIc (sI uc) := AI_FE hAI hF1 rfl
  have hci : gi uc 149 9 = 0 := hF1.gi kC_at149 rfl hLX.2.2.1
  have hf27 : gi ur 0 27 = 1 := hF2.gi kM_at0 rfl hLX.2.2.2.1
  have hf30 : gi ur 0 30 = 0 := hF2.gi kM_at0 rfl hLX.2.2.2.2
  have hRR := RR_rule hXR hLX.1 hT hM hE1 hE2
  have hXS := XR_C hLX.2.1 hF1 rfl
  have hXS := XR_M hXS hF2 rfl rfl rfl (fun _ => rfl) (fun _ => rfl)
  have hL2 : LX uc ur := ⟨hRR, hXS, hci, hf27, hf30⟩
  have hrx := TR_rule hXR hT hM hE1 hE2
  have hS1 : SI (sI uc) (sI wr) := SI_C hSI hF1 rfl
  have hS2 : SI (sI uc) (sI ur) := SI_M hS1 hF2 rfl
  have hW2 : WI (sI ur) := WI_M hWI hF2 rfl
  have hLI : LI adC adM cy (i.toInt + 6) uc ur := (LI_go hT1 (by omega) hM1 (by omega) hR1 hrx.2 hS2 hW2 hA2 hL2)
  refine lv_pop hx hb dL_law_284 rfl ?_
  refine lv_goto (tgt := 1252) hx hb dL_law_285 (by decide) ?_
  exact kk H locs uc ur hLI hw
set_option maxHeartbeats 4000000 in
set_option maxRecDepth 100000 in
theorem lc_street {p : Program} {e : Env} {s : State} {m : MethodId} {below : List Frame} {meth : Method} {c : Code} {l : Launch} {b L : Nat} {xs : Nat → Int32} {adK adV : Nat → Nat} {dC : Nat → ClassId} {dI : Nat → Nat → Nat} {cy : Nat → ClassId} {A : Nat → Prop} (hC : CallFix p m c code 4 s #[Value.ref b] wsR RL) (hK : KK dC dI cy s) (hE : SE adK adV A s s.heap) (hSR : SR adK s) (hA : ∀ q : Nat, s.heap.size ≤ q → A q) (hbA : ¬ A b) (hX : va_X b L xs s s.heap) (hbl : b < s.heap.size) (hL : L ≤ 3072) {adC adM : Nat → Nat} {i : Int32} (hi0 : 0 ≤ i.toInt) (hi1 : i.toInt + 6 ≤ L) {wc wr : va_W} {H : Heap} {locs : List Loc} {ls : Array Slot} (hI : LI adC adM cy i.toInt wc wr) (hw : Wd dC dI A s.heap H locs (wc ++ wr)) (hl : lv_has ls 4 [(3, .int i), (2, .ref (adM 0)), (1, .ref (adC 0)), (0, .ref b)]) (kk : ∀ (H : Heap) (locs : List Loc) (wc wr : va_W), LI adC adM cy (i.toInt + 6) wc wr → Wd dC dI A s.heap H locs (wc ++ wr) → W p l e room_1 s m #[Value.ref b] below meth c H locs 184 18569 (lw_Z below #[Value.ref b] s) (F0 m 1252 ls [])) : W p l e room_1 s m #[Value.ref b] below meth c H locs 184 18569 (lw_Z below #[Value.ref b] s) (F0 m 288 ls []) := by
  have hx := hC.1
  have hb := hC.2.1
  obtain ⟨⟨q1, hT⟩, ⟨q2, hM⟩, hRW, hXR, hSI, hWI, hAI, hLX⟩ := hI
  obtain ⟨s1, hs1⟩ : ∃ y : Int32, xs (i + 1).toNatClampNeg = y := ⟨_, rfl⟩
  obtain ⟨s2, hs2⟩ : ∃ y : Int32, xs (i + 2).toNatClampNeg = y := ⟨_, rfl⟩
  refine lv_aload_n hx hb dL_law_288 rfl (lv_at hl 2 rfl) ?_
  refine lv_aload_n hx hb dL_law_289 rfl (lv_at hl 3 rfl) ?_
  refine lv_iload_n hx hb dL_law_290 rfl (lv_at hl 0 rfl) ?_
  refine lv_iconst (v := 1) hx hb dL_law_291 (by decide) ?_
  refine lv_iadd hx hb dL_law_292 ?_
  refine va_sld hx hb hX hbl hbA hw.2.2 (lx_ok hi0 hi1 hL (by decide) (by decide)) dL_law_293 ?_
  refine wk_top s1 hs1 ?_
  refine lv_aload_n hx hb dL_law_294 rfl (lv_at hl 3 rfl) ?_
  refine lv_iload_n hx hb dL_law_295 rfl (lv_at hl 0 rfl) ?_
  refine lv_iconst (v := 2) hx hb dL_law_296 (by decide) ?_
  refine lv_iadd hx hb dL_law_297 ?_
  refine va_sld hx hb hX hbl hbA hw.2.2 (lx_ok hi0 hi1 hL (by decide) (by decide)) dL_law_298 ?_
  refine wk_top s2 hs2 ?_
  obtain ⟨fsX11, hfX11, -⟩ := hT.2.1 0 11 kC_at0 (by decide)
  refine lr_call (ci := 11) hC hK hw hA hE hSR (kz_X11_street_1 l adK adV dC dI cy adC (2147483648 + 9000 * i.toInt) (by omega) (by omega) q1 12 s1 s2 wc _ hT) (cwV 2 hC.2.2.2.2 uLV_RL_32 rfl rfl rfl (by decide +kernel) ⟨Nat.le_of_ble_eq_true rfl, Nat.le_of_ble_eq_true rfl⟩) rfl 0 hfX11 rfl hl.1 rfl (by first | exact Nat.le_of_ble_eq_true rfl | decide) dL_law_299 (Nat.le_of_ble_eq_true rfl) (Nat.le_of_ble_eq_true rfl) (fun r1 uc H locs hp1 hw => ?_)
  refine lv_pop hx hb dL_law_302 rfl ?_
  refine lv_aload_n hx hb dL_law_303 rfl (lv_at hl 1 rfl) ?_
  refine lv_aload_n hx hb dL_law_304 rfl (lv_at hl 3 rfl) ?_
  refine lv_iload_n hx hb dL_law_305 rfl (lv_at hl 0 rfl) ?_
  refine lv_iconst (v := 1) hx hb dL_law_306 (by decide) ?_
  refine lv_iadd hx hb dL_law_307 ?_
  refine va_sld hx hb hX hbl hbA hw.2.2 (lx_ok hi0 hi1 hL (by decide) (by decide)) dL_law_308 ?_
  refine wk_top s1 hs1 ?_
  refine lv_aload_n hx hb dL_law_309 rfl (lv_at hl 3 rfl) ?_
  refine lv_iload_n hx hb dL_law_310 rfl (lv_at hl 0 rfl) ?_
  refine lv_iconst (v := 2) hx hb dL_law_311 (by decide) ?_
  refine lv_iadd hx hb dL_law_312 ?_
  refine va_sld hx hb hX hbl hbA hw.2.2 (lx_ok hi0 hi1 hL (by decide) (by decide)) dL_law_313 ?_
  refine wk_top s2 hs2 ?_
  obtain ⟨fsX12, hfX12, -⟩ := hM.2.1 0 12 kM_at0 (by decide)
  refine lr_call (ci := 12) hC hK hw hA hE hSR (kz_X12_street_1 l adK adV dC dI cy adM (100000 + 9000 * i.toInt) (by omega) (by omega) q2 12 s1 s2 wr _ hM) (cwV 2 hC.2.2.2.2 uLV_RL_36 rfl rfl rfl (by decide +kernel) ⟨Nat.le_of_ble_eq_true rfl, Nat.le_of_ble_eq_true rfl⟩) rfl 0 hfX12 rfl hl.1 rfl (by first | exact Nat.le_of_ble_eq_true rfl | decide) dL_law_314 (Nat.le_of_ble_eq_true rfl) (Nat.le_of_ble_eq_true rfl) (fun r2 ur H locs hp2 hw => ?_)
  obtain ⟨hT1, hF1, hE1, hg1⟩ := hp1
  obtain ⟨he2, hE2, hg2⟩ := hp2
  have hM1 := hM
  rw [he2] at hM1
  have hR1 := hRW
  rw [he2] at hR1
  have hA2 : AIc (sI uc) := AI_FE hAI hF1 rfl
  have hci : gi uc 149 9 = 0 := hF1.gi kC_at149 rfl hLX.2.2.1
  have hf27 := hLX.2.2.2.1
  have hf30 := hLX.2.2.2.2
  rw [he2] at hf27 hf30
  have hRR := RR_C hLX.1 hF1 rfl
  rw [he2] at hRR
  have hXS := XR_C hLX.2.1 hF1 rfl
  rw [he2] at hXS
  have hL2 : LX uc ur := ⟨hRR, hXS, hci, hf27, hf30⟩
  have hS1 : SI (sI uc) (sI wr) := SI_C hSI hF1 rfl
  have hS2 := hS1
  rw [he2] at hS2
  have hW2 := hWI
  rw [he2] at hW2
  have hX1 : TR (sI uc) (sI wr) := TR_C hXR hF1 rfl (fun _ => rfl) rfl
  have hX2 := hX1
  rw [he2] at hX2
  have hLI : LI adC adM cy (i.toInt + 6) uc ur := (LI_go hT1 (by omega) hM1 (by omega) hR1 hX2 hS2 hW2 hA2 hL2)
  refine lv_pop hx hb dL_law_317 rfl ?_
  refine lv_goto (tgt := 1252) hx hb dL_law_318 (by decide) ?_
  exact kk H locs uc ur hLI hw
set_option maxHeartbeats 4000000 in
set_option maxRecDepth 100000 in
theorem lc_open {p : Program} {e : Env} {s : State} {m : MethodId} {below : List Frame} {meth : Method} {c : Code} {l : Launch} {b L : Nat} {xs : Nat → Int32} {adK adV : Nat → Nat} {dC : Nat → ClassId} {dI : Nat → Nat → Nat} {cy : Nat → ClassId} {A : Nat → Prop} (hC : CallFix p m c code 4 s #[Value.ref b] wsR RL) (hK : KK dC dI cy s) (hE : SE adK adV A s s.heap) (hSR : SR adK s) (hA : ∀ q : Nat, s.heap.size ≤ q → A q) (hbA : ¬ A b) (hX : va_X b L xs s s.heap) (hbl : b < s.heap.size) (hL : L ≤ 3072) {adC adM : Nat → Nat} {i : Int32} (hi0 : 0 ≤ i.toInt) (hi1 : i.toInt + 6 ≤ L) {wc wr : va_W} {H : Heap} {locs : List Loc} {ls : Array Slot} (hI : LI adC adM cy i.toInt wc wr) (hw : Wd dC dI A s.heap H locs (wc ++ wr)) (hl : lv_has ls 4 [(3, .int i), (2, .ref (adM 0)), (1, .ref (adC 0)), (0, .ref b)]) (kk : ∀ (H : Heap) (locs : List Loc) (wc wr : va_W), LI adC adM cy (i.toInt + 6) wc wr → Wd dC dI A s.heap H locs (wc ++ wr) → W p l e room_1 s m #[Value.ref b] below meth c H locs 184 18569 (lw_Z below #[Value.ref b] s) (F0 m 1252 ls [])) : W p l e room_1 s m #[Value.ref b] below meth c H locs 184 18569 (lw_Z below #[Value.ref b] s) (F0 m 321 ls []) := by
  have hx := hC.1
  have hb := hC.2.1
  obtain ⟨⟨q1, hT⟩, ⟨q2, hM⟩, hRW, hXR, hSI, hWI, hAI, hLX⟩ := hI
  obtain ⟨s1, hs1⟩ : ∃ y : Int32, xs (i + 1).toNatClampNeg = y := ⟨_, rfl⟩
  obtain ⟨s2, hs2⟩ : ∃ y : Int32, xs (i + 2).toNatClampNeg = y := ⟨_, rfl⟩
  obtain ⟨s3, hs3⟩ : ∃ y : Int32, xs (i + 3).toNatClampNeg = y := ⟨_, rfl⟩
  refine lv_aload_n hx hb dL_law_321 rfl (lv_at hl 2 rfl) ?_
  refine lv_aload_n hx hb dL_law_322 rfl (lv_at hl 3 rfl) ?_
  refine lv_iload_n hx hb dL_law_323 rfl (lv_at hl 0 rfl) ?_
  refine lv_iconst (v := 1) hx hb dL_law_324 (by decide) ?_
  refine lv_iadd hx hb dL_law_325 ?_
  refine va_sld hx hb hX hbl hbA hw.2.2 (lx_ok hi0 hi1 hL (by decide) (by decide)) dL_law_326 ?_
  refine wk_top s1 hs1 ?_
  refine lv_aload_n hx hb dL_law_327 rfl (lv_at hl 3 rfl) ?_
  refine lv_iload_n hx hb dL_law_328 rfl (lv_at hl 0 rfl) ?_
  refine lv_iconst (v := 2) hx hb dL_law_329 (by decide) ?_
  refine lv_iadd hx hb dL_law_330 ?_
  refine va_sld hx hb hX hbl hbA hw.2.2 (lx_ok hi0 hi1 hL (by decide) (by decide)) dL_law_331 ?_
  refine wk_top s2 hs2 ?_
  refine lv_aload_n hx hb dL_law_332 rfl (lv_at hl 3 rfl) ?_
  refine lv_iload_n hx hb dL_law_333 rfl (lv_at hl 0 rfl) ?_
  refine lv_iconst (v := 3) hx hb dL_law_334 (by decide) ?_
  refine lv_iadd hx hb dL_law_335 ?_
  refine va_sld hx hb hX hbl hbA hw.2.2 (lx_ok hi0 hi1 hL (by decide) (by decide)) dL_law_336 ?_
  refine wk_top s3 hs3 ?_
  obtain ⟨fsX11, hfX11, -⟩ := hT.2.1 0 11 kC_at0 (by decide)
  refine lr_call (ci := 11) hC hK hw hA hE hSR (k_X11_open_1 l adK adV dC dI cy adC (2147483648 + 9000 * i.toInt) (by omega) (by omega) q1 12 s1 s2 s3 wc _ hT) (cwV 3 hC.2.2.2.2 uLV_RL_37 rfl rfl rfl (by decide +kernel) ⟨Nat.le_of_ble_eq_true rfl, Nat.le_of_ble_eq_true rfl⟩) rfl 0 hfX11 rfl hl.1 rfl (by first | exact Nat.le_of_ble_eq_true rfl | decide) dL_law_337 (Nat.le_of_ble_eq_true rfl) (Nat.le_of_ble_eq_true rfl) (fun r1 uc H locs hp1 hw => ?_)
  refine lv_pop hx hb dL_law_340 rfl ?_
  refine lv_aload_n hx hb dL_law_341 rfl (lv_at hl 1 rfl) ?_
  refine lv_aload_n hx hb dL_law_342 rfl (lv_at hl 3 rfl) ?_
  refine lv_iload_n hx hb dL_law_343 rfl (lv_at hl 0 rfl) ?_
  refine lv_iconst (v := 1) hx hb dL_law_344 (by decide) ?_
  refine lv_iadd hx hb dL_law_345 ?_
  refine va_sld hx hb hX hbl hbA hw.2.2 (lx_ok hi0 hi1 hL (by decide) (by decide)) dL_law_346 ?_
  refine wk_top s1 hs1 ?_
  refine lv_aload_n hx hb dL_law_347 rfl (lv_at hl 3 rfl) ?_
  refine lv_iload_n hx hb dL_law_348 rfl (lv_at hl 0 rfl) ?_
  refine lv_iconst (v := 2) hx hb dL_law_349 (by decide) ?_
  refine lv_iadd hx hb dL_law_350 ?_
  refine va_sld hx hb hX hbl hbA hw.2.2 (lx_ok hi0 hi1 hL (by decide) (by decide)) dL_law_351 ?_
  refine wk_top s2 hs2 ?_
  refine lv_aload_n hx hb dL_law_352 rfl (lv_at hl 3 rfl) ?_
  refine lv_iload_n hx hb dL_law_353 rfl (lv_at hl 0 rfl) ?_
  refine lv_iconst (v := 3) hx hb dL_law_354 (by decide) ?_
  refine lv_iadd hx hb dL_law_355 ?_
  refine va_sld hx hb hX hbl hbA hw.2.2 (lx_ok hi0 hi1 hL (by decide) (by decide)) dL_law_356 ?_
  refine wk_top s3 hs3 ?_
  obtain ⟨fsX12, hfX12, -⟩ := hM.2.1 0 12 kM_at0 (by decide)
  refine lr_call (ci := 12) hC hK hw hA hE hSR (k_X12_open_1 l adK adV dC dI cy adM (100000 + 9000 * i.toInt) (by omega) (by omega) q2 12 s1 s2 s3 wr _ hM) (cwV 3 hC.2.2.2.2 uLV_RL_41 rfl rfl rfl (by decide +kernel) ⟨Nat.le_of_ble_eq_true rfl, Nat.le_of_ble_eq_true rfl⟩) rfl 0 hfX12 rfl hl.1 rfl (by first | exact Nat.le_of_ble_eq_true rfl | decide) dL_law_357 (Nat.le_of_ble_eq_true rfl) (Nat.le_of_ble_eq_true rfl) (fun r2 ur H locs hp2 hw => ?_)
  obtain ⟨hT1, hF1, hg1⟩ := hp1
  obtain ⟨he2, hg2⟩ := hp2
  have hM1 := hM
  rw [he2] at hM1
  have hR1 := hRW
  rw [he2] at hR1
  have hA2 : AIc (sI uc) := AI_FE hAI hF1 rfl
  have hci : gi uc 149 9 = 0 := hF1.gi kC_at149 rfl hLX.2.2.1
  have hf27 := hLX.2.2.2.1
  have hf30 := hLX.2.2.2.2
  rw [he2] at hf27 hf30
  have hRR := RR_C hLX.1 hF1 rfl
  rw [he2] at hRR
  have hXS := XR_C hLX.2.1 hF1 rfl
  rw [he2] at hXS
  have hL2 : LX uc ur := ⟨hRR, hXS, hci, hf27, hf30⟩
  have hS1 : SI (sI uc) (sI wr) := SI_C hSI hF1 rfl
  have hS2 := hS1
  rw [he2] at hS2
  have hW2 := hWI
  rw [he2] at hW2
  have hX1 : TR (sI uc) (sI wr) := TR_C hXR hF1 rfl (fun _ => rfl) rfl
  have hX2 := hX1
  rw [he2] at hX2
  have hLI : LI adC adM cy (i.toInt + 6) uc ur := (LI_go hT1 (by omega) hM1 (by omega) hR1 hX2 hS2 hW2 hA2 hL2)
  refine lv_pop hx hb dL_law_360 rfl ?_
  refine lv_goto (tgt := 1252) hx hb dL_law_361 (by decide) ?_
  exact kk H locs uc ur hLI hw
set_option maxHeartbeats 4000000 in
set_option maxRecDepth 100000 in
theorem lc_print {p : Program} {e : Env} {s : State} {m : MethodId} {below : List Frame} {meth : Method} {c : Code} {l : Launch} {b L : Nat} {xs : Nat → Int32} {adK adV : Nat → Nat} {dC : Nat → ClassId} {dI : Nat → Nat → Nat} {cy : Nat → ClassId} {A : Nat → Prop} (hC : CallFix p m c code 4 s #[Value.ref b] wsR RL) (hK : KK dC dI cy s) (hE : SE adK adV A s s.heap) (hSR : SR adK s) (hA : ∀ q : Nat, s.heap.size ≤ q → A q) (hbA : ¬ A b) (hX : va_X b L xs s s.heap) (hbl : b < s.heap.size) (hL : L ≤ 3072) {adC adM : Nat → Nat} {i : Int32} (hi0 : 0 ≤ i.toInt) (hi1 : i.toInt + 6 ≤ L) {wc wr : va_W} {H : Heap} {locs : List Loc} {ls : Array Slot} (hI : LI adC adM cy i.toInt wc wr) (hw : Wd dC dI A s.heap H locs (wc ++ wr)) (hl : lv_has ls 4 [(3, .int i), (2, .ref (adM 0)), (1, .ref (adC 0)), (0, .ref b)]) (kk : ∀ (H : Heap) (locs : List Loc) (wc wr : va_W), LI adC adM cy (i.toInt + 6) wc wr → Wd dC dI A s.heap H locs (wc ++ wr) → W p l e room_1 s m #[Value.ref b] below meth c H locs 184 18569 (lw_Z below #[Value.ref b] s) (F0 m 1252 ls [])) : W p l e room_1 s m #[Value.ref b] below meth c H locs 184 18569 (lw_Z below #[Value.ref b] s) (F0 m 364 ls []) := by
  have hx := hC.1
  have hb := hC.2.1
  obtain ⟨⟨q1, hT⟩, ⟨q2, hM⟩, hRW, hXR, hSI, hWI, hAI, hLX⟩ := hI
  obtain ⟨s1, hs1⟩ : ∃ y : Int32, xs (i + 1).toNatClampNeg = y := ⟨_, rfl⟩
  refine lv_aload_n hx hb dL_law_364 rfl (lv_at hl 2 rfl) ?_
  refine lv_aload_n hx hb dL_law_365 rfl (lv_at hl 3 rfl) ?_
  refine lv_iload_n hx hb dL_law_366 rfl (lv_at hl 0 rfl) ?_
  refine lv_iconst (v := 1) hx hb dL_law_367 (by decide) ?_
  refine lv_iadd hx hb dL_law_368 ?_
  refine va_sld hx hb hX hbl hbA hw.2.2 (lx_ok hi0 hi1 hL (by decide) (by decide)) dL_law_369 ?_
  refine wk_top s1 hs1 ?_
  obtain ⟨fsX11, hfX11, -⟩ := hT.2.1 0 11 kC_at0 (by decide)
  refine lr_call (ci := 11) hC hK hw hA hE hSR (kz_X11_print_1 l adK adV dC dI cy adC (2147483648 + 9000 * i.toInt) (by omega) (by omega) q1 12 s1 wc _ hT) (cwV 1 hC.2.2.2.2 uLV_RL_42 rfl rfl rfl (by decide +kernel) ⟨Nat.le_of_ble_eq_true rfl, Nat.le_of_ble_eq_true rfl⟩) rfl 0 hfX11 rfl hl.1 rfl (by first | exact Nat.le_of_ble_eq_true rfl | decide) dL_law_370 (Nat.le_of_ble_eq_true rfl) (Nat.le_of_ble_eq_true rfl) (fun r1 uc H locs hp1 hw => ?_)
  refine lv_pop hx hb dL_law_373 rfl ?_
  refine lv_aload_n hx hb dL_law_374 rfl (lv_at hl 1 rfl) ?_
  refine lv_aload_n hx hb dL_law_375 rfl (lv_at hl 3 rfl) ?_
  refine lv_iload_n hx hb dL_law_376 rfl (lv_at hl 0 rfl) ?_
  refine lv_iconst (v := 1) hx hb dL_law_377 (by decide) ?_
  refine lv_iadd hx hb dL_law_378 ?_
  refine va_sld hx hb hX hbl hbA hw.2.2 (lx_ok hi0 hi1 hL (by decide) (by decide)) dL_law_379 ?_
  refine wk_top s1 hs1 ?_
  obtain ⟨fsX12, hfX12, -⟩ := hM.2.1 0 12 kM_at0 (by decide)
  refine lr_call (ci := 12) hC hK hw hA hE hSR (kz_X12_print_1 l adK adV dC dI cy adM (100000 + 9000 * i.toInt) (by omega) (by omega) q2 12 s1 wr _ hM) (cwV 1 hC.2.2.2.2 uLV_RL_45 rfl rfl rfl (by decide +kernel) ⟨Nat.le_of_ble_eq_true rfl, Nat.le_of_ble_eq_true rfl⟩) rfl 0 hfX12 rfl hl.1 rfl (by first | exact Nat.le_of_ble_eq_true rfl | decide) dL_law_380 (Nat.le_of_ble_eq_true rfl) (Nat.le_of_ble_eq_true rfl) (fun r2 ur H locs hp2 hw => ?_)
  obtain ⟨hT1, hF1, hE1, hg1⟩ := hp1
  obtain ⟨hM1, hF2, hE2, hg2⟩ := hp2
  have hR1 : RW ur := RW_FE hF2 (fun _ => rfl) (fun _ => rfl) (fun _ => rfl) hRW
  have hA2 : AIc (sI uc) := AW_print hSI hAI hE1
  have hci : gi uc 149 9 = 0 := hF1.gi kC_at149 rfl hLX.2.2.1
  have hf27 : gi ur 0 27 = 1 := hF2.gi kM_at0 rfl hLX.2.2.2.1
  have hf30 : gi ur 0 30 = 0 := hF2.gi kM_at0 rfl hLX.2.2.2.2
  have hRR := RR_C hLX.1 hF1 rfl
  have hRR := RR_M hRR hF2 rfl (fun _ => rfl) (fun _ => rfl) (fun _ => rfl)
  have hXS := XW_print hWI hLX.2.1 hF1 rfl hF2 rfl rfl (fun _ => rfl) (fun _ => rfl) hE2
  have hL2 : LX uc ur := ⟨hRR, hXS, hci, hf27, hf30⟩
  have hrx := SI_print hSI hE1 hE2
  have hS2 := hrx.2
  have hW2 := EW_print hWI hE2
  have hX1 : TR (sI uc) (sI wr) := TR_C hXR hF1 rfl (fun _ => rfl) rfl
  have hX2 : TR (sI uc) (sI ur) := TR_M hX1 hF2 rfl (fun _ => rfl) rfl
  have hLI : LI adC adM cy (i.toInt + 6) uc ur := (LI_go hT1 (by omega) hM1 (by omega) hR1 hX2 hS2 hW2 hA2 hL2)
  refine lv_pop hx hb dL_law_383 rfl ?_
  refine lv_goto (tgt := 1252) hx hb dL_law_384 (by decide) ?_
  exact kk H locs uc ur hLI hw
set_option maxHeartbeats 4000000 in
set_option maxRecDepth 100000 in
theorem lc_misprint {p : Program} {e : Env} {s : State} {m : MethodId} {below : List Frame} {meth : Method} {c : Code} {l : Launch} {b L : Nat} {xs : Nat → Int32} {adK adV : Nat → Nat} {dC : Nat → ClassId} {dI : Nat → Nat → Nat} {cy : Nat → ClassId} {A : Nat → Prop} (hC : CallFix p m c code 4 s #[Value.ref b] wsR RL) (hK : KK dC dI cy s) (hE : SE adK adV A s s.heap) (hSR : SR adK s) (hA : ∀ q : Nat, s.heap.size ≤ q → A q) (hbA : ¬ A b) (hX : va_X b L xs s s.heap) (hbl : b < s.heap.size) (hL : L ≤ 3072) {adC adM : Nat → Nat} {i : Int32} (hi0 : 0 ≤ i.toInt) (hi1 : i.toInt + 6 ≤ L) {wc wr : va_W} {H : Heap} {locs : List Loc} {ls : Array Slot} (hI : LI adC adM cy i.toInt wc wr) (hw : Wd dC dI A s.heap H locs (wc ++ wr)) (hl : lv_has ls 4 [(3, .int i), (2, .ref (adM 0)), (1, .ref (adC 0)), (0, .ref b)]) (kk : ∀ (H : Heap) (locs : List Loc) (wc wr : va_W), LI adC adM cy (i.toInt + 6) wc wr → Wd dC dI A s.heap H locs (wc ++ wr) → W p l e room_1 s m #[Value.ref b] below meth c H locs 184 18569 (lw_Z below #[Value.ref b] s) (F0 m 1252 ls [])) : W p l e room_1 s m #[Value.ref b] below meth c H locs 184 18569 (lw_Z below #[Value.ref b] s) (F0 m 387 ls []) := by
  have hx := hC.1
  have hb := hC.2.1
  obtain ⟨⟨q1, hT⟩, ⟨q2, hM⟩, hRW, hXR, hSI, hWI, hAI, hLX⟩ := hI
  obtain ⟨s1, hs1⟩ : ∃ y : Int32, xs (i + 1).toNatClampNeg = y := ⟨_, rfl⟩
  obtain ⟨s2, hs2⟩ : ∃ y : Int32, xs (i + 2).toNatClampNeg = y := ⟨_, rfl⟩
  obtain ⟨s3, hs3⟩ : ∃ y : Int32, xs (i + 3).toNatClampNeg = y := ⟨_, rfl⟩
  refine lv_aload_n hx hb dL_law_387 rfl (lv_at hl 2 rfl) ?_
  refine lv_aload_n hx hb dL_law_388 rfl (lv_at hl 3 rfl) ?_
  refine lv_iload_n hx hb dL_law_389 rfl (lv_at hl 0 rfl) ?_
  refine lv_iconst (v := 1) hx hb dL_law_390 (by decide) ?_
  refine lv_iadd hx hb dL_law_391 ?_
  refine va_sld hx hb hX hbl hbA hw.2.2 (lx_ok hi0 hi1 hL (by decide) (by decide)) dL_law_392 ?_
  refine wk_top s1 hs1 ?_
  refine lv_aload_n hx hb dL_law_393 rfl (lv_at hl 3 rfl) ?_
  refine lv_iload_n hx hb dL_law_394 rfl (lv_at hl 0 rfl) ?_
  refine lv_iconst (v := 2) hx hb dL_law_395 (by decide) ?_
  refine lv_iadd hx hb dL_law_396 ?_
  refine va_sld hx hb hX hbl hbA hw.2.2 (lx_ok hi0 hi1 hL (by decide) (by decide)) dL_law_397 ?_
  refine wk_top s2 hs2 ?_
  refine lv_aload_n hx hb dL_law_398 rfl (lv_at hl 3 rfl) ?_
  refine lv_iload_n hx hb dL_law_399 rfl (lv_at hl 0 rfl) ?_
  refine lv_iconst (v := 3) hx hb dL_law_400 (by decide) ?_
  refine lv_iadd hx hb dL_law_401 ?_
  refine va_sld hx hb hX hbl hbA hw.2.2 (lx_ok hi0 hi1 hL (by decide) (by decide)) dL_law_402 ?_
  refine wk_top s3 hs3 ?_
  obtain ⟨fsX11, hfX11, -⟩ := hT.2.1 0 11 kC_at0 (by decide)
  refine lr_call (ci := 11) hC hK hw hA hE hSR (kz_X11_misprint_1 l adK adV dC dI cy adC (2147483648 + 9000 * i.toInt) (by omega) (by omega) q1 12 s1 s2 s3 wc _ hT) (cwV 3 hC.2.2.2.2 uLV_RL_46 rfl rfl rfl (by decide +kernel) ⟨Nat.le_of_ble_eq_true rfl, Nat.le_of_ble_eq_true rfl⟩) rfl 0 hfX11 rfl hl.1 rfl (by first | exact Nat.le_of_ble_eq_true rfl | decide) dL_law_403 (Nat.le_of_ble_eq_true rfl) (Nat.le_of_ble_eq_true rfl) (fun r1 uc H locs hp1 hw => ?_)
  refine lv_pop hx hb dL_law_406 rfl ?_
  refine lv_aload_n hx hb dL_law_407 rfl (lv_at hl 1 rfl) ?_
  refine lv_aload_n hx hb dL_law_408 rfl (lv_at hl 3 rfl) ?_
  refine lv_iload_n hx hb dL_law_409 rfl (lv_at hl 0 rfl) ?_
  refine lv_iconst (v := 1) hx hb dL_law_410 (by decide) ?_
  refine lv_iadd hx hb dL_law_411 ?_
  refine va_sld hx hb hX hbl hbA hw.2.2 (lx_ok hi0 hi1 hL (by decide) (by decide)) dL_law_412 ?_
  refine wk_top s1 hs1 ?_
  refine lv_aload_n hx hb dL_law_413 rfl (lv_at hl 3 rfl) ?_
  refine lv_iload_n hx hb dL_law_414 rfl (lv_at hl 0 rfl) ?_
  refine lv_iconst (v := 2) hx hb dL_law_415 (by decide) ?_
  refine lv_iadd hx hb dL_law_416 ?_
  refine va_sld hx hb hX hbl hbA hw.2.2 (lx_ok hi0 hi1 hL (by decide) (by decide)) dL_law_417 ?_
  refine wk_top s2 hs2 ?_
  refine lv_aload_n hx hb dL_law_418 rfl (lv_at hl 3 rfl) ?_
  refine lv_iload_n hx hb dL_law_419 rfl (lv_at hl 0 rfl) ?_
  refine lv_iconst (v := 3) hx hb dL_law_420 (by decide) ?_
  refine lv_iadd hx hb dL_law_421 ?_
  refine va_sld hx hb hX hbl hbA hw.2.2 (lx_ok hi0 hi1 hL (by decide) (by decide)) dL_law_422 ?_
  refine wk_top s3 hs3 ?_
  obtain ⟨fsX12, hfX12, -⟩ := hM.2.1 0 12 kM_at0 (by decide)
  refine lr_call (ci := 12) hC hK hw hA hE hSR (kz_X12_misprint_1 l adK adV dC dI cy adM (100000 + 9000 * i.toInt) (by omega) (by omega) q2 12 s1 s2 s3 wr _ hM) (cwV 3 hC.2.2.2.2 uLV_RL_49 rfl rfl rfl (by decide +kernel) ⟨Nat.le_of_ble_eq_true rfl, Nat.le_of_ble_eq_true rfl⟩) rfl 0 hfX12 rfl hl.1 rfl (by first | exact Nat.le_of_ble_eq_true rfl | decide) dL_law_423 (Nat.le_of_ble_eq_true rfl) (Nat.le_of_ble_eq_true rfl) (fun r2 ur H locs hp2 hw => ?_)
  obtain ⟨hT1, hF1, hE1, hg1⟩ := hp1
  obtain ⟨hM1, hF2, hE2, hg2⟩ := hp2
  have hR1 : RW ur := RW_FE hF2 (fun _ => rfl) (fun _ => rfl) (fun _ => rfl) hRW
  have hA2 : AIc (sI uc) := AW_misprint hSI hAI hE1
  have hci : gi uc 149 9 = 0 := hF1.gi kC_at149 rfl hLX.2.2.1
  have hf27 : gi ur 0 27 = 1 := hF2.gi kM_at0 rfl hLX.2.2.2.1
  have hf30 : gi ur 0 30 = 0 := hF2.gi kM_at0 rfl hLX.2.2.2.2
  have hRR := RR_C hLX.1 hF1 rfl
  have hRR := RR_M hRR hF2 rfl (fun _ => rfl) (fun _ => rfl) (fun _ => rfl)
  have hXS := XR_C hLX.2.1 hF1 rfl
  have hXS := XR_M hXS hF2 rfl rfl rfl (fun _ => rfl) (fun _ => rfl)
  have hL2 : LX uc ur := ⟨hRR, hXS, hci, hf27, hf30⟩
  have hrx := SI_misprint hSI hE1 hE2
  have hS2 := hrx.2
  have hW2 := EW_misprint hWI hE2
  have hX1 : TR (sI uc) (sI wr) := TR_C hXR hF1 rfl (fun _ => rfl) rfl
  have hX2 : TR (sI uc) (sI ur) := TR_M hX1 hF2 rfl (fun _ => rfl) rfl
  have hLI : LI adC adM cy (i.toInt + 6) uc ur := (LI_go hT1 (by omega) hM1 (by omega) hR1 hX2 hS2 hW2 hA2 hL2)
  refine lv_pop hx hb dL_law_426 rfl ?_
  refine lv_goto (tgt := 1252) hx hb dL_law_427 (by decide) ?_
  exact kk H locs uc ur hLI hw
set_option maxHeartbeats 4000000 in
set_option maxRecDepth 100000 in
theorem lc_shown {p : Program} {e : Env} {s : State} {m : MethodId} {below : List Frame} {meth : Method} {c : Code} {l : Launch} {b L : Nat} {xs : Nat → Int32} {adK adV : Nat → Nat} {dC : Nat → ClassId} {dI : Nat → Nat → Nat} {cy : Nat → ClassId} {A : Nat → Prop} (hC : CallFix p m c code 4 s #[Value.ref b] wsR RL) (hK : KK dC dI cy s) (hE : SE adK adV A s s.heap) (hSR : SR adK s) (hA : ∀ q : Nat, s.heap.size ≤ q → A q) (hbA : ¬ A b) (hX : va_X b L xs s s.heap) (hbl : b < s.heap.size) (hL : L ≤ 3072) {adC adM : Nat → Nat} {i : Int32} (hi0 : 0 ≤ i.toInt) (hi1 : i.toInt + 6 ≤ L) {wc wr : va_W} {H : Heap} {locs : List Loc} {ls : Array Slot} (hI : LI adC adM cy i.toInt wc wr) (hw : Wd dC dI A s.heap H locs (wc ++ wr)) (hl : lv_has ls 4 [(3, .int i), (2, .ref (adM 0)), (1, .ref (adC 0)), (0, .ref b)]) (kk : ∀ (H : Heap) (locs : List Loc) (wc wr : va_W), LI adC adM cy (i.toInt + 6) wc wr → Wd dC dI A s.heap H locs (wc ++ wr) → W p l e room_1 s m #[Value.ref b] below meth c H locs 184 18569 (lw_Z below #[Value.ref b] s) (F0 m 1252 ls [])) : W p l e room_1 s m #[Value.ref b] below meth c H locs 184 18569 (lw_Z below #[Value.ref b] s) (F0 m 430 ls []) := by
  have hx := hC.1
  have hb := hC.2.1
  obtain ⟨⟨q1, hT⟩, ⟨q2, hM⟩, hRW, hXR, hSI, hWI, hAI, hLX⟩ := hI
  obtain ⟨s1, hs1⟩ : ∃ y : Int32, xs (i + 1).toNatClampNeg = y := ⟨_, rfl⟩
  obtain ⟨s2, hs2⟩ : ∃ y : Int32, xs (i + 2).toNatClampNeg = y := ⟨_, rfl⟩
  refine lv_aload_n hx hb dL_law_430 rfl (lv_at hl 2 rfl) ?_
  refine lv_aload_n hx hb dL_law_431 rfl (lv_at hl 3 rfl) ?_
  refine lv_iload_n hx hb dL_law_432 rfl (lv_at hl 0 rfl) ?_
  refine lv_iconst (v := 1) hx hb dL_law_433 (by decide) ?_
  refine lv_iadd hx hb dL_law_434 ?_
  refine va_sld hx hb hX hbl hbA hw.2.2 (lx_ok hi0 hi1 hL (by decide) (by decide)) dL_law_435 ?_
  refine wk_top s1 hs1 ?_
  refine lv_aload_n hx hb dL_law_436 rfl (lv_at hl 3 rfl) ?_
  refine lv_iload_n hx hb dL_law_437 rfl (lv_at hl 0 rfl) ?_
  refine lv_iconst (v := 2) hx hb dL_law_438 (by decide) ?_
  refine lv_iadd hx hb dL_law_439 ?_
  refine va_sld hx hb hX hbl hbA hw.2.2 (lx_ok hi0 hi1 hL (by decide) (by decide)) dL_law_440 ?_
  refine wk_top s2 hs2 ?_
  obtain ⟨fsX11, hfX11, -⟩ := hT.2.1 0 11 kC_at0 (by decide)
  refine lr_call (ci := 11) hC hK hw hA hE hSR (kz_X11_shown_1 l adK adV dC dI cy adC (2147483648 + 9000 * i.toInt) (by omega) (by omega) q1 12 s1 s2 wc _ hT) (cwV 2 hC.2.2.2.2 uLV_RL_50 rfl rfl rfl (by decide +kernel) ⟨Nat.le_of_ble_eq_true rfl, Nat.le_of_ble_eq_true rfl⟩) rfl 0 hfX11 rfl hl.1 rfl (by first | exact Nat.le_of_ble_eq_true rfl | decide) dL_law_441 (Nat.le_of_ble_eq_true rfl) (Nat.le_of_ble_eq_true rfl) (fun r1 uc H locs hp1 hw => ?_)
  refine lv_pop hx hb dL_law_444 rfl ?_
  refine lv_aload_n hx hb dL_law_445 rfl (lv_at hl 1 rfl) ?_
  refine lv_aload_n hx hb dL_law_446 rfl (lv_at hl 3 rfl) ?_
  refine lv_iload_n hx hb dL_law_447 rfl (lv_at hl 0 rfl) ?_
  refine lv_iconst (v := 1) hx hb dL_law_448 (by decide) ?_
  refine lv_iadd hx hb dL_law_449 ?_
  refine va_sld hx hb hX hbl hbA hw.2.2 (lx_ok hi0 hi1 hL (by decide) (by decide)) dL_law_450 ?_
  refine wk_top s1 hs1 ?_
  refine lv_aload_n hx hb dL_law_451 rfl (lv_at hl 3 rfl) ?_
  refine lv_iload_n hx hb dL_law_452 rfl (lv_at hl 0 rfl) ?_
  refine lv_iconst (v := 2) hx hb dL_law_453 (by decide) ?_
  refine lv_iadd hx hb dL_law_454 ?_
  refine va_sld hx hb hX hbl hbA hw.2.2 (lx_ok hi0 hi1 hL (by decide) (by decide)) dL_law_455 ?_
  refine wk_top s2 hs2 ?_
  obtain ⟨fsX12, hfX12, -⟩ := hM.2.1 0 12 kM_at0 (by decide)
  refine lr_call (ci := 12) hC hK hw hA hE hSR (kz_X12_shown_1 l adK adV dC dI cy adM (100000 + 9000 * i.toInt) (by omega) (by omega) q2 12 s1 s2 wr _ hM) (cwV 2 hC.2.2.2.2 uLV_RL_53 rfl rfl rfl (by decide +kernel) ⟨Nat.le_of_ble_eq_true rfl, Nat.le_of_ble_eq_true rfl⟩) rfl 0 hfX12 rfl hl.1 rfl (by first | exact Nat.le_of_ble_eq_true rfl | decide) dL_law_456 (Nat.le_of_ble_eq_true rfl) (Nat.le_of_ble_eq_true rfl) (fun r2 ur H locs hp2 hw => ?_)
  obtain ⟨hT1, hF1, hE1, hg1⟩ := hp1
  obtain ⟨he2, hE2, hg2⟩ := hp2
  have hM1 := hM
  rw [he2] at hM1
  have hR1 := hRW
  rw [he2] at hR1
  have hA2 : AIc (sI uc) := AI_FE hAI hF1 rfl
  have hci : gi uc 149 9 = 0 := hF1.gi kC_at149 rfl hLX.2.2.1
  have hf27 := hLX.2.2.2.1
  have hf30 := hLX.2.2.2.2
  rw [he2] at hf27 hf30
  have hRR := RR_C hLX.1 hF1 rfl
  rw [he2] at hRR
  have hXS := XR_C hLX.2.1 hF1 rfl
  rw [he2] at hXS
  have hL2 : LX uc ur := ⟨hRR, hXS, hci, hf27, hf30⟩
  have hS1 : SI (sI uc) (sI wr) := SI_C hSI hF1 rfl
  have hS2 := hS1
  rw [he2] at hS2
  have hW2 := hWI
  rw [he2] at hW2
  have hX1 : TR (sI uc) (sI wr) := TR_C hXR hF1 rfl (fun _ => rfl) rfl
  have hX2 := hX1
  rw [he2] at hX2
  have hLI : LI adC adM cy (i.toInt + 6) uc ur := (LI_go hT1 (by omega) hM1 (by omega) hR1 hX2 hS2 hW2 hA2 hL2)
  refine lv_pop hx hb dL_law_459 rfl ?_
  refine lv_goto (tgt := 1252) hx hb dL_law_460 (by decide) ?_
  exact kk H locs uc ur hLI hw
set_option maxHeartbeats 4000000 in
set_option maxRecDepth 100000 in
theorem lc_by {p : Program} {e : Env} {s : State} {m : MethodId} {below : List Frame} {meth : Method} {c : Code} {l : Launch} {b L : Nat} {xs : Nat → Int32} {adK adV : Nat → Nat} {dC : Nat → ClassId} {dI : Nat → Nat → Nat} {cy : Nat → ClassId} {A : Nat → Prop} (hC : CallFix p m c code 4 s #[Value.ref b] wsR RL) (hK : KK dC dI cy s) (hE : SE adK adV A s s.heap) (hSR : SR adK s) (hA : ∀ q : Nat, s.heap.size ≤ q → A q) (hbA : ¬ A b) (hX : va_X b L xs s s.heap) (hbl : b < s.heap.size) (hL : L ≤ 3072) {adC adM : Nat → Nat} {i : Int32} (hi0 : 0 ≤ i.toInt) (hi1 : i.toInt + 6 ≤ L) {wc wr : va_W} {H : Heap} {locs : List Loc} {ls : Array Slot} (hI : LI adC adM cy i.toInt wc wr) (hw : Wd dC dI A s.heap H locs (wc ++ wr)) (hl : lv_has ls 4 [(3, .int i), (2, .ref (adM 0)), (1, .ref (adC 0)), (0, .ref b)]) (kk : ∀ (H : Heap) (locs : List Loc) (wc wr : va_W), LI adC adM cy (i.toInt + 6) wc wr → Wd dC dI A s.heap H locs (wc ++ wr) → W p l e room_1 s m #[Value.ref b] below meth c H locs 184 18569 (lw_Z below #[Value.ref b] s) (F0 m 1252 ls [])) : W p l e room_1 s m #[Value.ref b] below meth c H locs 184 18569 (lw_Z below #[Value.ref b] s) (F0 m 463 ls []) := by
  have hx := hC.1
  have hb := hC.2.1
  obtain ⟨⟨q1, hT⟩, ⟨q2, hM⟩, hRW, hXR, hSI, hWI, hAI, hLX⟩ := hI
  obtain ⟨s1, hs1⟩ : ∃ y : Int32, xs (i + 1).toNatClampNeg = y := ⟨_, rfl⟩
  obtain ⟨s2, hs2⟩ : ∃ y : Int32, xs (i + 2).toNatClampNeg = y := ⟨_, rfl⟩
  obtain ⟨s3, hs3⟩ : ∃ y : Int32, xs (i + 3).toNatClampNeg = y := ⟨_, rfl⟩
  obtain ⟨s4, hs4⟩ : ∃ y : Int32, xs (i + 4).toNatClampNeg = y := ⟨_, rfl⟩
  refine lv_aload_n hx hb dL_law_463 rfl (lv_at hl 2 rfl) ?_
  refine lv_aload_n hx hb dL_law_464 rfl (lv_at hl 3 rfl) ?_
  refine lv_iload_n hx hb dL_law_465 rfl (lv_at hl 0 rfl) ?_
  refine lv_iconst (v := 1) hx hb dL_law_466 (by decide) ?_
  refine lv_iadd hx hb dL_law_467 ?_
  refine va_sld hx hb hX hbl hbA hw.2.2 (lx_ok hi0 hi1 hL (by decide) (by decide)) dL_law_468 ?_
  refine wk_top s1 hs1 ?_
  refine lv_aload_n hx hb dL_law_469 rfl (lv_at hl 3 rfl) ?_
  refine lv_iload_n hx hb dL_law_470 rfl (lv_at hl 0 rfl) ?_
  refine lv_iconst (v := 2) hx hb dL_law_471 (by decide) ?_
  refine lv_iadd hx hb dL_law_472 ?_
  refine va_sld hx hb hX hbl hbA hw.2.2 (lx_ok hi0 hi1 hL (by decide) (by decide)) dL_law_473 ?_
  refine wk_top s2 hs2 ?_
  refine lv_aload_n hx hb dL_law_474 rfl (lv_at hl 3 rfl) ?_
  refine lv_iload_n hx hb dL_law_475 rfl (lv_at hl 0 rfl) ?_
  refine lv_iconst (v := 3) hx hb dL_law_476 (by decide) ?_
  refine lv_iadd hx hb dL_law_477 ?_
  refine va_sld hx hb hX hbl hbA hw.2.2 (lx_ok hi0 hi1 hL (by decide) (by decide)) dL_law_478 ?_
  refine wk_top s3 hs3 ?_
  refine lv_aload_n hx hb dL_law_479 rfl (lv_at hl 3 rfl) ?_
  refine lv_iload_n hx hb dL_law_480 rfl (lv_at hl 0 rfl) ?_
  refine lv_iconst (v := 4) hx hb dL_law_481 (by decide) ?_
  refine lv_iadd hx hb dL_law_482 ?_
  refine va_sld hx hb hX hbl hbA hw.2.2 (lx_ok hi0 hi1 hL (by decide) (by decide)) dL_law_483 ?_
  refine wk_top s4 hs4 ?_
  obtain ⟨fsX11, hfX11, -⟩ := hT.2.1 0 11 kC_at0 (by decide)
  refine lr_call (ci := 11) hC hK hw hA hE hSR (kz_X11_by_1 l adK adV dC dI cy adC (2147483648 + 9000 * i.toInt) (by omega) (by omega) q1 12 s1 s2 s3 s4 wc _ hT) (cwV 4 hC.2.2.2.2 uLV_RL_54 rfl rfl rfl (by decide +kernel) ⟨Nat.le_of_ble_eq_true rfl, Nat.le_of_ble_eq_true rfl⟩) rfl 0 hfX11 rfl hl.1 rfl (by first | exact Nat.le_of_ble_eq_true rfl | decide) dL_law_484 (Nat.le_of_ble_eq_true rfl) (Nat.le_of_ble_eq_true rfl) (fun r1 uc H locs hp1 hw => ?_)
  refine lv_pop hx hb dL_law_487 rfl ?_
  refine lv_aload_n hx hb dL_law_488 rfl (lv_at hl 1 rfl) ?_
  refine lv_aload_n hx hb dL_law_489 rfl (lv_at hl 3 rfl) ?_
  refine lv_iload_n hx hb dL_law_490 rfl (lv_at hl 0 rfl) ?_
  refine lv_iconst (v := 1) hx hb dL_law_491 (by decide) ?_
  refine lv_iadd hx hb dL_law_492 ?_
  refine va_sld hx hb hX hbl hbA hw.2.2 (lx_ok hi0 hi1 hL (by decide) (by decide)) dL_law_493 ?_
  refine wk_top s1 hs1 ?_
  refine lv_aload_n hx hb dL_law_494 rfl (lv_at hl 3 rfl) ?_
  refine lv_iload_n hx hb dL_law_495 rfl (lv_at hl 0 rfl) ?_
  refine lv_iconst (v := 2) hx hb dL_law_496 (by decide) ?_
  refine lv_iadd hx hb dL_law_497 ?_
  refine va_sld hx hb hX hbl hbA hw.2.2 (lx_ok hi0 hi1 hL (by decide) (by decide)) dL_law_498 ?_
  refine wk_top s2 hs2 ?_
  refine lv_aload_n hx hb dL_law_499 rfl (lv_at hl 3 rfl) ?_
  refine lv_iload_n hx hb dL_law_500 rfl (lv_at hl 0 rfl) ?_
  refine lv_iconst (v := 3) hx hb dL_law_501 (by decide) ?_
  refine lv_iadd hx hb dL_law_502 ?_
  refine va_sld hx hb hX hbl hbA hw.2.2 (lx_ok hi0 hi1 hL (by decide) (by decide)) dL_law_503 ?_
  refine wk_top s3 hs3 ?_
  refine lv_aload_n hx hb dL_law_504 rfl (lv_at hl 3 rfl) ?_
  refine lv_iload_n hx hb dL_law_505 rfl (lv_at hl 0 rfl) ?_
  refine lv_iconst (v := 4) hx hb dL_law_506 (by decide) ?_
  refine lv_iadd hx hb dL_law_507 ?_
  refine va_sld hx hb hX hbl hbA hw.2.2 (lx_ok hi0 hi1 hL (by decide) (by decide)) dL_law_508 ?_
  refine wk_top s4 hs4 ?_
  obtain ⟨fsX12, hfX12, -⟩ := hM.2.1 0 12 kM_at0 (by decide)
  refine lr_call (ci := 12) hC hK hw hA hE hSR (kz_X12_by_1 l adK adV dC dI cy adM (100000 + 9000 * i.toInt) (by omega) (by omega) q2 12 s1 s2 s3 s4 wr _ hM) (cwV 4 hC.2.2.2.2 uLV_RL_58 rfl rfl rfl (by decide +kernel) ⟨Nat.le_of_ble_eq_true rfl, Nat.le_of_ble_eq_true rfl⟩) rfl 0 hfX12 rfl hl.1 rfl (by first | exact Nat.le_of_ble_eq_true rfl | decide) dL_law_509 (Nat.le_of_ble_eq_true rfl) (Nat.le_of_ble_eq_true rfl) (fun r2 ur H locs hp2 hw => ?_)
  obtain ⟨hT1, hF1, hE1, hg1⟩ := hp1
  obtain ⟨hM1, hF2, hE2, hg2⟩ := hp2
  have hR1 : RW ur := RW_FE hF2 (fun _ => rfl) (fun _ => rfl) (fun _ => rfl) hRW
  have hA2 : AIc (sI uc) := AW_by hSI hAI hF1 rfl hE1
  have hci : gi uc 149 9 = 0 := hF1.gi kC_at149 rfl hLX.2.2.1
  have hf27 : gi ur 0 27 = 1 := hF2.gi kM_at0 rfl hLX.2.2.2.1
  have hf30 : gi ur 0 30 = 0 := hF2.gi kM_at0 rfl hLX.2.2.2.2
  have hRR := RR_C hLX.1 hF1 rfl
  have hRR := RR_M hRR hF2 rfl (fun _ => rfl) (fun _ => rfl) (fun _ => rfl)
  have hXS := XR_C hLX.2.1 hF1 rfl
  have hXS := XR_M hXS hF2 rfl rfl rfl (fun _ => rfl) (fun _ => rfl)
  have hL2 : LX uc ur := ⟨hRR, hXS, hci, hf27, hf30⟩
  have hS1 : SI (sI uc) (sI wr) := SI_C hSI hF1 rfl
  have hS2 : SI (sI uc) (sI ur) := SI_M hS1 hF2 rfl
  have hW2 : WI (sI ur) := WI_M hWI hF2 rfl
  have hX1 : TR (sI uc) (sI wr) := TR_C hXR hF1 rfl (fun _ => rfl) rfl
  have hX2 : TR (sI uc) (sI ur) := TR_M hX1 hF2 rfl (fun _ => rfl) rfl
  have hLI : LI adC adM cy (i.toInt + 6) uc ur := (LI_go hT1 (by omega) hM1 (by omega) hR1 hX2 hS2 hW2 hA2 hL2)
  refine lv_pop hx hb dL_law_512 rfl ?_
  refine lv_goto (tgt := 1252) hx hb dL_law_513 (by decide) ?_
  exact kk H locs uc ur hLI hw
set_option maxHeartbeats 4000000 in
set_option maxRecDepth 100000 in
theorem lc_walker {p : Program} {e : Env} {s : State} {m : MethodId} {below : List Frame} {meth : Method} {c : Code} {l : Launch} {b L : Nat} {xs : Nat → Int32} {adK adV : Nat → Nat} {dC : Nat → ClassId} {dI : Nat → Nat → Nat} {cy : Nat → ClassId} {A : Nat → Prop} (hC : CallFix p m c code 4 s #[Value.ref b] wsR RL) (hK : KK dC dI cy s) (hE : SE adK adV A s s.heap) (hSR : SR adK s) (hA : ∀ q : Nat, s.heap.size ≤ q → A q) (hbA : ¬ A b) (hX : va_X b L xs s s.heap) (hbl : b < s.heap.size) (hL : L ≤ 3072) {adC adM : Nat → Nat} {i : Int32} (hi0 : 0 ≤ i.toInt) (hi1 : i.toInt + 6 ≤ L) {wc wr : va_W} {H : Heap} {locs : List Loc} {ls : Array Slot} (hI : LI adC adM cy i.toInt wc wr) (hw : Wd dC dI A s.heap H locs (wc ++ wr)) (hl : lv_has ls 4 [(3, .int i), (2, .ref (adM 0)), (1, .ref (adC 0)), (0, .ref b)]) (kk : ∀ (H : Heap) (locs : List Loc) (wc wr : va_W), LI adC adM cy (i.toInt + 6) wc wr → Wd dC dI A s.heap H locs (wc ++ wr) → W p l e room_1 s m #[Value.ref b] below meth c H locs 184 18569 (lw_Z below #[Value.ref b] s) (F0 m 1252 ls [])) : W p l e room_1 s m #[Value.ref b] below meth c H locs 184 18569 (lw_Z below #[Value.ref b] s) (F0 m 516 ls []) := by
  have hx := hC.1
  have hb := hC.2.1
  obtain ⟨⟨q1, hT⟩, ⟨q2, hM⟩, hRW, hXR, hSI, hWI, hAI, hLX⟩ := hI
  obtain ⟨s1, hs1⟩ : ∃ y : Int32, xs (i + 1).toNatClampNeg = y := ⟨_, rfl⟩
  obtain ⟨s2, hs2⟩ : ∃ y : Int32, xs (i + 2).toNatClampNeg = y := ⟨_, rfl⟩
  obtain ⟨s3, hs3⟩ : ∃ y : Int32, xs (i + 3).toNatClampNeg = y := ⟨_, rfl⟩
  obtain ⟨s4, hs4⟩ : ∃ y : Int32, xs (i + 4).toNatClampNeg = y := ⟨_, rfl⟩
  obtain ⟨s5, hs5⟩ : ∃ y : Int32, xs (i + 5).toNatClampNeg = y := ⟨_, rfl⟩
  refine lv_aload_n hx hb dL_law_516 rfl (lv_at hl 2 rfl) ?_
  refine lv_aload_n hx hb dL_law_517 rfl (lv_at hl 3 rfl) ?_
  refine lv_iload_n hx hb dL_law_518 rfl (lv_at hl 0 rfl) ?_
  refine lv_iconst (v := 1) hx hb dL_law_519 (by decide) ?_
  refine lv_iadd hx hb dL_law_520 ?_
  refine va_sld hx hb hX hbl hbA hw.2.2 (lx_ok hi0 hi1 hL (by decide) (by decide)) dL_law_521 ?_
  refine wk_top s1 hs1 ?_
  refine lv_aload_n hx hb dL_law_522 rfl (lv_at hl 3 rfl) ?_
  refine lv_iload_n hx hb dL_law_523 rfl (lv_at hl 0 rfl) ?_
  refine lv_iconst (v := 2) hx hb dL_law_524 (by decide) ?_
  refine lv_iadd hx hb dL_law_525 ?_
  refine va_sld hx hb hX hbl hbA hw.2.2 (lx_ok hi0 hi1 hL (by decide) (by decide)) dL_law_526 ?_
  refine wk_top s2 hs2 ?_
  refine lv_aload_n hx hb dL_law_527 rfl (lv_at hl 3 rfl) ?_
  refine lv_iload_n hx hb dL_law_528 rfl (lv_at hl 0 rfl) ?_
  refine lv_iconst (v := 3) hx hb dL_law_529 (by decide) ?_
  refine lv_iadd hx hb dL_law_530 ?_
  refine va_sld hx hb hX hbl hbA hw.2.2 (lx_ok hi0 hi1 hL (by decide) (by decide)) dL_law_531 ?_
  refine wk_top s3 hs3 ?_
  refine lv_aload_n hx hb dL_law_532 rfl (lv_at hl 3 rfl) ?_
  refine lv_iload_n hx hb dL_law_533 rfl (lv_at hl 0 rfl) ?_
  refine lv_iconst (v := 4) hx hb dL_law_534 (by decide) ?_
  refine lv_iadd hx hb dL_law_535 ?_
  refine va_sld hx hb hX hbl hbA hw.2.2 (lx_ok hi0 hi1 hL (by decide) (by decide)) dL_law_536 ?_
  refine wk_top s4 hs4 ?_
  refine lv_aload_n hx hb dL_law_537 rfl (lv_at hl 3 rfl) ?_
  refine lv_iload_n hx hb dL_law_538 rfl (lv_at hl 0 rfl) ?_
  refine lv_iconst (v := 5) hx hb dL_law_539 (by decide) ?_
  refine lv_iadd hx hb dL_law_540 ?_
  refine va_sld hx hb hX hbl hbA hw.2.2 (lx_ok hi0 hi1 hL (by decide) (by decide)) dL_law_541 ?_
  refine wk_top s5 hs5 ?_
  obtain ⟨fsX11, hfX11, -⟩ := hT.2.1 0 11 kC_at0 (by decide)
  refine lr_call (ci := 11) hC hK hw hA hE hSR (k_X11_walker_1 l adK adV dC dI cy adC (2147483648 + 9000 * i.toInt) (by omega) (by omega) q1 12 s1 s2 s3 s4 s5 wc _ hT) (cwV 5 hC.2.2.2.2 uLV_RL_59 rfl rfl rfl (by decide +kernel) ⟨Nat.le_of_ble_eq_true rfl, Nat.le_of_ble_eq_true rfl⟩) rfl 0 hfX11 rfl hl.1 rfl (by first | exact Nat.le_of_ble_eq_true rfl | decide) dL_law_542 (Nat.le_of_ble_eq_true rfl) (Nat.le_of_ble_eq_true rfl) (fun r1 uc H locs hp1 hw => ?_)
  refine lv_pop hx hb dL_law_545 rfl ?_
  refine lv_aload_n hx hb dL_law_546 rfl (lv_at hl 1 rfl) ?_
  refine lv_aload_n hx hb dL_law_547 rfl (lv_at hl 3 rfl) ?_
  refine lv_iload_n hx hb dL_law_548 rfl (lv_at hl 0 rfl) ?_
  refine lv_iconst (v := 1) hx hb dL_law_549 (by decide) ?_
  refine lv_iadd hx hb dL_law_550 ?_
  refine va_sld hx hb hX hbl hbA hw.2.2 (lx_ok hi0 hi1 hL (by decide) (by decide)) dL_law_551 ?_
  refine wk_top s1 hs1 ?_
  refine lv_aload_n hx hb dL_law_552 rfl (lv_at hl 3 rfl) ?_
  refine lv_iload_n hx hb dL_law_553 rfl (lv_at hl 0 rfl) ?_
  refine lv_iconst (v := 2) hx hb dL_law_554 (by decide) ?_
  refine lv_iadd hx hb dL_law_555 ?_
  refine va_sld hx hb hX hbl hbA hw.2.2 (lx_ok hi0 hi1 hL (by decide) (by decide)) dL_law_556 ?_
  refine wk_top s2 hs2 ?_
  refine lv_aload_n hx hb dL_law_557 rfl (lv_at hl 3 rfl) ?_
  refine lv_iload_n hx hb dL_law_558 rfl (lv_at hl 0 rfl) ?_
  refine lv_iconst (v := 3) hx hb dL_law_559 (by decide) ?_
  refine lv_iadd hx hb dL_law_560 ?_
  refine va_sld hx hb hX hbl hbA hw.2.2 (lx_ok hi0 hi1 hL (by decide) (by decide)) dL_law_561 ?_
  refine wk_top s3 hs3 ?_
  refine lv_aload_n hx hb dL_law_562 rfl (lv_at hl 3 rfl) ?_
  refine lv_iload_n hx hb dL_law_563 rfl (lv_at hl 0 rfl) ?_
  refine lv_iconst (v := 4) hx hb dL_law_564 (by decide) ?_
  refine lv_iadd hx hb dL_law_565 ?_
  refine va_sld hx hb hX hbl hbA hw.2.2 (lx_ok hi0 hi1 hL (by decide) (by decide)) dL_law_566 ?_
  refine wk_top s4 hs4 ?_
  refine lv_aload_n hx hb dL_law_567 rfl (lv_at hl 3 rfl) ?_
  refine lv_iload_n hx hb dL_law_568 rfl (lv_at hl 0 rfl) ?_
  refine lv_iconst (v := 5) hx hb dL_law_569 (by decide) ?_
  refine lv_iadd hx hb dL_law_570 ?_
  refine va_sld hx hb hX hbl hbA hw.2.2 (lx_ok hi0 hi1 hL (by decide) (by decide)) dL_law_571 ?_
  refine wk_top s5 hs5 ?_
  obtain ⟨fsX12, hfX12, -⟩ := hM.2.1 0 12 kM_at0 (by decide)
  refine lr_call (ci := 12) hC hK hw hA hE hSR (k_X12_walker_1 l adK adV dC dI cy adM (100000 + 9000 * i.toInt) (by omega) (by omega) q2 12 s1 s2 s3 s4 s5 wr _ hM) (cwV 5 hC.2.2.2.2 uLV_RL_62 rfl rfl rfl (by decide +kernel) ⟨Nat.le_of_ble_eq_true rfl, Nat.le_of_ble_eq_true rfl⟩) rfl 0 hfX12 rfl hl.1 rfl (by first | exact Nat.le_of_ble_eq_true rfl | decide) dL_law_572 (Nat.le_of_ble_eq_true rfl) (Nat.le_of_ble_eq_true rfl) (fun r2 ur H locs hp2 hw => ?_)
  obtain ⟨hT1, hF1, hg1⟩ := hp1
  obtain ⟨hM1, hF2, hg2⟩ := hp2
  have hR1 : RW ur := RW_FE hF2 (fun _ => rfl) (fun _ => rfl) (fun _ => rfl) hRW
  have hA2 : AIc (sI uc) := AI_FE hAI hF1 rfl
  have hci : gi uc 149 9 = 0 := hF1.gi kC_at149 rfl hLX.2.2.1
  have hf27 : gi ur 0 27 = 1 := hF2.gi kM_at0 rfl hLX.2.2.2.1
  have hf30 : gi ur 0 30 = 0 := hF2.gi kM_at0 rfl hLX.2.2.2.2
  have hRR := RR_C hLX.1 hF1 rfl
  have hRR := RR_M hRR hF2 rfl (fun _ => rfl) (fun _ => rfl) (fun _ => rfl)
  have hXS := XR_C hLX.2.1 hF1 rfl
  have hXS := XR_M hXS hF2 rfl rfl rfl (fun _ => rfl) (fun _ => rfl)
  have hL2 : LX uc ur := ⟨hRR, hXS, hci, hf27, hf30⟩
  have hS1 : SI (sI uc) (sI wr) := SI_C hSI hF1 rfl
  have hS2 : SI (sI uc) (sI ur) := SI_M hS1 hF2 rfl
  have hW2 : WI (sI ur) := WI_M hWI hF2 rfl
  have hX1 : TR (sI uc) (sI wr) := TR_C hXR hF1 rfl (fun _ => rfl) rfl
  have hX2 : TR (sI uc) (sI ur) := TR_M hX1 hF2 rfl (fun _ => rfl) rfl
  have hLI : LI adC adM cy (i.toInt + 6) uc ur := (LI_go hT1 (by omega) hM1 (by omega) hR1 hX2 hS2 hW2 hA2 hL2)
  refine lv_pop hx hb dL_law_575 rfl ?_
  refine lv_goto (tgt := 1252) hx hb dL_law_576 (by decide) ?_
  exact kk H locs uc ur hLI hw
set_option maxHeartbeats 4000000 in
set_option maxRecDepth 100000 in
theorem lc_about {p : Program} {e : Env} {s : State} {m : MethodId} {below : List Frame} {meth : Method} {c : Code} {l : Launch} {b L : Nat} {xs : Nat → Int32} {adK adV : Nat → Nat} {dC : Nat → ClassId} {dI : Nat → Nat → Nat} {cy : Nat → ClassId} {A : Nat → Prop} (hC : CallFix p m c code 4 s #[Value.ref b] wsR RL) (hK : KK dC dI cy s) (hE : SE adK adV A s s.heap) (hSR : SR adK s) (hA : ∀ q : Nat, s.heap.size ≤ q → A q) (hbA : ¬ A b) (hX : va_X b L xs s s.heap) (hbl : b < s.heap.size) (hL : L ≤ 3072) {adC adM : Nat → Nat} {i : Int32} (hi0 : 0 ≤ i.toInt) (hi1 : i.toInt + 6 ≤ L) {wc wr : va_W} {H : Heap} {locs : List Loc} {ls : Array Slot} (hI : LI adC adM cy i.toInt wc wr) (hw : Wd dC dI A s.heap H locs (wc ++ wr)) (hl : lv_has ls 4 [(3, .int i), (2, .ref (adM 0)), (1, .ref (adC 0)), (0, .ref b)]) (kk : ∀ (H : Heap) (locs : List Loc) (wc wr : va_W), LI adC adM cy (i.toInt + 6) wc wr → Wd dC dI A s.heap H locs (wc ++ wr) → W p l e room_1 s m #[Value.ref b] below meth c H locs 184 18569 (lw_Z below #[Value.ref b] s) (F0 m 1252 ls [])) : W p l e room_1 s m #[Value.ref b] below meth c H locs 184 18569 (lw_Z below #[Value.ref b] s) (F0 m 579 ls []) := by
  have hx := hC.1
  have hb := hC.2.1
  obtain ⟨⟨q1, hT⟩, ⟨q2, hM⟩, hRW, hXR, hSI, hWI, hAI, hLX⟩ := hI
  obtain ⟨s1, hs1⟩ : ∃ y : Int32, xs (i + 1).toNatClampNeg = y := ⟨_, rfl⟩
  obtain ⟨s2, hs2⟩ : ∃ y : Int32, xs (i + 2).toNatClampNeg = y := ⟨_, rfl⟩
  refine lv_aload_n hx hb dL_law_579 rfl (lv_at hl 2 rfl) ?_
  refine lv_aload_n hx hb dL_law_580 rfl (lv_at hl 3 rfl) ?_
  refine lv_iload_n hx hb dL_law_581 rfl (lv_at hl 0 rfl) ?_
  refine lv_iconst (v := 1) hx hb dL_law_582 (by decide) ?_
  refine lv_iadd hx hb dL_law_583 ?_
  refine va_sld hx hb hX hbl hbA hw.2.2 (lx_ok hi0 hi1 hL (by decide) (by decide)) dL_law_584 ?_
  refine wk_top s1 hs1 ?_
  refine lv_aload_n hx hb dL_law_585 rfl (lv_at hl 3 rfl) ?_
  refine lv_iload_n hx hb dL_law_586 rfl (lv_at hl 0 rfl) ?_
  refine lv_iconst (v := 2) hx hb dL_law_587 (by decide) ?_
  refine lv_iadd hx hb dL_law_588 ?_
  refine va_sld hx hb hX hbl hbA hw.2.2 (lx_ok hi0 hi1 hL (by decide) (by decide)) dL_law_589 ?_
  refine wk_top s2 hs2 ?_
  obtain ⟨fsX11, hfX11, -⟩ := hT.2.1 0 11 kC_at0 (by decide)
  refine lr_call (ci := 11) hC hK hw hA hE hSR (k_X11_about_1 l adK adV dC dI cy adC (2147483648 + 9000 * i.toInt) (by omega) (by omega) q1 12 s1 s2 wc _ hT) (cwV 2 hC.2.2.2.2 uLV_RL_63 rfl rfl rfl (by decide +kernel) ⟨Nat.le_of_ble_eq_true rfl, Nat.le_of_ble_eq_true rfl⟩) rfl 0 hfX11 rfl hl.1 rfl (by first | exact Nat.le_of_ble_eq_true rfl | decide) dL_law_590 (Nat.le_of_ble_eq_true rfl) (Nat.le_of_ble_eq_true rfl) (fun r1 uc H locs hp1 hw => ?_)
  refine lv_pop hx hb dL_law_593 rfl ?_
  refine lv_aload_n hx hb dL_law_594 rfl (lv_at hl 1 rfl) ?_
  refine lv_aload_n hx hb dL_law_595 rfl (lv_at hl 3 rfl) ?_
  refine lv_iload_n hx hb dL_law_596 rfl (lv_at hl 0 rfl) ?_
  refine lv_iconst (v := 1) hx hb dL_law_597 (by decide) ?_
  refine lv_iadd hx hb dL_law_598 ?_
  refine va_sld hx hb hX hbl hbA hw.2.2 (lx_ok hi0 hi1 hL (by decide) (by decide)) dL_law_599 ?_
  refine wk_top s1 hs1 ?_
  refine lv_aload_n hx hb dL_law_600 rfl (lv_at hl 3 rfl) ?_
  refine lv_iload_n hx hb dL_law_601 rfl (lv_at hl 0 rfl) ?_
  refine lv_iconst (v := 2) hx hb dL_law_602 (by decide) ?_
  refine lv_iadd hx hb dL_law_603 ?_
  refine va_sld hx hb hX hbl hbA hw.2.2 (lx_ok hi0 hi1 hL (by decide) (by decide)) dL_law_604 ?_
  refine wk_top s2 hs2 ?_
  obtain ⟨fsX12, hfX12, -⟩ := hM.2.1 0 12 kM_at0 (by decide)
  refine lr_call (ci := 12) hC hK hw hA hE hSR (k_X12_about_1 l adK adV dC dI cy adM (100000 + 9000 * i.toInt) (by omega) (by omega) q2 12 s1 s2 wr _ hM) (cwV 2 hC.2.2.2.2 uLV_RL_66 rfl rfl rfl (by decide +kernel) ⟨Nat.le_of_ble_eq_true rfl, Nat.le_of_ble_eq_true rfl⟩) rfl 0 hfX12 rfl hl.1 rfl (by first | exact Nat.le_of_ble_eq_true rfl | decide) dL_law_605 (Nat.le_of_ble_eq_true rfl) (Nat.le_of_ble_eq_true rfl) (fun r2 ur H locs hp2 hw => ?_)
  obtain ⟨hT1, hF1, hg1⟩ := hp1
  obtain ⟨he2, hg2⟩ := hp2
  have hM1 := hM
  rw [he2] at hM1
  have hR1 := hRW
  rw [he2] at hR1
  have hA2 : AIc (sI uc) := AI_FE hAI hF1 rfl
  have hci : gi uc 149 9 = 0 := hF1.gi kC_at149 rfl hLX.2.2.1
  have hf27 := hLX.2.2.2.1
  have hf30 := hLX.2.2.2.2
  rw [he2] at hf27 hf30
  have hRR := RR_C hLX.1 hF1 rfl
  rw [he2] at hRR
  have hXS := XR_C hLX.2.1 hF1 rfl
  rw [he2] at hXS
  have hL2 : LX uc ur := ⟨hRR, hXS, hci, hf27, hf30⟩
  have hS1 : SI (sI uc) (sI wr) := SI_C hSI hF1 rfl
  have hS2 := hS1
  rw [he2] at hS2
  have hW2 := hWI
  rw [he2] at hW2
  have hX1 : TR (sI uc) (sI wr) := TR_C hXR hF1 rfl (fun _ => rfl) rfl
  have hX2 := hX1
  rw [he2] at hX2
  have hLI : LI adC adM cy (i.toInt + 6) uc ur := (LI_go hT1 (by omega) hM1 (by omega) hR1 hX2 hS2 hW2 hA2 hL2)
  refine lv_pop hx hb dL_law_608 rfl ?_
  refine lv_goto (tgt := 1252) hx hb dL_law_609 (by decide) ?_
  exact kk H locs uc ur hLI hw
set_option maxHeartbeats 4000000 in
set_option maxRecDepth 100000 in
theorem lc_step {p : Program} {e : Env} {s : State} {m : MethodId} {below : List Frame} {meth : Method} {c : Code} {l : Launch} {b L : Nat} {xs : Nat → Int32} {adK adV : Nat → Nat} {dC : Nat → ClassId} {dI : Nat → Nat → Nat} {cy : Nat → ClassId} {A : Nat → Prop} (hC : CallFix p m c code 4 s #[Value.ref b] wsR RL) (hK : KK dC dI cy s) (hE : SE adK adV A s s.heap) (hSR : SR adK s) (hA : ∀ q : Nat, s.heap.size ≤ q → A q) (hbA : ¬ A b) (hX : va_X b L xs s s.heap) (hbl : b < s.heap.size) (hL : L ≤ 3072) {adC adM : Nat → Nat} {i : Int32} (hi0 : 0 ≤ i.toInt) (hi1 : i.toInt + 6 ≤ L) {wc wr : va_W} {H : Heap} {locs : List Loc} {ls : Array Slot} (hI : LI adC adM cy i.toInt wc wr) (hw : Wd dC dI A s.heap H locs (wc ++ wr)) (hl : lv_has ls 4 [(3, .int i), (2, .ref (adM 0)), (1, .ref (adC 0)), (0, .ref b)]) (kk : ∀ (H : Heap) (locs : List Loc) (wc wr : va_W), LI adC adM cy (i.toInt + 6) wc wr → Wd dC dI A s.heap H locs (wc ++ wr) → W p l e room_1 s m #[Value.ref b] below meth c H locs 184 18569 (lw_Z below #[Value.ref b] s) (F0 m 1252 ls [])) : W p l e room_1 s m #[Value.ref b] below meth c H locs 184 18569 (lw_Z below #[Value.ref b] s) (F0 m 612 ls []) := by
  have hx := hC.1
  have hb := hC.2.1
  obtain ⟨⟨q1, hT⟩, ⟨q2, hM⟩, hRW, hXR, hSI, hWI, hAI, hLX⟩ := hI
  obtain ⟨s1, hs1⟩ : ∃ y : Int32, xs (i + 1).toNatClampNeg = y := ⟨_, rfl⟩
  obtain ⟨s2, hs2⟩ : ∃ y : Int32, xs (i + 2).toNatClampNeg = y := ⟨_, rfl⟩
  refine lv_aload_n hx hb dL_law_612 rfl (lv_at hl 2 rfl) ?_
  refine lv_aload_n hx hb dL_law_613 rfl (lv_at hl 3 rfl) ?_
  refine lv_iload_n hx hb dL_law_614 rfl (lv_at hl 0 rfl) ?_
  refine lv_iconst (v := 1) hx hb dL_law_615 (by decide) ?_
  refine lv_iadd hx hb dL_law_616 ?_
  refine va_sld hx hb hX hbl hbA hw.2.2 (lx_ok hi0 hi1 hL (by decide) (by decide)) dL_law_617 ?_
  refine wk_top s1 hs1 ?_
  refine lv_aload_n hx hb dL_law_618 rfl (lv_at hl 3 rfl) ?_
  refine lv_iload_n hx hb dL_law_619 rfl (lv_at hl 0 rfl) ?_
  refine lv_iconst (v := 2) hx hb dL_law_620 (by decide) ?_
  refine lv_iadd hx hb dL_law_621 ?_
  refine va_sld hx hb hX hbl hbA hw.2.2 (lx_ok hi0 hi1 hL (by decide) (by decide)) dL_law_622 ?_
  refine wk_top s2 hs2 ?_
  obtain ⟨fsX11, hfX11, -⟩ := hT.2.1 0 11 kC_at0 (by decide)
  refine lr_call (ci := 11) hC hK hw hA hE hSR (k_X11_step_1 l adK adV dC dI cy adC (2147483648 + 9000 * i.toInt) (by omega) (by omega) q1 12 s1 s2 wc _ hT) (cwV 2 hC.2.2.2.2 uLV_RL_67 rfl rfl rfl (by decide +kernel) ⟨Nat.le_of_ble_eq_true rfl, Nat.le_of_ble_eq_true rfl⟩) rfl 0 hfX11 rfl hl.1 rfl (by first | exact Nat.le_of_ble_eq_true rfl | decide) dL_law_623 (Nat.le_of_ble_eq_true rfl) (Nat.le_of_ble_eq_true rfl) (fun r1 uc H locs hp1 hw => ?_)
  refine lv_pop hx hb dL_law_626 rfl ?_
  refine lv_aload_n hx hb dL_law_627 rfl (lv_at hl 1 rfl) ?_
  refine lv_aload_n hx hb dL_law_628 rfl (lv_at hl 3 rfl) ?_
  refine lv_iload_n hx hb dL_law_629 rfl (lv_at hl 0 rfl) ?_
  refine lv_iconst (v := 1) hx hb dL_law_630 (by decide) ?_
  refine lv_iadd hx hb dL_law_631 ?_
  refine va_sld hx hb hX hbl hbA hw.2.2 (lx_ok hi0 hi1 hL (by decide) (by decide)) dL_law_632 ?_
  refine wk_top s1 hs1 ?_
  refine lv_aload_n hx hb dL_law_633 rfl (lv_at hl 3 rfl) ?_
  refine lv_iload_n hx hb dL_law_634 rfl (lv_at hl 0 rfl) ?_
  refine lv_iconst (v := 2) hx hb dL_law_635 (by decide) ?_
  refine lv_iadd hx hb dL_law_636 ?_
  refine va_sld hx hb hX hbl hbA hw.2.2 (lx_ok hi0 hi1 hL (by decide) (by decide)) dL_law_637 ?_
  refine wk_top s2 hs2 ?_
  obtain ⟨fsX12, hfX12, -⟩ := hM.2.1 0 12 kM_at0 (by decide)
  refine lr_call (ci := 12) hC hK hw hA hE hSR (k_X12_step_1 l adK adV dC dI cy adM (100000 + 9000 * i.toInt) (by omega) (by omega) q2 12 s1 s2 wr _ hM hRW) (cwV 2 hC.2.2.2.2 uLV_RL_70 rfl rfl rfl (by decide +kernel) ⟨Nat.le_of_ble_eq_true rfl, Nat.le_of_ble_eq_true rfl⟩) rfl 0 hfX12 rfl hl.1 rfl (by first | exact Nat.le_of_ble_eq_true rfl | decide) dL_law_638 (Nat.le_of_ble_eq_true rfl) (Nat.le_of_ble_eq_true rfl) (fun r2 ur H locs hp2 hw => ?_)
  obtain ⟨hT1, hF1, hg1⟩ := hp1
  obtain ⟨hM1, hF2, hg2⟩ := hp2
  have hR1 : RW ur := RW_FE hF2 (fun _ => rfl) (fun _ => rfl) (fun _ => rfl) hRW
  have hA2 : AIc (sI uc) := hF1.2 hAI
  have hF1 := hF1.1
  have hci : gi uc 149 9 = 0 := hF1.gi kC_at149 rfl hLX.2.2.1
  have hf27 : gi ur 0 27 = 1 := hF2.gi kM_at0 rfl hLX.2.2.2.1
  have hf30 : gi ur 0 30 = 0 := hF2.gi kM_at0 rfl hLX.2.2.2.2
  have hRR := RR_C hLX.1 hF1 rfl
  have hRR := RR_M hRR hF2 rfl (fun _ => rfl) (fun _ => rfl) (fun _ => rfl)
  have hXS := XR_C hLX.2.1 hF1 rfl
  have hXS := XR_M hXS hF2 rfl rfl rfl (fun _ => rfl) (fun _ => rfl)
  have hL2 : LX uc ur := ⟨hRR, hXS, hci, hf27, hf30⟩
  have hS1 : SI (sI uc) (sI wr) := SI_C hSI hF1 rfl
  have hS2 : SI (sI uc) (sI ur) := SI_M hS1 hF2 rfl
  have hW2 : WI (sI ur) := WI_M hWI hF2 rfl
  have hX1 : TR (sI uc) (sI wr) := TR_C hXR hF1 rfl (fun _ => rfl) rfl
  have hX2 : TR (sI uc) (sI ur) := TR_M hX1 hF2 rfl (fun _ => rfl) rfl
  have hLI : LI adC adM cy (i.toInt + 6) uc ur := (LI_go hT1 (by omega) hM1 (by omega) hR1 hX2 hS2 hW2 hA2 hL2)
  refine lv_pop hx hb dL_law_641 rfl ?_
  refine lv_goto (tgt := 1252) hx hb dL_law_642 (by decide) ?_
  exact kk H locs uc ur hLI hw
set_option maxHeartbeats 4000000 in
set_option maxRecDepth 100000 in
theorem lc_soonest {p : Program} {e : Env} {s : State} {m : MethodId} {below : List Frame} {meth : Method} {c : Code} {l : Launch} {b L : Nat} {xs : Nat → Int32} {adK adV : Nat → Nat} {dC : Nat → ClassId} {dI : Nat → Nat → Nat} {cy : Nat → ClassId} {A : Nat → Prop} (hC : CallFix p m c code 4 s #[Value.ref b] wsR RL) (hK : KK dC dI cy s) (hE : SE adK adV A s s.heap) (hSR : SR adK s) (hA : ∀ q : Nat, s.heap.size ≤ q → A q) (hbA : ¬ A b) (hX : va_X b L xs s s.heap) (hbl : b < s.heap.size) (hL : L ≤ 3072) {adC adM : Nat → Nat} {i : Int32} (hi0 : 0 ≤ i.toInt) (hi1 : i.toInt + 6 ≤ L) {wc wr : va_W} {H : Heap} {locs : List Loc} {ls : Array Slot} (hI : LI adC adM cy i.toInt wc wr) (hw : Wd dC dI A s.heap H locs (wc ++ wr)) (hl : lv_has ls 4 [(3, .int i), (2, .ref (adM 0)), (1, .ref (adC 0)), (0, .ref b)]) (kk : ∀ (H : Heap) (locs : List Loc) (wc wr : va_W), LI adC adM cy (i.toInt + 6) wc wr → Wd dC dI A s.heap H locs (wc ++ wr) → W p l e room_1 s m #[Value.ref b] below meth c H locs 184 18569 (lw_Z below #[Value.ref b] s) (F0 m 1252 ls [])) : W p l e room_1 s m #[Value.ref b] below meth c H locs 184 18569 (lw_Z below #[Value.ref b] s) (F0 m 645 ls []) := by
  have hx := hC.1
  have hb := hC.2.1
  obtain ⟨⟨q1, hT⟩, ⟨q2, hM⟩, hRW, hXR, hSI, hWI, hAI, hLX⟩ := hI
  obtain ⟨s1, hs1⟩ : ∃ y : Int32, xs (i + 1).toNatClampNeg = y := ⟨_, rfl⟩
  obtain ⟨s2, hs2⟩ : ∃ y : Int32, xs (i + 2).toNatClampNeg = y := ⟨_, rfl⟩
  obtain ⟨s3, hs3⟩ : ∃ y : Int32, xs (i + 3).toNatClampNeg = y := ⟨_, rfl⟩
  refine lv_aload_n hx hb dL_law_645 rfl (lv_at hl 2 rfl) ?_
  refine lv_aload_n hx hb dL_law_646 rfl (lv_at hl 3 rfl) ?_
  refine lv_iload_n hx hb dL_law_647 rfl (lv_at hl 0 rfl) ?_
  refine lv_iconst (v := 1) hx hb dL_law_648 (by decide) ?_
  refine lv_iadd hx hb dL_law_649 ?_
  refine va_sld hx hb hX hbl hbA hw.2.2 (lx_ok hi0 hi1 hL (by decide) (by decide)) dL_law_650 ?_
  refine wk_top s1 hs1 ?_
  refine lv_aload_n hx hb dL_law_651 rfl (lv_at hl 3 rfl) ?_
  refine lv_iload_n hx hb dL_law_652 rfl (lv_at hl 0 rfl) ?_
  refine lv_iconst (v := 2) hx hb dL_law_653 (by decide) ?_
  refine lv_iadd hx hb dL_law_654 ?_
  refine va_sld hx hb hX hbl hbA hw.2.2 (lx_ok hi0 hi1 hL (by decide) (by decide)) dL_law_655 ?_
  refine wk_top s2 hs2 ?_
  refine lv_aload_n hx hb dL_law_656 rfl (lv_at hl 3 rfl) ?_
  refine lv_iload_n hx hb dL_law_657 rfl (lv_at hl 0 rfl) ?_
  refine lv_iconst (v := 3) hx hb dL_law_658 (by decide) ?_
  refine lv_iadd hx hb dL_law_659 ?_
  refine va_sld hx hb hX hbl hbA hw.2.2 (lx_ok hi0 hi1 hL (by decide) (by decide)) dL_law_660 ?_
  refine wk_top s3 hs3 ?_
  obtain ⟨fsX11, hfX11, -⟩ := hT.2.1 0 11 kC_at0 (by decide)
  refine lr_call (ci := 11) hC hK hw hA hE hSR (k_X11_soonest_1 l adK adV dC dI cy adC (2147483648 + 9000 * i.toInt) (by omega) (by omega) q1 12 s1 s2 s3 wc _ hT) (cwV 3 hC.2.2.2.2 uLV_RL_71 rfl rfl rfl (by decide +kernel) ⟨Nat.le_of_ble_eq_true rfl, Nat.le_of_ble_eq_true rfl⟩) rfl 0 hfX11 rfl hl.1 rfl (by first | exact Nat.le_of_ble_eq_true rfl | decide) dL_law_661 (Nat.le_of_ble_eq_true rfl) (Nat.le_of_ble_eq_true rfl) (fun r1 uc H locs hp1 hw => ?_)
  refine lv_pop hx hb dL_law_664 rfl ?_
  refine lv_aload_n hx hb dL_law_665 rfl (lv_at hl 1 rfl) ?_
  refine lv_aload_n hx hb dL_law_666 rfl (lv_at hl 3 rfl) ?_
  refine lv_iload_n hx hb dL_law_667 rfl (lv_at hl 0 rfl) ?_
  refine lv_iconst (v := 1) hx hb dL_law_668 (by decide) ?_
  refine lv_iadd hx hb dL_law_669 ?_
  refine va_sld hx hb hX hbl hbA hw.2.2 (lx_ok hi0 hi1 hL (by decide) (by decide)) dL_law_670 ?_
  refine wk_top s1 hs1 ?_
  refine lv_aload_n hx hb dL_law_671 rfl (lv_at hl 3 rfl) ?_
  refine lv_iload_n hx hb dL_law_672 rfl (lv_at hl 0 rfl) ?_
  refine lv_iconst (v := 2) hx hb dL_law_673 (by decide) ?_
  refine lv_iadd hx hb dL_law_674 ?_
  refine va_sld hx hb hX hbl hbA hw.2.2 (lx_ok hi0 hi1 hL (by decide) (by decide)) dL_law_675 ?_
  refine wk_top s2 hs2 ?_
  refine lv_aload_n hx hb dL_law_676 rfl (lv_at hl 3 rfl) ?_
  refine lv_iload_n hx hb dL_law_677 rfl (lv_at hl 0 rfl) ?_
  refine lv_iconst (v := 3) hx hb dL_law_678 (by decide) ?_
  refine lv_iadd hx hb dL_law_679 ?_
  refine va_sld hx hb hX hbl hbA hw.2.2 (lx_ok hi0 hi1 hL (by decide) (by decide)) dL_law_680 ?_
  refine wk_top s3 hs3 ?_
  obtain ⟨fsX12, hfX12, -⟩ := hM.2.1 0 12 kM_at0 (by decide)
  refine lr_call (ci := 12) hC hK hw hA hE hSR (k_X12_soonest_1 l adK adV dC dI cy adM (100000 + 9000 * i.toInt) (by omega) (by omega) q2 12 s1 s2 s3 wr _ hM) (cwV 3 hC.2.2.2.2 uLV_RL_74 rfl rfl rfl (by decide +kernel) ⟨Nat.le_of_ble_eq_true rfl, Nat.le_of_ble_eq_true rfl⟩) rfl 0 hfX12 rfl hl.1 rfl (by first | exact Nat.le_of_ble_eq_true rfl | decide) dL_law_681 (Nat.le_of_ble_eq_true rfl) (Nat.le_of_ble_eq_true rfl) (fun r2 ur H locs hp2 hw => ?_)
  obtain ⟨hT1, hF1, hg1⟩ := hp1
  obtain ⟨hM1, hF2, hg2⟩ := hp2
  have hR1 : RW ur := RW_FE hF2 (fun _ => rfl) (fun _ => rfl) (fun _ => rfl) hRW
  have hA2 : AIc (sI uc) := AI_FE hAI hF1 rfl
  have hci : gi uc 149 9 = 0 := hF1.gi kC_at149 rfl hLX.2.2.1
  have hf27 : gi ur 0 27 = 1 := hF2.gi kM_at0 rfl hLX.2.2.2.1
  have hf30 : gi ur 0 30 = 0 := hF2.gi kM_at0 rfl hLX.2.2.2.2
  have hRR := RR_C hLX.1 hF1 rfl
  have hRR := RR_M hRR hF2 rfl (fun _ => rfl) (fun _ => rfl) (fun _ => rfl)
  have hXS := XR_C hLX.2.1 hF1 rfl
  have hXS := XR_M hXS hF2 rfl rfl rfl (fun _ => rfl) (fun _ => rfl)
  have hL2 : LX uc ur := ⟨hRR, hXS, hci, hf27, hf30⟩
  have hS1 : SI (sI uc) (sI wr) := SI_C hSI hF1 rfl
  have hS2 : SI (sI uc) (sI ur) := SI_M hS1 hF2 rfl
  have hW2 : WI (sI ur) := WI_M hWI hF2 rfl
  have hX1 : TR (sI uc) (sI wr) := TR_C hXR hF1 rfl (fun _ => rfl) rfl
  have hX2 : TR (sI uc) (sI ur) := TR_M hX1 hF2 rfl (fun _ => rfl) rfl
  have hLI : LI adC adM cy (i.toInt + 6) uc ur := (LI_go hT1 (by omega) hM1 (by omega) hR1 hX2 hS2 hW2 hA2 hL2)
  refine lv_pop hx hb dL_law_684 rfl ?_
  refine lv_goto (tgt := 1252) hx hb dL_law_685 (by decide) ?_
  exact kk H locs uc ur hLI hw
set_option maxHeartbeats 4000000 in
set_option maxRecDepth 100000 in
theorem lc_way {p : Program} {e : Env} {s : State} {m : MethodId} {below : List Frame} {meth : Method} {c : Code} {l : Launch} {b L : Nat} {xs : Nat → Int32} {adK adV : Nat → Nat} {dC : Nat → ClassId} {dI : Nat → Nat → Nat} {cy : Nat → ClassId} {A : Nat → Prop} (hC : CallFix p m c code 4 s #[Value.ref b] wsR RL) (hK : KK dC dI cy s) (hE : SE adK adV A s s.heap) (hSR : SR adK s) (hA : ∀ q : Nat, s.heap.size ≤ q → A q) (hbA : ¬ A b) (hX : va_X b L xs s s.heap) (hbl : b < s.heap.size) (hL : L ≤ 3072) {adC adM : Nat → Nat} {i : Int32} (hi0 : 0 ≤ i.toInt) (hi1 : i.toInt + 6 ≤ L) {wc wr : va_W} {H : Heap} {locs : List Loc} {ls : Array Slot} (hI : LI adC adM cy i.toInt wc wr) (hw : Wd dC dI A s.heap H locs (wc ++ wr)) (hl : lv_has ls 4 [(3, .int i), (2, .ref (adM 0)), (1, .ref (adC 0)), (0, .ref b)]) (kk : ∀ (H : Heap) (locs : List Loc) (wc wr : va_W), LI adC adM cy (i.toInt + 6) wc wr → Wd dC dI A s.heap H locs (wc ++ wr) → W p l e room_1 s m #[Value.ref b] below meth c H locs 184 18569 (lw_Z below #[Value.ref b] s) (F0 m 1252 ls [])) : W p l e room_1 s m #[Value.ref b] below meth c H locs 184 18569 (lw_Z below #[Value.ref b] s) (F0 m 688 ls []) := by
  have hx := hC.1
  have hb := hC.2.1
  obtain ⟨⟨q1, hT⟩, ⟨q2, hM⟩, hRW, hXR, hSI, hWI, hAI, hLX⟩ := hI
  obtain ⟨s1, hs1⟩ : ∃ y : Int32, xs (i + 1).toNatClampNeg = y := ⟨_, rfl⟩
  obtain ⟨s2, hs2⟩ : ∃ y : Int32, xs (i + 2).toNatClampNeg = y := ⟨_, rfl⟩
  obtain ⟨s3, hs3⟩ : ∃ y : Int32, xs (i + 3).toNatClampNeg = y := ⟨_, rfl⟩
  obtain ⟨s4, hs4⟩ : ∃ y : Int32, xs (i + 4).toNatClampNeg = y := ⟨_, rfl⟩
  refine lv_aload_n hx hb dL_law_688 rfl (lv_at hl 2 rfl) ?_
  refine lv_aload_n hx hb dL_law_689 rfl (lv_at hl 3 rfl) ?_
  refine lv_iload_n hx hb dL_law_690 rfl (lv_at hl 0 rfl) ?_
  refine lv_iconst (v := 1) hx hb dL_law_691 (by decide) ?_
  refine lv_iadd hx hb dL_law_692 ?_
  refine va_sld hx hb hX hbl hbA hw.2.2 (lx_ok hi0 hi1 hL (by decide) (by decide)) dL_law_693 ?_
  refine wk_top s1 hs1 ?_
  refine lv_aload_n hx hb dL_law_694 rfl (lv_at hl 3 rfl) ?_
  refine lv_iload_n hx hb dL_law_695 rfl (lv_at hl 0 rfl) ?_
  refine lv_iconst (v := 2) hx hb dL_law_696 (by decide) ?_
  refine lv_iadd hx hb dL_law_697 ?_
  refine va_sld hx hb hX hbl hbA hw.2.2 (lx_ok hi0 hi1 hL (by decide) (by decide)) dL_law_698 ?_
  refine wk_top s2 hs2 ?_
  refine lv_aload_n hx hb dL_law_699 rfl (lv_at hl 3 rfl) ?_
  refine lv_iload_n hx hb dL_law_700 rfl (lv_at hl 0 rfl) ?_
  refine lv_iconst (v := 3) hx hb dL_law_701 (by decide) ?_
  refine lv_iadd hx hb dL_law_702 ?_
  refine va_sld hx hb hX hbl hbA hw.2.2 (lx_ok hi0 hi1 hL (by decide) (by decide)) dL_law_703 ?_
  refine wk_top s3 hs3 ?_
  refine lv_aload_n hx hb dL_law_704 rfl (lv_at hl 3 rfl) ?_
  refine lv_iload_n hx hb dL_law_705 rfl (lv_at hl 0 rfl) ?_
  refine lv_iconst (v := 4) hx hb dL_law_706 (by decide) ?_
  refine lv_iadd hx hb dL_law_707 ?_
  refine va_sld hx hb hX hbl hbA hw.2.2 (lx_ok hi0 hi1 hL (by decide) (by decide)) dL_law_708 ?_
  refine wk_top s4 hs4 ?_
  obtain ⟨fsX11, hfX11, -⟩ := hT.2.1 0 11 kC_at0 (by decide)
  refine lr_call (ci := 11) hC hK hw hA hE hSR (k_X11_way_1 l adK adV dC dI cy adC (2147483648 + 9000 * i.toInt) (by omega) (by omega) q1 12 s1 s2 s3 s4 wc _ hT) (cwV 4 hC.2.2.2.2 uLV_RL_75 rfl rfl rfl (by decide +kernel) ⟨Nat.le_of_ble_eq_true rfl, Nat.le_of_ble_eq_true rfl⟩) rfl 0 hfX11 rfl hl.1 rfl (by first | exact Nat.le_of_ble_eq_true rfl | decide) dL_law_709 (Nat.le_of_ble_eq_true rfl) (Nat.le_of_ble_eq_true rfl) (fun r1 uc H locs hp1 hw => ?_)
  refine lv_pop hx hb dL_law_712 rfl ?_
  refine lv_aload_n hx hb dL_law_713 rfl (lv_at hl 1 rfl) ?_
  refine lv_aload_n hx hb dL_law_714 rfl (lv_at hl 3 rfl) ?_
  refine lv_iload_n hx hb dL_law_715 rfl (lv_at hl 0 rfl) ?_
  refine lv_iconst (v := 1) hx hb dL_law_716 (by decide) ?_
  refine lv_iadd hx hb dL_law_717 ?_
  refine va_sld hx hb hX hbl hbA hw.2.2 (lx_ok hi0 hi1 hL (by decide) (by decide)) dL_law_718 ?_
  refine wk_top s1 hs1 ?_
  refine lv_aload_n hx hb dL_law_719 rfl (lv_at hl 3 rfl) ?_
  refine lv_iload_n hx hb dL_law_720 rfl (lv_at hl 0 rfl) ?_
  refine lv_iconst (v := 2) hx hb dL_law_721 (by decide) ?_
  refine lv_iadd hx hb dL_law_722 ?_
  refine va_sld hx hb hX hbl hbA hw.2.2 (lx_ok hi0 hi1 hL (by decide) (by decide)) dL_law_723 ?_
  refine wk_top s2 hs2 ?_
  refine lv_aload_n hx hb dL_law_724 rfl (lv_at hl 3 rfl) ?_
  refine lv_iload_n hx hb dL_law_725 rfl (lv_at hl 0 rfl) ?_
  refine lv_iconst (v := 3) hx hb dL_law_726 (by decide) ?_
  refine lv_iadd hx hb dL_law_727 ?_
  refine va_sld hx hb hX hbl hbA hw.2.2 (lx_ok hi0 hi1 hL (by decide) (by decide)) dL_law_728 ?_
  refine wk_top s3 hs3 ?_
  refine lv_aload_n hx hb dL_law_729 rfl (lv_at hl 3 rfl) ?_
  refine lv_iload_n hx hb dL_law_730 rfl (lv_at hl 0 rfl) ?_
  refine lv_iconst (v := 4) hx hb dL_law_731 (by decide) ?_
  refine lv_iadd hx hb dL_law_732 ?_
  refine va_sld hx hb hX hbl hbA hw.2.2 (lx_ok hi0 hi1 hL (by decide) (by decide)) dL_law_733 ?_
  refine wk_top s4 hs4 ?_
  obtain ⟨fsX12, hfX12, -⟩ := hM.2.1 0 12 kM_at0 (by decide)
  refine lr_call (ci := 12) hC hK hw hA hE hSR (k_X12_way_1 l adK adV dC dI cy adM (100000 + 9000 * i.toInt) (by omega) (by omega) q2 12 s1 s2 s3 s4 wr _ hM) (cwV 4 hC.2.2.2.2 uLV_RL_78 rfl rfl rfl (by decide +kernel) ⟨Nat.le_of_ble_eq_true rfl, Nat.le_of_ble_eq_true rfl⟩) rfl 0 hfX12 rfl hl.1 rfl (by first | exact Nat.le_of_ble_eq_true rfl | decide) dL_law_734 (Nat.le_of_ble_eq_true rfl) (Nat.le_of_ble_eq_true rfl) (fun r2 ur H locs hp2 hw => ?_)
  obtain ⟨hT1, hF1, hg1⟩ := hp1
  obtain ⟨hM1, hF2, hg2⟩ := hp2
  have hR1 : RW ur := RW_FE hF2 (fun _ => rfl) (fun _ => rfl) (fun _ => rfl) hRW
  have hA2 : AIc (sI uc) := AI_FE hAI hF1 rfl
  have hci : gi uc 149 9 = 0 := hF1.gi kC_at149 rfl hLX.2.2.1
  have hf27 : gi ur 0 27 = 1 := hF2.gi kM_at0 rfl hLX.2.2.2.1
  have hf30 : gi ur 0 30 = 0 := hF2.gi kM_at0 rfl hLX.2.2.2.2
  have hRR := RR_C hLX.1 hF1 rfl
  have hRR := RR_M hRR hF2 rfl (fun _ => rfl) (fun _ => rfl) (fun _ => rfl)
  have hXS := XR_C hLX.2.1 hF1 rfl
  have hXS := XR_M hXS hF2 rfl rfl rfl (fun _ => rfl) (fun _ => rfl)
  have hL2 : LX uc ur := ⟨hRR, hXS, hci, hf27, hf30⟩
  have hS1 : SI (sI uc) (sI wr) := SI_C hSI hF1 rfl
  have hS2 : SI (sI uc) (sI ur) := SI_M hS1 hF2 rfl
  have hW2 : WI (sI ur) := WI_M hWI hF2 rfl
  have hX1 : TR (sI uc) (sI wr) := TR_C hXR hF1 rfl (fun _ => rfl) rfl
  have hX2 : TR (sI uc) (sI ur) := TR_M hX1 hF2 rfl (fun _ => rfl) rfl
  have hLI : LI adC adM cy (i.toInt + 6) uc ur := (LI_go hT1 (by omega) hM1 (by omega) hR1 hX2 hS2 hW2 hA2 hL2)
  refine lv_pop hx hb dL_law_737 rfl ?_
  refine lv_goto (tgt := 1252) hx hb dL_law_738 (by decide) ?_
  exact kk H locs uc ur hLI hw
set_option maxHeartbeats 4000000 in
set_option maxRecDepth 100000 in
theorem lc_comes {p : Program} {e : Env} {s : State} {m : MethodId} {below : List Frame} {meth : Method} {c : Code} {l : Launch} {b L : Nat} {xs : Nat → Int32} {adK adV : Nat → Nat} {dC : Nat → ClassId} {dI : Nat → Nat → Nat} {cy : Nat → ClassId} {A : Nat → Prop} (hC : CallFix p m c code 4 s #[Value.ref b] wsR RL) (hK : KK dC dI cy s) (hE : SE adK adV A s s.heap) (hSR : SR adK s) (hA : ∀ q : Nat, s.heap.size ≤ q → A q) (hbA : ¬ A b) (hX : va_X b L xs s s.heap) (hbl : b < s.heap.size) (hL : L ≤ 3072) {adC adM : Nat → Nat} {i : Int32} (hi0 : 0 ≤ i.toInt) (hi1 : i.toInt + 6 ≤ L) {wc wr : va_W} {H : Heap} {locs : List Loc} {ls : Array Slot} (hI : LI adC adM cy i.toInt wc wr) (hw : Wd dC dI A s.heap H locs (wc ++ wr)) (hl : lv_has ls 4 [(3, .int i), (2, .ref (adM 0)), (1, .ref (adC 0)), (0, .ref b)]) (kk : ∀ (H : Heap) (locs : List Loc) (wc wr : va_W), LI adC adM cy (i.toInt + 6) wc wr → Wd dC dI A s.heap H locs (wc ++ wr) → W p l e room_1 s m #[Value.ref b] below meth c H locs 184 18569 (lw_Z below #[Value.ref b] s) (F0 m 1252 ls [])) : W p l e room_1 s m #[Value.ref b] below meth c H locs 184 18569 (lw_Z below #[Value.ref b] s) (F0 m 741 ls []) := by
  have hx := hC.1
  have hb := hC.2.1
  obtain ⟨⟨q1, hT⟩, ⟨q2, hM⟩, hRW, hXR, hSI, hWI, hAI, hLX⟩ := hI
  obtain ⟨s1, hs1⟩ : ∃ y : Int32, xs (i + 1).toNatClampNeg = y := ⟨_, rfl⟩
  obtain ⟨s2, hs2⟩ : ∃ y : Int32, xs (i + 2).toNatClampNeg = y := ⟨_, rfl⟩
  obtain ⟨s3, hs3⟩ : ∃ y : Int32, xs (i + 3).toNatClampNeg = y := ⟨_, rfl⟩
  refine lv_aload_n hx hb dL_law_741 rfl (lv_at hl 2 rfl) ?_
  refine lv_aload_n hx hb dL_law_742 rfl (lv_at hl 3 rfl) ?_
  refine lv_iload_n hx hb dL_law_743 rfl (lv_at hl 0 rfl) ?_
  refine lv_iconst (v := 1) hx hb dL_law_744 (by decide) ?_
  refine lv_iadd hx hb dL_law_745 ?_
  refine va_sld hx hb hX hbl hbA hw.2.2 (lx_ok hi0 hi1 hL (by decide) (by decide)) dL_law_746 ?_
  refine wk_top s1 hs1 ?_
  refine lv_aload_n hx hb dL_law_747 rfl (lv_at hl 3 rfl) ?_
  refine lv_iload_n hx hb dL_law_748 rfl (lv_at hl 0 rfl) ?_
  refine lv_iconst (v := 2) hx hb dL_law_749 (by decide) ?_
  refine lv_iadd hx hb dL_law_750 ?_
  refine va_sld hx hb hX hbl hbA hw.2.2 (lx_ok hi0 hi1 hL (by decide) (by decide)) dL_law_751 ?_
  refine wk_top s2 hs2 ?_
  refine lv_aload_n hx hb dL_law_752 rfl (lv_at hl 3 rfl) ?_
  refine lv_iload_n hx hb dL_law_753 rfl (lv_at hl 0 rfl) ?_
  refine lv_iconst (v := 3) hx hb dL_law_754 (by decide) ?_
  refine lv_iadd hx hb dL_law_755 ?_
  refine va_sld hx hb hX hbl hbA hw.2.2 (lx_ok hi0 hi1 hL (by decide) (by decide)) dL_law_756 ?_
  refine wk_top s3 hs3 ?_
  obtain ⟨fsX11, hfX11, -⟩ := hT.2.1 0 11 kC_at0 (by decide)
  refine lr_call (ci := 11) hC hK hw hA hE hSR (k_X11_comes_1 l adK adV dC dI cy adC (2147483648 + 9000 * i.toInt) (by omega) (by omega) q1 12 s1 s2 s3 wc _ hT) (cwV 3 hC.2.2.2.2 uLV_RL_79 rfl rfl rfl (by decide +kernel) ⟨Nat.le_of_ble_eq_true rfl, Nat.le_of_ble_eq_true rfl⟩) rfl 0 hfX11 rfl hl.1 rfl (by first | exact Nat.le_of_ble_eq_true rfl | decide) dL_law_757 (Nat.le_of_ble_eq_true rfl) (Nat.le_of_ble_eq_true rfl) (fun r1 uc H locs hp1 hw => ?_)
  refine lv_pop hx hb dL_law_760 rfl ?_
  refine lv_aload_n hx hb dL_law_761 rfl (lv_at hl 1 rfl) ?_
  refine lv_aload_n hx hb dL_law_762 rfl (lv_at hl 3 rfl) ?_
  refine lv_iload_n hx hb dL_law_763 rfl (lv_at hl 0 rfl) ?_
  refine lv_iconst (v := 1) hx hb dL_law_764 (by decide) ?_
  refine lv_iadd hx hb dL_law_765 ?_
  refine va_sld hx hb hX hbl hbA hw.2.2 (lx_ok hi0 hi1 hL (by decide) (by decide)) dL_law_766 ?_
  refine wk_top s1 hs1 ?_
  refine lv_aload_n hx hb dL_law_767 rfl (lv_at hl 3 rfl) ?_
  refine lv_iload_n hx hb dL_law_768 rfl (lv_at hl 0 rfl) ?_
  refine lv_iconst (v := 2) hx hb dL_law_769 (by decide) ?_
  refine lv_iadd hx hb dL_law_770 ?_
  refine va_sld hx hb hX hbl hbA hw.2.2 (lx_ok hi0 hi1 hL (by decide) (by decide)) dL_law_771 ?_
  refine wk_top s2 hs2 ?_
  refine lv_aload_n hx hb dL_law_772 rfl (lv_at hl 3 rfl) ?_
  refine lv_iload_n hx hb dL_law_773 rfl (lv_at hl 0 rfl) ?_
  refine lv_iconst (v := 3) hx hb dL_law_774 (by decide) ?_
  refine lv_iadd hx hb dL_law_775 ?_
  refine va_sld hx hb hX hbl hbA hw.2.2 (lx_ok hi0 hi1 hL (by decide) (by decide)) dL_law_776 ?_
  refine wk_top s3 hs3 ?_
  obtain ⟨fsX12, hfX12, -⟩ := hM.2.1 0 12 kM_at0 (by decide)
  refine lr_call (ci := 12) hC hK hw hA hE hSR (k_X12_comes_1 l adK adV dC dI cy adM (100000 + 9000 * i.toInt) (by omega) (by omega) q2 12 s1 s2 s3 wr _ hM hRW) (cwV 3 hC.2.2.2.2 uLV_RL_82 rfl rfl rfl (by decide +kernel) ⟨Nat.le_of_ble_eq_true rfl, Nat.le_of_ble_eq_true rfl⟩) rfl 0 hfX12 rfl hl.1 rfl (by first | exact Nat.le_of_ble_eq_true rfl | decide) dL_law_777 (Nat.le_of_ble_eq_true rfl) (Nat.le_of_ble_eq_true rfl) (fun r2 ur H locs hp2 hw => ?_)
  obtain ⟨hT1, hF1, hg1⟩ := hp1
  obtain ⟨hM1, hF2, hg2⟩ := hp2
  have hR1 : RW ur := RW_FE hF2 (fun _ => rfl) (fun _ => rfl) (fun _ => rfl) hRW
  have hA2 : AIc (sI uc) := hF1.2 hAI
  have hF1 := hF1.1
  have hci : gi uc 149 9 = 0 := hF1.gi kC_at149 rfl hLX.2.2.1
  have hf27 : gi ur 0 27 = 1 := hF2.gi kM_at0 rfl hLX.2.2.2.1
  have hf30 : gi ur 0 30 = 0 := hF2.gi kM_at0 rfl hLX.2.2.2.2
  have hRR := RR_C hLX.1 hF1 rfl
  have hRR := RR_M hRR hF2 rfl (fun _ => rfl) (fun _ => rfl) (fun _ => rfl)
  have hXS := XR_C hLX.2.1 hF1 rfl
  have hsx : SA wr ur := by
    rcases hg2 with hq | hq | hq | hq
    · exact hq.2.2.2.2.2.2
    · exact hq.2.2.2.2.2.2.2
    · exact hq.2.2.2.2.2.2.2.2
    · exact hq.2
  have hXS := XR_Mp hXS hF2 (fun _ => rfl) (fun _ => rfl) hsx
  have hL2 : LX uc ur := ⟨hRR, hXS, hci, hf27, hf30⟩
  have hS1 : SI (sI uc) (sI wr) := SI_C hSI hF1 rfl
  have hsa : SA wr ur := by
    rcases hg2 with hq | hq | hq | hq
    · exact hq.2.2.2.2.2.2
    · exact hq.2.2.2.2.2.2.2
    · exact hq.2.2.2.2.2.2.2.2
    · exact hq.2
  have hS2 : SI (sI uc) (sI ur) := SI_Mp hS1 hF2 (fun _ => rfl) (fun _ => rfl) hsa
  have hW2 : WI (sI ur) := WI_Mp hWI hF2 (fun _ => rfl) (fun _ => rfl) hsa
  have hX1 : TR (sI uc) (sI wr) := TR_C hXR hF1 rfl (fun _ => rfl) rfl
  have hX2 : TR (sI uc) (sI ur) := TR_M hX1 hF2 rfl (fun _ => rfl) rfl
  have hLI : LI adC adM cy (i.toInt + 6) uc ur := (LI_go hT1 (by omega) hM1 (by omega) hR1 hX2 hS2 hW2 hA2 hL2)
  refine lv_pop hx hb dL_law_780 rfl ?_
  refine lv_goto (tgt := 1252) hx hb dL_law_781 (by decide) ?_
  exact kk H locs uc ur hLI hw
set_option maxHeartbeats 4000000 in
set_option maxRecDepth 100000 in
theorem lc_round {p : Program} {e : Env} {s : State} {m : MethodId} {below : List Frame} {meth : Method} {c : Code} {l : Launch} {b L : Nat} {xs : Nat → Int32} {adK adV : Nat → Nat} {dC : Nat → ClassId} {dI : Nat → Nat → Nat} {cy : Nat → ClassId} {A : Nat → Prop} (hC : CallFix p m c code 4 s #[Value.ref b] wsR RL) (hK : KK dC dI cy s) (hE : SE adK adV A s s.heap) (hSR : SR adK s) (hA : ∀ q : Nat, s.heap.size ≤ q → A q) (hbA : ¬ A b) (hX : va_X b L xs s s.heap) (hbl : b < s.heap.size) (hL : L ≤ 3072) {adC adM : Nat → Nat} {i : Int32} (hi0 : 0 ≤ i.toInt) (hi1 : i.toInt + 6 ≤ L) {wc wr : va_W} {H : Heap} {locs : List Loc} {ls : Array Slot} (hI : LI adC adM cy i.toInt wc wr) (hw : Wd dC dI A s.heap H locs (wc ++ wr)) (hl : lv_has ls 4 [(3, .int i), (2, .ref (adM 0)), (1, .ref (adC 0)), (0, .ref b)]) (kk : ∀ (H : Heap) (locs : List Loc) (wc wr : va_W), LI adC adM cy (i.toInt + 6) wc wr → Wd dC dI A s.heap H locs (wc ++ wr) → W p l e room_1 s m #[Value.ref b] below meth c H locs 184 18569 (lw_Z below #[Value.ref b] s) (F0 m 1252 ls [])) : W p l e room_1 s m #[Value.ref b] below meth c H locs 184 18569 (lw_Z below #[Value.ref b] s) (F0 m 784 ls []) := by
  have hx := hC.1
  have hb := hC.2.1
  obtain ⟨⟨q1, hT⟩, ⟨q2, hM⟩, hRW, hXR, hSI, hWI, hAI, hLX⟩ := hI
  obtain ⟨s1, hs1⟩ : ∃ y : Int32, xs (i + 1).toNatClampNeg = y := ⟨_, rfl⟩
  obtain ⟨s2, hs2⟩ : ∃ y : Int32, xs (i + 2).toNatClampNeg = y := ⟨_, rfl⟩
  refine lv_aload_n hx hb dL_law_784 rfl (lv_at hl 2 rfl) ?_
  refine lv_aload_n hx hb dL_law_785 rfl (lv_at hl 3 rfl) ?_
  refine lv_iload_n hx hb dL_law_786 rfl (lv_at hl 0 rfl) ?_
  refine lv_iconst (v := 1) hx hb dL_law_787 (by decide) ?_
  refine lv_iadd hx hb dL_law_788 ?_
  refine va_sld hx hb hX hbl hbA hw.2.2 (lx_ok hi0 hi1 hL (by decide) (by decide)) dL_law_789 ?_
  refine wk_top s1 hs1 ?_
  refine lv_aload_n hx hb dL_law_790 rfl (lv_at hl 3 rfl) ?_
  refine lv_iload_n hx hb dL_law_791 rfl (lv_at hl 0 rfl) ?_
  refine lv_iconst (v := 2) hx hb dL_law_792 (by decide) ?_
  refine lv_iadd hx hb dL_law_793 ?_
  refine va_sld hx hb hX hbl hbA hw.2.2 (lx_ok hi0 hi1 hL (by decide) (by decide)) dL_law_794 ?_
  refine wk_top s2 hs2 ?_
  obtain ⟨fsX11, hfX11, -⟩ := hT.2.1 0 11 kC_at0 (by decide)
  refine lr_call (ci := 11) hC hK hw hA hE hSR (k_X11_round_2 l adK adV dC dI cy adC (2147483648 + 9000 * i.toInt) (by omega) (by omega) q1 12 s1 s2 wc _ hT hLX.2.2.1) (cwV 2 hC.2.2.2.2 uLV_RL_83 rfl rfl rfl (by decide +kernel) ⟨Nat.le_of_ble_eq_true rfl, Nat.le_of_ble_eq_true rfl⟩) rfl 0 hfX11 rfl hl.1 rfl (by first | exact Nat.le_of_ble_eq_true rfl | decide) dL_law_795 (Nat.le_of_ble_eq_true rfl) (Nat.le_of_ble_eq_true rfl) (fun r1 uc H locs hp1 hw => ?_)
  refine lv_pop hx hb dL_law_798 rfl ?_
  refine lv_aload_n hx hb dL_law_799 rfl (lv_at hl 1 rfl) ?_
  refine lv_aload_n hx hb dL_law_800 rfl (lv_at hl 3 rfl) ?_
  refine lv_iload_n hx hb dL_law_801 rfl (lv_at hl 0 rfl) ?_
  refine lv_iconst (v := 1) hx hb dL_law_802 (by decide) ?_
  refine lv_iadd hx hb dL_law_803 ?_
  refine va_sld hx hb hX hbl hbA hw.2.2 (lx_ok hi0 hi1 hL (by decide) (by decide)) dL_law_804 ?_
  refine wk_top s1 hs1 ?_
  refine lv_aload_n hx hb dL_law_805 rfl (lv_at hl 3 rfl) ?_
  refine lv_iload_n hx hb dL_law_806 rfl (lv_at hl 0 rfl) ?_
  refine lv_iconst (v := 2) hx hb dL_law_807 (by decide) ?_
  refine lv_iadd hx hb dL_law_808 ?_
  refine va_sld hx hb hX hbl hbA hw.2.2 (lx_ok hi0 hi1 hL (by decide) (by decide)) dL_law_809 ?_
  refine wk_top s2 hs2 ?_
  obtain ⟨fsX12, hfX12, -⟩ := hM.2.1 0 12 kM_at0 (by decide)
  refine lr_call (ci := 12) hC hK hw hA hE hSR (k_X12_round_3 l adK adV dC dI cy adM (100000 + 9000 * i.toInt) (by omega) (by omega) q2 12 s1 s2 wr _ hM hLX.2.2.2.1 hLX.2.2.2.2 hRW) (cwV 2 hC.2.2.2.2 uLV_RL_86 rfl rfl rfl (by decide +kernel) ⟨Nat.le_of_ble_eq_true rfl, Nat.le_of_ble_eq_true rfl⟩) rfl 0 hfX12 rfl hl.1 rfl (by first | exact Nat.le_of_ble_eq_true rfl | decide) dL_law_810 (Nat.le_of_ble_eq_true rfl) (Nat.le_of_ble_eq_true rfl) (fun r2 ur H locs hp2 hw => ?_)
  obtain ⟨hT1, hF1, hg1⟩ := hp1
  obtain ⟨hM1, hF2, hg2⟩ := hp2
  have hR1 : RW ur := RW_FE hF2 (fun _ => rfl) (fun _ => rfl) (fun _ => rfl) hRW
  have hA2 : AIc (sI uc) := hF1.2 hAI
  have hF1 := hF1.1
  have hci : gi uc 149 9 = 0 := by
    rcases hg1 with hq | hq | hq | hq
    · obtain ⟨y, e1, e2, e3⟩ := hq.2.2.2.2.2.2.1; rw [e1]; exact wk_eq.mpr (show y.toInt = (0 : Int32).toInt by rw [show (0 : Int32).toInt = 0 by decide]; omega)
    · obtain ⟨y, e1, e2, e3⟩ := hq.2.2.2.2.2.1; rw [e1]; exact wk_eq.mpr (show y.toInt = (0 : Int32).toInt by rw [show (0 : Int32).toInt = 0 by decide]; omega)
    · obtain ⟨y, e1, e2, e3⟩ := hq.2.2.2.2.2.2.1; rw [e1]; exact wk_eq.mpr (show y.toInt = (0 : Int32).toInt by rw [show (0 : Int32).toInt = 0 by decide]; omega)
    · obtain ⟨y, e1, e2, e3⟩ := hq.2; rw [e1]; exact wk_eq.mpr (show y.toInt = (0 : Int32).toInt by rw [show (0 : Int32).toInt = 0 by decide]; omega)
  have hf27 : gi ur 0 27 = 1 := by
    rcases hg2 with hq | hq
    · obtain ⟨y, e1, e2, e3⟩ := hq.2.2.2.2.2.2.1; rw [e1]; exact wk_eq.mpr (show y.toInt = (1 : Int32).toInt by rw [show (1 : Int32).toInt = 1 by decide]; omega)
    · obtain ⟨y, e1, e2, e3⟩ := hq.2.1; rw [e1]; exact wk_eq.mpr (show y.toInt = (1 : Int32).toInt by rw [show (1 : Int32).toInt = 1 by decide]; omega)
  have hf30 : gi ur 0 30 = 0 := by
    rcases hg2 with hq | hq
    · obtain ⟨y, e1, e2, e3⟩ := hq.2.2.2.2.2.2.2.1; rw [e1]; exact wk_eq.mpr (show y.toInt = (0 : Int32).toInt by rw [show (0 : Int32).toInt = 0 by decide]; omega)
    · obtain ⟨y, e1, e2, e3⟩ := hq.2.2.1; rw [e1]; exact wk_eq.mpr (show y.toInt = (0 : Int32).toInt by rw [show (0 : Int32).toInt = 0 by decide]; omega)
  have hRR := RR_C hLX.1 hF1 rfl
  have hRR := RR_M hRR hF2 rfl (fun _ => rfl) (fun _ => rfl) (fun _ => rfl)
  have hXS := XR_C hLX.2.1 hF1 rfl
  have hsx : SA wr ur := by
    rcases hg2 with hq | hq
    · exact hq.2.2.2.2.2.2.2.2
    · exact hq.2.2.2
  have hXS := XR_Mp hXS hF2 (fun _ => rfl) (fun _ => rfl) hsx
  have hL2 : LX uc ur := ⟨hRR, hXS, hci, hf27, hf30⟩
  have hS1 : SI (sI uc) (sI wr) := SI_C hSI hF1 rfl
  have hsa : SA wr ur := by
    rcases hg2 with hq | hq
    · exact hq.2.2.2.2.2.2.2.2
    · exact hq.2.2.2
  have hS2 : SI (sI uc) (sI ur) := SI_Mp hS1 hF2 (fun _ => rfl) (fun _ => rfl) hsa
  have hW2 : WI (sI ur) := WI_Mp hWI hF2 (fun _ => rfl) (fun _ => rfl) hsa
  have hX1 : TR (sI uc) (sI wr) := TR_C hXR hF1 rfl (fun _ => rfl) rfl
  have hX2 : TR (sI uc) (sI ur) := TR_M hX1 hF2 rfl (fun _ => rfl) rfl
  have hLI : LI adC adM cy (i.toInt + 6) uc ur := (LI_go hT1 (by omega) hM1 (by omega) hR1 hX2 hS2 hW2 hA2 hL2)
  refine lv_pop hx hb dL_law_813 rfl ?_
  refine lv_goto (tgt := 1252) hx hb dL_law_814 (by decide) ?_
  exact kk H locs uc ur hLI hw
set_option maxHeartbeats 4000000 in
set_option maxRecDepth 100000 in
theorem lc_questions {p : Program} {e : Env} {s : State} {m : MethodId} {below : List Frame} {meth : Method} {c : Code} {l : Launch} {b L : Nat} {xs : Nat → Int32} {adK adV : Nat → Nat} {dC : Nat → ClassId} {dI : Nat → Nat → Nat} {cy : Nat → ClassId} {A : Nat → Prop} (hC : CallFix p m c code 4 s #[Value.ref b] wsR RL) (hK : KK dC dI cy s) (hE : SE adK adV A s s.heap) (hSR : SR adK s) (hA : ∀ q : Nat, s.heap.size ≤ q → A q) (hbA : ¬ A b) (hX : va_X b L xs s s.heap) (hbl : b < s.heap.size) (hL : L ≤ 3072) {adC adM : Nat → Nat} {i : Int32} (hi0 : 0 ≤ i.toInt) (hi1 : i.toInt + 6 ≤ L) {wc wr : va_W} {H : Heap} {locs : List Loc} {ls : Array Slot} (hI : LI adC adM cy i.toInt wc wr) (hw : Wd dC dI A s.heap H locs (wc ++ wr)) (hl : lv_has ls 4 [(3, .int i), (2, .ref (adM 0)), (1, .ref (adC 0)), (0, .ref b)]) (kk : ∀ (H : Heap) (locs : List Loc) (wc wr : va_W), LI adC adM cy (i.toInt + 6) wc wr → Wd dC dI A s.heap H locs (wc ++ wr) → W p l e room_1 s m #[Value.ref b] below meth c H locs 184 18569 (lw_Z below #[Value.ref b] s) (F0 m 1252 ls [])) : W p l e room_1 s m #[Value.ref b] below meth c H locs 184 18569 (lw_Z below #[Value.ref b] s) (F0 m 817 ls []) := by
  have hx := hC.1
  have hb := hC.2.1
  obtain ⟨⟨q1, hT⟩, ⟨q2, hM⟩, hRW, hXR, hSI, hWI, hAI, hLX⟩ := hI
  obtain ⟨s1, hs1⟩ : ∃ y : Int32, xs (i + 1).toNatClampNeg = y := ⟨_, rfl⟩
  obtain ⟨s2, hs2⟩ : ∃ y : Int32, xs (i + 2).toNatClampNeg = y := ⟨_, rfl⟩
  refine lv_aload_n hx hb dL_law_817 rfl (lv_at hl 2 rfl) ?_
  refine lv_aload_n hx hb dL_law_818 rfl (lv_at hl 3 rfl) ?_
  refine lv_iload_n hx hb dL_law_819 rfl (lv_at hl 0 rfl) ?_
  refine lv_iconst (v := 1) hx hb dL_law_820 (by decide) ?_
  refine lv_iadd hx hb dL_law_821 ?_
  refine va_sld hx hb hX hbl hbA hw.2.2 (lx_ok hi0 hi1 hL (by decide) (by decide)) dL_law_822 ?_
  refine wk_top s1 hs1 ?_
  refine lv_aload_n hx hb dL_law_823 rfl (lv_at hl 3 rfl) ?_
  refine lv_iload_n hx hb dL_law_824 rfl (lv_at hl 0 rfl) ?_
  refine lv_iconst (v := 2) hx hb dL_law_825 (by decide) ?_
  refine lv_iadd hx hb dL_law_826 ?_
  refine va_sld hx hb hX hbl hbA hw.2.2 (lx_ok hi0 hi1 hL (by decide) (by decide)) dL_law_827 ?_
  refine wk_top s2 hs2 ?_
  obtain ⟨fsX11, hfX11, -⟩ := hT.2.1 0 11 kC_at0 (by decide)
  refine lr_call (ci := 11) hC hK hw hA hE hSR (k_X11_questions_1 l adK adV dC dI cy adC (2147483648 + 9000 * i.toInt) (by omega) (by omega) q1 12 s1 s2 wc _ hT) (cwV 2 hC.2.2.2.2 uLV_RL_87 rfl rfl rfl (by decide +kernel) ⟨Nat.le_of_ble_eq_true rfl, Nat.le_of_ble_eq_true rfl⟩) rfl 0 hfX11 rfl hl.1 rfl (by first | exact Nat.le_of_ble_eq_true rfl | decide) dL_law_828 (Nat.le_of_ble_eq_true rfl) (Nat.le_of_ble_eq_true rfl) (fun r1 uc H locs hp1 hw => ?_)
  refine lv_pop hx hb dL_law_831 rfl ?_
  refine lv_aload_n hx hb dL_law_832 rfl (lv_at hl 1 rfl) ?_
  refine lv_aload_n hx hb dL_law_833 rfl (lv_at hl 3 rfl) ?_
  refine lv_iload_n hx hb dL_law_834 rfl (lv_at hl 0 rfl) ?_
  refine lv_iconst (v := 1) hx hb dL_law_835 (by decide) ?_
  refine lv_iadd hx hb dL_law_836 ?_
  refine va_sld hx hb hX hbl hbA hw.2.2 (lx_ok hi0 hi1 hL (by decide) (by decide)) dL_law_837 ?_
  refine wk_top s1 hs1 ?_
  refine lv_aload_n hx hb dL_law_838 rfl (lv_at hl 3 rfl) ?_
  refine lv_iload_n hx hb dL_law_839 rfl (lv_at hl 0 rfl) ?_
  refine lv_iconst (v := 2) hx hb dL_law_840 (by decide) ?_
  refine lv_iadd hx hb dL_law_841 ?_
  refine va_sld hx hb hX hbl hbA hw.2.2 (lx_ok hi0 hi1 hL (by decide) (by decide)) dL_law_842 ?_
  refine wk_top s2 hs2 ?_
  obtain ⟨fsX12, hfX12, -⟩ := hM.2.1 0 12 kM_at0 (by decide)
  refine lr_call (ci := 12) hC hK hw hA hE hSR (k_X12_questions_1 l adK adV dC dI cy adM (100000 + 9000 * i.toInt) (by omega) (by omega) q2 12 s1 s2 wr _ hM) (cwV 2 hC.2.2.2.2 uLV_RL_90 rfl rfl rfl (by decide +kernel) ⟨Nat.le_of_ble_eq_true rfl, Nat.le_of_ble_eq_true rfl⟩) rfl 0 hfX12 rfl hl.1 rfl (by first | exact Nat.le_of_ble_eq_true rfl | decide) dL_law_843 (Nat.le_of_ble_eq_true rfl) (Nat.le_of_ble_eq_true rfl) (fun r2 ur H locs hp2 hw => ?_)
  obtain ⟨hT1, hF1, hg1⟩ := hp1
  obtain ⟨hM1, hF2, hg2⟩ := hp2
  have hR1 : RW ur := RW_FE hF2 (fun _ => rfl) (fun _ => rfl) (fun _ => rfl) hRW
  have hA2 : AIc (sI uc) := hF1.2 hAI
  have hF1 := hF1.1
  have hci : gi uc 149 9 = 0 := hF1.gi kC_at149 rfl hLX.2.2.1
  have hf27 : gi ur 0 27 = 1 := hF2.gi kM_at0 rfl hLX.2.2.2.1
  have hf30 : gi ur 0 30 = 0 := hF2.gi kM_at0 rfl hLX.2.2.2.2
  have hRR := RR_C hLX.1 hF1 rfl
  have hRR := RR_M hRR hF2 rfl (fun _ => rfl) (fun _ => rfl) (fun _ => rfl)
  have hXS := XR_C hLX.2.1 hF1 rfl
  have hXS := XR_M hXS hF2 rfl rfl rfl (fun _ => rfl) (fun _ => rfl)
  have hL2 : LX uc ur := ⟨hRR, hXS, hci, hf27, hf30⟩
  have hS1 : SI (sI uc) (sI wr) := SI_C hSI hF1 rfl
  have hS2 : SI (sI uc) (sI ur) := SI_M hS1 hF2 rfl
  have hW2 : WI (sI ur) := WI_M hWI hF2 rfl
  have hX1 : TR (sI uc) (sI wr) := TR_C hXR hF1 rfl (fun _ => rfl) rfl
  have hX2 : TR (sI uc) (sI ur) := TR_M hX1 hF2 rfl (fun _ => rfl) rfl
  have hLI : LI adC adM cy (i.toInt + 6) uc ur := (LI_go hT1 (by omega) hM1 (by omega) hR1 hX2 hS2 hW2 hA2 hL2)
  refine lv_pop hx hb dL_law_846 rfl ?_
  refine lv_goto (tgt := 1252) hx hb dL_law_847 (by decide) ?_
  exact kk H locs uc ur hLI hw
set_option maxHeartbeats 4000000 in
set_option maxRecDepth 100000 in
theorem lc_cheap {p : Program} {e : Env} {s : State} {m : MethodId} {below : List Frame} {meth : Method} {c : Code} {l : Launch} {b L : Nat} {xs : Nat → Int32} {adK adV : Nat → Nat} {dC : Nat → ClassId} {dI : Nat → Nat → Nat} {cy : Nat → ClassId} {A : Nat → Prop} (hC : CallFix p m c code 4 s #[Value.ref b] wsR RL) (hK : KK dC dI cy s) (hE : SE adK adV A s s.heap) (hSR : SR adK s) (hA : ∀ q : Nat, s.heap.size ≤ q → A q) (hbA : ¬ A b) (hX : va_X b L xs s s.heap) (hbl : b < s.heap.size) (hL : L ≤ 3072) {adC adM : Nat → Nat} {i : Int32} (hi0 : 0 ≤ i.toInt) (hi1 : i.toInt + 6 ≤ L) {wc wr : va_W} {H : Heap} {locs : List Loc} {ls : Array Slot} (hI : LI adC adM cy i.toInt wc wr) (hw : Wd dC dI A s.heap H locs (wc ++ wr)) (hl : lv_has ls 4 [(3, .int i), (2, .ref (adM 0)), (1, .ref (adC 0)), (0, .ref b)]) (kk : ∀ (H : Heap) (locs : List Loc) (wc wr : va_W), LI adC adM cy (i.toInt + 6) wc wr → Wd dC dI A s.heap H locs (wc ++ wr) → W p l e room_1 s m #[Value.ref b] below meth c H locs 184 18569 (lw_Z below #[Value.ref b] s) (F0 m 1252 ls [])) : W p l e room_1 s m #[Value.ref b] below meth c H locs 184 18569 (lw_Z below #[Value.ref b] s) (F0 m 850 ls []) := by
  have hx := hC.1
  have hb := hC.2.1
  obtain ⟨⟨q1, hT⟩, ⟨q2, hM⟩, hRW, hXR, hSI, hWI, hAI, hLX⟩ := hI
  obtain ⟨s1, hs1⟩ : ∃ y : Int32, xs (i + 1).toNatClampNeg = y := ⟨_, rfl⟩
  refine lv_aload_n hx hb dL_law_850 rfl (lv_at hl 2 rfl) ?_
  refine lv_aload_n hx hb dL_law_851 rfl (lv_at hl 3 rfl) ?_
  refine lv_iload_n hx hb dL_law_852 rfl (lv_at hl 0 rfl) ?_
  refine lv_iconst (v := 1) hx hb dL_law_853 (by decide) ?_
  refine lv_iadd hx hb dL_law_854 ?_
  refine va_sld hx hb hX hbl hbA hw.2.2 (lx_ok hi0 hi1 hL (by decide) (by decide)) dL_law_855 ?_
  refine wk_top s1 hs1 ?_
  obtain ⟨fsX11, hfX11, -⟩ := hT.2.1 0 11 kC_at0 (by decide)
  refine lr_call (ci := 11) hC hK hw hA hE hSR (kz_X11_cheap_1 l adK adV dC dI cy adC (2147483648 + 9000 * i.toInt) (by omega) (by omega) q1 12 s1 wc _ hT) (cwV 1 hC.2.2.2.2 uLV_RL_91 rfl rfl rfl (by decide +kernel) ⟨Nat.le_of_ble_eq_true rfl, Nat.le_of_ble_eq_true rfl⟩) rfl 0 hfX11 rfl hl.1 rfl (by first | exact Nat.le_of_ble_eq_true rfl | decide) dL_law_856 (Nat.le_of_ble_eq_true rfl) (Nat.le_of_ble_eq_true rfl) (fun r1 uc H locs hp1 hw => ?_)
  refine lv_pop hx hb dL_law_859 rfl ?_
  refine lv_aload_n hx hb dL_law_860 rfl (lv_at hl 1 rfl) ?_
  refine lv_aload_n hx hb dL_law_861 rfl (lv_at hl 3 rfl) ?_
  refine lv_iload_n hx hb dL_law_862 rfl (lv_at hl 0 rfl) ?_
  refine lv_iconst (v := 1) hx hb dL_law_863 (by decide) ?_
  refine lv_iadd hx hb dL_law_864 ?_
  refine va_sld hx hb hX hbl hbA hw.2.2 (lx_ok hi0 hi1 hL (by decide) (by decide)) dL_law_865 ?_
  refine wk_top s1 hs1 ?_
  obtain ⟨fsX12, hfX12, -⟩ := hM.2.1 0 12 kM_at0 (by decide)
  refine lr_call (ci := 12) hC hK hw hA hE hSR (kz_X12_cheap_1 l adK adV dC dI cy adM (100000 + 9000 * i.toInt) (by omega) (by omega) q2 12 s1 wr _ hM) (cwV 1 hC.2.2.2.2 uLV_RL_94 rfl rfl rfl (by decide +kernel) ⟨Nat.le_of_ble_eq_true rfl, Nat.le_of_ble_eq_true rfl⟩) rfl 0 hfX12 rfl hl.1 rfl (by first | exact Nat.le_of_ble_eq_true rfl | decide) dL_law_866 (Nat.le_of_ble_eq_true rfl) (Nat.le_of_ble_eq_true rfl) (fun r2 ur H locs hp2 hw => ?_)
  obtain ⟨hT1, hF1, hE1, hg1⟩ := hp1
  obtain ⟨he2, hE2, hg2⟩ := hp2
  have hM1 := hM
  rw [he2] at hM1
  have hR1 := hRW
  rw [he2] at hR1
  have hA2 : AIc (sI uc) := AI_FE hAI hF1 rfl
  have hci : gi uc 149 9 = 0 := hF1.gi kC_at149 rfl hLX.2.2.1
  have hf27 := hLX.2.2.2.1
  have hf30 := hLX.2.2.2.2
  rw [he2] at hf27 hf30
  have hRR := RR_C hLX.1 hF1 rfl
  rw [he2] at hRR
  have hXS := XR_C hLX.2.1 hF1 rfl
  rw [he2] at hXS
  have hL2 : LX uc ur := ⟨hRR, hXS, hci, hf27, hf30⟩
  have hS1 : SI (sI uc) (sI wr) := SI_C hSI hF1 rfl
  have hS2 := hS1
  rw [he2] at hS2
  have hW2 := hWI
  rw [he2] at hW2
  have hX1 : TR (sI uc) (sI wr) := TR_C hXR hF1 rfl (fun _ => rfl) rfl
  have hX2 := hX1
  rw [he2] at hX2
  have hLI : LI adC adM cy (i.toInt + 6) uc ur := (LI_go hT1 (by omega) hM1 (by omega) hR1 hX2 hS2 hW2 hA2 hL2)
  refine lv_pop hx hb dL_law_869 rfl ?_
  refine lv_goto (tgt := 1252) hx hb dL_law_870 (by decide) ?_
  exact kk H locs uc ur hLI hw
set_option maxHeartbeats 4000000 in
set_option maxRecDepth 100000 in
theorem lc_wrong {p : Program} {e : Env} {s : State} {m : MethodId} {below : List Frame} {meth : Method} {c : Code} {l : Launch} {b L : Nat} {xs : Nat → Int32} {adK adV : Nat → Nat} {dC : Nat → ClassId} {dI : Nat → Nat → Nat} {cy : Nat → ClassId} {A : Nat → Prop} (hC : CallFix p m c code 4 s #[Value.ref b] wsR RL) (hK : KK dC dI cy s) (hE : SE adK adV A s s.heap) (hSR : SR adK s) (hA : ∀ q : Nat, s.heap.size ≤ q → A q) (hbA : ¬ A b) (hX : va_X b L xs s s.heap) (hbl : b < s.heap.size) (hL : L ≤ 3072) {adC adM : Nat → Nat} {i : Int32} (hi0 : 0 ≤ i.toInt) (hi1 : i.toInt + 6 ≤ L) {wc wr : va_W} {H : Heap} {locs : List Loc} {ls : Array Slot} (hI : LI adC adM cy i.toInt wc wr) (hw : Wd dC dI A s.heap H locs (wc ++ wr)) (hl : lv_has ls 4 [(3, .int i), (2, .ref (adM 0)), (1, .ref (adC 0)), (0, .ref b)]) (kk : ∀ (H : Heap) (locs : List Loc) (wc wr : va_W), LI adC adM cy (i.toInt + 6) wc wr → Wd dC dI A s.heap H locs (wc ++ wr) → W p l e room_1 s m #[Value.ref b] below meth c H locs 184 18569 (lw_Z below #[Value.ref b] s) (F0 m 1252 ls [])) : W p l e room_1 s m #[Value.ref b] below meth c H locs 184 18569 (lw_Z below #[Value.ref b] s) (F0 m 873 ls []) := by
  have hx := hC.1
  have hb := hC.2.1
  obtain ⟨⟨q1, hT⟩, ⟨q2, hM⟩, hRW, hXR, hSI, hWI, hAI, hLX⟩ := hI
  obtain ⟨s1, hs1⟩ : ∃ y : Int32, xs (i + 1).toNatClampNeg = y := ⟨_, rfl⟩
  refine lv_aload_n hx hb dL_law_873 rfl (lv_at hl 2 rfl) ?_
  refine lv_aload_n hx hb dL_law_874 rfl (lv_at hl 3 rfl) ?_
  refine lv_iload_n hx hb dL_law_875 rfl (lv_at hl 0 rfl) ?_
  refine lv_iconst (v := 1) hx hb dL_law_876 (by decide) ?_
  refine lv_iadd hx hb dL_law_877 ?_
  refine va_sld hx hb hX hbl hbA hw.2.2 (lx_ok hi0 hi1 hL (by decide) (by decide)) dL_law_878 ?_
  refine wk_top s1 hs1 ?_
  obtain ⟨fsX11, hfX11, -⟩ := hT.2.1 0 11 kC_at0 (by decide)
  refine lr_call (ci := 11) hC hK hw hA hE hSR (kz_X11_wrong_1 l adK adV dC dI cy adC (2147483648 + 9000 * i.toInt) (by omega) (by omega) q1 12 s1 wc _ hT) (cwV 1 hC.2.2.2.2 uLV_RL_95 rfl rfl rfl (by decide +kernel) ⟨Nat.le_of_ble_eq_true rfl, Nat.le_of_ble_eq_true rfl⟩) rfl 0 hfX11 rfl hl.1 rfl (by first | exact Nat.le_of_ble_eq_true rfl | decide) dL_law_879 (Nat.le_of_ble_eq_true rfl) (Nat.le_of_ble_eq_true rfl) (fun r1 uc H locs hp1 hw => ?_)
  refine lv_pop hx hb dL_law_882 rfl ?_
  refine lv_aload_n hx hb dL_law_883 rfl (lv_at hl 1 rfl) ?_
  refine lv_aload_n hx hb dL_law_884 rfl (lv_at hl 3 rfl) ?_
  refine lv_iload_n hx hb dL_law_885 rfl (lv_at hl 0 rfl) ?_
  refine lv_iconst (v := 1) hx hb dL_law_886 (by decide) ?_
  refine lv_iadd hx hb dL_law_887 ?_
  refine va_sld hx hb hX hbl hbA hw.2.2 (lx_ok hi0 hi1 hL (by decide) (by decide)) dL_law_888 ?_
  refine wk_top s1 hs1 ?_
  obtain ⟨fsX12, hfX12, -⟩ := hM.2.1 0 12 kM_at0 (by decide)
  refine lr_call (ci := 12) hC hK hw hA hE hSR (kz_X12_wrong_1 l adK adV dC dI cy adM (100000 + 9000 * i.toInt) (by omega) (by omega) q2 12 s1 wr _ hM) (cwV 1 hC.2.2.2.2 uLV_RL_98 rfl rfl rfl (by decide +kernel) ⟨Nat.le_of_ble_eq_true rfl, Nat.le_of_ble_eq_true rfl⟩) rfl 0 hfX12 rfl hl.1 rfl (by first | exact Nat.le_of_ble_eq_true rfl | decide) dL_law_889 (Nat.le_of_ble_eq_true rfl) (Nat.le_of_ble_eq_true rfl) (fun r2 ur H locs hp2 hw => ?_)
  obtain ⟨hT1, hF1, hE1, hg1⟩ := hp1
  obtain ⟨he2, hE2, hg2⟩ := hp2
  have hM1 := hM
  rw [he2] at hM1
  have hR1 := hRW
  rw [he2] at hR1
  have hA2 : AIc (sI uc) := AI_FE hAI hF1 rfl
  have hci : gi uc 149 9 = 0 := hF1.gi kC_at149 rfl hLX.2.2.1
  have hf27 := hLX.2.2.2.1
  have hf30 := hLX.2.2.2.2
  rw [he2] at hf27 hf30
  have hRR := RR_C hLX.1 hF1 rfl
  rw [he2] at hRR
  have hXS := XR_C hLX.2.1 hF1 rfl
  rw [he2] at hXS
  have hL2 : LX uc ur := ⟨hRR, hXS, hci, hf27, hf30⟩
  have hS1 : SI (sI uc) (sI wr) := SI_C hSI hF1 rfl
  have hS2 := hS1
  rw [he2] at hS2
  have hW2 := hWI
  rw [he2] at hW2
  have hX1 : TR (sI uc) (sI wr) := TR_C hXR hF1 rfl (fun _ => rfl) rfl
  have hX2 := hX1
  rw [he2] at hX2
  have hLI : LI adC adM cy (i.toInt + 6) uc ur := (LI_go hT1 (by omega) hM1 (by omega) hR1 hX2 hS2 hW2 hA2 hL2)
  refine lv_pop hx hb dL_law_892 rfl ?_
  refine lv_goto (tgt := 1252) hx hb dL_law_893 (by decide) ?_
  exact kk H locs uc ur hLI hw
set_option maxHeartbeats 4000000 in
set_option maxRecDepth 100000 in
theorem lc_errand {p : Program} {e : Env} {s : State} {m : MethodId} {below : List Frame} {meth : Method} {c : Code} {l : Launch} {b L : Nat} {xs : Nat → Int32} {adK adV : Nat → Nat} {dC : Nat → ClassId} {dI : Nat → Nat → Nat} {cy : Nat → ClassId} {A : Nat → Prop} (hC : CallFix p m c code 4 s #[Value.ref b] wsR RL) (hK : KK dC dI cy s) (hE : SE adK adV A s s.heap) (hSR : SR adK s) (hA : ∀ q : Nat, s.heap.size ≤ q → A q) (hbA : ¬ A b) (hX : va_X b L xs s s.heap) (hbl : b < s.heap.size) (hL : L ≤ 3072) {adC adM : Nat → Nat} {i : Int32} (hi0 : 0 ≤ i.toInt) (hi1 : i.toInt + 6 ≤ L) {wc wr : va_W} {H : Heap} {locs : List Loc} {ls : Array Slot} (hI : LI adC adM cy i.toInt wc wr) (hw : Wd dC dI A s.heap H locs (wc ++ wr)) (hl : lv_has ls 4 [(3, .int i), (2, .ref (adM 0)), (1, .ref (adC 0)), (0, .ref b)]) (kk : ∀ (H : Heap) (locs : List Loc) (wc wr : va_W), LI adC adM cy (i.toInt + 6) wc wr → Wd dC dI A s.heap H locs (wc ++ wr) → W p l e room_1 s m #[Value.ref b] below meth c H locs 184 18569 (lw_Z below #[Value.ref b] s) (F0 m 1252 ls [])) : W p l e room_1 s m #[Value.ref b] below meth c H locs 184 18569 (lw_Z below #[Value.ref b] s) (F0 m 896 ls []) := by
  have hx := hC.1
  have hb := hC.2.1
  obtain ⟨⟨q1, hT⟩, ⟨q2, hM⟩, hRW, hXR, hSI, hWI, hAI, hLX⟩ := hI
  obtain ⟨s1, hs1⟩ : ∃ y : Int32, xs (i + 1).toNatClampNeg = y := ⟨_, rfl⟩
  obtain ⟨s2, hs2⟩ : ∃ y : Int32, xs (i + 2).toNatClampNeg = y := ⟨_, rfl⟩
  refine lv_aload_n hx hb dL_law_896 rfl (lv_at hl 2 rfl) ?_
  refine lv_aload_n hx hb dL_law_897 rfl (lv_at hl 3 rfl) ?_
  refine lv_iload_n hx hb dL_law_898 rfl (lv_at hl 0 rfl) ?_
  refine lv_iconst (v := 1) hx hb dL_law_899 (by decide) ?_
  refine lv_iadd hx hb dL_law_900 ?_
  refine va_sld hx hb hX hbl hbA hw.2.2 (lx_ok hi0 hi1 hL (by decide) (by decide)) dL_law_901 ?_
  refine wk_top s1 hs1 ?_
  refine lv_aload_n hx hb dL_law_902 rfl (lv_at hl 3 rfl) ?_
  refine lv_iload_n hx hb dL_law_903 rfl (lv_at hl 0 rfl) ?_
  refine lv_iconst (v := 2) hx hb dL_law_904 (by decide) ?_
  refine lv_iadd hx hb dL_law_905 ?_
  refine va_sld hx hb hX hbl hbA hw.2.2 (lx_ok hi0 hi1 hL (by decide) (by decide)) dL_law_906 ?_
  refine wk_top s2 hs2 ?_
  obtain ⟨fsX11, hfX11, -⟩ := hT.2.1 0 11 kC_at0 (by decide)
  refine lr_call (ci := 11) hC hK hw hA hE hSR (kz_X11_errand_1 l adK adV dC dI cy adC (2147483648 + 9000 * i.toInt) (by omega) (by omega) q1 12 s1 s2 wc _ hT) (cwV 2 hC.2.2.2.2 uLV_RL_99 rfl rfl rfl (by decide +kernel) ⟨Nat.le_of_ble_eq_true rfl, Nat.le_of_ble_eq_true rfl⟩) rfl 0 hfX11 rfl hl.1 rfl (by first | exact Nat.le_of_ble_eq_true rfl | decide) dL_law_907 (Nat.le_of_ble_eq_true rfl) (Nat.le_of_ble_eq_true rfl) (fun r1 uc H locs hp1 hw => ?_)
  refine lv_pop hx hb dL_law_910 rfl ?_
  refine lv_aload_n hx hb dL_law_911 rfl (lv_at hl 1 rfl) ?_
  refine lv_aload_n hx hb dL_law_912 rfl (lv_at hl 3 rfl) ?_
  refine lv_iload_n hx hb dL_law_913 rfl (lv_at hl 0 rfl) ?_
  refine lv_iconst (v := 1) hx hb dL_law_914 (by decide) ?_
  refine lv_iadd hx hb dL_law_915 ?_
  refine va_sld hx hb hX hbl hbA hw.2.2 (lx_ok hi0 hi1 hL (by decide) (by decide)) dL_law_916 ?_
  refine wk_top s1 hs1 ?_
  refine lv_aload_n hx hb dL_law_917 rfl (lv_at hl 3 rfl) ?_
  refine lv_iload_n hx hb dL_law_918 rfl (lv_at hl 0 rfl) ?_
  refine lv_iconst (v := 2) hx hb dL_law_919 (by decide) ?_
  refine lv_iadd hx hb dL_law_920 ?_
  refine va_sld hx hb hX hbl hbA hw.2.2 (lx_ok hi0 hi1 hL (by decide) (by decide)) dL_law_921 ?_
  refine wk_top s2 hs2 ?_
  obtain ⟨fsX12, hfX12, -⟩ := hM.2.1 0 12 kM_at0 (by decide)
  refine lr_call (ci := 12) hC hK hw hA hE hSR (kz_X12_errand_1 l adK adV dC dI cy adM (100000 + 9000 * i.toInt) (by omega) (by omega) q2 12 s1 s2 wr _ hM) (cwV 2 hC.2.2.2.2 uLV_RL_102 rfl rfl rfl (by decide +kernel) ⟨Nat.le_of_ble_eq_true rfl, Nat.le_of_ble_eq_true rfl⟩) rfl 0 hfX12 rfl hl.1 rfl (by first | exact Nat.le_of_ble_eq_true rfl | decide) dL_law_922 (Nat.le_of_ble_eq_true rfl) (Nat.le_of_ble_eq_true rfl) (fun r2 ur H locs hp2 hw => ?_)
  obtain ⟨hT1, hF1, hE1, hg1⟩ := hp1
  obtain ⟨hM1, hF2, hE2, hg2⟩ := hp2
  have hR1 : RW ur := RW_FE hF2 (fun _ => rfl) (fun _ => rfl) (fun _ => rfl) hRW
  have hA2 : AIc (sI uc) := AI_FE hAI hF1 rfl
  have hci : gi uc 149 9 = 0 := hF1.gi kC_at149 rfl hLX.2.2.1
  have hf27 : gi ur 0 27 = 1 := hF2.gi kM_at0 rfl hLX.2.2.2.1
  have hf30 : gi ur 0 30 = 0 := hF2.gi kM_at0 rfl hLX.2.2.2.2
  have hRR := RR_C hLX.1 hF1 rfl
  have hRR := RR_M hRR hF2 rfl (fun _ => rfl) (fun _ => rfl) (fun _ => rfl)
  have hXS := XR_C hLX.2.1 hF1 rfl
  have hXS := XR_M hXS hF2 rfl rfl rfl (fun _ => rfl) (fun _ => rfl)
  have hL2 : LX uc ur := ⟨hRR, hXS, hci, hf27, hf30⟩
  have hrx := SI_errand hSI hE1 hE2
  have hS2 := hrx.2
  have hW2 := EW_errand hWI hE2
  have hX1 : TR (sI uc) (sI wr) := TR_C hXR hF1 rfl (fun _ => rfl) rfl
  have hX2 : TR (sI uc) (sI ur) := TR_M hX1 hF2 rfl (fun _ => rfl) rfl
  have hLI : LI adC adM cy (i.toInt + 6) uc ur := (LI_go hT1 (by omega) hM1 (by omega) hR1 hX2 hS2 hW2 hA2 hL2)
  refine lv_pop hx hb dL_law_925 rfl ?_
  refine lv_goto (tgt := 1252) hx hb dL_law_926 (by decide) ?_
  exact kk H locs uc ur hLI hw
set_option maxHeartbeats 4000000 in
set_option maxRecDepth 100000 in
theorem lc_ways {p : Program} {e : Env} {s : State} {m : MethodId} {below : List Frame} {meth : Method} {c : Code} {l : Launch} {b L : Nat} {xs : Nat → Int32} {adK adV : Nat → Nat} {dC : Nat → ClassId} {dI : Nat → Nat → Nat} {cy : Nat → ClassId} {A : Nat → Prop} (hC : CallFix p m c code 4 s #[Value.ref b] wsR RL) (hK : KK dC dI cy s) (hE : SE adK adV A s s.heap) (hSR : SR adK s) (hA : ∀ q : Nat, s.heap.size ≤ q → A q) (hbA : ¬ A b) (hX : va_X b L xs s s.heap) (hbl : b < s.heap.size) (hL : L ≤ 3072) {adC adM : Nat → Nat} {i : Int32} (hi0 : 0 ≤ i.toInt) (hi1 : i.toInt + 6 ≤ L) {wc wr : va_W} {H : Heap} {locs : List Loc} {ls : Array Slot} (hI : LI adC adM cy i.toInt wc wr) (hw : Wd dC dI A s.heap H locs (wc ++ wr)) (hl : lv_has ls 4 [(3, .int i), (2, .ref (adM 0)), (1, .ref (adC 0)), (0, .ref b)]) (kk : ∀ (H : Heap) (locs : List Loc) (wc wr : va_W), LI adC adM cy (i.toInt + 6) wc wr → Wd dC dI A s.heap H locs (wc ++ wr) → W p l e room_1 s m #[Value.ref b] below meth c H locs 184 18569 (lw_Z below #[Value.ref b] s) (F0 m 1252 ls [])) : W p l e room_1 s m #[Value.ref b] below meth c H locs 184 18569 (lw_Z below #[Value.ref b] s) (F0 m 929 ls []) := by
  have hx := hC.1
  have hb := hC.2.1
  obtain ⟨⟨q1, hT⟩, ⟨q2, hM⟩, hRW, hXR, hSI, hWI, hAI, hLX⟩ := hI
  obtain ⟨s1, hs1⟩ : ∃ y : Int32, xs (i + 1).toNatClampNeg = y := ⟨_, rfl⟩
  obtain ⟨s2, hs2⟩ : ∃ y : Int32, xs (i + 2).toNatClampNeg = y := ⟨_, rfl⟩
  refine lv_aload_n hx hb dL_law_929 rfl (lv_at hl 2 rfl) ?_
  refine lv_aload_n hx hb dL_law_930 rfl (lv_at hl 3 rfl) ?_
  refine lv_iload_n hx hb dL_law_931 rfl (lv_at hl 0 rfl) ?_
  refine lv_iconst (v := 1) hx hb dL_law_932 (by decide) ?_
  refine lv_iadd hx hb dL_law_933 ?_
  refine va_sld hx hb hX hbl hbA hw.2.2 (lx_ok hi0 hi1 hL (by decide) (by decide)) dL_law_934 ?_
  refine wk_top s1 hs1 ?_
  refine lv_aload_n hx hb dL_law_935 rfl (lv_at hl 3 rfl) ?_
  refine lv_iload_n hx hb dL_law_936 rfl (lv_at hl 0 rfl) ?_
  refine lv_iconst (v := 2) hx hb dL_law_937 (by decide) ?_
  refine lv_iadd hx hb dL_law_938 ?_
  refine va_sld hx hb hX hbl hbA hw.2.2 (lx_ok hi0 hi1 hL (by decide) (by decide)) dL_law_939 ?_
  refine wk_top s2 hs2 ?_
  obtain ⟨fsX11, hfX11, -⟩ := hT.2.1 0 11 kC_at0 (by decide)
  refine lr_call (ci := 11) hC hK hw hA hE hSR (k_X11_ways_1 l adK adV dC dI cy adC (2147483648 + 9000 * i.toInt) (by omega) (by omega) q1 12 s1 s2 wc _ hT) (cwV 2 hC.2.2.2.2 uLV_RL_103 rfl rfl rfl (by decide +kernel) ⟨Nat.le_of_ble_eq_true rfl, Nat.le_of_ble_eq_true rfl⟩) rfl 0 hfX11 rfl hl.1 rfl (by first | exact Nat.le_of_ble_eq_true rfl | decide) dL_law_940 (Nat.le_of_ble_eq_true rfl) (Nat.le_of_ble_eq_true rfl) (fun r1 uc H locs hp1 hw => ?_)
  refine lv_pop hx hb dL_law_943 rfl ?_
  refine lv_aload_n hx hb dL_law_944 rfl (lv_at hl 1 rfl) ?_
  refine lv_aload_n hx hb dL_law_945 rfl (lv_at hl 3 rfl) ?_
  refine lv_iload_n hx hb dL_law_946 rfl (lv_at hl 0 rfl) ?_
  refine lv_iconst (v := 1) hx hb dL_law_947 (by decide) ?_
  refine lv_iadd hx hb dL_law_948 ?_
  refine va_sld hx hb hX hbl hbA hw.2.2 (lx_ok hi0 hi1 hL (by decide) (by decide)) dL_law_949 ?_
  refine wk_top s1 hs1 ?_
  refine lv_aload_n hx hb dL_law_950 rfl (lv_at hl 3 rfl) ?_
  refine lv_iload_n hx hb dL_law_951 rfl (lv_at hl 0 rfl) ?_
  refine lv_iconst (v := 2) hx hb dL_law_952 (by decide) ?_
  refine lv_iadd hx hb dL_law_953 ?_
  refine va_sld hx hb hX hbl hbA hw.2.2 (lx_ok hi0 hi1 hL (by decide) (by decide)) dL_law_954 ?_
  refine wk_top s2 hs2 ?_
  obtain ⟨fsX12, hfX12, -⟩ := hM.2.1 0 12 kM_at0 (by decide)
  refine lr_call (ci := 12) hC hK hw hA hE hSR (k_X12_ways_1 l adK adV dC dI cy adM (100000 + 9000 * i.toInt) (by omega) (by omega) q2 12 s1 s2 wr _ hM) (cwV 2 hC.2.2.2.2 uLV_RL_106 rfl rfl rfl (by decide +kernel) ⟨Nat.le_of_ble_eq_true rfl, Nat.le_of_ble_eq_true rfl⟩) rfl 0 hfX12 rfl hl.1 rfl (by first | exact Nat.le_of_ble_eq_true rfl | decide) dL_law_955 (Nat.le_of_ble_eq_true rfl) (Nat.le_of_ble_eq_true rfl) (fun r2 ur H locs hp2 hw => ?_)
  obtain ⟨hT1, hF1, hg1⟩ := hp1
  obtain ⟨hM1, hF2, hg2⟩ := hp2
  have hR1 : RW ur := RW_FE hF2 (fun _ => rfl) (fun _ => rfl) (fun _ => rfl) hRW
  have hA2 : AIc (sI uc) := AI_FE hAI hF1 rfl
  have hci : gi uc 149 9 = 0 := hF1.gi kC_at149 rfl hLX.2.2.1
  have hf27 : gi ur 0 27 = 1 := hF2.gi kM_at0 rfl hLX.2.2.2.1
  have hf30 : gi ur 0 30 = 0 := hF2.gi kM_at0 rfl hLX.2.2.2.2
  have hRR := RR_C hLX.1 hF1 rfl
  have hRR := RR_M hRR hF2 rfl (fun _ => rfl) (fun _ => rfl) (fun _ => rfl)
  have hXS := XR_C hLX.2.1 hF1 rfl
  have hXS := XR_M hXS hF2 rfl rfl rfl (fun _ => rfl) (fun _ => rfl)
  have hL2 : LX uc ur := ⟨hRR, hXS, hci, hf27, hf30⟩
  have hS1 : SI (sI uc) (sI wr) := SI_C hSI hF1 rfl
  have hS2 : SI (sI uc) (sI ur) := SI_M hS1 hF2 rfl
  have hW2 : WI (sI ur) := WI_M hWI hF2 rfl
  have hX1 : TR (sI uc) (sI wr) := TR_C hXR hF1 rfl (fun _ => rfl) rfl
  have hX2 : TR (sI uc) (sI ur) := TR_M hX1 hF2 rfl (fun _ => rfl) rfl
  have hLI : LI adC adM cy (i.toInt + 6) uc ur := (LI_go hT1 (by omega) hM1 (by omega) hR1 hX2 hS2 hW2 hA2 hL2)
  refine lv_pop hx hb dL_law_958 rfl ?_
  refine lv_goto (tgt := 1252) hx hb dL_law_959 (by decide) ?_
  exact kk H locs uc ur hLI hw
set_option maxHeartbeats 4000000 in
set_option maxRecDepth 100000 in
theorem lc_sight {p : Program} {e : Env} {s : State} {m : MethodId} {below : List Frame} {meth : Method} {c : Code} {l : Launch} {b L : Nat} {xs : Nat → Int32} {adK adV : Nat → Nat} {dC : Nat → ClassId} {dI : Nat → Nat → Nat} {cy : Nat → ClassId} {A : Nat → Prop} (hC : CallFix p m c code 4 s #[Value.ref b] wsR RL) (hK : KK dC dI cy s) (hE : SE adK adV A s s.heap) (hSR : SR adK s) (hA : ∀ q : Nat, s.heap.size ≤ q → A q) (hbA : ¬ A b) (hX : va_X b L xs s s.heap) (hbl : b < s.heap.size) (hL : L ≤ 3072) {adC adM : Nat → Nat} {i : Int32} (hi0 : 0 ≤ i.toInt) (hi1 : i.toInt + 6 ≤ L) {wc wr : va_W} {H : Heap} {locs : List Loc} {ls : Array Slot} (hI : LI adC adM cy i.toInt wc wr) (hw : Wd dC dI A s.heap H locs (wc ++ wr)) (hl : lv_has ls 4 [(3, .int i), (2, .ref (adM 0)), (1, .ref (adC 0)), (0, .ref b)]) (kk : ∀ (H : Heap) (locs : List Loc) (wc wr : va_W), LI adC adM cy (i.toInt + 6) wc wr → Wd dC dI A s.heap H locs (wc ++ wr) → W p l e room_1 s m #[Value.ref b] below meth c H locs 184 18569 (lw_Z below #[Value.ref b] s) (F0 m 1252 ls [])) : W p l e room_1 s m #[Value.ref b] below meth c H locs 184 18569 (lw_Z below #[Value.ref b] s) (F0 m 962 ls []) := by
  have hx := hC.1
  have hb := hC.2.1
  obtain ⟨⟨q1, hT⟩, ⟨q2, hM⟩, hRW, hXR, hSI, hWI, hAI, hLX⟩ := hI
  obtain ⟨s1, hs1⟩ : ∃ y : Int32, xs (i + 1).toNatClampNeg = y := ⟨_, rfl⟩
  obtain ⟨s2, hs2⟩ : ∃ y : Int32, xs (i + 2).toNatClampNeg = y := ⟨_, rfl⟩
  refine lv_aload_n hx hb dL_law_962 rfl (lv_at hl 2 rfl) ?_
  refine lv_aload_n hx hb dL_law_963 rfl (lv_at hl 3 rfl) ?_
  refine lv_iload_n hx hb dL_law_964 rfl (lv_at hl 0 rfl) ?_
  refine lv_iconst (v := 1) hx hb dL_law_965 (by decide) ?_
  refine lv_iadd hx hb dL_law_966 ?_
  refine va_sld hx hb hX hbl hbA hw.2.2 (lx_ok hi0 hi1 hL (by decide) (by decide)) dL_law_967 ?_
  refine wk_top s1 hs1 ?_
  refine lv_aload_n hx hb dL_law_968 rfl (lv_at hl 3 rfl) ?_
  refine lv_iload_n hx hb dL_law_969 rfl (lv_at hl 0 rfl) ?_
  refine lv_iconst (v := 2) hx hb dL_law_970 (by decide) ?_
  refine lv_iadd hx hb dL_law_971 ?_
  refine va_sld hx hb hX hbl hbA hw.2.2 (lx_ok hi0 hi1 hL (by decide) (by decide)) dL_law_972 ?_
  refine wk_top s2 hs2 ?_
  obtain ⟨fsX11, hfX11, -⟩ := hT.2.1 0 11 kC_at0 (by decide)
  refine lr_call (ci := 11) hC hK hw hA hE hSR (kz_X11_sight_1 l adK adV dC dI cy adC (2147483648 + 9000 * i.toInt) (by omega) (by omega) q1 12 s1 s2 wc _ hT) (cwV 2 hC.2.2.2.2 uLV_RL_107 rfl rfl rfl (by decide +kernel) ⟨Nat.le_of_ble_eq_true rfl, Nat.le_of_ble_eq_true rfl⟩) rfl 0 hfX11 rfl hl.1 rfl (by first | exact Nat.le_of_ble_eq_true rfl | decide) dL_law_973 (Nat.le_of_ble_eq_true rfl) (Nat.le_of_ble_eq_true rfl) (fun r1 uc H locs hp1 hw => ?_)
  refine lv_pop hx hb dL_law_976 rfl ?_
  refine lv_aload_n hx hb dL_law_977 rfl (lv_at hl 1 rfl) ?_
  refine lv_aload_n hx hb dL_law_978 rfl (lv_at hl 3 rfl) ?_
  refine lv_iload_n hx hb dL_law_979 rfl (lv_at hl 0 rfl) ?_
  refine lv_iconst (v := 1) hx hb dL_law_980 (by decide) ?_
  refine lv_iadd hx hb dL_law_981 ?_
  refine va_sld hx hb hX hbl hbA hw.2.2 (lx_ok hi0 hi1 hL (by decide) (by decide)) dL_law_982 ?_
  refine wk_top s1 hs1 ?_
  refine lv_aload_n hx hb dL_law_983 rfl (lv_at hl 3 rfl) ?_
  refine lv_iload_n hx hb dL_law_984 rfl (lv_at hl 0 rfl) ?_
  refine lv_iconst (v := 2) hx hb dL_law_985 (by decide) ?_
  refine lv_iadd hx hb dL_law_986 ?_
  refine va_sld hx hb hX hbl hbA hw.2.2 (lx_ok hi0 hi1 hL (by decide) (by decide)) dL_law_987 ?_
  refine wk_top s2 hs2 ?_
  obtain ⟨fsX12, hfX12, -⟩ := hM.2.1 0 12 kM_at0 (by decide)
  refine lr_call (ci := 12) hC hK hw hA hE hSR (kz_X12_sight_1 l adK adV dC dI cy adM (100000 + 9000 * i.toInt) (by omega) (by omega) q2 12 s1 s2 wr _ hM) (cwV 2 hC.2.2.2.2 uLV_RL_110 rfl rfl rfl (by decide +kernel) ⟨Nat.le_of_ble_eq_true rfl, Nat.le_of_ble_eq_true rfl⟩) rfl 0 hfX12 rfl hl.1 rfl (by first | exact Nat.le_of_ble_eq_true rfl | decide) dL_law_988 (Nat.le_of_ble_eq_true rfl) (Nat.le_of_ble_eq_true rfl) (fun r2 ur H locs hp2 hw => ?_)
  obtain ⟨hT1, hF1, hE1, hg1⟩ := hp1
  obtain ⟨hM1, hF2, hE2, hg2⟩ := hp2
  have hR1 : RW ur := RW_FE hF2 (fun _ => rfl) (fun _ => rfl) (fun _ => rfl) hRW
  have hA2 : AIc (sI uc) := AI_FE hAI hF1 rfl
  have hci : gi uc 149 9 = 0 := hF1.gi kC_at149 rfl hLX.2.2.1
  have hf27 : gi ur 0 27 = 1 := hF2.gi kM_at0 rfl hLX.2.2.2.1
  have hf30 : gi ur 0 30 = 0 := hF2.gi kM_at0 rfl hLX.2.2.2.2
  have hRR := RR_C hLX.1 hF1 rfl
  have hRR := RR_M hRR hF2 rfl (fun _ => rfl) (fun _ => rfl) (fun _ => rfl)
  have hXS := XR_C hLX.2.1 hF1 rfl
  have hXS := XR_M hXS hF2 rfl rfl rfl (fun _ => rfl) (fun _ => rfl)
  have hL2 : LX uc ur := ⟨hRR, hXS, hci, hf27, hf30⟩
  have hrx := SI_sight hSI hE1 hE2
  have hS2 := hrx.2
  have hW2 := EW_sight hWI hE2
  have hX1 : TR (sI uc) (sI wr) := TR_C hXR hF1 rfl (fun _ => rfl) rfl
  have hX2 : TR (sI uc) (sI ur) := TR_M hX1 hF2 rfl (fun _ => rfl) rfl
  have hLI : LI adC adM cy (i.toInt + 6) uc ur := (LI_go hT1 (by omega) hM1 (by omega) hR1 hX2 hS2 hW2 hA2 hL2)
  refine lv_pop hx hb dL_law_991 rfl ?_
  refine lv_goto (tgt := 1252) hx hb dL_law_992 (by decide) ?_
  exact kk H locs uc ur hLI hw
set_option maxHeartbeats 4000000 in
set_option maxRecDepth 100000 in
theorem lc_weekdays {p : Program} {e : Env} {s : State} {m : MethodId} {below : List Frame} {meth : Method} {c : Code} {l : Launch} {b L : Nat} {xs : Nat → Int32} {adK adV : Nat → Nat} {dC : Nat → ClassId} {dI : Nat → Nat → Nat} {cy : Nat → ClassId} {A : Nat → Prop} (hC : CallFix p m c code 4 s #[Value.ref b] wsR RL) (hK : KK dC dI cy s) (hE : SE adK adV A s s.heap) (hSR : SR adK s) (hA : ∀ q : Nat, s.heap.size ≤ q → A q) (hbA : ¬ A b) (hX : va_X b L xs s s.heap) (hbl : b < s.heap.size) (hL : L ≤ 3072) {adC adM : Nat → Nat} {i : Int32} (hi0 : 0 ≤ i.toInt) (hi1 : i.toInt + 6 ≤ L) {wc wr : va_W} {H : Heap} {locs : List Loc} {ls : Array Slot} (hI : LI adC adM cy i.toInt wc wr) (hw : Wd dC dI A s.heap H locs (wc ++ wr)) (hl : lv_has ls 4 [(3, .int i), (2, .ref (adM 0)), (1, .ref (adC 0)), (0, .ref b)]) (kk : ∀ (H : Heap) (locs : List Loc) (wc wr : va_W), LI adC adM cy (i.toInt + 6) wc wr → Wd dC dI A s.heap H locs (wc ++ wr) → W p l e room_1 s m #[Value.ref b] below meth c H locs 184 18569 (lw_Z below #[Value.ref b] s) (F0 m 1252 ls [])) : W p l e room_1 s m #[Value.ref b] below meth c H locs 184 18569 (lw_Z below #[Value.ref b] s) (F0 m 995 ls []) := by
  have hx := hC.1
  have hb := hC.2.1
  obtain ⟨⟨q1, hT⟩, ⟨q2, hM⟩, hRW, hXR, hSI, hWI, hAI, hLX⟩ := hI
  obtain ⟨s1, hs1⟩ : ∃ y : Int32, xs (i + 1).toNatClampNeg = y := ⟨_, rfl⟩
  refine lv_aload_n hx hb dL_law_995 rfl (lv_at hl 2 rfl) ?_
  refine lv_aload_n hx hb dL_law_996 rfl (lv_at hl 3 rfl) ?_
  refine lv_iload_n hx hb dL_law_997 rfl (lv_at hl 0 rfl) ?_
  refine lv_iconst (v := 1) hx hb dL_law_998 (by decide) ?_
  refine lv_iadd hx hb dL_law_999 ?_
  refine va_sld hx hb hX hbl hbA hw.2.2 (lx_ok hi0 hi1 hL (by decide) (by decide)) dL_law_1000 ?_
  refine wk_top s1 hs1 ?_
  obtain ⟨fsX11, hfX11, -⟩ := hT.2.1 0 11 kC_at0 (by decide)
  refine lr_call (ci := 11) hC hK hw hA hE hSR (k_X11_weekdays_1 l adK adV dC dI cy adC (2147483648 + 9000 * i.toInt) (by omega) (by omega) q1 12 s1 wc _ hT) (cwV 1 hC.2.2.2.2 uLV_RL_111 rfl rfl rfl (by decide +kernel) ⟨Nat.le_of_ble_eq_true rfl, Nat.le_of_ble_eq_true rfl⟩) rfl 0 hfX11 rfl hl.1 rfl (by first | exact Nat.le_of_ble_eq_true rfl | decide) dL_law_1001 (Nat.le_of_ble_eq_true rfl) (Nat.le_of_ble_eq_true rfl) (fun r1 uc H locs hp1 hw => ?_)
  refine lv_pop hx hb dL_law_1004 rfl ?_
  refine lv_aload_n hx hb dL_law_1005 rfl (lv_at hl 1 rfl) ?_
  refine lv_aload_n hx hb dL_law_1006 rfl (lv_at hl 3 rfl) ?_
  refine lv_iload_n hx hb dL_law_1007 rfl (lv_at hl 0 rfl) ?_
  refine lv_iconst (v := 1) hx hb dL_law_1008 (by decide) ?_
  refine lv_iadd hx hb dL_law_1009 ?_
  refine va_sld hx hb hX hbl hbA hw.2.2 (lx_ok hi0 hi1 hL (by decide) (by decide)) dL_law_1010 ?_
  refine wk_top s1 hs1 ?_
  obtain ⟨fsX12, hfX12, -⟩ := hM.2.1 0 12 kM_at0 (by decide)
  refine lr_call (ci := 12) hC hK hw hA hE hSR (k_X12_weekdays_1 l adK adV dC dI cy adM (100000 + 9000 * i.toInt) (by omega) (by omega) q2 12 s1 wr _ hM) (cwV 1 hC.2.2.2.2 uLV_RL_114 rfl rfl rfl (by decide +kernel) ⟨Nat.le_of_ble_eq_true rfl, Nat.le_of_ble_eq_true rfl⟩) rfl 0 hfX12 rfl hl.1 rfl (by first | exact Nat.le_of_ble_eq_true rfl | decide) dL_law_1011 (Nat.le_of_ble_eq_true rfl) (Nat.le_of_ble_eq_true rfl) (fun r2 ur H locs hp2 hw => ?_)
  obtain ⟨hT1, hF1, hg1⟩ := hp1
  obtain ⟨he2, hg2⟩ := hp2
  have hM1 := hM
  rw [he2] at hM1
  have hR1 := hRW
  rw [he2] at hR1
  have hA2 : AIc (sI uc) := AI_FE hAI hF1 rfl
  have hci : gi uc 149 9 = 0 := hF1.gi kC_at149 rfl hLX.2.2.1
  have hf27 := hLX.2.2.2.1
  have hf30 := hLX.2.2.2.2
  rw [he2] at hf27 hf30
  have hRR := RR_C hLX.1 hF1 rfl
  rw [he2] at hRR
  have hXS := XR_C hLX.2.1 hF1 rfl
  rw [he2] at hXS
  have hL2 : LX uc ur := ⟨hRR, hXS, hci, hf27, hf30⟩
  have hS1 : SI (sI uc) (sI wr) := SI_C hSI hF1 rfl
  have hS2 := hS1
  rw [he2] at hS2
  have hW2 := hWI
  rw [he2] at hW2
  have hX1 : TR (sI uc) (sI wr) := TR_C hXR hF1 rfl (fun _ => rfl) rfl
  have hX2 := hX1
  rw [he2] at hX2
  have hLI : LI adC adM cy (i.toInt + 6) uc ur := (LI_go hT1 (by omega) hM1 (by omega) hR1 hX2 hS2 hW2 hA2 hL2)
  refine lv_pop hx hb dL_law_1014 rfl ?_
  refine lv_goto (tgt := 1252) hx hb dL_law_1015 (by decide) ?_
  exact kk H locs uc ur hLI hw
set_option maxHeartbeats 4000000 in
set_option maxRecDepth 100000 in
theorem lc_came {p : Program} {e : Env} {s : State} {m : MethodId} {below : List Frame} {meth : Method} {c : Code} {l : Launch} {b L : Nat} {xs : Nat → Int32} {adK adV : Nat → Nat} {dC : Nat → ClassId} {dI : Nat → Nat → Nat} {cy : Nat → ClassId} {A : Nat → Prop} (hC : CallFix p m c code 4 s #[Value.ref b] wsR RL) (hK : KK dC dI cy s) (hE : SE adK adV A s s.heap) (hSR : SR adK s) (hA : ∀ q : Nat, s.heap.size ≤ q → A q) (hbA : ¬ A b) (hX : va_X b L xs s s.heap) (hbl : b < s.heap.size) (hL : L ≤ 3072) {adC adM : Nat → Nat} {i : Int32} (hi0 : 0 ≤ i.toInt) (hi1 : i.toInt + 6 ≤ L) {wc wr : va_W} {H : Heap} {locs : List Loc} {ls : Array Slot} (hI : LI adC adM cy i.toInt wc wr) (hw : Wd dC dI A s.heap H locs (wc ++ wr)) (hl : lv_has ls 4 [(3, .int i), (2, .ref (adM 0)), (1, .ref (adC 0)), (0, .ref b)]) (kk : ∀ (H : Heap) (locs : List Loc) (wc wr : va_W), LI adC adM cy (i.toInt + 6) wc wr → Wd dC dI A s.heap H locs (wc ++ wr) → W p l e room_1 s m #[Value.ref b] below meth c H locs 184 18569 (lw_Z below #[Value.ref b] s) (F0 m 1252 ls [])) : W p l e room_1 s m #[Value.ref b] below meth c H locs 184 18569 (lw_Z below #[Value.ref b] s) (F0 m 1018 ls []) := by
  have hx := hC.1
  have hb := hC.2.1
  obtain ⟨⟨q1, hT⟩, ⟨q2, hM⟩, hRW, hXR, hSI, hWI, hAI, hLX⟩ := hI
  obtain ⟨s1, hs1⟩ : ∃ y : Int32, xs (i + 1).toNatClampNeg = y := ⟨_, rfl⟩
  refine lv_aload_n hx hb dL_law_1018 rfl (lv_at hl 2 rfl) ?_
  refine lv_aload_n hx hb dL_law_1019 rfl (lv_at hl 3 rfl) ?_
  refine lv_iload_n hx hb dL_law_1020 rfl (lv_at hl 0 rfl) ?_
  refine lv_iconst (v := 1) hx hb dL_law_1021 (by decide) ?_
  refine lv_iadd hx hb dL_law_1022 ?_
  refine va_sld hx hb hX hbl hbA hw.2.2 (lx_ok hi0 hi1 hL (by decide) (by decide)) dL_law_1023 ?_
  refine wk_top s1 hs1 ?_
  obtain ⟨fsX11, hfX11, -⟩ := hT.2.1 0 11 kC_at0 (by decide)
  refine lr_call (ci := 11) hC hK hw hA hE hSR (kz_X11_came_1 l adK adV dC dI cy adC (2147483648 + 9000 * i.toInt) (by omega) (by omega) q1 12 s1 wc _ hT) (cwV 1 hC.2.2.2.2 uLV_RL_115 rfl rfl rfl (by decide +kernel) ⟨Nat.le_of_ble_eq_true rfl, Nat.le_of_ble_eq_true rfl⟩) rfl 0 hfX11 rfl hl.1 rfl (by first | exact Nat.le_of_ble_eq_true rfl | decide) dL_law_1024 (Nat.le_of_ble_eq_true rfl) (Nat.le_of_ble_eq_true rfl) (fun r1 uc H locs hp1 hw => ?_)
  refine lv_pop hx hb dL_law_1027 rfl ?_
  refine lv_aload_n hx hb dL_law_1028 rfl (lv_at hl 1 rfl) ?_
  refine lv_aload_n hx hb dL_law_1029 rfl (lv_at hl 3 rfl) ?_
  refine lv_iload_n hx hb dL_law_1030 rfl (lv_at hl 0 rfl) ?_
  refine lv_iconst (v := 1) hx hb dL_law_1031 (by decide) ?_
  refine lv_iadd hx hb dL_law_1032 ?_
  refine va_sld hx hb hX hbl hbA hw.2.2 (lx_ok hi0 hi1 hL (by decide) (by decide)) dL_law_1033 ?_
  refine wk_top s1 hs1 ?_
  obtain ⟨fsX12, hfX12, -⟩ := hM.2.1 0 12 kM_at0 (by decide)
  refine lr_call (ci := 12) hC hK hw hA hE hSR (kz_X12_came_1 l adK adV dC dI cy adM (100000 + 9000 * i.toInt) (by omega) (by omega) q2 12 s1 wr _ hM) (cwV 1 hC.2.2.2.2 uLV_RL_118 rfl rfl rfl (by decide +kernel) ⟨Nat.le_of_ble_eq_true rfl, Nat.le_of_ble_eq_true rfl⟩) rfl 0 hfX12 rfl hl.1 rfl (by first | exact Nat.le_of_ble_eq_true rfl | decide) dL_law_1034 (Nat.le_of_ble_eq_true rfl) (Nat.le_of_ble_eq_true rfl) (fun r2 ur H locs hp2 hw => ?_)
  obtain ⟨hT1, hF1, hE1, hg1⟩ := hp1
  obtain ⟨hM1, hF2, hE2, hg2⟩ := hp2
  have hR1 : RW ur := RW_FE hF2 (fun _ => rfl) (fun _ => rfl) (fun _ => rfl) hRW
  have hA2 : AIc (sI uc) := AI_FE hAI hF1 rfl
  have hci : gi uc 149 9 = 0 := hF1.gi kC_at149 rfl hLX.2.2.1
  have hf27 : gi ur 0 27 = 1 := hF2.gi kM_at0 rfl hLX.2.2.2.1
  have hf30 : gi ur 0 30 = 0 := hF2.gi kM_at0 rfl hLX.2.2.2.2
  have hRR := RR_C hLX.1 hF1 rfl
  have hRR := RR_M hRR hF2 rfl (fun _ => rfl) (fun _ => rfl) (fun _ => rfl)
  have hXS := XR_C hLX.2.1 hF1 rfl
  have hXS := XR_M hXS hF2 rfl rfl rfl (fun _ => rfl) (fun _ => rfl)
  have hL2 : LX uc ur := ⟨hRR, hXS, hci, hf27, hf30⟩
  have hrx := SI_came hSI hE1 hE2
  have hS2 := hrx.2
  have hW2 := EW_came hWI hE2
  have hX1 : TR (sI uc) (sI wr) := TR_C hXR hF1 rfl (fun _ => rfl) rfl
  have hX2 : TR (sI uc) (sI ur) := TR_M hX1 hF2 rfl (fun _ => rfl) rfl
  have hLI : LI adC adM cy (i.toInt + 6) uc ur := (LI_go hT1 (by omega) hM1 (by omega) hR1 hX2 hS2 hW2 hA2 hL2)
  refine lv_pop hx hb dL_law_1037 rfl ?_
  refine lv_goto (tgt := 1252) hx hb dL_law_1038 (by decide) ?_
  exact kk H locs uc ur hLI hw
set_option maxHeartbeats 4000000 in
set_option maxRecDepth 100000 in
theorem lc_had {p : Program} {e : Env} {s : State} {m : MethodId} {below : List Frame} {meth : Method} {c : Code} {l : Launch} {b L : Nat} {xs : Nat → Int32} {adK adV : Nat → Nat} {dC : Nat → ClassId} {dI : Nat → Nat → Nat} {cy : Nat → ClassId} {A : Nat → Prop} (hC : CallFix p m c code 4 s #[Value.ref b] wsR RL) (hK : KK dC dI cy s) (hE : SE adK adV A s s.heap) (hSR : SR adK s) (hA : ∀ q : Nat, s.heap.size ≤ q → A q) (hbA : ¬ A b) (hX : va_X b L xs s s.heap) (hbl : b < s.heap.size) (hL : L ≤ 3072) {adC adM : Nat → Nat} {i : Int32} (hi0 : 0 ≤ i.toInt) (hi1 : i.toInt + 6 ≤ L) {wc wr : va_W} {H : Heap} {locs : List Loc} {ls : Array Slot} (hI : LI adC adM cy i.toInt wc wr) (hw : Wd dC dI A s.heap H locs (wc ++ wr)) (hl : lv_has ls 4 [(3, .int i), (2, .ref (adM 0)), (1, .ref (adC 0)), (0, .ref b)]) (kk : ∀ (H : Heap) (locs : List Loc) (wc wr : va_W), LI adC adM cy (i.toInt + 6) wc wr → Wd dC dI A s.heap H locs (wc ++ wr) → W p l e room_1 s m #[Value.ref b] below meth c H locs 184 18569 (lw_Z below #[Value.ref b] s) (F0 m 1252 ls [])) : W p l e room_1 s m #[Value.ref b] below meth c H locs 184 18569 (lw_Z below #[Value.ref b] s) (F0 m 1041 ls []) := by
  have hx := hC.1
  have hb := hC.2.1
  obtain ⟨⟨q1, hT⟩, ⟨q2, hM⟩, hRW, hXR, hSI, hWI, hAI, hLX⟩ := hI
  obtain ⟨s1, hs1⟩ : ∃ y : Int32, xs (i + 1).toNatClampNeg = y := ⟨_, rfl⟩
  refine lv_aload_n hx hb dL_law_1041 rfl (lv_at hl 2 rfl) ?_
  refine lv_aload_n hx hb dL_law_1042 rfl (lv_at hl 3 rfl) ?_
  refine lv_iload_n hx hb dL_law_1043 rfl (lv_at hl 0 rfl) ?_
  refine lv_iconst (v := 1) hx hb dL_law_1044 (by decide) ?_
  refine lv_iadd hx hb dL_law_1045 ?_
  refine va_sld hx hb hX hbl hbA hw.2.2 (lx_ok hi0 hi1 hL (by decide) (by decide)) dL_law_1046 ?_
  refine wk_top s1 hs1 ?_
  obtain ⟨fsX11, hfX11, -⟩ := hT.2.1 0 11 kC_at0 (by decide)
  refine lr_call (ci := 11) hC hK hw hA hE hSR (k_X11_had_1 l adK adV dC dI cy adC (2147483648 + 9000 * i.toInt) (by omega) (by omega) q1 12 s1 wc _ hT) (cwV 1 hC.2.2.2.2 uLV_RL_119 rfl rfl rfl (by decide +kernel) ⟨Nat.le_of_ble_eq_true rfl, Nat.le_of_ble_eq_true rfl⟩) rfl 0 hfX11 rfl hl.1 rfl (by first | exact Nat.le_of_ble_eq_true rfl | decide) dL_law_1047 (Nat.le_of_ble_eq_true rfl) (Nat.le_of_ble_eq_true rfl) (fun r1 uc H locs hp1 hw => ?_)
  refine lv_pop hx hb dL_law_1050 rfl ?_
  refine lv_aload_n hx hb dL_law_1051 rfl (lv_at hl 1 rfl) ?_
  refine lv_aload_n hx hb dL_law_1052 rfl (lv_at hl 3 rfl) ?_
  refine lv_iload_n hx hb dL_law_1053 rfl (lv_at hl 0 rfl) ?_
  refine lv_iconst (v := 1) hx hb dL_law_1054 (by decide) ?_
  refine lv_iadd hx hb dL_law_1055 ?_
  refine va_sld hx hb hX hbl hbA hw.2.2 (lx_ok hi0 hi1 hL (by decide) (by decide)) dL_law_1056 ?_
  refine wk_top s1 hs1 ?_
  obtain ⟨fsX12, hfX12, -⟩ := hM.2.1 0 12 kM_at0 (by decide)
  refine lr_call (ci := 12) hC hK hw hA hE hSR (k_X12_had_1 l adK adV dC dI cy adM (100000 + 9000 * i.toInt) (by omega) (by omega) q2 12 s1 wr _ hM hRW) (cwV 1 hC.2.2.2.2 uLV_RL_122 rfl rfl rfl (by decide +kernel) ⟨Nat.le_of_ble_eq_true rfl, Nat.le_of_ble_eq_true rfl⟩) rfl 0 hfX12 rfl hl.1 rfl (by first | exact Nat.le_of_ble_eq_true rfl | decide) dL_law_1057 (Nat.le_of_ble_eq_true rfl) (Nat.le_of_ble_eq_true rfl) (fun r2 ur H locs hp2 hw => ?_)
  obtain ⟨hT1, hF1, hg1⟩ := hp1
  obtain ⟨hM1, hF2, hg2⟩ := hp2
  have hR1 : RW ur := RW_FE hF2 (fun _ => rfl) (fun _ => rfl) (fun _ => rfl) hRW
  have hA2 : AIc (sI uc) := hF1.2 hAI
  have hF1 := hF1.1
  have hci : gi uc 149 9 = 0 := hF1.gi kC_at149 rfl hLX.2.2.1
  have hf27 : gi ur 0 27 = 1 := hF2.gi kM_at0 rfl hLX.2.2.2.1
  have hf30 : gi ur 0 30 = 0 := hF2.gi kM_at0 rfl hLX.2.2.2.2
  have hRR := RR_C hLX.1 hF1 rfl
  have hRR := RR_M hRR hF2 rfl (fun _ => rfl) (fun _ => rfl) (fun _ => rfl)
  have hXS := XR_C hLX.2.1 hF1 rfl
  have hsx : SA wr ur := by
    rcases hg2 with hq | hq
    · exact hq.2.2.2.2
    · exact hq.2
  have hXS := XR_Mp hXS hF2 (fun _ => rfl) (fun _ => rfl) hsx
  have hL2 : LX uc ur := ⟨hRR, hXS, hci, hf27, hf30⟩
  have hS1 : SI (sI uc) (sI wr) := SI_C hSI hF1 rfl
  have hsa : SA wr ur := by
    rcases hg2 with hq | hq
    · exact hq.2.2.2.2
    · exact hq.2
  have hS2 : SI (sI uc) (sI ur) := SI_Mp hS1 hF2 (fun _ => rfl) (fun _ => rfl) hsa
  have hW2 : WI (sI ur) := WI_Mp hWI hF2 (fun _ => rfl) (fun _ => rfl) hsa
  have hX1 : TR (sI uc) (sI wr) := TR_C hXR hF1 rfl (fun _ => rfl) rfl
  have hX2 : TR (sI uc) (sI ur) := TR_M hX1 hF2 rfl (fun _ => rfl) rfl
  have hLI : LI adC adM cy (i.toInt + 6) uc ur := (LI_go hT1 (by omega) hM1 (by omega) hR1 hX2 hS2 hW2 hA2 hL2)
  refine lv_pop hx hb dL_law_1060 rfl ?_
  refine lv_goto (tgt := 1252) hx hb dL_law_1061 (by decide) ?_
  exact kk H locs uc ur hLI hw
set_option maxHeartbeats 4000000 in
set_option maxRecDepth 100000 in
theorem lc_built {p : Program} {e : Env} {s : State} {m : MethodId} {below : List Frame} {meth : Method} {c : Code} {l : Launch} {b L : Nat} {xs : Nat → Int32} {adK adV : Nat → Nat} {dC : Nat → ClassId} {dI : Nat → Nat → Nat} {cy : Nat → ClassId} {A : Nat → Prop} (hC : CallFix p m c code 4 s #[Value.ref b] wsR RL) (hK : KK dC dI cy s) (hE : SE adK adV A s s.heap) (hSR : SR adK s) (hA : ∀ q : Nat, s.heap.size ≤ q → A q) (hbA : ¬ A b) (hX : va_X b L xs s s.heap) (hbl : b < s.heap.size) (hL : L ≤ 3072) {adC adM : Nat → Nat} {i : Int32} (hi0 : 0 ≤ i.toInt) (hi1 : i.toInt + 6 ≤ L) {wc wr : va_W} {H : Heap} {locs : List Loc} {ls : Array Slot} (hI : LI adC adM cy i.toInt wc wr) (hw : Wd dC dI A s.heap H locs (wc ++ wr)) (hl : lv_has ls 4 [(3, .int i), (2, .ref (adM 0)), (1, .ref (adC 0)), (0, .ref b)]) (kk : ∀ (H : Heap) (locs : List Loc) (wc wr : va_W), LI adC adM cy (i.toInt + 6) wc wr → Wd dC dI A s.heap H locs (wc ++ wr) → W p l e room_1 s m #[Value.ref b] below meth c H locs 184 18569 (lw_Z below #[Value.ref b] s) (F0 m 1252 ls [])) : W p l e room_1 s m #[Value.ref b] below meth c H locs 184 18569 (lw_Z below #[Value.ref b] s) (F0 m 1064 ls []) := by
  have hx := hC.1
  have hb := hC.2.1
  obtain ⟨⟨q1, hT⟩, ⟨q2, hM⟩, hRW, hXR, hSI, hWI, hAI, hLX⟩ := hI
  obtain ⟨s1, hs1⟩ : ∃ y : Int32, xs (i + 1).toNatClampNeg = y := ⟨_, rfl⟩
  obtain ⟨s2, hs2⟩ : ∃ y : Int32, xs (i + 2).toNatClampNeg = y := ⟨_, rfl⟩
  obtain ⟨s3, hs3⟩ : ∃ y : Int32, xs (i + 3).toNatClampNeg = y := ⟨_, rfl⟩
  refine lv_aload_n hx hb dL_law_1064 rfl (lv_at hl 2 rfl) ?_
  refine lv_aload_n hx hb dL_law_1065 rfl (lv_at hl 3 rfl) ?_
  refine lv_iload_n hx hb dL_law_1066 rfl (lv_at hl 0 rfl) ?_
  refine lv_iconst (v := 1) hx hb dL_law_1067 (by decide) ?_
  refine lv_iadd hx hb dL_law_1068 ?_
  refine va_sld hx hb hX hbl hbA hw.2.2 (lx_ok hi0 hi1 hL (by decide) (by decide)) dL_law_1069 ?_
  refine wk_top s1 hs1 ?_
  refine lv_aload_n hx hb dL_law_1070 rfl (lv_at hl 3 rfl) ?_
  refine lv_iload_n hx hb dL_law_1071 rfl (lv_at hl 0 rfl) ?_
  refine lv_iconst (v := 2) hx hb dL_law_1072 (by decide) ?_
  refine lv_iadd hx hb dL_law_1073 ?_
  refine va_sld hx hb hX hbl hbA hw.2.2 (lx_ok hi0 hi1 hL (by decide) (by decide)) dL_law_1074 ?_
  refine wk_top s2 hs2 ?_
  refine lv_aload_n hx hb dL_law_1075 rfl (lv_at hl 3 rfl) ?_
  refine lv_iload_n hx hb dL_law_1076 rfl (lv_at hl 0 rfl) ?_
  refine lv_iconst (v := 3) hx hb dL_law_1077 (by decide) ?_
  refine lv_iadd hx hb dL_law_1078 ?_
  refine va_sld hx hb hX hbl hbA hw.2.2 (lx_ok hi0 hi1 hL (by decide) (by decide)) dL_law_1079 ?_
  refine wk_top s3 hs3 ?_
  obtain ⟨fsX11, hfX11, -⟩ := hT.2.1 0 11 kC_at0 (by decide)
  refine lr_call (ci := 11) hC hK hw hA hE hSR (kz_X11_built_1 l adK adV dC dI cy adC (2147483648 + 9000 * i.toInt) (by omega) (by omega) q1 12 s1 s2 s3 wc _ hT) (cwV 3 hC.2.2.2.2 uLV_RL_123 rfl rfl rfl (by decide +kernel) ⟨Nat.le_of_ble_eq_true rfl, Nat.le_of_ble_eq_true rfl⟩) rfl 0 hfX11 rfl hl.1 rfl (by first | exact Nat.le_of_ble_eq_true rfl | decide) dL_law_1080 (Nat.le_of_ble_eq_true rfl) (Nat.le_of_ble_eq_true rfl) (fun r1 uc H locs hp1 hw => ?_)
  refine lv_pop hx hb dL_law_1083 rfl ?_
  refine lv_aload_n hx hb dL_law_1084 rfl (lv_at hl 1 rfl) ?_
  refine lv_aload_n hx hb dL_law_1085 rfl (lv_at hl 3 rfl) ?_
  refine lv_iload_n hx hb dL_law_1086 rfl (lv_at hl 0 rfl) ?_
  refine lv_iconst (v := 1) hx hb dL_law_1087 (by decide) ?_
  refine lv_iadd hx hb dL_law_1088 ?_
  refine va_sld hx hb hX hbl hbA hw.2.2 (lx_ok hi0 hi1 hL (by decide) (by decide)) dL_law_1089 ?_
  refine wk_top s1 hs1 ?_
  refine lv_aload_n hx hb dL_law_1090 rfl (lv_at hl 3 rfl) ?_
  refine lv_iload_n hx hb dL_law_1091 rfl (lv_at hl 0 rfl) ?_
  refine lv_iconst (v := 2) hx hb dL_law_1092 (by decide) ?_
  refine lv_iadd hx hb dL_law_1093 ?_
  refine va_sld hx hb hX hbl hbA hw.2.2 (lx_ok hi0 hi1 hL (by decide) (by decide)) dL_law_1094 ?_
  refine wk_top s2 hs2 ?_
  refine lv_aload_n hx hb dL_law_1095 rfl (lv_at hl 3 rfl) ?_
  refine lv_iload_n hx hb dL_law_1096 rfl (lv_at hl 0 rfl) ?_
  refine lv_iconst (v := 3) hx hb dL_law_1097 (by decide) ?_
  refine lv_iadd hx hb dL_law_1098 ?_
  refine va_sld hx hb hX hbl hbA hw.2.2 (lx_ok hi0 hi1 hL (by decide) (by decide)) dL_law_1099 ?_
  refine wk_top s3 hs3 ?_
  obtain ⟨fsX12, hfX12, -⟩ := hM.2.1 0 12 kM_at0 (by decide)
  refine lr_call (ci := 12) hC hK hw hA hE hSR (kz_X12_built_1 l adK adV dC dI cy adM (100000 + 9000 * i.toInt) (by omega) (by omega) q2 12 s1 s2 s3 wr _ hM) (cwV 3 hC.2.2.2.2 uLV_RL_126 rfl rfl rfl (by decide +kernel) ⟨Nat.le_of_ble_eq_true rfl, Nat.le_of_ble_eq_true rfl⟩) rfl 0 hfX12 rfl hl.1 rfl (by first | exact Nat.le_of_ble_eq_true rfl | decide) dL_law_1100 (Nat.le_of_ble_eq_true rfl) (Nat.le_of_ble_eq_true rfl) (fun r2 ur H locs hp2 hw => ?_)
  obtain ⟨hT1, hF1, hE1, hg1⟩ := hp1
  obtain ⟨hM1, hF2, hE2, hg2⟩ := hp2
  have hR1 : RW ur := RW_FE hF2 (fun _ => rfl) (fun _ => rfl) (fun _ => rfl) hRW
  have hA2 : AIc (sI uc) := AW_built hSI hAI hE1
  have hci : gi uc 149 9 = 0 := hF1.gi kC_at149 rfl hLX.2.2.1
  have hf27 : gi ur 0 27 = 1 := hF2.gi kM_at0 rfl hLX.2.2.2.1
  have hf30 : gi ur 0 30 = 0 := hF2.gi kM_at0 rfl hLX.2.2.2.2
  have hRR := RR_C hLX.1 hF1 rfl
  have hRR := RR_M hRR hF2 rfl (fun _ => rfl) (fun _ => rfl) (fun _ => rfl)
  have hXS := XR_C hLX.2.1 hF1 rfl
  have hXS := XR_M hXS hF2 rfl rfl rfl (fun _ => rfl) (fun _ => rfl)
  have hL2 : LX uc ur := ⟨hRR, hXS, hci, hf27, hf30⟩
  have hS2 := SI_built hSI hE1 hE2
  have hW2 := EW_built hWI hE2
  have hX1 : TR (sI uc) (sI wr) := TR_C hXR hF1 rfl (fun _ => rfl) rfl
  have hX2 : TR (sI uc) (sI ur) := TR_M hX1 hF2 rfl (fun _ => rfl) rfl
  have hLI : LI adC adM cy (i.toInt + 6) uc ur := (LI_go hT1 (by omega) hM1 (by omega) hR1 hX2 hS2 hW2 hA2 hL2)
  refine lv_pop hx hb dL_law_1103 rfl ?_
  refine lv_goto (tgt := 1252) hx hb dL_law_1104 (by decide) ?_
  exact kk H locs uc ur hLI hw
set_option maxHeartbeats 4000000 in
set_option maxRecDepth 100000 in
theorem lc_seed {p : Program} {e : Env} {s : State} {m : MethodId} {below : List Frame} {meth : Method} {c : Code} {l : Launch} {b L : Nat} {xs : Nat → Int32} {adK adV : Nat → Nat} {dC : Nat → ClassId} {dI : Nat → Nat → Nat} {cy : Nat → ClassId} {A : Nat → Prop} (hC : CallFix p m c code 4 s #[Value.ref b] wsR RL) (hK : KK dC dI cy s) (hE : SE adK adV A s s.heap) (hSR : SR adK s) (hA : ∀ q : Nat, s.heap.size ≤ q → A q) (hbA : ¬ A b) (hX : va_X b L xs s s.heap) (hbl : b < s.heap.size) (hL : L ≤ 3072) {adC adM : Nat → Nat} {i : Int32} (hi0 : 0 ≤ i.toInt) (hi1 : i.toInt + 6 ≤ L) {wc wr : va_W} {H : Heap} {locs : List Loc} {ls : Array Slot} (hI : LI adC adM cy i.toInt wc wr) (hw : Wd dC dI A s.heap H locs (wc ++ wr)) (hl : lv_has ls 4 [(3, .int i), (2, .ref (adM 0)), (1, .ref (adC 0)), (0, .ref b)]) (kk : ∀ (H : Heap) (locs : List Loc) (wc wr : va_W), LI adC adM cy (i.toInt + 6) wc wr → Wd dC dI A s.heap H locs (wc ++ wr) → W p l e room_1 s m #[Value.ref b] below meth c H locs 184 18569 (lw_Z below #[Value.ref b] s) (F0 m 1252 ls [])) : W p l e room_1 s m #[Value.ref b] below meth c H locs 184 18569 (lw_Z below #[Value.ref b] s) (F0 m 1107 ls []) := by
  have hx := hC.1
  have hb := hC.2.1
  obtain ⟨⟨q1, hT⟩, ⟨q2, hM⟩, hRW, hXR, hSI, hWI, hAI, hLX⟩ := hI
  obtain ⟨s1, hs1⟩ : ∃ y : Int32, xs (i + 1).toNatClampNeg = y := ⟨_, rfl⟩
  refine lv_aload_n hx hb dL_law_1107 rfl (lv_at hl 2 rfl) ?_
  refine lv_aload_n hx hb dL_law_1108 rfl (lv_at hl 3 rfl) ?_
  refine lv_iload_n hx hb dL_law_1109 rfl (lv_at hl 0 rfl) ?_
  refine lv_iconst (v := 1) hx hb dL_law_1110 (by decide) ?_
  refine lv_iadd hx hb dL_law_1111 ?_
  refine va_sld hx hb hX hbl hbA hw.2.2 (lx_ok hi0 hi1 hL (by decide) (by decide)) dL_law_1112 ?_
  refine wk_top s1 hs1 ?_
  obtain ⟨fsX11, hfX11, -⟩ := hT.2.1 0 11 kC_at0 (by decide)
  refine lr_call (ci := 11) hC hK hw hA hE hSR (kz_X11_seed_1 l adK adV dC dI cy adC (2147483648 + 9000 * i.toInt) (by omega) (by omega) q1 12 s1 wc _ hT) (cwV 1 hC.2.2.2.2 uLV_RL_127 rfl rfl rfl (by decide +kernel) ⟨Nat.le_of_ble_eq_true rfl, Nat.le_of_ble_eq_true rfl⟩) rfl 0 hfX11 rfl hl.1 rfl (by first | exact Nat.le_of_ble_eq_true rfl | decide) dL_law_1113 (Nat.le_of_ble_eq_true rfl) (Nat.le_of_ble_eq_true rfl) (fun r1 uc H locs hp1 hw => ?_)
  refine lv_pop hx hb dL_law_1116 rfl ?_
  refine lv_aload_n hx hb dL_law_1117 rfl (lv_at hl 1 rfl) ?_
  refine lv_aload_n hx hb dL_law_1118 rfl (lv_at hl 3 rfl) ?_
  refine lv_iload_n hx hb dL_law_1119 rfl (lv_at hl 0 rfl) ?_
  refine lv_iconst (v := 1) hx hb dL_law_1120 (by decide) ?_
  refine lv_iadd hx hb dL_law_1121 ?_
  refine va_sld hx hb hX hbl hbA hw.2.2 (lx_ok hi0 hi1 hL (by decide) (by decide)) dL_law_1122 ?_
  refine wk_top s1 hs1 ?_
  obtain ⟨fsX12, hfX12, -⟩ := hM.2.1 0 12 kM_at0 (by decide)
  refine lr_call (ci := 12) hC hK hw hA hE hSR (kz_X12_seed_1 l adK adV dC dI cy adM (100000 + 9000 * i.toInt) (by omega) (by omega) q2 12 s1 wr _ hM) (cwV 1 hC.2.2.2.2 uLV_RL_130 rfl rfl rfl (by decide +kernel) ⟨Nat.le_of_ble_eq_true rfl, Nat.le_of_ble_eq_true rfl⟩) rfl 0 hfX12 rfl hl.1 rfl (by first | exact Nat.le_of_ble_eq_true rfl | decide) dL_law_1123 (Nat.le_of_ble_eq_true rfl) (Nat.le_of_ble_eq_true rfl) (fun r2 ur H locs hp2 hw => ?_)
  obtain ⟨hT1, hF1, hE1, hg1⟩ := hp1
  obtain ⟨hM1, hF2, hE2, hg2⟩ := hp2
  have hR1 : RW ur := RW_FE hF2 (fun _ => rfl) (fun _ => rfl) (fun _ => rfl) hRW
  have hA2 : AIc (sI uc) := AI_FE hAI hF1 rfl
  have hci : gi uc 149 9 = 0 := hF1.gi kC_at149 rfl hLX.2.2.1
  have hf27 : gi ur 0 27 = 1 := hF2.gi kM_at0 rfl hLX.2.2.2.1
  have hf30 : gi ur 0 30 = 0 := hF2.gi kM_at0 rfl hLX.2.2.2.2
  have hRR := RR_C hLX.1 hF1 rfl
  have hRR := RR_M hRR hF2 rfl (fun _ => rfl) (fun _ => rfl) (fun _ => rfl)
  have hXS := XW_seed hLX.2.1 hE1 hE2
  have hL2 : LX uc ur := ⟨hRR, hXS, hci, hf27, hf30⟩
  have hS1 : SI (sI uc) (sI wr) := SI_C hSI hF1 rfl
  have hS2 : SI (sI uc) (sI ur) := SI_M hS1 hF2 rfl
  have hW2 : WI (sI ur) := WI_M hWI hF2 rfl
  have hX1 : TR (sI uc) (sI wr) := TR_C hXR hF1 rfl (fun _ => rfl) rfl
  have hX2 : TR (sI uc) (sI ur) := TR_M hX1 hF2 rfl (fun _ => rfl) rfl
  have hLI : LI adC adM cy (i.toInt + 6) uc ur := (LI_go hT1 (by omega) hM1 (by omega) hR1 hX2 hS2 hW2 hA2 hL2)
  refine lv_pop hx hb dL_law_1126 rfl ?_
  refine lv_goto (tgt := 1252) hx hb dL_law_1127 (by decide) ?_
  exact kk H locs uc ur hLI hw
set_option maxHeartbeats 4000000 in
set_option maxRecDepth 100000 in
theorem lc_strangers {p : Program} {e : Env} {s : State} {m : MethodId} {below : List Frame} {meth : Method} {c : Code} {l : Launch} {b L : Nat} {xs : Nat → Int32} {adK adV : Nat → Nat} {dC : Nat → ClassId} {dI : Nat → Nat → Nat} {cy : Nat → ClassId} {A : Nat → Prop} (hC : CallFix p m c code 4 s #[Value.ref b] wsR RL) (hK : KK dC dI cy s) (hE : SE adK adV A s s.heap) (hSR : SR adK s) (hA : ∀ q : Nat, s.heap.size ≤ q → A q) (hbA : ¬ A b) (hX : va_X b L xs s s.heap) (hbl : b < s.heap.size) (hL : L ≤ 3072) {adC adM : Nat → Nat} {i : Int32} (hi0 : 0 ≤ i.toInt) (hi1 : i.toInt + 6 ≤ L) {wc wr : va_W} {H : Heap} {locs : List Loc} {ls : Array Slot} (hI : LI adC adM cy i.toInt wc wr) (hw : Wd dC dI A s.heap H locs (wc ++ wr)) (hl : lv_has ls 4 [(3, .int i), (2, .ref (adM 0)), (1, .ref (adC 0)), (0, .ref b)]) (kk : ∀ (H : Heap) (locs : List Loc) (wc wr : va_W), LI adC adM cy (i.toInt + 6) wc wr → Wd dC dI A s.heap H locs (wc ++ wr) → W p l e room_1 s m #[Value.ref b] below meth c H locs 184 18569 (lw_Z below #[Value.ref b] s) (F0 m 1252 ls [])) : W p l e room_1 s m #[Value.ref b] below meth c H locs 184 18569 (lw_Z below #[Value.ref b] s) (F0 m 1130 ls []) := by
  have hx := hC.1
  have hb := hC.2.1
  obtain ⟨⟨q1, hT⟩, ⟨q2, hM⟩, hRW, hXR, hSI, hWI, hAI, hLX⟩ := hI
  obtain ⟨s1, hs1⟩ : ∃ y : Int32, xs (i + 1).toNatClampNeg = y := ⟨_, rfl⟩
  obtain ⟨s2, hs2⟩ : ∃ y : Int32, xs (i + 2).toNatClampNeg = y := ⟨_, rfl⟩
  obtain ⟨s3, hs3⟩ : ∃ y : Int32, xs (i + 3).toNatClampNeg = y := ⟨_, rfl⟩
  obtain ⟨s4, hs4⟩ : ∃ y : Int32, xs (i + 4).toNatClampNeg = y := ⟨_, rfl⟩
  refine lv_aload_n hx hb dL_law_1130 rfl (lv_at hl 2 rfl) ?_
  refine lv_aload_n hx hb dL_law_1131 rfl (lv_at hl 3 rfl) ?_
  refine lv_iload_n hx hb dL_law_1132 rfl (lv_at hl 0 rfl) ?_
  refine lv_iconst (v := 1) hx hb dL_law_1133 (by decide) ?_
  refine lv_iadd hx hb dL_law_1134 ?_
  refine va_sld hx hb hX hbl hbA hw.2.2 (lx_ok hi0 hi1 hL (by decide) (by decide)) dL_law_1135 ?_
  refine wk_top s1 hs1 ?_
  refine lv_aload_n hx hb dL_law_1136 rfl (lv_at hl 3 rfl) ?_
  refine lv_iload_n hx hb dL_law_1137 rfl (lv_at hl 0 rfl) ?_
  refine lv_iconst (v := 2) hx hb dL_law_1138 (by decide) ?_
  refine lv_iadd hx hb dL_law_1139 ?_
  refine va_sld hx hb hX hbl hbA hw.2.2 (lx_ok hi0 hi1 hL (by decide) (by decide)) dL_law_1140 ?_
  refine wk_top s2 hs2 ?_
  refine lv_aload_n hx hb dL_law_1141 rfl (lv_at hl 3 rfl) ?_
  refine lv_iload_n hx hb dL_law_1142 rfl (lv_at hl 0 rfl) ?_
  refine lv_iconst (v := 3) hx hb dL_law_1143 (by decide) ?_
  refine lv_iadd hx hb dL_law_1144 ?_
  refine va_sld hx hb hX hbl hbA hw.2.2 (lx_ok hi0 hi1 hL (by decide) (by decide)) dL_law_1145 ?_
  refine wk_top s3 hs3 ?_
  refine lv_aload_n hx hb dL_law_1146 rfl (lv_at hl 3 rfl) ?_
  refine lv_iload_n hx hb dL_law_1147 rfl (lv_at hl 0 rfl) ?_
  refine lv_iconst (v := 4) hx hb dL_law_1148 (by decide) ?_
  refine lv_iadd hx hb dL_law_1149 ?_
  refine va_sld hx hb hX hbl hbA hw.2.2 (lx_ok hi0 hi1 hL (by decide) (by decide)) dL_law_1150 ?_
  refine wk_top s4 hs4 ?_
  obtain ⟨fsX11, hfX11, -⟩ := hT.2.1 0 11 kC_at0 (by decide)
  refine lr_call (ci := 11) hC hK hw hA hE hSR (ky_X11_strangers_1 l adK adV dC dI cy adC (2147483648 + 9000 * i.toInt) (by omega) (by omega) q1 12 s1 s2 s3 s4 wc _ hT) (cwV 4 hC.2.2.2.2 uLV_RL_131 rfl rfl rfl (by decide +kernel) ⟨Nat.le_of_ble_eq_true rfl, Nat.le_of_ble_eq_true rfl⟩) rfl 0 hfX11 rfl hl.1 rfl (by first | exact Nat.le_of_ble_eq_true rfl | decide) dL_law_1151 (Nat.le_of_ble_eq_true rfl) (Nat.le_of_ble_eq_true rfl) (fun r1 uc H locs hp1 hw => ?_)
  refine lv_aload_n hx hb dL_law_1154 rfl (lv_at hl 1 rfl) ?_
  refine lv_aload_n hx hb dL_law_1155 rfl (lv_at hl 3 rfl) ?_
  refine lv_iload_n hx hb dL_law_1156 rfl (lv_at hl 0 rfl) ?_
  refine lv_iconst (v := 1) hx hb dL_law_1157 (by decide) ?_
  refine lv_iadd hx hb dL_law_1158 ?_
  refine va_sld hx hb hX hbl hbA hw.2.2 (lx_ok hi0 hi1 hL (by decide) (by decide)) dL_law_1159 ?_
  refine wk_top s1 hs1 ?_
  refine lv_aload_n hx hb dL_law_1160 rfl (lv_at hl 3 rfl) ?_
  refine lv_iload_n hx hb dL_law_1161 rfl (lv_at hl 0 rfl) ?_
  refine lv_iconst (v := 2) hx hb dL_law_1162 (by decide) ?_
  refine lv_iadd hx hb dL_law_1163 ?_
  refine va_sld hx hb hX hbl hbA hw.2.2 (lx_ok hi0 hi1 hL (by decide) (by decide)) dL_law_1164 ?_
  refine wk_top s2 hs2 ?_
  refine lv_aload_n hx hb dL_law_1165 rfl (lv_at hl 3 rfl) ?_
  refine lv_iload_n hx hb dL_law_1166 rfl (lv_at hl 0 rfl) ?_
  refine lv_iconst (v := 3) hx hb dL_law_1167 (by decide) ?_
  refine lv_iadd hx hb dL_law_1168 ?_
  refine va_sld hx hb hX hbl hbA hw.2.2 (lx_ok hi0 hi1 hL (by decide) (by decide)) dL_law_1169 ?_
  refine wk_top s3 hs3 ?_
  refine lv_aload_n hx hb dL_law_1170 rfl (lv_at hl 3 rfl) ?_
  refine lv_iload_n hx hb dL_law_1171 rfl (lv_at hl 0 rfl) ?_
  refine lv_iconst (v := 4) hx hb dL_law_1172 (by decide) ?_
  refine lv_iadd hx hb dL_law_1173 ?_
  refine va_sld hx hb hX hbl hbA hw.2.2 (lx_ok hi0 hi1 hL (by decide) (by decide)) dL_law_1174 ?_
  refine wk_top s4 hs4 ?_
  obtain ⟨fsX12, hfX12, -⟩ := hM.2.1 0 12 kM_at0 (by decide)
  refine lr_call (ci := 12) hC hK hw hA hE hSR (ky_X12_strangers_1 l adK adV dC dI cy adM (100000 + 9000 * i.toInt) (by omega) (by omega) q2 12 s1 s2 s3 s4 wr _ hM hRW) (cwV 4 hC.2.2.2.2 uLV_RL_134 rfl rfl rfl (by decide +kernel) ⟨Nat.le_of_ble_eq_true rfl, Nat.le_of_ble_eq_true rfl⟩) rfl 0 hfX12 rfl hl.1 rfl (by first | exact Nat.le_of_ble_eq_true rfl | decide) dL_law_1175 (Nat.le_of_ble_eq_true rfl) (Nat.le_of_ble_eq_true rfl) (fun r2 ur H locs hp2 hw => ?_)
  obtain ⟨hT1, hF1, hE1, hg1⟩ := hp1
  obtain ⟨hM1, hF2, hE2, hg2⟩ := hp2
  have hR1 : RW ur := RW_FE hF2 (fun _ => rfl) (fun _ => rfl) (fun _ => rfl) hRW
  have hst := SI_strangers hSI hWI hAI hXR hLX hRW hT hM hE1 hE2
  have hA2 : AIc (sI uc) := hst.2
  have hci : gi uc 149 9 = 0 := hF1.gi kC_at149 rfl hLX.2.2.1
  have hf27 : gi ur 0 27 = 1 := hF2.gi kM_at0 rfl hLX.2.2.2.1
  have hf30 : gi ur 0 30 = 0 := hF2.gi kM_at0 rfl hLX.2.2.2.2
  have hRR := RR_C hLX.1 hF1 rfl
  have hRR := RR_M hRR hF2 rfl (fun _ => rfl) (fun _ => rfl) (fun _ => rfl)
  have hXS := XR_C hLX.2.1 hF1 rfl
  have hsx : SA wr ur := by
    rcases hg2 with hq | hq
    · exact hq.2.2.2.2.2.2.2.2.2.2
    · exact hq.2
  have hXS := XR_Mp hXS hF2 (fun _ => rfl) (fun _ => rfl) hsx
  have hL2 : LX uc ur := ⟨hRR, hXS, hci, hf27, hf30⟩
  have hrx : r1 = r2 ∧ True := ⟨hst.1, trivial⟩
  have hS1 : SI (sI uc) (sI wr) := SI_C hSI hF1 rfl
  have hsa : SA wr ur := by
    rcases hg2 with hq | hq
    · exact hq.2.2.2.2.2.2.2.2.2.2
    · exact hq.2
  have hS2 : SI (sI uc) (sI ur) := SI_Mp hS1 hF2 (fun _ => rfl) (fun _ => rfl) hsa
  have hW2 : WI (sI ur) := WI_Mp hWI hF2 (fun _ => rfl) (fun _ => rfl) hsa
  have hX1 : TR (sI uc) (sI wr) := TR_C hXR hF1 rfl (fun _ => rfl) rfl
  have hX2 : TR (sI uc) (sI ur) := TR_M hX1 hF2 rfl (fun _ => rfl) rfl
  have hLI : LI adC adM cy (i.toInt + 6) uc ur := (LI_go hT1 (by omega) hM1 (by omega) hR1 hX2 hS2 hW2 hA2 hL2)
  refine lv_icmp_eq (tgt := 1252) hx hb dL_law_1178 (by decide) (fun _ => ?_) (fun c => by first | exact absurd hrx.1 c | exact absurd hrx.1.symm c)
  exact kk H locs uc ur hLI hw
set_option maxHeartbeats 4000000 in
set_option maxRecDepth 100000 in
theorem lc_count {p : Program} {e : Env} {s : State} {m : MethodId} {below : List Frame} {meth : Method} {c : Code} {l : Launch} {b L : Nat} {xs : Nat → Int32} {adK adV : Nat → Nat} {dC : Nat → ClassId} {dI : Nat → Nat → Nat} {cy : Nat → ClassId} {A : Nat → Prop} (hC : CallFix p m c code 4 s #[Value.ref b] wsR RL) (hK : KK dC dI cy s) (hE : SE adK adV A s s.heap) (hSR : SR adK s) (hA : ∀ q : Nat, s.heap.size ≤ q → A q) (hbA : ¬ A b) (hX : va_X b L xs s s.heap) (hbl : b < s.heap.size) (hL : L ≤ 3072) {adC adM : Nat → Nat} {i : Int32} (hi0 : 0 ≤ i.toInt) (hi1 : i.toInt + 6 ≤ L) {wc wr : va_W} {H : Heap} {locs : List Loc} {ls : Array Slot} (hI : LI adC adM cy i.toInt wc wr) (hw : Wd dC dI A s.heap H locs (wc ++ wr)) (hl : lv_has ls 4 [(3, .int i), (2, .ref (adM 0)), (1, .ref (adC 0)), (0, .ref b)]) (kk : ∀ (H : Heap) (locs : List Loc) (wc wr : va_W), LI adC adM cy (i.toInt + 6) wc wr → Wd dC dI A s.heap H locs (wc ++ wr) → W p l e room_1 s m #[Value.ref b] below meth c H locs 184 18569 (lw_Z below #[Value.ref b] s) (F0 m 1252 ls [])) : W p l e room_1 s m #[Value.ref b] below meth c H locs 184 18569 (lw_Z below #[Value.ref b] s) (F0 m 1183 ls []) := by
  have hx := hC.1
  have hb := hC.2.1
  obtain ⟨⟨q1, hT⟩, ⟨q2, hM⟩, hRW, hXR, hSI, hWI, hAI, hLX⟩ := hI
  obtain ⟨s1, hs1⟩ : ∃ y : Int32, xs (i + 1).toNatClampNeg = y := ⟨_, rfl⟩
  refine lv_aload_n hx hb dL_law_1183 rfl (lv_at hl 2 rfl) ?_
  refine lv_aload_n hx hb dL_law_1184 rfl (lv_at hl 3 rfl) ?_
  refine lv_iload_n hx hb dL_law_1185 rfl (lv_at hl 0 rfl) ?_
  refine lv_iconst (v := 1) hx hb dL_law_1186 (by decide) ?_
  refine lv_iadd hx hb dL_law_1187 ?_
  refine va_sld hx hb hX hbl hbA hw.2.2 (lx_ok hi0 hi1 hL (by decide) (by decide)) dL_law_1188 ?_
  refine wk_top s1 hs1 ?_
  obtain ⟨fsX11, hfX11, -⟩ := hT.2.1 0 11 kC_at0 (by decide)
  refine lr_call (ci := 11) hC hK hw hA hE hSR (k_X11_count_1 l adK adV dC dI cy adC (2147483648 + 9000 * i.toInt) (by omega) (by omega) q1 12 s1 wc _ hT) (cwV 1 hC.2.2.2.2 uLV_RL_135 rfl rfl rfl (by decide +kernel) ⟨Nat.le_of_ble_eq_true rfl, Nat.le_of_ble_eq_true rfl⟩) rfl 0 hfX11 rfl hl.1 rfl (by first | exact Nat.le_of_ble_eq_true rfl | decide) dL_law_1189 (Nat.le_of_ble_eq_true rfl) (Nat.le_of_ble_eq_true rfl) (fun r1 uc H locs hp1 hw => ?_)
  refine lv_pop hx hb dL_law_1192 rfl ?_
  refine lv_aload_n hx hb dL_law_1193 rfl (lv_at hl 1 rfl) ?_
  refine lv_aload_n hx hb dL_law_1194 rfl (lv_at hl 3 rfl) ?_
  refine lv_iload_n hx hb dL_law_1195 rfl (lv_at hl 0 rfl) ?_
  refine lv_iconst (v := 1) hx hb dL_law_1196 (by decide) ?_
  refine lv_iadd hx hb dL_law_1197 ?_
  refine va_sld hx hb hX hbl hbA hw.2.2 (lx_ok hi0 hi1 hL (by decide) (by decide)) dL_law_1198 ?_
  refine wk_top s1 hs1 ?_
  obtain ⟨fsX12, hfX12, -⟩ := hM.2.1 0 12 kM_at0 (by decide)
  refine lr_call (ci := 12) hC hK hw hA hE hSR (k_X12_count_1 l adK adV dC dI cy adM (100000 + 9000 * i.toInt) (by omega) (by omega) q2 12 s1 wr _ hM) (cwV 1 hC.2.2.2.2 uLV_RL_138 rfl rfl rfl (by decide +kernel) ⟨Nat.le_of_ble_eq_true rfl, Nat.le_of_ble_eq_true rfl⟩) rfl 0 hfX12 rfl hl.1 rfl (by first | exact Nat.le_of_ble_eq_true rfl | decide) dL_law_1199 (Nat.le_of_ble_eq_true rfl) (Nat.le_of_ble_eq_true rfl) (fun r2 ur H locs hp2 hw => ?_)
  obtain ⟨hT1, hF1, hg1⟩ := hp1
  obtain ⟨he2, hg2⟩ := hp2
  have hM1 := hM
  rw [he2] at hM1
  have hR1 := hRW
  rw [he2] at hR1
  have hA2 : AIc (sI uc) := AI_FE hAI hF1 rfl
  have hci : gi uc 149 9 = 0 := hF1.gi kC_at149 rfl hLX.2.2.1
  have hf27 := hLX.2.2.2.1
  have hf30 := hLX.2.2.2.2
  rw [he2] at hf27 hf30
  have hRR := RR_C hLX.1 hF1 rfl
  rw [he2] at hRR
  have hXS := XR_C hLX.2.1 hF1 rfl
  rw [he2] at hXS
  have hL2 : LX uc ur := ⟨hRR, hXS, hci, hf27, hf30⟩
  have hS1 : SI (sI uc) (sI wr) := SI_C hSI hF1 rfl
  have hS2 := hS1
  rw [he2] at hS2
  have hW2 := hWI
  rw [he2] at hW2
  have hX1 : TR (sI uc) (sI wr) := TR_C hXR hF1 rfl (fun _ => rfl) rfl
  have hX2 := hX1
  rw [he2] at hX2
  have hLI : LI adC adM cy (i.toInt + 6) uc ur := (LI_go hT1 (by omega) hM1 (by omega) hR1 hX2 hS2 hW2 hA2 hL2)
  refine lv_pop hx hb dL_law_1202 rfl ?_
  refine lv_goto (tgt := 1252) hx hb dL_law_1203 (by decide) ?_
  exact kk H locs uc ur hLI hw
set_option maxHeartbeats 4000000 in
set_option maxRecDepth 100000 in
theorem lc_image {p : Program} {e : Env} {s : State} {m : MethodId} {below : List Frame} {meth : Method} {c : Code} {l : Launch} {b L : Nat} {xs : Nat → Int32} {adK adV : Nat → Nat} {dC : Nat → ClassId} {dI : Nat → Nat → Nat} {cy : Nat → ClassId} {A : Nat → Prop} (hC : CallFix p m c code 4 s #[Value.ref b] wsR RL) (hK : KK dC dI cy s) (hE : SE adK adV A s s.heap) (hSR : SR adK s) (hA : ∀ q : Nat, s.heap.size ≤ q → A q) (hbA : ¬ A b) (hX : va_X b L xs s s.heap) (hbl : b < s.heap.size) (hL : L ≤ 3072) {adC adM : Nat → Nat} {i : Int32} (hi0 : 0 ≤ i.toInt) (hi1 : i.toInt + 6 ≤ L) {wc wr : va_W} {H : Heap} {locs : List Loc} {ls : Array Slot} (hI : LI adC adM cy i.toInt wc wr) (hw : Wd dC dI A s.heap H locs (wc ++ wr)) (hl : lv_has ls 4 [(3, .int i), (2, .ref (adM 0)), (1, .ref (adC 0)), (0, .ref b)]) (kk : ∀ (H : Heap) (locs : List Loc) (wc wr : va_W), LI adC adM cy (i.toInt + 6) wc wr → Wd dC dI A s.heap H locs (wc ++ wr) → W p l e room_1 s m #[Value.ref b] below meth c H locs 184 18569 (lw_Z below #[Value.ref b] s) (F0 m 1252 ls [])) : W p l e room_1 s m #[Value.ref b] below meth c H locs 184 18569 (lw_Z below #[Value.ref b] s) (F0 m 1206 ls []) := by
  have hx := hC.1
  have hb := hC.2.1
  obtain ⟨⟨q1, hT⟩, ⟨q2, hM⟩, hRW, hXR, hSI, hWI, hAI, hLX⟩ := hI
  obtain ⟨s1, hs1⟩ : ∃ y : Int32, xs (i + 1).toNatClampNeg = y := ⟨_, rfl⟩
  refine lv_aload_n hx hb dL_law_1206 rfl (lv_at hl 2 rfl) ?_
  refine lv_aload_n hx hb dL_law_1207 rfl (lv_at hl 3 rfl) ?_
  refine lv_iload_n hx hb dL_law_1208 rfl (lv_at hl 0 rfl) ?_
  refine lv_iconst (v := 1) hx hb dL_law_1209 (by decide) ?_
  refine lv_iadd hx hb dL_law_1210 ?_
  refine va_sld hx hb hX hbl hbA hw.2.2 (lx_ok hi0 hi1 hL (by decide) (by decide)) dL_law_1211 ?_
  refine wk_top s1 hs1 ?_
  obtain ⟨fsX11, hfX11, -⟩ := hT.2.1 0 11 kC_at0 (by decide)
  refine lr_call (ci := 11) hC hK hw hA hE hSR (kz_X11_image_1 l adK adV dC dI cy adC (2147483648 + 9000 * i.toInt) (by omega) (by omega) q1 12 s1 wc _ hT) (cwV 1 hC.2.2.2.2 uLV_RL_139 rfl rfl rfl (by decide +kernel) ⟨Nat.le_of_ble_eq_true rfl, Nat.le_of_ble_eq_true rfl⟩) rfl 0 hfX11 rfl hl.1 rfl (by first | exact Nat.le_of_ble_eq_true rfl | decide) dL_law_1212 (Nat.le_of_ble_eq_true rfl) (Nat.le_of_ble_eq_true rfl) (fun r1 uc H locs hp1 hw => ?_)
  refine lv_pop hx hb dL_law_1215 rfl ?_
  refine lv_aload_n hx hb dL_law_1216 rfl (lv_at hl 1 rfl) ?_
  refine lv_aload_n hx hb dL_law_1217 rfl (lv_at hl 3 rfl) ?_
  refine lv_iload_n hx hb dL_law_1218 rfl (lv_at hl 0 rfl) ?_
  refine lv_iconst (v := 1) hx hb dL_law_1219 (by decide) ?_
  refine lv_iadd hx hb dL_law_1220 ?_
  refine va_sld hx hb hX hbl hbA hw.2.2 (lx_ok hi0 hi1 hL (by decide) (by decide)) dL_law_1221 ?_
  refine wk_top s1 hs1 ?_
  obtain ⟨fsX12, hfX12, -⟩ := hM.2.1 0 12 kM_at0 (by decide)
  refine lr_call (ci := 12) hC hK hw hA hE hSR (kz_X12_image_1 l adK adV dC dI cy adM (100000 + 9000 * i.toInt) (by omega) (by omega) q2 12 s1 wr _ hM) (cwV 1 hC.2.2.2.2 uLV_RL_142 rfl rfl rfl (by decide +kernel) ⟨Nat.le_of_ble_eq_true rfl, Nat.le_of_ble_eq_true rfl⟩) rfl 0 hfX12 rfl hl.1 rfl (by first | exact Nat.le_of_ble_eq_true rfl | decide) dL_law_1222 (Nat.le_of_ble_eq_true rfl) (Nat.le_of_ble_eq_true rfl) (fun r2 ur H locs hp2 hw => ?_)
  obtain ⟨hT1, hF1, hE1, hg1⟩ := hp1
  obtain ⟨hM1, hF2, hE2, hg2⟩ := hp2
  have hR1 : RW ur := RW_FE hF2 (fun _ => rfl) (fun _ => rfl) (fun _ => rfl) hRW
  have hA2 : AIc (sI uc) := AW_image hSI hAI hE1
  have hci : gi uc 149 9 = 0 := hF1.gi kC_at149 rfl hLX.2.2.1
  have hf27 : gi ur 0 27 = 1 := hF2.gi kM_at0 rfl hLX.2.2.2.1
  have hf30 : gi ur 0 30 = 0 := hF2.gi kM_at0 rfl hLX.2.2.2.2
  have hRR := RR_C hLX.1 hF1 rfl
  have hRR := RR_M hRR hF2 rfl (fun _ => rfl) (fun _ => rfl) (fun _ => rfl)
  have hXS := XW_image hLX.2.1 hE1 hE2
  have hL2 : LX uc ur := ⟨hRR, hXS, hci, hf27, hf30⟩
  have hS2 := SI_image hSI hE1 hE2
  have hW2 := EW_image hWI hE2
  have hX1 : TR (sI uc) (sI wr) := TR_C hXR hF1 rfl (fun _ => rfl) rfl
  have hX2 : TR (sI uc) (sI ur) := TR_M hX1 hF2 rfl (fun _ => rfl) rfl
  have hLI : LI adC adM cy (i.toInt + 6) uc ur := (LI_go hT1 (by omega) hM1 (by omega) hR1 hX2 hS2 hW2 hA2 hL2)
  refine lv_pop hx hb dL_law_1225 rfl ?_
  refine lv_goto (tgt := 1252) hx hb dL_law_1226 (by decide) ?_
  exact kk H locs uc ur hLI hw
set_option maxHeartbeats 4000000 in
set_option maxRecDepth 100000 in
theorem lc_back {p : Program} {e : Env} {s : State} {m : MethodId} {below : List Frame} {meth : Method} {c : Code} {l : Launch} {b L : Nat} {xs : Nat → Int32} {adK adV : Nat → Nat} {dC : Nat → ClassId} {dI : Nat → Nat → Nat} {cy : Nat → ClassId} {A : Nat → Prop} (hC : CallFix p m c code 4 s #[Value.ref b] wsR RL) (hK : KK dC dI cy s) (hE : SE adK adV A s s.heap) (hSR : SR adK s) (hA : ∀ q : Nat, s.heap.size ≤ q → A q) (hbA : ¬ A b) (hX : va_X b L xs s s.heap) (hbl : b < s.heap.size) (hL : L ≤ 3072) {adC adM : Nat → Nat} {i : Int32} (hi0 : 0 ≤ i.toInt) (hi1 : i.toInt + 6 ≤ L) {wc wr : va_W} {H : Heap} {locs : List Loc} {ls : Array Slot} (hI : LI adC adM cy i.toInt wc wr) (hw : Wd dC dI A s.heap H locs (wc ++ wr)) (hl : lv_has ls 4 [(3, .int i), (2, .ref (adM 0)), (1, .ref (adC 0)), (0, .ref b)]) (kk : ∀ (H : Heap) (locs : List Loc) (wc wr : va_W), LI adC adM cy (i.toInt + 6) wc wr → Wd dC dI A s.heap H locs (wc ++ wr) → W p l e room_1 s m #[Value.ref b] below meth c H locs 184 18569 (lw_Z below #[Value.ref b] s) (F0 m 1252 ls [])) : W p l e room_1 s m #[Value.ref b] below meth c H locs 184 18569 (lw_Z below #[Value.ref b] s) (F0 m 1229 ls []) := by
  have hx := hC.1
  have hb := hC.2.1
  obtain ⟨⟨q1, hT⟩, ⟨q2, hM⟩, hRW, hXR, hSI, hWI, hAI, hLX⟩ := hI
  obtain ⟨s1, hs1⟩ : ∃ y : Int32, xs (i + 1).toNatClampNeg = y := ⟨_, rfl⟩
  refine lv_aload_n hx hb dL_law_1229 rfl (lv_at hl 2 rfl) ?_
  refine lv_aload_n hx hb dL_law_1230 rfl (lv_at hl 3 rfl) ?_
  refine lv_iload_n hx hb dL_law_1231 rfl (lv_at hl 0 rfl) ?_
  refine lv_iconst (v := 1) hx hb dL_law_1232 (by decide) ?_
  refine lv_iadd hx hb dL_law_1233 ?_
  refine va_sld hx hb hX hbl hbA hw.2.2 (lx_ok hi0 hi1 hL (by decide) (by decide)) dL_law_1234 ?_
  refine wk_top s1 hs1 ?_
  obtain ⟨fsX11, hfX11, -⟩ := hT.2.1 0 11 kC_at0 (by decide)
  refine lr_call (ci := 11) hC hK hw hA hE hSR (kz_X11_back_1 l adK adV dC dI cy adC (2147483648 + 9000 * i.toInt) (by omega) (by omega) q1 12 s1 wc _ hT) (cwV 1 hC.2.2.2.2 uLV_RL_143 rfl rfl rfl (by decide +kernel) ⟨Nat.le_of_ble_eq_true rfl, Nat.le_of_ble_eq_true rfl⟩) rfl 0 hfX11 rfl hl.1 rfl (by first | exact Nat.le_of_ble_eq_true rfl | decide) dL_law_1235 (Nat.le_of_ble_eq_true rfl) (Nat.le_of_ble_eq_true rfl) (fun r1 uc H locs hp1 hw => ?_)
  refine lv_pop hx hb dL_law_1238 rfl ?_
  refine lv_aload_n hx hb dL_law_1239 rfl (lv_at hl 1 rfl) ?_
  refine lv_aload_n hx hb dL_law_1240 rfl (lv_at hl 3 rfl) ?_
  refine lv_iload_n hx hb dL_law_1241 rfl (lv_at hl 0 rfl) ?_
  refine lv_iconst (v := 1) hx hb dL_law_1242 (by decide) ?_
  refine lv_iadd hx hb dL_law_1243 ?_
  refine va_sld hx hb hX hbl hbA hw.2.2 (lx_ok hi0 hi1 hL (by decide) (by decide)) dL_law_1244 ?_
  refine wk_top s1 hs1 ?_
  obtain ⟨fsX12, hfX12, -⟩ := hM.2.1 0 12 kM_at0 (by decide)
  refine lr_call (ci := 12) hC hK hw hA hE hSR (kz_X12_back_1 l adK adV dC dI cy adM (100000 + 9000 * i.toInt) (by omega) (by omega) q2 12 s1 wr _ hM) (cwV 1 hC.2.2.2.2 uLV_RL_146 rfl rfl rfl (by decide +kernel) ⟨Nat.le_of_ble_eq_true rfl, Nat.le_of_ble_eq_true rfl⟩) rfl 0 hfX12 rfl hl.1 rfl (by first | exact Nat.le_of_ble_eq_true rfl | decide) dL_law_1245 (Nat.le_of_ble_eq_true rfl) (Nat.le_of_ble_eq_true rfl) (fun r2 ur H locs hp2 hw => ?_)
  obtain ⟨hT1, hF1, hE1, hg1⟩ := hp1
  obtain ⟨hM1, hF2, hE2, hg2⟩ := hp2
  have hR1 : RW ur := RW_FE hF2 (fun _ => rfl) (fun _ => rfl) (fun _ => rfl) hRW
  have hA2 : AIc (sI uc) := AW_back hSI hAI hE1
  have hci : gi uc 149 9 = 0 := hF1.gi kC_at149 rfl hLX.2.2.1
  have hf27 : gi ur 0 27 = 1 := hF2.gi kM_at0 rfl hLX.2.2.2.1
  have hf30 : gi ur 0 30 = 0 := hF2.gi kM_at0 rfl hLX.2.2.2.2
  have hRR := RR_C hLX.1 hF1 rfl
  have hRR := RR_M hRR hF2 rfl (fun _ => rfl) (fun _ => rfl) (fun _ => rfl)
  have hXS := XW_back hSI hLX.2.1 hE1 hE2
  have hL2 : LX uc ur := ⟨hRR, hXS, hci, hf27, hf30⟩
  have hS2 := SI_back hSI hE1 hE2
  have hW2 := EW_back hWI hE2
  have hX1 : TR (sI uc) (sI wr) := TR_C hXR hF1 rfl (fun _ => rfl) rfl
  have hX2 : TR (sI uc) (sI ur) := TR_M hX1 hF2 rfl (fun _ => rfl) rfl
  have hLI : LI adC adM cy (i.toInt + 6) uc ur := (LI_go hT1 (by omega) hM1 (by omega) hR1 hX2 hS2 hW2 hA2 hL2)
  refine lv_pop hx hb dL_law_1248 rfl ?_
  refine lv_goto (tgt := 1252) hx hb dL_law_1249 (by decide) ?_
  exact kk H locs uc ur hLI hw
