set_option maxHeartbeats 4000000 in
set_option maxRecDepth 100000 in
theorem kX7_worksRules (l : Launch) (D : va_G) (A : Nat → Nat) (B : Nat → ClassId) (sz : Nat) (S : w_S) (a1 : Int32) (a2 : Int32) (z : Int64 × w_S) (hf : fX7_worksRules S a1 a2 = some z) : MetW l yX7_worksRules (wsO yX7_worksRules cX7_worksRules 9 (some .long)) rm_X7_worksRules [.ref (A 0), .int a1, .int a2] D (tyB B) (wM A B S) (wM A B z.2) sz (some (.long z.1)) := by
  refine MetW.mkL (cc := cX7_worksRules) (maxL := 9) (by decide) (Nat.le_of_ble_eq_true rfl) ?_
  intro p e s m args below meth c Ad Q hx hb hts hown hml hN hK hA hR H locs ls hP hD hS hl
  have hl : lv_has ls 9 [(0, .ref (A 0)), (1, .int a1), (2, .int a2)] := hl
  rw [fX7_worksRules] at hf
  refine lv_aload_n (pc := 0) hx hb dX7_worksRules_0 rfl (lv_at hl 0 rfl) ?_
  refine lv_iload_n (pc := 1) hx hb dX7_worksRules_1 rfl (lv_at hl 1 rfl) ?_
  obtain ⟨r2, hc2, hf⟩ := hf_b hf
  refine cl_V (pc := 2) (As := [.int a1]) (rest := []) hx hb hml hown hts (kX7_unknownsOf l D A B _ S a1 r2 hc2) (cwV 1 hts gwRX7_212 rfl rfl rfl hdX7_unknownsOf ⟨Nat.le_of_ble_eq_true rfl, Nat.le_of_ble_eq_true rfl⟩) hN hK hP hD hS hA (va_recv hK hP (ci := 7) (q0 := 0) rfl (eM_0 A B _)) rfl hl.1 rfl (Nat.le_of_ble_eq_true rfl) dX7_worksRules_2 (st1 := [.int r2.1]) rfl ⟨Nat.zero_le _, Nat.zero_le _⟩ (fun H locs hP hD hS => ?_)
  refine lv_istore_n (pc := 5) hx hb (lv' := [(3, .int r2.1), (0, .ref (A 0)), (1, .int a1), (2, .int a2)]) dX7_worksRules_5 rfl hl (by decide) rfl (fun ls hl => ?_)
  refine lv_iconst (pc := 6) hx hb (v := 0) dX7_worksRules_6 (by decide) ?_
  refine lv_istore (pc := 7) hx hb (lv' := [(4, .int 0), (3, .int r2.1), (0, .ref (A 0)), (1, .int a1), (2, .int a2)]) dX7_worksRules_7 hl (by decide) rfl (fun ls hl => ?_)
  obtain ⟨q9, hq9, hf⟩ := hf_b hf
  have hk9 : ∀ (H : Heap) (locs : List Loc) (ls : Array Slot), va_P D vwCl (wM A B q9) H → va_D Ad (wM A B q9) → va_S Ad s.heap H locs → lv_has ls 9 [(0, .ref (A 0)), (3, .int r2.1)] → W p l e rm_X7_worksRules s m args below meth c H locs 0 0 Q (F0 m 80 ls []) := by
    intro H locs ls hP hD hS hl
    refine lv_lconst (pc := 80) hx hb (v := 1) dX7_worksRules_80 (by decide) ?_
    refine lv_lstore (pc := 81) hx hb (lv' := [(4, .long 1), (0, .ref (A 0)), (3, .int r2.1)]) dX7_worksRules_81 hl (by decide) rfl (fun ls hl => ?_)
    refine lv_iconst (pc := 83) hx hb (v := 0) dX7_worksRules_83 (by decide) ?_
    refine lv_istore (pc := 84) hx hb (lv' := [(6, .int 0), (4, .long 1), (0, .ref (A 0)), (3, .int r2.1)]) dX7_worksRules_84 hl (by decide) rfl (fun ls hl => ?_)
    refine lv_iconst (pc := 86) hx hb (v := 0) dX7_worksRules_86 (by decide) ?_
    refine lv_istore (pc := 87) hx hb (lv' := [(7, .int 0), (6, .int 0), (4, .long 1), (0, .ref (A 0)), (3, .int r2.1)]) dX7_worksRules_87 hl (by decide) rfl (fun ls hl => ?_)
    obtain ⟨q89, hq89, hf⟩ := hf_b hf
    have hk89 : ∀ (H : Heap) (locs : List Loc) (ls : Array Slot), va_P D vwCl (wM A B q89.1) H → va_D Ad (wM A B q89.1) → va_S Ad s.heap H locs → lv_has ls 9 [(0, .ref (A 0)), (4, .long q89.2)] → W p l e rm_X7_worksRules s m args below meth c H locs 0 0 Q (F0 m 192 ls []) := by
      intro H locs ls hP hD hS hl
      refine lv_iconst (pc := 192) hx hb (v := 0) dX7_worksRules_192 (by decide) ?_
      refine lv_istore (pc := 193) hx hb (lv' := [(7, .int 0), (0, .ref (A 0)), (4, .long q89.2)]) dX7_worksRules_193 hl (by decide) rfl (fun ls hl => ?_)
      obtain ⟨q195, hq195, hf⟩ := hf_b hf
      have hk195 : ∀ (H : Heap) (locs : List Loc) (ls : Array Slot), va_P D vwCl (wM A B q195) H → va_D Ad (wM A B q195) → va_S Ad s.heap H locs → lv_has ls 9 [(4, .long q89.2)] → W p l e rm_X7_worksRules s m args below meth c H locs 0 0 Q (F0 m 331 ls []) := by
        intro H locs ls hP hD hS hl
        refine lv_lload (pc := 331) hx hb dX7_worksRules_331 (lv_at hl 0 rfl) ?_
        obtain rfl := Option.some.inj hf
        exact hR H locs 333 ls hP hD hS dX7_worksRules_333
      have lp195 : ∀ (n : Nat) (T195 : w_S) (u7_195 : Int32) (H : Heap) (locs : List Loc) (ls : Array Slot), fX7_worksRules_L195 q89.2 n T195 u7_195 = some q195 → va_P D vwCl (wM A B T195) H → va_D Ad (wM A B T195) → va_S Ad s.heap H locs → lv_has ls 9 [(0, .ref (A 0)), (4, .long q89.2), (7, .int u7_195)] → W p l e rm_X7_worksRules s m args below meth c H locs 0 0 Q (F0 m 195 ls []) := by
        intro n195
        induction n195 with
        | zero => intro T195 u7_195 H locs ls hq195; exact hf_0 hq195
        | succ n195 ih195 =>
          intro T195 u7_195 H locs ls hq195 hP hD hS hl
          rw [fX7_worksRules_L195] at hq195
          refine lv_iload (pc := 195) hx hb dX7_worksRules_195 (lv_at hl 2 rfl) ?_
          refine lv_aload_n (pc := 197) hx hb dX7_worksRules_197 rfl (lv_at hl 0 rfl) ?_
          refine vMgRX7_19_0 (pc := 198) hx hb hts mU_84 inU7 hown hK hP (x := (gI T195 0)) rfl dX7_worksRules_198 ?_
          refine lv_aload_n (pc := 201) hx hb dX7_worksRules_201 rfl (lv_at hl 0 rfl) ?_
          refine vMgRX7_23_0 (pc := 202) hx hb hts mU_85 inU7 hown hK hP (x := (gI T195 1)) rfl dX7_worksRules_202 ?_
          refine lv_imul (pc := 205) hx hb dX7_worksRules_205 ?_
          refine lv_icmp_ge (pc := 206) hx hb (tgt := 331) dX7_worksRules_206 (by decide) (fun c_206 => ?_) (fun c_206 => ?_)
          · have hq195 := hf_t c_206 hq195
            obtain rfl := Option.some.inj hq195
            exact hk195 H locs ls hP hD hS (lv_sub hl [1] rfl)
          · have hq195 := hf_f c_206 hq195
            refine lv_aload_n (pc := 209) hx hb dX7_worksRules_209 rfl (lv_at hl 0 rfl) ?_
            refine vMgRX7_61_0 (pc := 210) hx hb hts mU_97 inU7 hown hK hP dX7_worksRules_210 ?_
            refine lv_iload (pc := 213) hx hb dX7_worksRules_213 (lv_at hl 2 rfl) ?_
            refine lv_lload (pc := 215) hx hb dX7_worksRules_215 (lv_at hl 1 rfl) ?_
            refine lv_aload_n (pc := 217) hx hb dX7_worksRules_217 rfl (lv_at hl 0 rfl) ?_
            refine lv_iconst (pc := 218) hx hb (v := 2) dX7_worksRules_218 (by decide) ?_
            refine lv_iload (pc := 219) hx hb dX7_worksRules_219 (lv_at hl 2 rfl) ?_
            refine lv_aload_n (pc := 221) hx hb dX7_worksRules_221 rfl (lv_at hl 0 rfl) ?_
            refine vMgRX7_23_0 (pc := 222) hx hb hts mU_85 inU7 hown hK hP (x := (gI T195 1)) rfl dX7_worksRules_222 ?_
            obtain ⟨hg225, hq195⟩ := hf_g hq195
            refine lv_idiv (pc := 225) hx hb dX7_worksRules_225 hg225 ?_
            refine lv_iload (pc := 226) hx hb dX7_worksRules_226 (lv_at hl 2 rfl) ?_
            refine lv_aload_n (pc := 228) hx hb dX7_worksRules_228 rfl (lv_at hl 0 rfl) ?_
            refine vMgRX7_23_0 (pc := 229) hx hb hts mU_85 inU7 hown hK hP (x := (gI T195 1)) rfl dX7_worksRules_229 ?_
            obtain ⟨hg232, hq195⟩ := hf_g hq195
            refine lv_irem (pc := 232) hx hb dX7_worksRules_232 hg232 ?_
            obtain ⟨r233, hc233, hq195⟩ := hf_b hq195
            refine cl_V (pc := 233) (As := [.int 2, .int (u7_195 / (gI T195 1)), .int (u7_195 - u7_195 / (gI T195 1) * (gI T195 1))]) (rest := [.long q89.2, .int u7_195, .ref (A 14)]) hx hb hml hown hts (kX7_its l D A B _ T195 2 (u7_195 / (gI T195 1)) (u7_195 - u7_195 / (gI T195 1) * (gI T195 1)) r233 hc233) (cwV 3 hts gwRX7_128 rfl rfl rfl hdX7_its ⟨Nat.le_of_ble_eq_true rfl, Nat.le_of_ble_eq_true rfl⟩) hN hK hP hD hS hA (va_recv hK hP (ci := 7) (q0 := 0) rfl (eM_0 A B _)) rfl hl.1 rfl (Nat.le_of_ble_eq_true rfl) dX7_worksRules_233 (st1 := [.int r233, .long q89.2, .int u7_195, .ref (A 14)]) rfl ⟨Nat.zero_le _, Nat.zero_le _⟩ (fun H locs hP hD hS => ?_)
            refine lv_i2l (pc := 236) hx hb (v := r233.toInt64) dX7_worksRules_236 rfl ?_
            refine lv_lmul (pc := 237) hx hb dX7_worksRules_237 ?_
            obtain ⟨hg238, hq195⟩ := hf_g hq195
            refine vMwa_14 (pc := 238) hx hb hK hP hD hS (f := (gB T195 2)) rfl hg238 dX7_worksRules_238 (fun H locs hP hD hS => ?_)
            refine lv_iconst (pc := 239) hx hb (v := 0) dX7_worksRules_239 (by decide) ?_
            refine lv_istore (pc := 240) hx hb (lv' := [(8, .int 0), (0, .ref (A 0)), (4, .long q89.2), (7, .int u7_195)]) dX7_worksRules_240 hl (by decide) rfl (fun ls hl => ?_)
            obtain ⟨q242, hq242, hq195⟩ := hf_b hq195
            have hk242 : ∀ (H : Heap) (locs : List Loc) (ls : Array Slot), va_P D vwCl (wM A B q242) H → va_D Ad (wM A B q242) → va_S Ad s.heap H locs → lv_has ls 9 [(0, .ref (A 0)), (4, .long q89.2), (7, .int u7_195)] → W p l e rm_X7_worksRules s m args below meth c H locs 0 0 Q (F0 m 325 ls []) := by
              intro H locs ls hP hD hS hl
              refine lv_iinc (pc := 325) hx hb (v := u7_195 + 1) (lv' := [(7, .int (u7_195 + 1)), (0, .ref (A 0)), (4, .long q89.2)]) dX7_worksRules_325 hl (k := 2) rfl rfl (by decide) rfl (fun ls hl => ?_)
              refine lv_goto (pc := 328) hx hb (tgt := 195) dX7_worksRules_328 (by decide) ?_
              exact ih195 q242 (u7_195 + 1) H locs ls hq195 hP hD hS (lv_sub hl [1, 2, 0] rfl)
            have lp242 : ∀ (n : Nat) (T242 : w_S) (u8_242 : Int32) (H : Heap) (locs : List Loc) (ls : Array Slot), fX7_worksRules_L242 q89.2 u7_195 n T242 u8_242 = some q242 → va_P D vwCl (wM A B T242) H → va_D Ad (wM A B T242) → va_S Ad s.heap H locs → lv_has ls 9 [(0, .ref (A 0)), (4, .long q89.2), (7, .int u7_195), (8, .int u8_242)] → W p l e rm_X7_worksRules s m args below meth c H locs 0 0 Q (F0 m 242 ls []) := by
              intro n242
              induction n242 with
              | zero => intro T242 u8_242 H locs ls hq242; exact hf_0 hq242
              | succ n242 ih242 =>
                intro T242 u8_242 H locs ls hq242 hP hD hS hl
                rw [fX7_worksRules_L242] at hq242
                refine lv_iload (pc := 242) hx hb dX7_worksRules_242 (lv_at hl 3 rfl) ?_
                refine lv_aload_n (pc := 244) hx hb dX7_worksRules_244 rfl (lv_at hl 0 rfl) ?_
                refine vMgRX7_19_0 (pc := 245) hx hb hts mU_84 inU7 hown hK hP (x := (gI T242 0)) rfl dX7_worksRules_245 ?_
                refine lv_aload_n (pc := 248) hx hb dX7_worksRules_248 rfl (lv_at hl 0 rfl) ?_
                refine vMgRX7_23_0 (pc := 249) hx hb hts mU_85 inU7 hown hK hP (x := (gI T242 1)) rfl dX7_worksRules_249 ?_
                refine lv_imul (pc := 252) hx hb dX7_worksRules_252 ?_
                refine lv_icmp_ge (pc := 253) hx hb (tgt := 325) dX7_worksRules_253 (by decide) (fun c_253 => ?_) (fun c_253 => ?_)
                · have hq242 := hf_t c_253 hq242
                  obtain rfl := Option.some.inj hq242
                  exact hk242 H locs ls hP hD hS (lv_sub hl [0, 1, 2] rfl)
                · have hq242 := hf_f c_253 hq242
                  refine lv_aload_n (pc := 256) hx hb dX7_worksRules_256 rfl (lv_at hl 0 rfl) ?_
                  refine vMgRX7_61_0 (pc := 257) hx hb hts mU_97 inU7 hown hK hP dX7_worksRules_257 ?_
                  refine lv_iload (pc := 260) hx hb dX7_worksRules_260 (lv_at hl 2 rfl) ?_
                  refine lv_dup2_11 (pc := 262) hx hb dX7_worksRules_262 rfl rfl ?_
                  obtain ⟨hg263, hq242⟩ := hf_g hq242
                  refine vMra_14 (pc := 263) hx hb hK hP (f := (gB T242 2)) rfl hg263 dX7_worksRules_263 ?_
                  refine lv_aload_n (pc := 264) hx hb dX7_worksRules_264 rfl (lv_at hl 0 rfl) ?_
                  refine vMgRX7_64_0 (pc := 265) hx hb hts mU_98 inU7 hown hK hP dX7_worksRules_265 ?_
                  refine lv_iload (pc := 268) hx hb dX7_worksRules_268 (lv_at hl 3 rfl) ?_
                  obtain ⟨hg270, hq242⟩ := hf_g hq242
                  refine vMra_15 (pc := 270) hx hb hK hP (f := (gA T242 11)) rfl hg270 dX7_worksRules_270 ?_
                  refine lv_if_ge (pc := 271) hx hb (tgt := 278) dX7_worksRules_271 (by decide) (fun c_271 => ?_) (fun c_271 => ?_)
                  · have hq242 := hf_t c_271 hq242
                    refine lv_aload_n (pc := 278) hx hb dX7_worksRules_278 rfl (lv_at hl 0 rfl) ?_
                    refine lv_iconst (pc := 279) hx hb (v := 2) dX7_worksRules_279 (by decide) ?_
                    refine lv_iload (pc := 280) hx hb dX7_worksRules_280 (lv_at hl 3 rfl) ?_
                    refine lv_aload_n (pc := 282) hx hb dX7_worksRules_282 rfl (lv_at hl 0 rfl) ?_
                    refine vMgRX7_23_0 (pc := 283) hx hb hts mU_85 inU7 hown hK hP (x := (gI T242 1)) rfl dX7_worksRules_283 ?_
                    obtain ⟨hg286, hq242⟩ := hf_g hq242
                    refine lv_idiv (pc := 286) hx hb dX7_worksRules_286 hg286 ?_
                    refine lv_iload (pc := 287) hx hb dX7_worksRules_287 (lv_at hl 3 rfl) ?_
                    refine lv_aload_n (pc := 289) hx hb dX7_worksRules_289 rfl (lv_at hl 0 rfl) ?_
                    refine vMgRX7_23_0 (pc := 290) hx hb hts mU_85 inU7 hown hK hP (x := (gI T242 1)) rfl dX7_worksRules_290 ?_
                    obtain ⟨hg293, hq242⟩ := hf_g hq242
                    refine lv_irem (pc := 293) hx hb dX7_worksRules_293 hg293 ?_
                    obtain ⟨r294, hc294, hq242⟩ := hf_b hq242
                    refine cl_V (pc := 294) (As := [.int 2, .int (u8_242 / (gI T242 1)), .int (u8_242 - u8_242 / (gI T242 1) * (gI T242 1))]) (rest := [.long ((gB T242 2) u7_195.toNatClampNeg), .int u7_195, .ref (A 14)]) hx hb hml hown hts (kX7_its l D A B _ T242 2 (u8_242 / (gI T242 1)) (u8_242 - u8_242 / (gI T242 1) * (gI T242 1)) r294 hc294) (cwV 3 hts gwRX7_128 rfl rfl rfl hdX7_its ⟨Nat.le_of_ble_eq_true rfl, Nat.le_of_ble_eq_true rfl⟩) hN hK hP hD hS hA (va_recv hK hP (ci := 7) (q0 := 0) rfl (eM_0 A B _)) rfl hl.1 rfl (Nat.le_of_ble_eq_true rfl) dX7_worksRules_294 (st1 := [.int r294, .long ((gB T242 2) u7_195.toNatClampNeg), .int u7_195, .ref (A 14)]) rfl ⟨Nat.zero_le _, Nat.zero_le _⟩ (fun H locs hP hD hS => ?_)
                    refine lv_i2l (pc := 297) hx hb (v := r294.toInt64) dX7_worksRules_297 rfl ?_
                    refine lv_aload_n (pc := 298) hx hb dX7_worksRules_298 rfl (lv_at hl 0 rfl) ?_
                    refine vMgRX7_58_0 (pc := 299) hx hb hts mU_96 inU7 hown hK hP dX7_worksRules_299 ?_
                    refine lv_bipush (pc := 302) hx hb (v := 9) dX7_worksRules_302 (by decide) ?_
                    refine lv_aload_n (pc := 304) hx hb dX7_worksRules_304 rfl (lv_at hl 0 rfl) ?_
                    refine vMgRX7_64_0 (pc := 305) hx hb hts mU_98 inU7 hown hK hP dX7_worksRules_305 ?_
                    refine lv_iload (pc := 308) hx hb dX7_worksRules_308 (lv_at hl 3 rfl) ?_
                    obtain ⟨hg310, hq242⟩ := hf_g hq242
                    refine vMra_15 (pc := 310) hx hb hK hP (f := (gA T242 11)) rfl hg310 dX7_worksRules_310 ?_
                    refine lv_imul (pc := 311) hx hb dX7_worksRules_311 ?_
                    refine lv_iload (pc := 312) hx hb dX7_worksRules_312 (lv_at hl 2 rfl) ?_
                    refine lv_iadd (pc := 314) hx hb dX7_worksRules_314 ?_
                    obtain ⟨hg315, hq242⟩ := hf_g hq242
                    refine vMra_13 (pc := 315) hx hb hK hP (f := (gB T242 1)) rfl hg315 dX7_worksRules_315 ?_
                    refine lv_lmul (pc := 316) hx hb dX7_worksRules_316 ?_
                    refine lv_lsub (pc := 317) hx hb dX7_worksRules_317 ?_
                    obtain ⟨hg318, hq242⟩ := hf_g hq242
                    refine vMwa_14 (pc := 318) hx hb hK hP hD hS (f := (gB T242 2)) rfl hg318 dX7_worksRules_318 (fun H locs hP hD hS => ?_)
                    refine lv_iinc (pc := 319) hx hb (v := u8_242 + 1) (lv' := [(8, .int (u8_242 + 1)), (0, .ref (A 0)), (4, .long q89.2), (7, .int u7_195)]) dX7_worksRules_319 hl (k := 3) rfl rfl (by decide) rfl (fun ls hl => ?_)
                    refine lv_goto (pc := 322) hx hb (tgt := 242) dX7_worksRules_322 (by decide) ?_
                    exact ih242 (sB T242 2 (vp_updL (gB T242 2) u7_195.toNatClampNeg (((gB T242 2) u7_195.toNatClampNeg) - (r294.toInt64 * ((gB T242 1) ((9 * ((gA T242 11) u8_242.toNatClampNeg)) + u7_195).toNatClampNeg))))) (u8_242 + 1) H locs ls hq242 hP hD hS (lv_sub hl [1, 2, 3, 0] rfl)
                  · have hq242 := hf_f c_271 hq242
                    refine lv_lconst (pc := 274) hx hb (v := 0) dX7_worksRules_274 (by decide) ?_
                    refine lv_goto (pc := 275) hx hb (tgt := 317) dX7_worksRules_275 (by decide) ?_
                    refine lv_lsub (pc := 317) hx hb dX7_worksRules_317 ?_
                    obtain ⟨hg318, hq242⟩ := hf_g hq242
                    refine vMwa_14 (pc := 318) hx hb hK hP hD hS (f := (gB T242 2)) rfl hg318 dX7_worksRules_318 (fun H locs hP hD hS => ?_)
                    refine lv_iinc (pc := 319) hx hb (v := u8_242 + 1) (lv' := [(8, .int (u8_242 + 1)), (0, .ref (A 0)), (4, .long q89.2), (7, .int u7_195)]) dX7_worksRules_319 hl (k := 3) rfl rfl (by decide) rfl (fun ls hl => ?_)
                    refine lv_goto (pc := 322) hx hb (tgt := 242) dX7_worksRules_322 (by decide) ?_
                    exact ih242 (sB T242 2 (vp_updL (gB T242 2) u7_195.toNatClampNeg (((gB T242 2) u7_195.toNatClampNeg) - 0))) (u8_242 + 1) H locs ls hq242 hP hD hS (lv_sub hl [1, 2, 3, 0] rfl)
            exact lp242 256 (sB T195 2 (vp_updL (gB T195 2) u7_195.toNatClampNeg (q89.2 * r233.toInt64))) 0 H locs ls hq242 hP hD hS (lv_sub hl [1, 2, 3, 0] rfl)
      exact lp195 256 q89.1 0 H locs ls hq195 hP hD hS (lv_sub hl [1, 2, 0] rfl)
    have lp89 : ∀ (n : Nat) (T89 : w_S) (u4_89 : Int64) (u6_89 : Int32) (u7_89 : Int32) (H : Heap) (locs : List Loc) (ls : Array Slot), fX7_worksRules_L89 r2.1 n T89 u4_89 u6_89 u7_89 = some q89 → va_P D vwCl (wM A B T89) H → va_D Ad (wM A B T89) → va_S Ad s.heap H locs → lv_has ls 9 [(0, .ref (A 0)), (3, .int r2.1), (4, .long u4_89), (6, .int u6_89), (7, .int u7_89)] → W p l e rm_X7_worksRules s m args below meth c H locs 0 0 Q (F0 m 89 ls []) := by
      intro n89
      induction n89 with
      | zero => intro T89 u4_89 u6_89 u7_89 H locs ls hq89; exact hf_0 hq89
      | succ n89 ih89 =>
        intro T89 u4_89 u6_89 u7_89 H locs ls hq89 hP hD hS hl
        rw [fX7_worksRules_L89] at hq89
        refine lv_iload (pc := 89) hx hb dX7_worksRules_89 (lv_at hl 4 rfl) ?_
        refine lv_aload_n (pc := 91) hx hb dX7_worksRules_91 rfl (lv_at hl 0 rfl) ?_
        refine vMgRX7_19_0 (pc := 92) hx hb hts mU_84 inU7 hown hK hP (x := (gI T89 0)) rfl dX7_worksRules_92 ?_
        refine lv_aload_n (pc := 95) hx hb dX7_worksRules_95 rfl (lv_at hl 0 rfl) ?_
        refine vMgRX7_23_0 (pc := 96) hx hb hts mU_85 inU7 hown hK hP (x := (gI T89 1)) rfl dX7_worksRules_96 ?_
        refine lv_imul (pc := 99) hx hb dX7_worksRules_99 ?_
        refine lv_icmp_ge (pc := 100) hx hb (tgt := 192) dX7_worksRules_100 (by decide) (fun c_100 => ?_) (fun c_100 => ?_)
        · have hq89 := hf_t c_100 hq89
          obtain rfl := Option.some.inj hq89
          exact hk89 H locs ls hP hD hS (lv_sub hl [0, 2] rfl)
        · have hq89 := hf_f c_100 hq89
          refine lv_iload (pc := 103) hx hb dX7_worksRules_103 (lv_at hl 3 rfl) ?_
          refine lv_istore (pc := 105) hx hb (lv' := [(8, .int u6_89), (0, .ref (A 0)), (3, .int r2.1), (4, .long u4_89), (6, .int u6_89), (7, .int u7_89)]) dX7_worksRules_105 hl (by decide) rfl (fun ls hl => ?_)
          obtain ⟨q107, hq107, hq89⟩ := hf_b hq89
          have hk107 : ∀ (H : Heap) (locs : List Loc) (ls : Array Slot), va_P D vwCl (wM A B T89) H → va_D Ad (wM A B T89) → va_S Ad s.heap H locs → lv_has ls 9 [(0, .ref (A 0)), (3, .int r2.1), (4, .long u4_89), (6, .int u6_89), (7, .int u7_89), (8, .int q107)] → W p l e rm_X7_worksRules s m args below meth c H locs 0 0 Q (F0 m 137 ls []) := by
            intro H locs ls hP hD hS hl
            refine lv_aload_n (pc := 137) hx hb dX7_worksRules_137 rfl (lv_at hl 0 rfl) ?_
            refine vMgRX7_64_0 (pc := 138) hx hb hts mU_98 inU7 hown hK hP dX7_worksRules_138 ?_
            refine lv_iload (pc := 141) hx hb dX7_worksRules_141 (lv_at hl 4 rfl) ?_
            refine lv_iload (pc := 143) hx hb dX7_worksRules_143 (lv_at hl 5 rfl) ?_
            refine lv_iload_n (pc := 145) hx hb dX7_worksRules_145 rfl (lv_at hl 1 rfl) ?_
            obtain ⟨q155, hv155, hq89⟩ := hf_b hq89
            have hj155 : ∀ (H : Heap) (locs : List Loc) (ls : Array Slot), va_P D vwCl (wM A B T89) H → va_D Ad (wM A B T89) → va_S Ad s.heap H locs → lv_has ls 9 [(0, .ref (A 0)), (3, .int r2.1), (4, .long u4_89), (6, .int u6_89), (7, .int u7_89), (8, .int q107)] → W p l e rm_X7_worksRules s m args below meth c H locs 0 0 Q (F0 m 155 ls [.int q155, .int u7_89, .ref (A 15)]) := by
              intro H locs ls hP hD hS hl
              obtain ⟨hg155, hq89⟩ := hf_g hq89
              refine vMwa_15 (pc := 155) hx hb hK hP hD hS (f := (gA T89 11)) rfl hg155 dX7_worksRules_155 (fun H locs hP hD hS => ?_)
              refine lv_iload (pc := 156) hx hb dX7_worksRules_156 (lv_at hl 5 rfl) ?_
              refine lv_iload_n (pc := 158) hx hb dX7_worksRules_158 rfl (lv_at hl 1 rfl) ?_
              refine lv_icmp_ge (pc := 159) hx hb (tgt := 186) dX7_worksRules_159 (by decide) (fun c_159 => ?_) (fun c_159 => ?_)
              · have hq89 := hf_t c_159 hq89
                refine lv_iinc (pc := 186) hx hb (v := u7_89 + 1) (lv' := [(7, .int (u7_89 + 1)), (0, .ref (A 0)), (3, .int r2.1), (4, .long u4_89), (6, .int u6_89), (8, .int q107)]) dX7_worksRules_186 hl (k := 4) rfl rfl (by decide) rfl (fun ls hl => ?_)
                refine lv_goto (pc := 189) hx hb (tgt := 89) dX7_worksRules_189 (by decide) ?_
                exact ih89 (sA T89 11 (upd (gA T89 11) u7_89.toNatClampNeg q155)) u4_89 u6_89 (u7_89 + 1) H locs ls hq89 hP hD hS (lv_sub hl [1, 2, 3, 4, 0] rfl)
              · have hq89 := hf_f c_159 hq89
                refine lv_aload_n (pc := 162) hx hb dX7_worksRules_162 rfl (lv_at hl 0 rfl) ?_
                refine lv_iload (pc := 163) hx hb dX7_worksRules_163 (lv_at hl 5 rfl) ?_
                refine lv_iload (pc := 165) hx hb dX7_worksRules_165 (lv_at hl 3 rfl) ?_
                obtain ⟨r167, hc167, hq89⟩ := hf_b hq89
                refine cl_V (pc := 167) (As := [.int q107, .int u6_89]) (rest := []) hx hb hml hown hts (kX7_swapsRules l D A B _ (sA T89 11 (upd (gA T89 11) u7_89.toNatClampNeg q155)) q107 u6_89 r167 hc167) (cwV 2 hts gwRX7_286 rfl rfl rfl hdX7_swapsRules ⟨Nat.le_of_ble_eq_true rfl, Nat.le_of_ble_eq_true rfl⟩) hN hK hP hD hS hA (va_recv hK hP (ci := 7) (q0 := 0) rfl (eM_0 A B _)) rfl hl.1 rfl (Nat.le_of_ble_eq_true rfl) dX7_worksRules_167 (st1 := []) rfl ⟨Nat.zero_le _, Nat.zero_le _⟩ (fun H locs hP hD hS => ?_)
                refine lv_aload_n (pc := 170) hx hb dX7_worksRules_170 rfl (lv_at hl 0 rfl) ?_
                refine lv_iload (pc := 171) hx hb dX7_worksRules_171 (lv_at hl 3 rfl) ?_
                refine lv_iload_n (pc := 173) hx hb dX7_worksRules_173 rfl (lv_at hl 1 rfl) ?_
                refine lv_iload (pc := 174) hx hb dX7_worksRules_174 (lv_at hl 4 rfl) ?_
                refine lv_lload (pc := 176) hx hb dX7_worksRules_176 (lv_at hl 2 rfl) ?_
                obtain ⟨r178, hc178, hq89⟩ := hf_b hq89
                refine cl_V (pc := 178) (As := [.int u6_89, .int r2.1, .int u7_89, .long u4_89]) (rest := []) hx hb hml hown hts (kX7_clearsRules l D A B _ r167 u6_89 r2.1 u7_89 u4_89 r178 hc178) (cwV 4 hts gwRX7_289 rfl rfl rfl hdX7_clearsRules ⟨Nat.le_of_ble_eq_true rfl, Nat.le_of_ble_eq_true rfl⟩) hN hK hP hD hS hA (va_recv hK hP (ci := 7) (q0 := 0) rfl (eM_0 A B _)) rfl hl.1 rfl (Nat.le_of_ble_eq_true rfl) dX7_worksRules_178 (st1 := [.long r178.1]) rfl ⟨Nat.zero_le _, Nat.zero_le _⟩ (fun H locs hP hD hS => ?_)
                refine lv_lstore (pc := 181) hx hb (lv' := [(4, .long r178.1), (0, .ref (A 0)), (3, .int r2.1), (6, .int u6_89), (7, .int u7_89), (8, .int q107)]) dX7_worksRules_181 hl (by decide) rfl (fun ls hl => ?_)
                refine lv_iinc (pc := 183) hx hb (v := u6_89 + 1) (lv' := [(6, .int (u6_89 + 1)), (4, .long r178.1), (0, .ref (A 0)), (3, .int r2.1), (7, .int u7_89), (8, .int q107)]) dX7_worksRules_183 hl (k := 3) rfl rfl (by decide) rfl (fun ls hl => ?_)
                refine lv_iinc (pc := 186) hx hb (v := u7_89 + 1) (lv' := [(7, .int (u7_89 + 1)), (6, .int (u6_89 + 1)), (4, .long r178.1), (0, .ref (A 0)), (3, .int r2.1), (8, .int q107)]) dX7_worksRules_186 hl (k := 4) rfl rfl (by decide) rfl (fun ls hl => ?_)
                refine lv_goto (pc := 189) hx hb (tgt := 89) dX7_worksRules_189 (by decide) ?_
                exact ih89 r178.2 r178.1 (u6_89 + 1) (u7_89 + 1) H locs ls hq89 hP hD hS (lv_sub hl [3, 4, 2, 1, 0] rfl)
            refine lv_icmp_ge (pc := 146) hx hb (tgt := 154) dX7_worksRules_146 (by decide) (fun c_146 => ?_) (fun c_146 => ?_)
            · have hv155 := hf_t c_146 hv155
              refine lv_iconst (pc := 154) hx hb (v := (-1)) dX7_worksRules_154 (by decide) ?_
              obtain rfl := Option.some.inj hv155
              exact hj155 H locs ls hP hD hS (lv_sub hl [0, 1, 2, 3, 4, 5] rfl)
            · have hv155 := hf_f c_146 hv155
              refine lv_iload (pc := 149) hx hb dX7_worksRules_149 (lv_at hl 3 rfl) ?_
              refine lv_goto (pc := 151) hx hb (tgt := 155) dX7_worksRules_151 (by decide) ?_
              obtain rfl := Option.some.inj hv155
              exact hj155 H locs ls hP hD hS (lv_sub hl [0, 1, 2, 3, 4, 5] rfl)
          have lp107 : ∀ (n : Nat) (u8_107 : Int32) (H : Heap) (locs : List Loc) (ls : Array Slot), fX7_worksRules_L107 T89 r2.1 u4_89 u6_89 u7_89 n u8_107 = some q107 → va_P D vwCl (wM A B T89) H → va_D Ad (wM A B T89) → va_S Ad s.heap H locs → lv_has ls 9 [(0, .ref (A 0)), (3, .int r2.1), (4, .long u4_89), (6, .int u6_89), (7, .int u7_89), (8, .int u8_107)] → W p l e rm_X7_worksRules s m args below meth c H locs 0 0 Q (F0 m 107 ls []) := by
            intro n107
            induction n107 with
            | zero => intro u8_107 H locs ls hq107; exact hf_0 hq107
            | succ n107 ih107 =>
              intro u8_107 H locs ls hq107 hP hD hS hl
              rw [fX7_worksRules_L107] at hq107
              refine lv_iload (pc := 107) hx hb dX7_worksRules_107 (lv_at hl 5 rfl) ?_
              refine lv_iload_n (pc := 109) hx hb dX7_worksRules_109 rfl (lv_at hl 1 rfl) ?_
              refine lv_icmp_ge (pc := 110) hx hb (tgt := 137) dX7_worksRules_110 (by decide) (fun c_110 => ?_) (fun c_110 => ?_)
              · have hq107 := hf_t c_110 hq107
                obtain rfl := Option.some.inj hq107
                exact hk107 H locs ls hP hD hS (lv_sub hl [0, 1, 2, 3, 4, 5] rfl)
              · have hq107 := hf_f c_110 hq107
                refine lv_aload_n (pc := 113) hx hb dX7_worksRules_113 rfl (lv_at hl 0 rfl) ?_
                refine vMgRX7_58_0 (pc := 114) hx hb hts mU_96 inU7 hown hK hP dX7_worksRules_114 ?_
                refine lv_bipush (pc := 117) hx hb (v := 9) dX7_worksRules_117 (by decide) ?_
                refine lv_iload (pc := 119) hx hb dX7_worksRules_119 (lv_at hl 5 rfl) ?_
                refine lv_imul (pc := 121) hx hb dX7_worksRules_121 ?_
                refine lv_iload (pc := 122) hx hb dX7_worksRules_122 (lv_at hl 4 rfl) ?_
                refine lv_iadd (pc := 124) hx hb dX7_worksRules_124 ?_
                obtain ⟨hg125, hq107⟩ := hf_g hq107
                refine vMra_13 (pc := 125) hx hb hK hP (f := (gB T89 1)) rfl hg125 dX7_worksRules_125 ?_
                refine lv_lconst (pc := 126) hx hb (v := 0) dX7_worksRules_126 (by decide) ?_
                refine W.lcmp (pc := 127) hx hb dX7_worksRules_127 ?_
                refine lv_if_ne (pc := 128) hx hb (tgt := 137) dX7_worksRules_128 (by decide) (fun c_128 => ?_) (fun c_128 => ?_)
                · have c_128 := fun h9 => c_128 (lg_eq0.mpr h9)
                  have hq107 := hf_f c_128 hq107
                  obtain rfl := Option.some.inj hq107
                  exact hk107 H locs ls hP hD hS (lv_sub hl [0, 1, 2, 3, 4, 5] rfl)
                · have c_128 := lg_eq0.mp c_128
                  have hq107 := hf_t c_128 hq107
                  refine lv_iinc (pc := 131) hx hb (v := u8_107 + 1) (lv' := [(8, .int (u8_107 + 1)), (0, .ref (A 0)), (3, .int r2.1), (4, .long u4_89), (6, .int u6_89), (7, .int u7_89)]) dX7_worksRules_131 hl (k := 5) rfl rfl (by decide) rfl (fun ls hl => ?_)
                  refine lv_goto (pc := 134) hx hb (tgt := 107) dX7_worksRules_134 (by decide) ?_
                  exact ih107 (u8_107 + 1) H locs ls hq107 hP hD hS (lv_sub hl [1, 2, 3, 4, 5, 0] rfl)
          exact lp107 256 u6_89 H locs ls hq107 hP hD hS (lv_sub hl [1, 2, 3, 4, 5, 0] rfl)
    exact lp89 256 q9 1 0 0 H locs ls hq89 hP hD hS (lv_sub hl [3, 4, 2, 1, 0] rfl)
  have lp9 : ∀ (n : Nat) (T9 : w_S) (u4_9 : Int32) (H : Heap) (locs : List Loc) (ls : Array Slot), fX7_worksRules_L9 a1 a2 r2.1 n T9 u4_9 = some q9 → va_P D vwCl (wM A B T9) H → va_D Ad (wM A B T9) → va_S Ad s.heap H locs → lv_has ls 9 [(0, .ref (A 0)), (1, .int a1), (2, .int a2), (3, .int r2.1), (4, .int u4_9)] → W p l e rm_X7_worksRules s m args below meth c H locs 0 0 Q (F0 m 9 ls []) := by
    intro n9
    induction n9 with
    | zero => intro T9 u4_9 H locs ls hq9; exact hf_0 hq9
    | succ n9 ih9 =>
      intro T9 u4_9 H locs ls hq9 hP hD hS hl
      rw [fX7_worksRules_L9] at hq9
      refine lv_iload (pc := 9) hx hb dX7_worksRules_9 (lv_at hl 4 rfl) ?_
      refine lv_iload_n (pc := 11) hx hb dX7_worksRules_11 rfl (lv_at hl 3 rfl) ?_
      refine lv_icmp_ge (pc := 12) hx hb (tgt := 80) dX7_worksRules_12 (by decide) (fun c_12 => ?_) (fun c_12 => ?_)
      · have hq9 := hf_t c_12 hq9
        obtain rfl := Option.some.inj hq9
        exact hk9 H locs ls hP hD hS (lv_sub hl [0, 3] rfl)
      · have hq9 := hf_f c_12 hq9
        refine lv_iconst (pc := 15) hx hb (v := 0) dX7_worksRules_15 (by decide) ?_
        refine lv_istore (pc := 16) hx hb (lv' := [(5, .int 0), (0, .ref (A 0)), (1, .int a1), (2, .int a2), (3, .int r2.1), (4, .int u4_9)]) dX7_worksRules_16 hl (by decide) rfl (fun ls hl => ?_)
        obtain ⟨q18, hq18, hq9⟩ := hf_b hq9
        have hk18 : ∀ (H : Heap) (locs : List Loc) (ls : Array Slot), va_P D vwCl (wM A B q18) H → va_D Ad (wM A B q18) → va_S Ad s.heap H locs → lv_has ls 9 [(0, .ref (A 0)), (1, .int a1), (2, .int a2), (3, .int r2.1), (4, .int u4_9)] → W p l e rm_X7_worksRules s m args below meth c H locs 0 0 Q (F0 m 74 ls []) := by
          intro H locs ls hP hD hS hl
          refine lv_iinc (pc := 74) hx hb (v := u4_9 + 1) (lv' := [(4, .int (u4_9 + 1)), (0, .ref (A 0)), (1, .int a1), (2, .int a2), (3, .int r2.1)]) dX7_worksRules_74 hl (k := 4) rfl rfl (by decide) rfl (fun ls hl => ?_)
          refine lv_goto (pc := 77) hx hb (tgt := 9) dX7_worksRules_77 (by decide) ?_
          exact ih9 q18 (u4_9 + 1) H locs ls hq9 hP hD hS (lv_sub hl [1, 2, 3, 4, 0] rfl)
        have lp18 : ∀ (n : Nat) (T18 : w_S) (u5_18 : Int32) (H : Heap) (locs : List Loc) (ls : Array Slot), fX7_worksRules_L18 a1 a2 r2.1 u4_9 n T18 u5_18 = some q18 → va_P D vwCl (wM A B T18) H → va_D Ad (wM A B T18) → va_S Ad s.heap H locs → lv_has ls 9 [(0, .ref (A 0)), (1, .int a1), (2, .int a2), (3, .int r2.1), (4, .int u4_9), (5, .int u5_18)] → W p l e rm_X7_worksRules s m args below meth c H locs 0 0 Q (F0 m 18 ls []) := by
          intro n18
          induction n18 with
          | zero => intro T18 u5_18 H locs ls hq18; exact hf_0 hq18
          | succ n18 ih18 =>
            intro T18 u5_18 H locs ls hq18 hP hD hS hl
            rw [fX7_worksRules_L18] at hq18
            refine lv_iload (pc := 18) hx hb dX7_worksRules_18 (lv_at hl 5 rfl) ?_
            refine lv_bipush (pc := 20) hx hb (v := 9) dX7_worksRules_20 (by decide) ?_
            refine lv_icmp_ge (pc := 22) hx hb (tgt := 74) dX7_worksRules_22 (by decide) (fun c_22 => ?_) (fun c_22 => ?_)
            · have hq18 := hf_t c_22 hq18
              obtain rfl := Option.some.inj hq18
              exact hk18 H locs ls hP hD hS (lv_sub hl [0, 1, 2, 3, 4] rfl)
            · have hq18 := hf_f c_22 hq18
              refine lv_aload_n (pc := 25) hx hb dX7_worksRules_25 rfl (lv_at hl 0 rfl) ?_
              refine vMgRX7_58_0 (pc := 26) hx hb hts mU_96 inU7 hown hK hP dX7_worksRules_26 ?_
              refine lv_bipush (pc := 29) hx hb (v := 9) dX7_worksRules_29 (by decide) ?_
              refine lv_iload (pc := 31) hx hb dX7_worksRules_31 (lv_at hl 4 rfl) ?_
              refine lv_imul (pc := 33) hx hb dX7_worksRules_33 ?_
              refine lv_iload (pc := 34) hx hb dX7_worksRules_34 (lv_at hl 5 rfl) ?_
              refine lv_iadd (pc := 36) hx hb dX7_worksRules_36 ?_
              refine lv_iload (pc := 37) hx hb dX7_worksRules_37 (lv_at hl 5 rfl) ?_
              refine lv_aload_n (pc := 39) hx hb dX7_worksRules_39 rfl (lv_at hl 0 rfl) ?_
              refine vMgRX7_19_0 (pc := 40) hx hb hts mU_84 inU7 hown hK hP (x := (gI T18 0)) rfl dX7_worksRules_40 ?_
              refine lv_aload_n (pc := 43) hx hb dX7_worksRules_43 rfl (lv_at hl 0 rfl) ?_
              refine vMgRX7_23_0 (pc := 44) hx hb hts mU_85 inU7 hown hK hP (x := (gI T18 1)) rfl dX7_worksRules_44 ?_
              refine lv_imul (pc := 47) hx hb dX7_worksRules_47 ?_
              refine lv_icmp_ge (pc := 48) hx hb (tgt := 66) dX7_worksRules_48 (by decide) (fun c_48 => ?_) (fun c_48 => ?_)
              · have hq18 := hf_t c_48 hq18
                refine lv_lconst (pc := 66) hx hb (v := 0) dX7_worksRules_66 (by decide) ?_
                obtain ⟨hg67, hq18⟩ := hf_g hq18
                refine vMwa_13 (pc := 67) hx hb hK hP hD hS (f := (gB T18 1)) rfl hg67 dX7_worksRules_67 (fun H locs hP hD hS => ?_)
                refine lv_iinc (pc := 68) hx hb (v := u5_18 + 1) (lv' := [(5, .int (u5_18 + 1)), (0, .ref (A 0)), (1, .int a1), (2, .int a2), (3, .int r2.1), (4, .int u4_9)]) dX7_worksRules_68 hl (k := 5) rfl rfl (by decide) rfl (fun ls hl => ?_)
                refine lv_goto (pc := 71) hx hb (tgt := 18) dX7_worksRules_71 (by decide) ?_
                exact ih18 (sB T18 1 (vp_updL (gB T18 1) ((9 * u4_9) + u5_18).toNatClampNeg 0)) (u5_18 + 1) H locs ls hq18 hP hD hS (lv_sub hl [1, 2, 3, 4, 5, 0] rfl)
              · have hq18 := hf_f c_48 hq18
                refine lv_aload_n (pc := 51) hx hb dX7_worksRules_51 rfl (lv_at hl 0 rfl) ?_
                refine lv_iload_n (pc := 52) hx hb dX7_worksRules_52 rfl (lv_at hl 1 rfl) ?_
                refine lv_iload_n (pc := 53) hx hb dX7_worksRules_53 rfl (lv_at hl 1 rfl) ?_
                refine lv_iload_n (pc := 54) hx hb dX7_worksRules_54 rfl (lv_at hl 2 rfl) ?_
                refine lv_iload (pc := 55) hx hb dX7_worksRules_55 (lv_at hl 5 rfl) ?_
                refine lv_iload (pc := 57) hx hb dX7_worksRules_57 (lv_at hl 4 rfl) ?_
                obtain ⟨r59, hc59, hq18⟩ := hf_b hq18
                refine cl_V (pc := 59) (As := [.int a1, .int a1, .int a2, .int u5_18, .int u4_9]) (rest := [.int ((9 * u4_9) + u5_18), .ref (A 13)]) hx hb hml hown hts (kX7_takenBy l D A B _ T18 a1 a1 a2 u5_18 u4_9 r59 hc59) (cwV 5 hts gwRX7_249 rfl rfl rfl hdX7_takenBy ⟨Nat.le_of_ble_eq_true rfl, Nat.le_of_ble_eq_true rfl⟩) hN hK hP hD hS hA (va_recv hK hP (ci := 7) (q0 := 0) rfl (eM_0 A B _)) rfl hl.1 rfl (Nat.le_of_ble_eq_true rfl) dX7_worksRules_59 (st1 := [.int r59, .int ((9 * u4_9) + u5_18), .ref (A 13)]) rfl ⟨Nat.zero_le _, Nat.zero_le _⟩ (fun H locs hP hD hS => ?_)
                refine lv_i2l (pc := 62) hx hb (v := r59.toInt64) dX7_worksRules_62 rfl ?_
                refine lv_goto (pc := 63) hx hb (tgt := 67) dX7_worksRules_63 (by decide) ?_
                obtain ⟨hg67, hq18⟩ := hf_g hq18
                refine vMwa_13 (pc := 67) hx hb hK hP hD hS (f := (gB T18 1)) rfl hg67 dX7_worksRules_67 (fun H locs hP hD hS => ?_)
                refine lv_iinc (pc := 68) hx hb (v := u5_18 + 1) (lv' := [(5, .int (u5_18 + 1)), (0, .ref (A 0)), (1, .int a1), (2, .int a2), (3, .int r2.1), (4, .int u4_9)]) dX7_worksRules_68 hl (k := 5) rfl rfl (by decide) rfl (fun ls hl => ?_)
                refine lv_goto (pc := 71) hx hb (tgt := 18) dX7_worksRules_71 (by decide) ?_
                exact ih18 (sB T18 1 (vp_updL (gB T18 1) ((9 * u4_9) + u5_18).toNatClampNeg r59.toInt64)) (u5_18 + 1) H locs ls hq18 hP hD hS (lv_sub hl [1, 2, 3, 4, 5, 0] rfl)
        exact lp18 256 T9 0 H locs ls hq18 hP hD hS (lv_sub hl [1, 2, 3, 4, 5, 0] rfl)
  exact lp9 256 r2.2 0 H locs ls hq9 hP hD hS (lv_sub hl [2, 3, 4, 1, 0] rfl)
set_option maxHeartbeats 4000000 in
set_option maxRecDepth 100000 in
theorem kX7_witness (l : Launch) (D : va_G) (A : Nat → Nat) (B : Nat → ClassId) (sz : Nat) (S : w_S) (a1 : Int32) (a2 : Int32) (a3 : Int32) (a4 : Int32) (z : Int64 × w_S) (hf : fX7_witness S a1 a2 a3 a4 = some z) : MetW l yX7_witness (wsO yX7_witness cX7_witness 11 (some .long)) rm_X7_witness [.ref (A 0), .int a1, .int a2, .int a3, .int a4] D (tyB B) (wM A B S) (wM A B z.2) sz (some (.long z.1)) := by
  refine MetW.mkL (cc := cX7_witness) (maxL := 11) (by decide) (Nat.le_of_ble_eq_true rfl) ?_
  intro p e s m args below meth c Ad Q hx hb hts hown hml hN hK hA hR H locs ls hP hD hS hl
  have hl : lv_has ls 11 [(0, .ref (A 0)), (1, .int a1), (2, .int a2), (3, .int a3), (4, .int a4)] := hl
  rw [fX7_witness] at hf
  refine lv_aload_n (pc := 0) hx hb dX7_witness_0 rfl (lv_at hl 0 rfl) ?_
  refine lv_iload_n (pc := 1) hx hb dX7_witness_1 rfl (lv_at hl 1 rfl) ?_
  refine lv_iload_n (pc := 2) hx hb dX7_witness_2 rfl (lv_at hl 2 rfl) ?_
  refine lv_iload_n (pc := 3) hx hb dX7_witness_3 rfl (lv_at hl 3 rfl) ?_
  refine lv_iload (pc := 4) hx hb dX7_witness_4 (lv_at hl 4 rfl) ?_
  obtain ⟨r6, hc6, hf⟩ := hf_b hf
  refine cl_V (pc := 6) (As := [.int a1, .int a2, .int a3, .int a4]) (rest := []) hx hb hml hown hts (kX7_isPart l D A B _ S a1 a2 a3 a4 r6 hc6) (cwV 4 hts gwRX7_274 rfl rfl rfl hdX7_isPart ⟨Nat.le_of_ble_eq_true rfl, Nat.le_of_ble_eq_true rfl⟩) hN hK hP hD hS hA (va_recv hK hP (ci := 7) (q0 := 0) rfl (eM_0 A B _)) rfl hl.1 rfl (Nat.le_of_ble_eq_true rfl) dX7_witness_6 (st1 := [.int r6]) rfl ⟨Nat.zero_le _, Nat.zero_le _⟩ (fun H locs hP hD hS => ?_)
  refine lv_if_ne (pc := 9) hx hb (tgt := 17) dX7_witness_9 (by decide) (fun c_9 => ?_) (fun c_9 => ?_)
  · have hf := hf_f c_9 hf
    refine lv_aload_n (pc := 17) hx hb dX7_witness_17 rfl (lv_at hl 0 rfl) ?_
    refine lv_aload_n (pc := 18) hx hb dX7_witness_18 rfl (lv_at hl 0 rfl) ?_
    refine vMgRX7_29_0 (pc := 19) hx hb hts mU_87 inU7 hown hK hP dX7_witness_19 ?_
    refine lv_iload_n (pc := 22) hx hb dX7_witness_22 rfl (lv_at hl 1 rfl) ?_
    obtain ⟨hg23, hf⟩ := hf_g hf
    refine vMra_4 (pc := 23) hx hb hK hP (f := (gA S 3)) rfl hg23 dX7_witness_23 ?_
    obtain ⟨r24, hc24, hf⟩ := hf_b hf
    refine cl_V (pc := 24) (As := [.int ((gA S 3) a1.toNatClampNeg)]) (rest := []) hx hb hml hown hts (kX7_isFit l D A B _ S ((gA S 3) a1.toNatClampNeg) r24 hc24) (cwV 1 hts gwRX7_259 rfl rfl rfl hdX7_isFit ⟨Nat.le_of_ble_eq_true rfl, Nat.le_of_ble_eq_true rfl⟩) hN hK hP hD hS hA (va_recv hK hP (ci := 7) (q0 := 0) rfl (eM_0 A B _)) rfl hl.1 rfl (Nat.le_of_ble_eq_true rfl) dX7_witness_24 (st1 := [.int r24.1]) rfl ⟨Nat.zero_le _, Nat.zero_le _⟩ (fun H locs hP hD hS => ?_)
    refine lv_if_ne (pc := 27) hx hb (tgt := 36) dX7_witness_27 (by decide) (fun c_27 => ?_) (fun c_27 => ?_)
    · have hf := hf_f c_27 hf
      refine lv_aload_n (pc := 36) hx hb dX7_witness_36 rfl (lv_at hl 0 rfl) ?_
      refine lv_aload_n (pc := 37) hx hb dX7_witness_37 rfl (lv_at hl 0 rfl) ?_
      refine vMgRX7_29_0 (pc := 38) hx hb hts mU_87 inU7 hown hK hP dX7_witness_38 ?_
      refine lv_iload_n (pc := 41) hx hb dX7_witness_41 rfl (lv_at hl 1 rfl) ?_
      obtain ⟨hg42, hf⟩ := hf_g hf
      refine vMra_4 (pc := 42) hx hb hK hP (f := (gA r24.2 3)) rfl hg42 dX7_witness_42 ?_
      refine lv_aload_n (pc := 43) hx hb dX7_witness_43 rfl (lv_at hl 0 rfl) ?_
      refine vMgRX7_32_0 (pc := 44) hx hb hts mU_88 inU7 hown hK hP dX7_witness_44 ?_
      refine lv_iload_n (pc := 47) hx hb dX7_witness_47 rfl (lv_at hl 1 rfl) ?_
      obtain ⟨hg48, hf⟩ := hf_g hf
      refine vMra_5 (pc := 48) hx hb hK hP (f := (gA r24.2 4)) rfl hg48 dX7_witness_48 ?_
      obtain ⟨r49, hc49, hf⟩ := hf_b hf
      refine cl_V (pc := 49) (As := [.int ((gA r24.2 3) a1.toNatClampNeg), .int ((gA r24.2 4) a1.toNatClampNeg)]) (rest := []) hx hb hml hown hts (kX7_worksRules l D A B _ r24.2 ((gA r24.2 3) a1.toNatClampNeg) ((gA r24.2 4) a1.toNatClampNeg) r49 hc49) (cwV 2 hts gwRX7_293 rfl rfl rfl hdX7_worksRules ⟨Nat.le_of_ble_eq_true rfl, Nat.le_of_ble_eq_true rfl⟩) hN hK hP hD hS hA (va_recv hK hP (ci := 7) (q0 := 0) rfl (eM_0 A B _)) rfl hl.1 rfl (Nat.le_of_ble_eq_true rfl) dX7_witness_49 (st1 := [.long r49.1]) rfl ⟨Nat.zero_le _, Nat.zero_le _⟩ (fun H locs hP hD hS => ?_)
      refine lv_lstore (pc := 52) hx hb (lv' := [(5, .long r49.1), (0, .ref (A 0)), (1, .int a1), (2, .int a2), (3, .int a3), (4, .int a4)]) dX7_witness_52 hl (by decide) rfl (fun ls hl => ?_)
      refine lv_iconst (pc := 54) hx hb (v := 0) dX7_witness_54 (by decide) ?_
      refine lv_istore (pc := 55) hx hb (lv' := [(7, .int 0), (5, .long r49.1), (0, .ref (A 0)), (1, .int a1), (2, .int a2), (3, .int a3), (4, .int a4)]) dX7_witness_55 hl (by decide) rfl (fun ls hl => ?_)
      obtain ⟨q57, hq57, hf⟩ := hf_b hf
      have hk57 : ∀ (H : Heap) (locs : List Loc) (ls : Array Slot), va_P D vwCl (wM A B r49.2) H → va_D Ad (wM A B r49.2) → va_S Ad s.heap H locs → lv_has ls 11 [(0, .ref (A 0)), (2, .int a2), (3, .int a3), (4, .int a4), (5, .long r49.1), (7, .int q57)] → W p l e rm_X7_witness s m args below meth c H locs 0 0 Q (F0 m 89 ls []) := by
        intro H locs ls hP hD hS hl
        refine lv_iload (pc := 89) hx hb dX7_witness_89 (lv_at hl 5 rfl) ?_
        refine lv_aload_n (pc := 91) hx hb dX7_witness_91 rfl (lv_at hl 0 rfl) ?_
        refine vMgRX7_19_0 (pc := 92) hx hb hts mU_84 inU7 hown hK hP (x := (gI r49.2 0)) rfl dX7_witness_92 ?_
        refine lv_aload_n (pc := 95) hx hb dX7_witness_95 rfl (lv_at hl 0 rfl) ?_
        refine vMgRX7_23_0 (pc := 96) hx hb hts mU_85 inU7 hown hK hP (x := (gI r49.2 1)) rfl dX7_witness_96 ?_
        refine lv_imul (pc := 99) hx hb dX7_witness_99 ?_
        refine lv_icmp_ne (pc := 100) hx hb (tgt := 109) dX7_witness_100 (by decide) (fun c_100 => ?_) (fun c_100 => ?_)
        · have hf := hf_f c_100 hf
          refine lv_aload_n (pc := 109) hx hb dX7_witness_109 rfl (lv_at hl 0 rfl) ?_
          refine vMgRX7_23_0 (pc := 110) hx hb hts mU_85 inU7 hown hK hP (x := (gI r49.2 1)) rfl dX7_witness_110 ?_
          refine lv_iload_n (pc := 113) hx hb dX7_witness_113 rfl (lv_at hl 1 rfl) ?_
          refine lv_imul (pc := 114) hx hb dX7_witness_114 ?_
          refine lv_iload_n (pc := 115) hx hb dX7_witness_115 rfl (lv_at hl 2 rfl) ?_
          refine lv_iadd (pc := 116) hx hb dX7_witness_116 ?_
          refine lv_istore (pc := 117) hx hb (lv' := [(8, .int (((gI r49.2 1) * a2) + a3)), (0, .ref (A 0)), (2, .int a2), (3, .int a3), (4, .int a4), (5, .long r49.1), (7, .int q57)]) dX7_witness_117 hl (by decide) rfl (fun ls hl => ?_)
          refine lv_iload (pc := 119) hx hb dX7_witness_119 (lv_at hl 0 rfl) ?_
          refine lv_iload (pc := 121) hx hb dX7_witness_121 (lv_at hl 6 rfl) ?_
          obtain ⟨q164, hv164, hf⟩ := hf_b hf
          have hj164 : ∀ (H : Heap) (locs : List Loc) (ls : Array Slot), va_P D vwCl (wM A B r49.2) H → va_D Ad (wM A B r49.2) → va_S Ad s.heap H locs → lv_has ls 11 [(0, .ref (A 0)), (4, .int a4), (7, .int q57)] → W p l e rm_X7_witness s m args below meth c H locs 0 0 Q (F0 m 164 ls [.long q164]) := by
            intro H locs ls hP hD hS hl
            refine lv_lstore (pc := 164) hx hb (lv' := [(9, .long q164), (0, .ref (A 0)), (4, .int a4), (7, .int q57)]) dX7_witness_164 hl (by decide) rfl (fun ls hl => ?_)
            refine lv_lload (pc := 166) hx hb dX7_witness_166 (lv_at hl 0 rfl) ?_
            refine lv_aload_n (pc := 168) hx hb dX7_witness_168 rfl (lv_at hl 1 rfl) ?_
            refine vMgRX7_61_0 (pc := 169) hx hb hts mU_97 inU7 hown hK hP dX7_witness_169 ?_
            refine lv_iload (pc := 172) hx hb dX7_witness_172 (lv_at hl 3 rfl) ?_
            obtain ⟨hg174, hf⟩ := hf_g hf
            refine vMra_14 (pc := 174) hx hb hK hP (f := (gB r49.2 2)) rfl hg174 dX7_witness_174 ?_
            refine lv_iload (pc := 175) hx hb dX7_witness_175 (lv_at hl 2 rfl) ?_
            obtain ⟨r177, hc177, hf⟩ := hf_b hf
            refine cl_S (pc := 177) (As := [.long q164, .long ((gB r49.2 2) q57.toNatClampNeg), .int a4]) (rest := []) hx hb hml hown hts (kX7_partOf l D A B _ r49.2 q164 ((gB r49.2 2) q57.toNatClampNeg) a4 r177 hc177) (va_cwS 3 hts gwRX7_282 rfl rfl rfl hdX7_partOf ⟨Nat.le_of_ble_eq_true rfl, Nat.le_of_ble_eq_true rfl⟩) hN hK hP hD hS hA rfl hl.1 rfl (Nat.le_of_ble_eq_true rfl) dX7_witness_177 (st1 := [.long r177]) rfl ⟨Nat.zero_le _, Nat.zero_le _⟩ (fun H locs hP hD hS => ?_)
            obtain rfl := Option.some.inj hf
            exact hR H locs 180 ls hP hD hS dX7_witness_180
          refine lv_icmp_ne (pc := 123) hx hb (tgt := 131) dX7_witness_123 (by decide) (fun c_123 => ?_) (fun c_123 => ?_)
          · have hv164 := hf_f c_123 hv164
            refine lv_aload_n (pc := 131) hx hb dX7_witness_131 rfl (lv_at hl 1 rfl) ?_
            refine vMgRX7_64_0 (pc := 132) hx hb hts mU_98 inU7 hown hK hP dX7_witness_132 ?_
            refine lv_iload (pc := 135) hx hb dX7_witness_135 (lv_at hl 0 rfl) ?_
            obtain ⟨hg137, hv164⟩ := hf_g hv164
            refine vMra_15 (pc := 137) hx hb hK hP (f := (gA r49.2 11)) rfl hg137 dX7_witness_137 ?_
            refine lv_if_ge (pc := 138) hx hb (tgt := 145) dX7_witness_138 (by decide) (fun c_138 => ?_) (fun c_138 => ?_)
            · have hv164 := hf_t c_138 hv164
              refine lv_aload_n (pc := 145) hx hb dX7_witness_145 rfl (lv_at hl 1 rfl) ?_
              refine vMgRX7_58_0 (pc := 146) hx hb hts mU_96 inU7 hown hK hP dX7_witness_146 ?_
              refine lv_bipush (pc := 149) hx hb (v := 9) dX7_witness_149 (by decide) ?_
              refine lv_aload_n (pc := 151) hx hb dX7_witness_151 rfl (lv_at hl 1 rfl) ?_
              refine vMgRX7_64_0 (pc := 152) hx hb hts mU_98 inU7 hown hK hP dX7_witness_152 ?_
              refine lv_iload (pc := 155) hx hb dX7_witness_155 (lv_at hl 0 rfl) ?_
              obtain ⟨hg157, hv164⟩ := hf_g hv164
              refine vMra_15 (pc := 157) hx hb hK hP (f := (gA r49.2 11)) rfl hg157 dX7_witness_157 ?_
              refine lv_imul (pc := 158) hx hb dX7_witness_158 ?_
              refine lv_iload (pc := 159) hx hb dX7_witness_159 (lv_at hl 6 rfl) ?_
              refine lv_iadd (pc := 161) hx hb dX7_witness_161 ?_
              obtain ⟨hg162, hv164⟩ := hf_g hv164
              refine vMra_13 (pc := 162) hx hb hK hP (f := (gB r49.2 1)) rfl hg162 dX7_witness_162 ?_
              refine lv_lneg (pc := 163) hx hb dX7_witness_163 ?_
              obtain rfl := Option.some.inj hv164
              exact hj164 H locs ls hP hD hS (lv_sub hl [1, 4, 6] rfl)
            · have hv164 := hf_f c_138 hv164
              refine lv_lconst (pc := 141) hx hb (v := 0) dX7_witness_141 (by decide) ?_
              refine lv_goto (pc := 142) hx hb (tgt := 164) dX7_witness_142 (by decide) ?_
              obtain rfl := Option.some.inj hv164
              exact hj164 H locs ls hP hD hS (lv_sub hl [1, 4, 6] rfl)
          · have hv164 := hf_t c_123 hv164
            refine lv_lload (pc := 126) hx hb dX7_witness_126 (lv_at hl 5 rfl) ?_
            refine lv_goto (pc := 128) hx hb (tgt := 164) dX7_witness_128 (by decide) ?_
            obtain rfl := Option.some.inj hv164
            exact hj164 H locs ls hP hD hS (lv_sub hl [1, 4, 6] rfl)
        · have hf := hf_t c_100 hf
          refine lv_bipush (pc := 103) hx hb (v := (-3)) dX7_witness_103 (by decide) ?_
          obtain ⟨r105, hc105, hf⟩ := hf_b hf
          refine cl_S (pc := 105) (As := [.int (-3)]) (rest := []) hx hb hml hown hts (kX7_told l D A B _ r49.2 (-3) r105 hc105) (va_cwS 1 hts gwRX7_140 rfl rfl rfl hdX7_told ⟨Nat.le_of_ble_eq_true rfl, Nat.le_of_ble_eq_true rfl⟩) hN hK hP hD hS hA rfl hl.1 rfl (Nat.le_of_ble_eq_true rfl) dX7_witness_105 (st1 := [.long r105]) rfl ⟨Nat.zero_le _, Nat.zero_le _⟩ (fun H locs hP hD hS => ?_)
          obtain rfl := Option.some.inj hf
          exact hR H locs 108 ls hP hD hS dX7_witness_108
      have lp57 : ∀ (n : Nat) (u7_57 : Int32) (H : Heap) (locs : List Loc) (ls : Array Slot), fX7_witness_L57 r49.2 a2 a3 a4 r49.1 n u7_57 = some q57 → va_P D vwCl (wM A B r49.2) H → va_D Ad (wM A B r49.2) → va_S Ad s.heap H locs → lv_has ls 11 [(0, .ref (A 0)), (2, .int a2), (3, .int a3), (4, .int a4), (5, .long r49.1), (7, .int u7_57)] → W p l e rm_X7_witness s m args below meth c H locs 0 0 Q (F0 m 57 ls []) := by
        intro n57
        induction n57 with
        | zero => intro u7_57 H locs ls hq57; exact hf_0 hq57
        | succ n57 ih57 =>
          intro u7_57 H locs ls hq57 hP hD hS hl
          rw [fX7_witness_L57] at hq57
          refine lv_iload (pc := 57) hx hb dX7_witness_57 (lv_at hl 5 rfl) ?_
          refine lv_aload_n (pc := 59) hx hb dX7_witness_59 rfl (lv_at hl 0 rfl) ?_
          refine vMgRX7_19_0 (pc := 60) hx hb hts mU_84 inU7 hown hK hP (x := (gI r49.2 0)) rfl dX7_witness_60 ?_
          refine lv_aload_n (pc := 63) hx hb dX7_witness_63 rfl (lv_at hl 0 rfl) ?_
          refine vMgRX7_23_0 (pc := 64) hx hb hts mU_85 inU7 hown hK hP (x := (gI r49.2 1)) rfl dX7_witness_64 ?_
          refine lv_imul (pc := 67) hx hb dX7_witness_67 ?_
          refine lv_icmp_ge (pc := 68) hx hb (tgt := 89) dX7_witness_68 (by decide) (fun c_68 => ?_) (fun c_68 => ?_)
          · have hq57 := hf_t c_68 hq57
            obtain rfl := Option.some.inj hq57
            exact hk57 H locs ls hP hD hS (lv_sub hl [0, 1, 2, 3, 4, 5] rfl)
          · have hq57 := hf_f c_68 hq57
            refine lv_aload_n (pc := 71) hx hb dX7_witness_71 rfl (lv_at hl 0 rfl) ?_
            refine vMgRX7_61_0 (pc := 72) hx hb hts mU_97 inU7 hown hK hP dX7_witness_72 ?_
            refine lv_iload (pc := 75) hx hb dX7_witness_75 (lv_at hl 5 rfl) ?_
            obtain ⟨hg77, hq57⟩ := hf_g hq57
            refine vMra_14 (pc := 77) hx hb hK hP (f := (gB r49.2 2)) rfl hg77 dX7_witness_77 ?_
            refine lv_lconst (pc := 78) hx hb (v := 0) dX7_witness_78 (by decide) ?_
            refine W.lcmp (pc := 79) hx hb dX7_witness_79 ?_
            refine lv_if_ne (pc := 80) hx hb (tgt := 89) dX7_witness_80 (by decide) (fun c_80 => ?_) (fun c_80 => ?_)
            · have c_80 := fun h9 => c_80 (lg_eq0.mpr h9)
              have hq57 := hf_f c_80 hq57
              obtain rfl := Option.some.inj hq57
              exact hk57 H locs ls hP hD hS (lv_sub hl [0, 1, 2, 3, 4, 5] rfl)
            · have c_80 := lg_eq0.mp c_80
              have hq57 := hf_t c_80 hq57
              refine lv_iinc (pc := 83) hx hb (v := u7_57 + 1) (lv' := [(7, .int (u7_57 + 1)), (0, .ref (A 0)), (2, .int a2), (3, .int a3), (4, .int a4), (5, .long r49.1)]) dX7_witness_83 hl (k := 5) rfl rfl (by decide) rfl (fun ls hl => ?_)
              refine lv_goto (pc := 86) hx hb (tgt := 57) dX7_witness_86 (by decide) ?_
              exact ih57 (u7_57 + 1) H locs ls hq57 hP hD hS (lv_sub hl [1, 2, 3, 4, 5, 0] rfl)
      exact lp57 256 0 H locs ls hq57 hP hD hS (lv_sub hl [2, 4, 5, 6, 1, 0] rfl)
    · have hf := hf_t c_27 hf
      refine lv_bipush (pc := 30) hx hb (v := (-4)) dX7_witness_30 (by decide) ?_
      obtain ⟨r32, hc32, hf⟩ := hf_b hf
      refine cl_S (pc := 32) (As := [.int (-4)]) (rest := []) hx hb hml hown hts (kX7_told l D A B _ r24.2 (-4) r32 hc32) (va_cwS 1 hts gwRX7_140 rfl rfl rfl hdX7_told ⟨Nat.le_of_ble_eq_true rfl, Nat.le_of_ble_eq_true rfl⟩) hN hK hP hD hS hA rfl hl.1 rfl (Nat.le_of_ble_eq_true rfl) dX7_witness_32 (st1 := [.long r32]) rfl ⟨Nat.zero_le _, Nat.zero_le _⟩ (fun H locs hP hD hS => ?_)
      obtain rfl := Option.some.inj hf
      exact hR H locs 35 ls hP hD hS dX7_witness_35
  · have hf := hf_t c_9 hf
    refine lv_iconst (pc := 12) hx hb (v := (-1)) dX7_witness_12 (by decide) ?_
    obtain ⟨r13, hc13, hf⟩ := hf_b hf
    refine cl_S (pc := 13) (As := [.int (-1)]) (rest := []) hx hb hml hown hts (kX7_told l D A B _ S (-1) r13 hc13) (va_cwS 1 hts gwRX7_140 rfl rfl rfl hdX7_told ⟨Nat.le_of_ble_eq_true rfl, Nat.le_of_ble_eq_true rfl⟩) hN hK hP hD hS hA rfl hl.1 rfl (Nat.le_of_ble_eq_true rfl) dX7_witness_13 (st1 := [.long r13]) rfl ⟨Nat.zero_le _, Nat.zero_le _⟩ (fun H locs hP hD hS => ?_)
    obtain rfl := Option.some.inj hf
    exact hR H locs 16 ls hP hD hS dX7_witness_16
set_option maxHeartbeats 4000000 in
set_option maxRecDepth 100000 in
theorem kX7_isSmall (l : Launch) (D : va_G) (A : Nat → Nat) (B : Nat → ClassId) (sz : Nat) (S : w_S) (a1 : Int32) (z : Int32) (hf : fX7_isSmall S a1 = some z) : MetW l yX7_isSmall (wsO yX7_isSmall cX7_isSmall 2 (some .boolean)) rm_X7_isSmall [.ref (A 0), .int a1] D (tyB B) (wM A B S) (wM A B S) sz (some (.int z)) := by
  refine MetW.mkZ (cc := cX7_isSmall) (maxL := 2) (by decide) (Nat.le_of_ble_eq_true rfl) ?_
  intro p e s m args below meth c Ad Q hx hb hts hown hml hN hK hA hR H locs ls hP hD hS hl
  have hl : lv_has ls 2 [(0, .ref (A 0)), (1, .int a1)] := hl
  rw [fX7_isSmall] at hf
  refine lv_aload_n (pc := 0) hx hb dX7_isSmall_0 rfl (lv_at hl 0 rfl) ?_
  refine lv_aload_n (pc := 1) hx hb dX7_isSmall_1 rfl (lv_at hl 0 rfl) ?_
  refine vMgRX7_29_0 (pc := 2) hx hb hts mU_87 inU7 hown hK hP dX7_isSmall_2 ?_
  refine lv_iload_n (pc := 5) hx hb dX7_isSmall_5 rfl (lv_at hl 1 rfl) ?_
  obtain ⟨hg6, hf⟩ := hf_g hf
  refine vMra_4 (pc := 6) hx hb hK hP (f := (gA S 3)) rfl hg6 dX7_isSmall_6 ?_
  obtain ⟨r7, hc7, hf⟩ := hf_b hf
  refine cl_V (pc := 7) (As := [.int ((gA S 3) a1.toNatClampNeg)]) (rest := []) hx hb hml hown hts (kX7_isLike l D A B _ S ((gA S 3) a1.toNatClampNeg) r7 hc7) (cwV 1 hts gwRX7_209 rfl rfl rfl hdX7_isLike ⟨Nat.le_of_ble_eq_true rfl, Nat.le_of_ble_eq_true rfl⟩) hN hK hP hD hS hA (va_recv hK hP (ci := 7) (q0 := 0) rfl (eM_0 A B _)) rfl hl.1 rfl (Nat.le_of_ble_eq_true rfl) dX7_isSmall_7 (st1 := [.int r7]) rfl ⟨Nat.zero_le _, Nat.zero_le _⟩ (fun H locs hP hD hS => ?_)
  refine lv_if_eq (pc := 10) hx hb (tgt := 31) dX7_isSmall_10 (by decide) (fun c_10 => ?_) (fun c_10 => ?_)
  · have hf := hf_t c_10 hf
    refine lv_iconst (pc := 31) hx hb (v := 0) dX7_isSmall_31 (by decide) ?_
    obtain rfl := Option.some.inj hf
    exact hR H locs 32 ls hP hD hS (nz_of (.inl rfl)) dX7_isSmall_32
  · have hf := hf_f c_10 hf
    refine lv_aload_n (pc := 13) hx hb dX7_isSmall_13 rfl (lv_at hl 0 rfl) ?_
    refine vMgRX7_19_0 (pc := 14) hx hb hts mU_84 inU7 hown hK hP (x := (gI S 0)) rfl dX7_isSmall_14 ?_
    refine lv_aload_n (pc := 17) hx hb dX7_isSmall_17 rfl (lv_at hl 0 rfl) ?_
    refine vMgRX7_23_0 (pc := 18) hx hb hts mU_85 inU7 hown hK hP (x := (gI S 1)) rfl dX7_isSmall_18 ?_
    refine lv_imul (pc := 21) hx hb dX7_isSmall_21 ?_
    refine lv_bipush (pc := 22) hx hb (v := 6) dX7_isSmall_22 (by decide) ?_
    refine lv_icmp_gt (pc := 24) hx hb (tgt := 31) dX7_isSmall_24 (by decide) (fun c_24 => ?_) (fun c_24 => ?_)
    · have hf := hf_t c_24 hf
      refine lv_iconst (pc := 31) hx hb (v := 0) dX7_isSmall_31 (by decide) ?_
      obtain rfl := Option.some.inj hf
      exact hR H locs 32 ls hP hD hS (nz_of (.inl rfl)) dX7_isSmall_32
    · have hf := hf_f c_24 hf
      refine lv_iconst (pc := 27) hx hb (v := 1) dX7_isSmall_27 (by decide) ?_
      refine lv_goto (pc := 28) hx hb (tgt := 32) dX7_isSmall_28 (by decide) ?_
      obtain rfl := Option.some.inj hf
      exact hR H locs 32 ls hP hD hS (nz_of (.inr rfl)) dX7_isSmall_32
set_option maxHeartbeats 4000000 in
set_option maxRecDepth 100000 in
theorem kX7_similar (l : Launch) (D : va_G) (A : Nat → Nat) (B : Nat → ClassId) (sz : Nat) (S : w_S) (a1 : Int32) (z : Int32 × w_S) (hf : fX7_similar S a1 = some z) : MetW l yX7_similar (wsO yX7_similar cX7_similar 2 (some .int)) rm_X7_similar [.ref (A 0), .int a1] D (tyB B) (wM A B S) (wM A B z.2) sz (some (.int z.1)) := by
  refine MetW.mkI (cc := cX7_similar) (maxL := 2) (by decide) (Nat.le_of_ble_eq_true rfl) ?_
  intro p e s m args below meth c Ad Q hx hb hts hown hml hN hK hA hR H locs ls hP hD hS hl
  have hl : lv_has ls 2 [(0, .ref (A 0)), (1, .int a1)] := hl
  rw [fX7_similar] at hf
  refine lv_aload_n (pc := 0) hx hb dX7_similar_0 rfl (lv_at hl 0 rfl) ?_
  refine lv_iload_n (pc := 1) hx hb dX7_similar_1 rfl (lv_at hl 1 rfl) ?_
  obtain ⟨r2, hc2, hf⟩ := hf_b hf
  refine cl_V (pc := 2) (As := [.int a1]) (rest := []) hx hb hml hown hts (kX7_isEquation l D A B _ S a1 r2 hc2) (cwV 1 hts gwRX7_203 rfl rfl rfl hdX7_isEquation ⟨Nat.le_of_ble_eq_true rfl, Nat.le_of_ble_eq_true rfl⟩) hN hK hP hD hS hA (va_recv hK hP (ci := 7) (q0 := 0) rfl (eM_0 A B _)) rfl hl.1 rfl (Nat.le_of_ble_eq_true rfl) dX7_similar_2 (st1 := [.int r2]) rfl ⟨Nat.zero_le _, Nat.zero_le _⟩ (fun H locs hP hD hS => ?_)
  refine lv_if_ne (pc := 5) hx hb (tgt := 10) dX7_similar_5 (by decide) (fun c_5 => ?_) (fun c_5 => ?_)
  · have hf := hf_f c_5 hf
    refine lv_aload_n (pc := 10) hx hb dX7_similar_10 rfl (lv_at hl 0 rfl) ?_
    refine lv_iload_n (pc := 11) hx hb dX7_similar_11 rfl (lv_at hl 1 rfl) ?_
    obtain ⟨r12, hc12, hf⟩ := hf_b hf
    refine cl_V (pc := 12) (As := [.int a1]) (rest := []) hx hb hml hown hts (kX7_isSmall l D A B _ S a1 r12 hc12) (cwV 1 hts gwRX7_297 rfl rfl rfl hdX7_isSmall ⟨Nat.le_of_ble_eq_true rfl, Nat.le_of_ble_eq_true rfl⟩) hN hK hP hD hS hA (va_recv hK hP (ci := 7) (q0 := 0) rfl (eM_0 A B _)) rfl hl.1 rfl (Nat.le_of_ble_eq_true rfl) dX7_similar_12 (st1 := [.int r12]) rfl ⟨Nat.zero_le _, Nat.zero_le _⟩ (fun H locs hP hD hS => ?_)
    refine lv_if_ne (pc := 15) hx hb (tgt := 21) dX7_similar_15 (by decide) (fun c_15 => ?_) (fun c_15 => ?_)
    · have hf := hf_f c_15 hf
      refine lv_aload_n (pc := 21) hx hb dX7_similar_21 rfl (lv_at hl 0 rfl) ?_
      refine lv_aload_n (pc := 22) hx hb dX7_similar_22 rfl (lv_at hl 0 rfl) ?_
      refine vMgRX7_29_0 (pc := 23) hx hb hts mU_87 inU7 hown hK hP dX7_similar_23 ?_
      refine lv_iload_n (pc := 26) hx hb dX7_similar_26 rfl (lv_at hl 1 rfl) ?_
      obtain ⟨hg27, hf⟩ := hf_g hf
      refine vMra_4 (pc := 27) hx hb hK hP (f := (gA S 3)) rfl hg27 dX7_similar_27 ?_
      refine lv_iconst (pc := 28) hx hb (v := 0) dX7_similar_28 (by decide) ?_
      refine lv_aload_n (pc := 29) hx hb dX7_similar_29 rfl (lv_at hl 0 rfl) ?_
      refine vMgRX7_32_0 (pc := 30) hx hb hts mU_88 inU7 hown hK hP dX7_similar_30 ?_
      refine lv_iload_n (pc := 33) hx hb dX7_similar_33 rfl (lv_at hl 1 rfl) ?_
      obtain ⟨hg34, hf⟩ := hf_g hf
      refine vMra_5 (pc := 34) hx hb hK hP (f := (gA S 4)) rfl hg34 dX7_similar_34 ?_
      refine lv_iconst (pc := 35) hx hb (v := 0) dX7_similar_35 (by decide) ?_
      obtain ⟨r36, hc36, hf⟩ := hf_b hf
      refine cl_V (pc := 36) (As := [.int ((gA S 3) a1.toNatClampNeg), .int 0, .int ((gA S 4) a1.toNatClampNeg), .int 0]) (rest := []) hx hb hml hown hts (kX7_sets l D A B _ S ((gA S 3) a1.toNatClampNeg) 0 ((gA S 4) a1.toNatClampNeg) 0 r36 hc36) (cwV 4 hts gwRX7_255 rfl rfl rfl hdX7_sets ⟨Nat.le_of_ble_eq_true rfl, Nat.le_of_ble_eq_true rfl⟩) hN hK hP hD hS hA (va_recv hK hP (ci := 7) (q0 := 0) rfl (eM_0 A B _)) rfl hl.1 rfl (Nat.le_of_ble_eq_true rfl) dX7_similar_36 (st1 := []) rfl ⟨Nat.zero_le _, Nat.zero_le _⟩ (fun H locs hP hD hS => ?_)
      refine lv_aload_n (pc := 39) hx hb dX7_similar_39 rfl (lv_at hl 0 rfl) ?_
      obtain ⟨r40, hc40, hf⟩ := hf_b hf
      refine cl_V (pc := 40) (As := []) (rest := []) hx hb hml hown hts (kX7_isSolved l D A B _ r36 r40 hc40) (cwV 0 hts gwRX7_270 rfl rfl rfl hdX7_isSolved ⟨Nat.le_of_ble_eq_true rfl, Nat.le_of_ble_eq_true rfl⟩) hN hK hP hD hS hA (va_recv hK hP (ci := 7) (q0 := 0) rfl (eM_0 A B _)) rfl hl.1 rfl (Nat.le_of_ble_eq_true rfl) dX7_similar_40 (st1 := [.int r40]) rfl ⟨Nat.zero_le _, Nat.zero_le _⟩ (fun H locs hP hD hS => ?_)
      refine lv_if_eq (pc := 43) hx hb (tgt := 50) dX7_similar_43 (by decide) (fun c_43 => ?_) (fun c_43 => ?_)
      · have hf := hf_t c_43 hf
        refine lv_iconst (pc := 50) hx hb (v := 0) dX7_similar_50 (by decide) ?_
        obtain rfl := Option.some.inj hf
        exact hR H locs 51 ls hP hD hS dX7_similar_51
      · have hf := hf_f c_43 hf
        refine lv_iconst (pc := 46) hx hb (v := 1) dX7_similar_46 (by decide) ?_
        refine lv_goto (pc := 47) hx hb (tgt := 51) dX7_similar_47 (by decide) ?_
        obtain rfl := Option.some.inj hf
        exact hR H locs 51 ls hP hD hS dX7_similar_51
    · have hf := hf_t c_15 hf
      refine lv_bipush (pc := 18) hx hb (v := (-4)) dX7_similar_18 (by decide) ?_
      obtain rfl := Option.some.inj hf
      exact hR H locs 20 ls hP hD hS dX7_similar_20
  · have hf := hf_t c_5 hf
    refine lv_iconst (pc := 8) hx hb (v := (-1)) dX7_similar_8 (by decide) ?_
    obtain rfl := Option.some.inj hf
    exact hR H locs 9 ls hP hD hS dX7_similar_9
set_option maxHeartbeats 4000000 in
set_option maxRecDepth 100000 in
theorem kX7_whole (l : Launch) (D : va_G) (A : Nat → Nat) (B : Nat → ClassId) (sz : Nat) (S : w_S) (a1 : Int32) (z : Int64 × w_S) (hf : fX7_whole S a1 = some z) : MetW l yX7_whole (wsO yX7_whole cX7_whole 2 (some .long)) rm_X7_whole [.ref (A 0), .int a1] D (tyB B) (wM A B S) (wM A B z.2) sz (some (.long z.1)) := by
  refine MetW.mkL (cc := cX7_whole) (maxL := 2) (by decide) (Nat.le_of_ble_eq_true rfl) ?_
  intro p e s m args below meth c Ad Q hx hb hts hown hml hN hK hA hR H locs ls hP hD hS hl
  have hl : lv_has ls 2 [(0, .ref (A 0)), (1, .int a1)] := hl
  rw [fX7_whole] at hf
  refine lv_aload_n (pc := 0) hx hb dX7_whole_0 rfl (lv_at hl 0 rfl) ?_
  refine lv_iload_n (pc := 1) hx hb dX7_whole_1 rfl (lv_at hl 1 rfl) ?_
  obtain ⟨r2, hc2, hf⟩ := hf_b hf
  refine cl_V (pc := 2) (As := [.int a1]) (rest := []) hx hb hml hown hts (kX7_isEquation l D A B _ S a1 r2 hc2) (cwV 1 hts gwRX7_203 rfl rfl rfl hdX7_isEquation ⟨Nat.le_of_ble_eq_true rfl, Nat.le_of_ble_eq_true rfl⟩) hN hK hP hD hS hA (va_recv hK hP (ci := 7) (q0 := 0) rfl (eM_0 A B _)) rfl hl.1 rfl (Nat.le_of_ble_eq_true rfl) dX7_whole_2 (st1 := [.int r2]) rfl ⟨Nat.zero_le _, Nat.zero_le _⟩ (fun H locs hP hD hS => ?_)
  refine lv_if_ne (pc := 5) hx hb (tgt := 13) dX7_whole_5 (by decide) (fun c_5 => ?_) (fun c_5 => ?_)
  · have hf := hf_f c_5 hf
    refine lv_aload_n (pc := 13) hx hb dX7_whole_13 rfl (lv_at hl 0 rfl) ?_
    refine lv_iload_n (pc := 14) hx hb dX7_whole_14 rfl (lv_at hl 1 rfl) ?_
    obtain ⟨r15, hc15, hf⟩ := hf_b hf
    refine cl_V (pc := 15) (As := [.int a1]) (rest := []) hx hb hml hown hts (kX7_isSmall l D A B _ S a1 r15 hc15) (cwV 1 hts gwRX7_297 rfl rfl rfl hdX7_isSmall ⟨Nat.le_of_ble_eq_true rfl, Nat.le_of_ble_eq_true rfl⟩) hN hK hP hD hS hA (va_recv hK hP (ci := 7) (q0 := 0) rfl (eM_0 A B _)) rfl hl.1 rfl (Nat.le_of_ble_eq_true rfl) dX7_whole_15 (st1 := [.int r15]) rfl ⟨Nat.zero_le _, Nat.zero_le _⟩ (fun H locs hP hD hS => ?_)
    refine lv_if_ne (pc := 18) hx hb (tgt := 27) dX7_whole_18 (by decide) (fun c_18 => ?_) (fun c_18 => ?_)
    · have hf := hf_f c_18 hf
      refine lv_aload_n (pc := 27) hx hb dX7_whole_27 rfl (lv_at hl 0 rfl) ?_
      refine lv_aload_n (pc := 28) hx hb dX7_whole_28 rfl (lv_at hl 0 rfl) ?_
      refine vMgRX7_29_0 (pc := 29) hx hb hts mU_87 inU7 hown hK hP dX7_whole_29 ?_
      refine lv_iload_n (pc := 32) hx hb dX7_whole_32 rfl (lv_at hl 1 rfl) ?_
      obtain ⟨hg33, hf⟩ := hf_g hf
      refine vMra_4 (pc := 33) hx hb hK hP (f := (gA S 3)) rfl hg33 dX7_whole_33 ?_
      refine lv_iconst (pc := 34) hx hb (v := 0) dX7_whole_34 (by decide) ?_
      refine lv_aload_n (pc := 35) hx hb dX7_whole_35 rfl (lv_at hl 0 rfl) ?_
      refine vMgRX7_32_0 (pc := 36) hx hb hts mU_88 inU7 hown hK hP dX7_whole_36 ?_
      refine lv_iload_n (pc := 39) hx hb dX7_whole_39 rfl (lv_at hl 1 rfl) ?_
      obtain ⟨hg40, hf⟩ := hf_g hf
      refine vMra_5 (pc := 40) hx hb hK hP (f := (gA S 4)) rfl hg40 dX7_whole_40 ?_
      refine lv_iconst (pc := 41) hx hb (v := 0) dX7_whole_41 (by decide) ?_
      obtain ⟨r42, hc42, hf⟩ := hf_b hf
      refine cl_V (pc := 42) (As := [.int ((gA S 3) a1.toNatClampNeg), .int 0, .int ((gA S 4) a1.toNatClampNeg), .int 0]) (rest := []) hx hb hml hown hts (kX7_sets l D A B _ S ((gA S 3) a1.toNatClampNeg) 0 ((gA S 4) a1.toNatClampNeg) 0 r42 hc42) (cwV 4 hts gwRX7_255 rfl rfl rfl hdX7_sets ⟨Nat.le_of_ble_eq_true rfl, Nat.le_of_ble_eq_true rfl⟩) hN hK hP hD hS hA (va_recv hK hP (ci := 7) (q0 := 0) rfl (eM_0 A B _)) rfl hl.1 rfl (Nat.le_of_ble_eq_true rfl) dX7_whole_42 (st1 := []) rfl ⟨Nat.zero_le _, Nat.zero_le _⟩ (fun H locs hP hD hS => ?_)
      refine lv_aload_n (pc := 45) hx hb dX7_whole_45 rfl (lv_at hl 0 rfl) ?_
      refine vMgRX7_239_0 (pc := 46) hx hb hts mU_516 inU7 hown hK hP (x := (gI r42 16)) rfl dX7_whole_46 ?_
      refine lv_aload_n (pc := 49) hx hb dX7_whole_49 rfl (lv_at hl 0 rfl) ?_
      refine vMgRX7_19_0 (pc := 50) hx hb hts mU_84 inU7 hown hK hP (x := (gI r42 0)) rfl dX7_whole_50 ?_
      refine lv_aload_n (pc := 53) hx hb dX7_whole_53 rfl (lv_at hl 0 rfl) ?_
      refine vMgRX7_23_0 (pc := 54) hx hb hts mU_85 inU7 hown hK hP (x := (gI r42 1)) rfl dX7_whole_54 ?_
      refine lv_imul (pc := 57) hx hb dX7_whole_57 ?_
      refine lv_icmp_ge (pc := 58) hx hb (tgt := 65) dX7_whole_58 (by decide) (fun c_58 => ?_) (fun c_58 => ?_)
      · have hf := hf_t c_58 hf
        refine lv_aload_n (pc := 65) hx hb dX7_whole_65 rfl (lv_at hl 0 rfl) ?_
        refine vMgRX7_226_0 (pc := 66) hx hb hts mU_565 inU7 hown hK hP (x := (gI r42 17)) rfl dX7_whole_66 ?_
        refine lv_iconst (pc := 69) hx hb (v := 2) dX7_whole_69 (by decide) ?_
        refine lv_irem (pc := 70) hx hb dX7_whole_70 (by decide) ?_
        refine lv_iconst (pc := 71) hx hb (v := 1) dX7_whole_71 (by decide) ?_
        refine lv_icmp_ne (pc := 72) hx hb (tgt := 83) dX7_whole_72 (by decide) (fun c_72 => ?_) (fun c_72 => ?_)
        · have hf := hf_f c_72 hf
          refine lv_aload_n (pc := 83) hx hb dX7_whole_83 rfl (lv_at hl 0 rfl) ?_
          refine vMgRX7_235_0 (pc := 84) hx hb hts mU_566 inU7 hown hK hP (x := (gL r42 0)) rfl dX7_whole_84 ?_
          obtain rfl := Option.some.inj hf
          exact hR H locs 87 ls hP hD hS dX7_whole_87
        · have hf := hf_t c_72 hf
          refine lv_aload_n (pc := 75) hx hb dX7_whole_75 rfl (lv_at hl 0 rfl) ?_
          refine vMgRX7_235_0 (pc := 76) hx hb hts mU_566 inU7 hown hK hP (x := (gL r42 0)) rfl dX7_whole_76 ?_
          refine lv_lneg (pc := 79) hx hb dX7_whole_79 ?_
          refine lv_goto (pc := 80) hx hb (tgt := 87) dX7_whole_80 (by decide) ?_
          obtain rfl := Option.some.inj hf
          exact hR H locs 87 ls hP hD hS dX7_whole_87
      · have hf := hf_f c_58 hf
        refine lv_lconst (pc := 61) hx hb (v := 0) dX7_whole_61 (by decide) ?_
        refine lv_goto (pc := 62) hx hb (tgt := 87) dX7_whole_62 (by decide) ?_
        obtain rfl := Option.some.inj hf
        exact hR H locs 87 ls hP hD hS dX7_whole_87
    · have hf := hf_t c_18 hf
      refine lv_bipush (pc := 21) hx hb (v := (-4)) dX7_whole_21 (by decide) ?_
      obtain ⟨r23, hc23, hf⟩ := hf_b hf
      refine cl_S (pc := 23) (As := [.int (-4)]) (rest := []) hx hb hml hown hts (kX7_told l D A B _ S (-4) r23 hc23) (va_cwS 1 hts gwRX7_140 rfl rfl rfl hdX7_told ⟨Nat.le_of_ble_eq_true rfl, Nat.le_of_ble_eq_true rfl⟩) hN hK hP hD hS hA rfl hl.1 rfl (Nat.le_of_ble_eq_true rfl) dX7_whole_23 (st1 := [.long r23]) rfl ⟨Nat.zero_le _, Nat.zero_le _⟩ (fun H locs hP hD hS => ?_)
      obtain rfl := Option.some.inj hf
      exact hR H locs 26 ls hP hD hS dX7_whole_26
  · have hf := hf_t c_5 hf
    refine lv_iconst (pc := 8) hx hb (v := (-1)) dX7_whole_8 (by decide) ?_
    obtain ⟨r9, hc9, hf⟩ := hf_b hf
    refine cl_S (pc := 9) (As := [.int (-1)]) (rest := []) hx hb hml hown hts (kX7_told l D A B _ S (-1) r9 hc9) (va_cwS 1 hts gwRX7_140 rfl rfl rfl hdX7_told ⟨Nat.le_of_ble_eq_true rfl, Nat.le_of_ble_eq_true rfl⟩) hN hK hP hD hS hA rfl hl.1 rfl (Nat.le_of_ble_eq_true rfl) dX7_whole_9 (st1 := [.long r9]) rfl ⟨Nat.zero_le _, Nat.zero_le _⟩ (fun H locs hP hD hS => ?_)
    obtain rfl := Option.some.inj hf
    exact hR H locs 12 ls hP hD hS dX7_whole_12
set_option maxHeartbeats 4000000 in
set_option maxRecDepth 100000 in
theorem kX7_splits (l : Launch) (D : va_G) (A : Nat → Nat) (B : Nat → ClassId) (sz : Nat) (S : w_S) (a1 : Int32) (z : Int32) (hf : fX7_splits S a1 = some z) : MetW l yX7_splits (wsO yX7_splits cX7_splits 4 (some .boolean)) rm_X7_splits [.ref (A 0), .int a1] D (tyB B) (wM A B S) (wM A B S) sz (some (.int z)) := by
  refine MetW.mkZ (cc := cX7_splits) (maxL := 4) (by decide) (Nat.le_of_ble_eq_true rfl) ?_
  intro p e s m args below meth c Ad Q hx hb hts hown hml hN hK hA hR H locs ls hP hD hS hl
  have hl : lv_has ls 4 [(0, .ref (A 0)), (1, .int a1)] := hl
  rw [fX7_splits] at hf
  refine lv_iload_n (pc := 0) hx hb dX7_splits_0 rfl (lv_at hl 1 rfl) ?_
  refine lv_istore_n (pc := 1) hx hb (lv' := [(2, .int a1), (0, .ref (A 0)), (1, .int a1)]) dX7_splits_1 rfl hl (by decide) rfl (fun ls hl => ?_)
  have hk2 : ∀  (H : Heap) (locs : List Loc) (ls : Array Slot), some 1 = some z → va_P D vwCl (wM A B S) H → va_D Ad (wM A B S) → va_S Ad s.heap H locs → lv_has ls 4 [] → W p l e rm_X7_splits s m args below meth c H locs 0 0 Q (F0 m 41 ls []) := by
    intro  H locs ls hf hP hD hS hl
    refine lv_iconst (pc := 41) hx hb (v := 1) dX7_splits_41 (by decide) ?_
    obtain rfl := Option.some.inj hf
    exact hR H locs 42 ls hP hD hS (nz_of (.inr rfl)) dX7_splits_42
  have lp2 : ∀ (n : Nat) (u2_2 : Int32) (H : Heap) (locs : List Loc) (ls : Array Slot), fX7_splits_L2 (some 1) S a1 n u2_2 = some z → va_P D vwCl (wM A B S) H → va_D Ad (wM A B S) → va_S Ad s.heap H locs → lv_has ls 4 [(0, .ref (A 0)), (1, .int a1), (2, .int u2_2)] → W p l e rm_X7_splits s m args below meth c H locs 0 0 Q (F0 m 2 ls []) := by
    intro n2
    induction n2 with
    | zero => intro u2_2 H locs ls hf; exact hf_0 hf
    | succ n2 ih2 =>
      intro u2_2 H locs ls hf hP hD hS hl
      rw [fX7_splits_L2] at hf
      refine lv_iload_n (pc := 2) hx hb dX7_splits_2 rfl (lv_at hl 2 rfl) ?_
      refine lv_aload_n (pc := 3) hx hb dX7_splits_3 rfl (lv_at hl 0 rfl) ?_
      refine vMgRX7_19_0 (pc := 4) hx hb hts mU_84 inU7 hown hK hP (x := (gI S 0)) rfl dX7_splits_4 ?_
      refine lv_icmp_ge (pc := 7) hx hb (tgt := 41) dX7_splits_7 (by decide) (fun c_7 => ?_) (fun c_7 => ?_)
      · have hf := hf_t c_7 hf
        exact hk2  H locs ls hf hP hD hS (lv_sub hl [] rfl)
      · have hf := hf_f c_7 hf
        refine lv_iconst (pc := 10) hx hb (v := 0) dX7_splits_10 (by decide) ?_
        refine lv_istore_n (pc := 11) hx hb (lv' := [(3, .int 0), (0, .ref (A 0)), (1, .int a1), (2, .int u2_2)]) dX7_splits_11 rfl hl (by decide) rfl (fun ls hl => ?_)
        have hk12 : ∀  (H : Heap) (locs : List Loc) (ls : Array Slot), fX7_splits_L2 (some 1) S a1 n2 (u2_2 + 1) = some z → va_P D vwCl (wM A B S) H → va_D Ad (wM A B S) → va_S Ad s.heap H locs → lv_has ls 4 [(0, .ref (A 0)), (1, .int a1), (2, .int u2_2)] → W p l e rm_X7_splits s m args below meth c H locs 0 0 Q (F0 m 35 ls []) := by
          intro  H locs ls hf hP hD hS hl
          refine lv_iinc (pc := 35) hx hb (v := u2_2 + 1) (lv' := [(2, .int (u2_2 + 1)), (0, .ref (A 0)), (1, .int a1)]) dX7_splits_35 hl (k := 2) rfl rfl (by decide) rfl (fun ls hl => ?_)
          refine lv_goto (pc := 38) hx hb (tgt := 2) dX7_splits_38 (by decide) ?_
          exact ih2 (u2_2 + 1) H locs ls hf hP hD hS (lv_sub hl [1, 2, 0] rfl)
        have lp12 : ∀ (n : Nat) (u3_12 : Int32) (H : Heap) (locs : List Loc) (ls : Array Slot), fX7_splits_L12 (fX7_splits_L2 (some 1) S a1 n2 (u2_2 + 1)) S a1 u2_2 n u3_12 = some z → va_P D vwCl (wM A B S) H → va_D Ad (wM A B S) → va_S Ad s.heap H locs → lv_has ls 4 [(0, .ref (A 0)), (1, .int a1), (2, .int u2_2), (3, .int u3_12)] → W p l e rm_X7_splits s m args below meth c H locs 0 0 Q (F0 m 12 ls []) := by
          intro n12
          induction n12 with
          | zero => intro u3_12 H locs ls hf; exact hf_0 hf
          | succ n12 ih12 =>
            intro u3_12 H locs ls hf hP hD hS hl
            rw [fX7_splits_L12] at hf
            refine lv_iload_n (pc := 12) hx hb dX7_splits_12 rfl (lv_at hl 3 rfl) ?_
            refine lv_iload_n (pc := 13) hx hb dX7_splits_13 rfl (lv_at hl 1 rfl) ?_
            refine lv_icmp_ge (pc := 14) hx hb (tgt := 35) dX7_splits_14 (by decide) (fun c_14 => ?_) (fun c_14 => ?_)
            · have hf := hf_t c_14 hf
              exact hk12  H locs ls hf hP hD hS (lv_sub hl [0, 1, 2] rfl)
            · have hf := hf_f c_14 hf
              refine lv_aload_n (pc := 17) hx hb dX7_splits_17 rfl (lv_at hl 0 rfl) ?_
              refine lv_iconst (pc := 18) hx hb (v := 0) dX7_splits_18 (by decide) ?_
              refine lv_iload_n (pc := 19) hx hb dX7_splits_19 rfl (lv_at hl 2 rfl) ?_
              refine lv_iload_n (pc := 20) hx hb dX7_splits_20 rfl (lv_at hl 3 rfl) ?_
              obtain ⟨r21, hc21, hf⟩ := hf_b hf
              refine cl_V (pc := 21) (As := [.int 0, .int u2_2, .int u3_12]) (rest := []) hx hb hml hown hts (kX7_its l D A B _ S 0 u2_2 u3_12 r21 hc21) (cwV 3 hts gwRX7_128 rfl rfl rfl hdX7_its ⟨Nat.le_of_ble_eq_true rfl, Nat.le_of_ble_eq_true rfl⟩) hN hK hP hD hS hA (va_recv hK hP (ci := 7) (q0 := 0) rfl (eM_0 A B _)) rfl hl.1 rfl (Nat.le_of_ble_eq_true rfl) dX7_splits_21 (st1 := [.int r21]) rfl ⟨Nat.zero_le _, Nat.zero_le _⟩ (fun H locs hP hD hS => ?_)
              refine lv_if_eq (pc := 24) hx hb (tgt := 29) dX7_splits_24 (by decide) (fun c_24 => ?_) (fun c_24 => ?_)
              · have hf := hf_t c_24 hf
                refine lv_iinc (pc := 29) hx hb (v := u3_12 + 1) (lv' := [(3, .int (u3_12 + 1)), (0, .ref (A 0)), (1, .int a1), (2, .int u2_2)]) dX7_splits_29 hl (k := 3) rfl rfl (by decide) rfl (fun ls hl => ?_)
                refine lv_goto (pc := 32) hx hb (tgt := 12) dX7_splits_32 (by decide) ?_
                exact ih12 (u3_12 + 1) H locs ls hf hP hD hS (lv_sub hl [1, 2, 3, 0] rfl)
              · have hf := hf_f c_24 hf
                refine lv_iconst (pc := 27) hx hb (v := 0) dX7_splits_27 (by decide) ?_
                obtain rfl := Option.some.inj hf
                exact hR H locs 28 ls hP hD hS (nz_of (.inl rfl)) dX7_splits_28
        exact lp12 256 0 H locs ls hf hP hD hS (lv_sub hl [1, 2, 3, 0] rfl)
  exact lp2 256 a1 H locs ls hf hP hD hS (lv_sub hl [1, 2, 0] rfl)
set_option maxHeartbeats 4000000 in
set_option maxRecDepth 100000 in
theorem kX7_lower (l : Launch) (D : va_G) (A : Nat → Nat) (B : Nat → ClassId) (sz : Nat) (S : w_S) (a1 : Int32) (a2 : Int32) (z : Int32 × w_S) (hf : fX7_lower S a1 a2 = some z) : MetW l yX7_lower (wsO yX7_lower cX7_lower 3 (some .int)) rm_X7_lower [.ref (A 0), .int a1, .int a2] D (tyB B) (wM A B S) (wM A B z.2) sz (some (.int z.1)) := by
  refine MetW.mkI (cc := cX7_lower) (maxL := 3) (by decide) (Nat.le_of_ble_eq_true rfl) ?_
  intro p e s m args below meth c Ad Q hx hb hts hown hml hN hK hA hR H locs ls hP hD hS hl
  have hl : lv_has ls 3 [(0, .ref (A 0)), (1, .int a1), (2, .int a2)] := hl
  rw [fX7_lower] at hf
  refine lv_aload_n (pc := 0) hx hb dX7_lower_0 rfl (lv_at hl 0 rfl) ?_
  refine lv_iload_n (pc := 1) hx hb dX7_lower_1 rfl (lv_at hl 1 rfl) ?_
  obtain ⟨r2, hc2, hf⟩ := hf_b hf
  refine cl_V (pc := 2) (As := [.int a1]) (rest := []) hx hb hml hown hts (kX7_isEquation l D A B _ S a1 r2 hc2) (cwV 1 hts gwRX7_203 rfl rfl rfl hdX7_isEquation ⟨Nat.le_of_ble_eq_true rfl, Nat.le_of_ble_eq_true rfl⟩) hN hK hP hD hS hA (va_recv hK hP (ci := 7) (q0 := 0) rfl (eM_0 A B _)) rfl hl.1 rfl (Nat.le_of_ble_eq_true rfl) dX7_lower_2 (st1 := [.int r2]) rfl ⟨Nat.zero_le _, Nat.zero_le _⟩ (fun H locs hP hD hS => ?_)
  refine lv_if_eq (pc := 5) hx hb (tgt := 20) dX7_lower_5 (by decide) (fun c_5 => ?_) (fun c_5 => ?_)
  · have hf := hf_t c_5 hf
    refine lv_iconst (pc := 20) hx hb (v := (-1)) dX7_lower_20 (by decide) ?_
    obtain rfl := Option.some.inj hf
    exact hR H locs 21 ls hP hD hS dX7_lower_21
  · have hf := hf_f c_5 hf
    refine lv_iload_n (pc := 8) hx hb dX7_lower_8 rfl (lv_at hl 2 rfl) ?_
    refine lv_i2l (pc := 9) hx hb (v := a2.toInt64) dX7_lower_9 rfl ?_
    refine lv_lconst (pc := 10) hx hb (v := 1) dX7_lower_10 (by decide) ?_
    refine lv_ldc2 (pc := 11) hx hb (v := 2) hown (hts (.constantLong RX7 97 (2)) mU_167) dX7_lower_11 ?_
    obtain ⟨r14, hc14, hf⟩ := hf_b hf
    refine cl_S (pc := 14) (As := [.long a2.toInt64, .long 1, .long 2]) (rest := []) hx hb hml hown hts (kX7_in l D A B _ S a2.toInt64 1 2 r14 hc14) (va_cwS 3 hts gwRX7_99 rfl rfl rfl hdX7_in ⟨Nat.le_of_ble_eq_true rfl, Nat.le_of_ble_eq_true rfl⟩) hN hK hP hD hS hA rfl hl.1 rfl (Nat.le_of_ble_eq_true rfl) dX7_lower_14 (st1 := [.int r14]) rfl ⟨Nat.zero_le _, Nat.zero_le _⟩ (fun H locs hP hD hS => ?_)
    refine lv_if_ne (pc := 17) hx hb (tgt := 22) dX7_lower_17 (by decide) (fun c_17 => ?_) (fun c_17 => ?_)
    · have hf := hf_f c_17 hf
      refine lv_iload_n (pc := 22) hx hb dX7_lower_22 rfl (lv_at hl 2 rfl) ?_
      refine lv_aload_n (pc := 23) hx hb dX7_lower_23 rfl (lv_at hl 0 rfl) ?_
      refine vMgRX7_19_0 (pc := 24) hx hb hts mU_84 inU7 hown hK hP (x := (gI S 0)) rfl dX7_lower_24 ?_
      refine lv_icmp_ge (pc := 27) hx hb (tgt := 51) dX7_lower_27 (by decide) (fun c_27 => ?_) (fun c_27 => ?_)
      · have hf := hf_t c_27 hf
        refine lv_bipush (pc := 51) hx hb (v := (-4)) dX7_lower_51 (by decide) ?_
        obtain rfl := Option.some.inj hf
        exact hR H locs 53 ls hP hD hS dX7_lower_53
      · have hf := hf_f c_27 hf
        refine lv_aload_n (pc := 30) hx hb dX7_lower_30 rfl (lv_at hl 0 rfl) ?_
        refine lv_iload_n (pc := 31) hx hb dX7_lower_31 rfl (lv_at hl 2 rfl) ?_
        obtain ⟨r32, hc32, hf⟩ := hf_b hf
        refine cl_V (pc := 32) (As := [.int a2]) (rest := []) hx hb hml hown hts (kX7_splits l D A B _ S a2 r32 hc32) (cwV 1 hts gwRX7_300 rfl rfl rfl hdX7_splits ⟨Nat.le_of_ble_eq_true rfl, Nat.le_of_ble_eq_true rfl⟩) hN hK hP hD hS hA (va_recv hK hP (ci := 7) (q0 := 0) rfl (eM_0 A B _)) rfl hl.1 rfl (Nat.le_of_ble_eq_true rfl) dX7_lower_32 (st1 := [.int r32]) rfl ⟨Nat.zero_le _, Nat.zero_le _⟩ (fun H locs hP hD hS => ?_)
        refine lv_if_eq (pc := 35) hx hb (tgt := 51) dX7_lower_35 (by decide) (fun c_35 => ?_) (fun c_35 => ?_)
        · have hf := hf_t c_35 hf
          refine lv_bipush (pc := 51) hx hb (v := (-4)) dX7_lower_51 (by decide) ?_
          obtain rfl := Option.some.inj hf
          exact hR H locs 53 ls hP hD hS dX7_lower_53
        · have hf := hf_f c_35 hf
          refine lv_aload_n (pc := 38) hx hb dX7_lower_38 rfl (lv_at hl 0 rfl) ?_
          refine lv_aload_n (pc := 39) hx hb dX7_lower_39 rfl (lv_at hl 0 rfl) ?_
          refine vMgRX7_29_0 (pc := 40) hx hb hts mU_87 inU7 hown hK hP dX7_lower_40 ?_
          refine lv_iload_n (pc := 43) hx hb dX7_lower_43 rfl (lv_at hl 1 rfl) ?_
          obtain ⟨hg44, hf⟩ := hf_g hf
          refine vMra_4 (pc := 44) hx hb hK hP (f := (gA S 3)) rfl hg44 dX7_lower_44 ?_
          obtain ⟨r45, hc45, hf⟩ := hf_b hf
          refine cl_V (pc := 45) (As := [.int ((gA S 3) a1.toNatClampNeg)]) (rest := []) hx hb hml hown hts (kX7_isLike l D A B _ S ((gA S 3) a1.toNatClampNeg) r45 hc45) (cwV 1 hts gwRX7_209 rfl rfl rfl hdX7_isLike ⟨Nat.le_of_ble_eq_true rfl, Nat.le_of_ble_eq_true rfl⟩) hN hK hP hD hS hA (va_recv hK hP (ci := 7) (q0 := 0) rfl (eM_0 A B _)) rfl hl.1 rfl (Nat.le_of_ble_eq_true rfl) dX7_lower_45 (st1 := [.int r45]) rfl ⟨Nat.zero_le _, Nat.zero_le _⟩ (fun H locs hP hD hS => ?_)
          refine lv_if_ne (pc := 48) hx hb (tgt := 54) dX7_lower_48 (by decide) (fun c_48 => ?_) (fun c_48 => ?_)
          · have hf := hf_f c_48 hf
            refine lv_aload_n (pc := 54) hx hb dX7_lower_54 rfl (lv_at hl 0 rfl) ?_
            refine lv_aload_n (pc := 55) hx hb dX7_lower_55 rfl (lv_at hl 0 rfl) ?_
            refine vMgRX7_29_0 (pc := 56) hx hb hts mU_87 inU7 hown hK hP dX7_lower_56 ?_
            refine lv_iload_n (pc := 59) hx hb dX7_lower_59 rfl (lv_at hl 1 rfl) ?_
            obtain ⟨hg60, hf⟩ := hf_g hf
            refine vMra_4 (pc := 60) hx hb hK hP (f := (gA S 3)) rfl hg60 dX7_lower_60 ?_
            refine lv_iconst (pc := 61) hx hb (v := 0) dX7_lower_61 (by decide) ?_
            refine lv_aload_n (pc := 62) hx hb dX7_lower_62 rfl (lv_at hl 0 rfl) ?_
            refine vMgRX7_32_0 (pc := 63) hx hb hts mU_88 inU7 hown hK hP dX7_lower_63 ?_
            refine lv_iload_n (pc := 66) hx hb dX7_lower_66 rfl (lv_at hl 1 rfl) ?_
            obtain ⟨hg67, hf⟩ := hf_g hf
            refine vMra_5 (pc := 67) hx hb hK hP (f := (gA S 4)) rfl hg67 dX7_lower_67 ?_
            refine lv_iload_n (pc := 68) hx hb dX7_lower_68 rfl (lv_at hl 2 rfl) ?_
            obtain ⟨r69, hc69, hf⟩ := hf_b hf
            refine cl_V (pc := 69) (As := [.int ((gA S 3) a1.toNatClampNeg), .int 0, .int ((gA S 4) a1.toNatClampNeg), .int a2]) (rest := []) hx hb hml hown hts (kX7_sets l D A B _ S ((gA S 3) a1.toNatClampNeg) 0 ((gA S 4) a1.toNatClampNeg) a2 r69 hc69) (cwV 4 hts gwRX7_255 rfl rfl rfl hdX7_sets ⟨Nat.le_of_ble_eq_true rfl, Nat.le_of_ble_eq_true rfl⟩) hN hK hP hD hS hA (va_recv hK hP (ci := 7) (q0 := 0) rfl (eM_0 A B _)) rfl hl.1 rfl (Nat.le_of_ble_eq_true rfl) dX7_lower_69 (st1 := []) rfl ⟨Nat.zero_le _, Nat.zero_le _⟩ (fun H locs hP hD hS => ?_)
            refine lv_aload_n (pc := 72) hx hb dX7_lower_72 rfl (lv_at hl 0 rfl) ?_
            obtain ⟨r73, hc73, hf⟩ := hf_b hf
            refine cl_V (pc := 73) (As := []) (rest := []) hx hb hml hown hts (kX7_isSolved l D A B _ r69 r73 hc73) (cwV 0 hts gwRX7_270 rfl rfl rfl hdX7_isSolved ⟨Nat.le_of_ble_eq_true rfl, Nat.le_of_ble_eq_true rfl⟩) hN hK hP hD hS hA (va_recv hK hP (ci := 7) (q0 := 0) rfl (eM_0 A B _)) rfl hl.1 rfl (Nat.le_of_ble_eq_true rfl) dX7_lower_73 (st1 := [.int r73]) rfl ⟨Nat.zero_le _, Nat.zero_le _⟩ (fun H locs hP hD hS => ?_)
            refine lv_if_eq (pc := 76) hx hb (tgt := 83) dX7_lower_76 (by decide) (fun c_76 => ?_) (fun c_76 => ?_)
            · have hf := hf_t c_76 hf
              refine lv_iconst (pc := 83) hx hb (v := 0) dX7_lower_83 (by decide) ?_
              obtain rfl := Option.some.inj hf
              exact hR H locs 84 ls hP hD hS dX7_lower_84
            · have hf := hf_f c_76 hf
              refine lv_iconst (pc := 79) hx hb (v := 1) dX7_lower_79 (by decide) ?_
              refine lv_goto (pc := 80) hx hb (tgt := 84) dX7_lower_80 (by decide) ?_
              obtain rfl := Option.some.inj hf
              exact hR H locs 84 ls hP hD hS dX7_lower_84
          · have hf := hf_t c_48 hf
            refine lv_bipush (pc := 51) hx hb (v := (-4)) dX7_lower_51 (by decide) ?_
            obtain rfl := Option.some.inj hf
            exact hR H locs 53 ls hP hD hS dX7_lower_53
    · have hf := hf_t c_17 hf
      refine lv_iconst (pc := 20) hx hb (v := (-1)) dX7_lower_20 (by decide) ?_
      obtain rfl := Option.some.inj hf
      exact hR H locs 21 ls hP hD hS dX7_lower_21
set_option maxHeartbeats 4000000 in
set_option maxRecDepth 100000 in
theorem kX7_swapped (l : Launch) (D : va_G) (A : Nat → Nat) (B : Nat → ClassId) (sz : Nat) (S : w_S) (z : Int32) (hf : fX7_swapped S = some z) : MetW l yX7_swapped (wsO yX7_swapped cX7_swapped 1 (some .int)) rm_X7_swapped [.ref (A 0)] D (tyB B) (wM A B S) (wM A B S) sz (some (.int z)) := by
  refine MetW.mkI (cc := cX7_swapped) (maxL := 1) (by decide) (Nat.le_of_ble_eq_true rfl) ?_
  intro p e s m args below meth c Ad Q hx hb hts hown hml hN hK hA hR H locs ls hP hD hS hl
  have hl : lv_has ls 1 [(0, .ref (A 0))] := hl
  rw [fX7_swapped] at hf
  refine lv_aload_n (pc := 0) hx hb dX7_swapped_0 rfl (lv_at hl 0 rfl) ?_
  refine vMgRX7_19_0 (pc := 1) hx hb hts mU_84 inU7 hown hK hP (x := (gI S 0)) rfl dX7_swapped_1 ?_
  refine lv_aload_n (pc := 4) hx hb dX7_swapped_4 rfl (lv_at hl 0 rfl) ?_
  refine vMgRX7_23_0 (pc := 5) hx hb hts mU_85 inU7 hown hK hP (x := (gI S 1)) rfl dX7_swapped_5 ?_
  refine lv_icmp_eq (pc := 8) hx hb (tgt := 16) dX7_swapped_8 (by decide) (fun c_8 => ?_) (fun c_8 => ?_)
  · have hf := hf_t c_8 hf
    refine lv_aload_n (pc := 16) hx hb dX7_swapped_16 rfl (lv_at hl 0 rfl) ?_
    refine lv_iconst (pc := 17) hx hb (v := 2) dX7_swapped_17 (by decide) ?_
    obtain ⟨r18, hc18, hf⟩ := hf_b hf
    refine cl_V (pc := 18) (As := [.int 2]) (rest := []) hx hb hml hown hts (kX7_sumDown l D A B _ S 2 r18 hc18) (cwV 1 hts gwRX7_143 rfl rfl rfl hdX7_sumDown ⟨Nat.le_of_ble_eq_true rfl, Nat.le_of_ble_eq_true rfl⟩) hN hK hP hD hS hA (va_recv hK hP (ci := 7) (q0 := 0) rfl (eM_0 A B _)) rfl hl.1 rfl (Nat.le_of_ble_eq_true rfl) dX7_swapped_18 (st1 := [.long r18]) rfl ⟨Nat.zero_le _, Nat.zero_le _⟩ (fun H locs hP hD hS => ?_)
    refine lv_lconst (pc := 21) hx hb (v := 0) dX7_swapped_21 (by decide) ?_
    refine W.lcmp (pc := 22) hx hb dX7_swapped_22 ?_
    refine lv_if_ne (pc := 23) hx hb (tgt := 30) dX7_swapped_23 (by decide) (fun c_23 => ?_) (fun c_23 => ?_)
    · have c_23 := fun h9 => c_23 (lg_eq0.mpr h9)
      have hf := hf_f c_23 hf
      refine lv_iconst (pc := 30) hx hb (v := 0) dX7_swapped_30 (by decide) ?_
      obtain rfl := Option.some.inj hf
      exact hR H locs 31 ls hP hD hS dX7_swapped_31
    · have c_23 := lg_eq0.mp c_23
      have hf := hf_t c_23 hf
      refine lv_iconst (pc := 26) hx hb (v := 1) dX7_swapped_26 (by decide) ?_
      refine lv_goto (pc := 27) hx hb (tgt := 31) dX7_swapped_27 (by decide) ?_
      obtain rfl := Option.some.inj hf
      exact hR H locs 31 ls hP hD hS dX7_swapped_31
  · have hf := hf_f c_8 hf
    refine lv_bipush (pc := 11) hx hb (v := (-4)) dX7_swapped_11 (by decide) ?_
    refine lv_goto (pc := 13) hx hb (tgt := 31) dX7_swapped_13 (by decide) ?_
    obtain rfl := Option.some.inj hf
    exact hR H locs 31 ls hP hD hS dX7_swapped_31
set_option maxHeartbeats 4000000 in
set_option maxRecDepth 100000 in
theorem kX7_stable (l : Launch) (D : va_G) (A : Nat → Nat) (B : Nat → ClassId) (sz : Nat) (S : w_S) (z : Int32) (hf : fX7_stable S = some z) : MetW l yX7_stable (wsO yX7_stable cX7_stable 8 (some .int)) rm_X7_stable [.ref (A 0)] D (tyB B) (wM A B S) (wM A B S) sz (some (.int z)) := by
  refine MetW.mkI (cc := cX7_stable) (maxL := 8) (by decide) (Nat.le_of_ble_eq_true rfl) ?_
  intro p e s m args below meth c Ad Q hx hb hts hown hml hN hK hA hR H locs ls hP hD hS hl
  have hl : lv_has ls 8 [(0, .ref (A 0))] := hl
  rw [fX7_stable] at hf
  refine lv_aload_n (pc := 0) hx hb dX7_stable_0 rfl (lv_at hl 0 rfl) ?_
  refine lv_iconst (pc := 1) hx hb (v := 0) dX7_stable_1 (by decide) ?_
  obtain ⟨r2, hc2, hf⟩ := hf_b hf
  refine cl_V (pc := 2) (As := [.int 0]) (rest := []) hx hb hml hown hts (kX7_sumDown l D A B _ S 0 r2 hc2) (cwV 1 hts gwRX7_143 rfl rfl rfl hdX7_sumDown ⟨Nat.le_of_ble_eq_true rfl, Nat.le_of_ble_eq_true rfl⟩) hN hK hP hD hS hA (va_recv hK hP (ci := 7) (q0 := 0) rfl (eM_0 A B _)) rfl hl.1 rfl (Nat.le_of_ble_eq_true rfl) dX7_stable_2 (st1 := [.long r2]) rfl ⟨Nat.zero_le _, Nat.zero_le _⟩ (fun H locs hP hD hS => ?_)
  refine lv_lneg (pc := 5) hx hb dX7_stable_5 ?_
  refine lv_lstore_n (pc := 6) hx hb (lv' := [(1, .long (-r2)), (0, .ref (A 0))]) dX7_stable_6 rfl hl (by decide) rfl (fun ls hl => ?_)
  refine lv_aload_n (pc := 7) hx hb dX7_stable_7 rfl (lv_at hl 1 rfl) ?_
  refine lv_iconst (pc := 8) hx hb (v := 0) dX7_stable_8 (by decide) ?_
  obtain ⟨r9, hc9, hf⟩ := hf_b hf
  refine cl_V (pc := 9) (As := [.int 0]) (rest := []) hx hb hml hown hts (kX7_pairs l D A B _ S 0 r9 hc9) (cwV 1 hts gwRX7_146 rfl rfl rfl hdX7_pairs ⟨Nat.le_of_ble_eq_true rfl, Nat.le_of_ble_eq_true rfl⟩) hN hK hP hD hS hA (va_recv hK hP (ci := 7) (q0 := 0) rfl (eM_0 A B _)) rfl hl.1 rfl (Nat.le_of_ble_eq_true rfl) dX7_stable_9 (st1 := [.long r9]) rfl ⟨Nat.zero_le _, Nat.zero_le _⟩ (fun H locs hP hD hS => ?_)
  refine lv_lstore_n (pc := 12) hx hb (lv' := [(3, .long r9), (1, .long (-r2)), (0, .ref (A 0))]) dX7_stable_12 rfl hl (by decide) rfl (fun ls hl => ?_)
  refine lv_aload_n (pc := 13) hx hb dX7_stable_13 rfl (lv_at hl 2 rfl) ?_
  refine vMgRX7_19_0 (pc := 14) hx hb hts mU_84 inU7 hown hK hP (x := (gI S 0)) rfl dX7_stable_14 ?_
  refine lv_iconst (pc := 17) hx hb (v := 2) dX7_stable_17 (by decide) ?_
  refine lv_irem (pc := 18) hx hb dX7_stable_18 (by decide) ?_
  obtain ⟨q36, hv36, hf⟩ := hf_b hf
  have hj36 : ∀ (H : Heap) (locs : List Loc) (ls : Array Slot), va_P D vwCl (wM A B S) H → va_D Ad (wM A B S) → va_S Ad s.heap H locs → lv_has ls 8 [(0, .ref (A 0)), (1, .long (-r2)), (3, .long r9)] → W p l e rm_X7_stable s m args below meth c H locs 0 0 Q (F0 m 36 ls [.long q36]) := by
    intro H locs ls hP hD hS hl
    refine lv_lstore (pc := 36) hx hb (lv' := [(5, .long q36), (0, .ref (A 0)), (1, .long (-r2)), (3, .long r9)]) dX7_stable_36 hl (by decide) rfl (fun ls hl => ?_)
    refine lv_aload_n (pc := 38) hx hb dX7_stable_38 rfl (lv_at hl 1 rfl) ?_
    refine vMgRX7_19_0 (pc := 39) hx hb hts mU_84 inU7 hown hK hP (x := (gI S 0)) rfl dX7_stable_39 ?_
    refine lv_iconst (pc := 42) hx hb (v := 1) dX7_stable_42 (by decide) ?_
    refine lv_icmp_ne (pc := 43) hx hb (tgt := 60) dX7_stable_43 (by decide) (fun c_43 => ?_) (fun c_43 => ?_)
    · have hf := hf_f c_43 hf
      refine lv_aload_n (pc := 60) hx hb dX7_stable_60 rfl (lv_at hl 1 rfl) ?_
      refine vMgRX7_19_0 (pc := 61) hx hb hts mU_84 inU7 hown hK hP (x := (gI S 0)) rfl dX7_stable_61 ?_
      refine lv_iconst (pc := 64) hx hb (v := 2) dX7_stable_64 (by decide) ?_
      refine lv_icmp_ne (pc := 65) hx hb (tgt := 88) dX7_stable_65 (by decide) (fun c_65 => ?_) (fun c_65 => ?_)
      · have hf := hf_f c_65 hf
        refine lv_lload_n (pc := 88) hx hb dX7_stable_88 rfl (lv_at hl 2 rfl) ?_
        refine lv_lconst (pc := 89) hx hb (v := 0) dX7_stable_89 (by decide) ?_
        refine W.lcmp (pc := 90) hx hb dX7_stable_90 ?_
        refine lv_if_le (pc := 91) hx hb (tgt := 114) dX7_stable_91 (by decide) (fun c_91 => ?_) (fun c_91 => ?_)
        · have c_91 := lg_le0.mp c_91
          have hf := hf_f c_91 hf
          refine lv_iconst (pc := 114) hx hb (v := 0) dX7_stable_114 (by decide) ?_
          refine lv_istore (pc := 115) hx hb (lv' := [(7, .int 0), (5, .long q36), (0, .ref (A 0)), (1, .long (-r2)), (3, .long r9)]) dX7_stable_115 hl (by decide) rfl (fun ls hl => ?_)
          refine lv_iload (pc := 117) hx hb dX7_stable_117 (lv_at hl 0 rfl) ?_
          refine lv_if_eq (pc := 119) hx hb (tgt := 126) dX7_stable_119 (by decide) (fun c_119 => ?_) (fun c_119 => ?_)
          · have hf := hf_t c_119 hf
            refine lv_iconst (pc := 126) hx hb (v := 0) dX7_stable_126 (by decide) ?_
            obtain rfl := Option.some.inj hf
            exact hR H locs 127 ls hP hD hS dX7_stable_127
          · have hf := hf_f c_119 hf
            refine lv_iconst (pc := 122) hx hb (v := 1) dX7_stable_122 (by decide) ?_
            refine lv_goto (pc := 123) hx hb (tgt := 127) dX7_stable_123 (by decide) ?_
            obtain rfl := Option.some.inj hf
            exact hR H locs 127 ls hP hD hS dX7_stable_127
        · have c_91 := Classical.byContradiction fun h9 => c_91 (lg_le0.mpr h9)
          have hf := hf_t c_91 hf
          refine lv_lload (pc := 94) hx hb dX7_stable_94 (lv_at hl 0 rfl) ?_
          refine lv_lconst (pc := 96) hx hb (v := 0) dX7_stable_96 (by decide) ?_
          refine W.lcmp (pc := 97) hx hb dX7_stable_97 ?_
          refine lv_if_le (pc := 98) hx hb (tgt := 114) dX7_stable_98 (by decide) (fun c_98 => ?_) (fun c_98 => ?_)
          · have c_98 := lg_le0.mp c_98
            have hf := hf_f c_98 hf
            refine lv_iconst (pc := 114) hx hb (v := 0) dX7_stable_114 (by decide) ?_
            refine lv_istore (pc := 115) hx hb (lv' := [(7, .int 0), (5, .long q36), (0, .ref (A 0)), (1, .long (-r2)), (3, .long r9)]) dX7_stable_115 hl (by decide) rfl (fun ls hl => ?_)
            refine lv_iload (pc := 117) hx hb dX7_stable_117 (lv_at hl 0 rfl) ?_
            refine lv_if_eq (pc := 119) hx hb (tgt := 126) dX7_stable_119 (by decide) (fun c_119 => ?_) (fun c_119 => ?_)
            · have hf := hf_t c_119 hf
              refine lv_iconst (pc := 126) hx hb (v := 0) dX7_stable_126 (by decide) ?_
              obtain rfl := Option.some.inj hf
              exact hR H locs 127 ls hP hD hS dX7_stable_127
            · have hf := hf_f c_119 hf
              refine lv_iconst (pc := 122) hx hb (v := 1) dX7_stable_122 (by decide) ?_
              refine lv_goto (pc := 123) hx hb (tgt := 127) dX7_stable_123 (by decide) ?_
              obtain rfl := Option.some.inj hf
              exact hR H locs 127 ls hP hD hS dX7_stable_127
          · have c_98 := Classical.byContradiction fun h9 => c_98 (lg_le0.mpr h9)
            have hf := hf_t c_98 hf
            refine lv_lload_n (pc := 101) hx hb dX7_stable_101 rfl (lv_at hl 2 rfl) ?_
            refine lv_lload_n (pc := 102) hx hb dX7_stable_102 rfl (lv_at hl 3 rfl) ?_
            refine lv_lmul (pc := 103) hx hb dX7_stable_103 ?_
            refine lv_lload (pc := 104) hx hb dX7_stable_104 (lv_at hl 0 rfl) ?_
            refine W.lcmp (pc := 106) hx hb dX7_stable_106 ?_
            refine lv_if_le (pc := 107) hx hb (tgt := 114) dX7_stable_107 (by decide) (fun c_107 => ?_) (fun c_107 => ?_)
            · have c_107 := lg_le0.mp c_107
              have hf := hf_f c_107 hf
              refine lv_iconst (pc := 114) hx hb (v := 0) dX7_stable_114 (by decide) ?_
              refine lv_istore (pc := 115) hx hb (lv' := [(7, .int 0), (5, .long q36), (0, .ref (A 0)), (1, .long (-r2)), (3, .long r9)]) dX7_stable_115 hl (by decide) rfl (fun ls hl => ?_)
              refine lv_iload (pc := 117) hx hb dX7_stable_117 (lv_at hl 0 rfl) ?_
              refine lv_if_eq (pc := 119) hx hb (tgt := 126) dX7_stable_119 (by decide) (fun c_119 => ?_) (fun c_119 => ?_)
              · have hf := hf_t c_119 hf
                refine lv_iconst (pc := 126) hx hb (v := 0) dX7_stable_126 (by decide) ?_
                obtain rfl := Option.some.inj hf
                exact hR H locs 127 ls hP hD hS dX7_stable_127
              · have hf := hf_f c_119 hf
                refine lv_iconst (pc := 122) hx hb (v := 1) dX7_stable_122 (by decide) ?_
                refine lv_goto (pc := 123) hx hb (tgt := 127) dX7_stable_123 (by decide) ?_
                obtain rfl := Option.some.inj hf
                exact hR H locs 127 ls hP hD hS dX7_stable_127
            · have c_107 := Classical.byContradiction fun h9 => c_107 (lg_le0.mpr h9)
              have hf := hf_t c_107 hf
              refine lv_iconst (pc := 110) hx hb (v := 1) dX7_stable_110 (by decide) ?_
              refine lv_goto (pc := 111) hx hb (tgt := 115) dX7_stable_111 (by decide) ?_
              refine lv_istore (pc := 115) hx hb (lv' := [(7, .int 1), (5, .long q36), (0, .ref (A 0)), (1, .long (-r2)), (3, .long r9)]) dX7_stable_115 hl (by decide) rfl (fun ls hl => ?_)
              refine lv_iload (pc := 117) hx hb dX7_stable_117 (lv_at hl 0 rfl) ?_
              refine lv_if_eq (pc := 119) hx hb (tgt := 126) dX7_stable_119 (by decide) (fun c_119 => ?_) (fun c_119 => ?_)
              · have hf := hf_t c_119 hf
                refine lv_iconst (pc := 126) hx hb (v := 0) dX7_stable_126 (by decide) ?_
                obtain rfl := Option.some.inj hf
                exact hR H locs 127 ls hP hD hS dX7_stable_127
              · have hf := hf_f c_119 hf
                refine lv_iconst (pc := 122) hx hb (v := 1) dX7_stable_122 (by decide) ?_
                refine lv_goto (pc := 123) hx hb (tgt := 127) dX7_stable_123 (by decide) ?_
                obtain rfl := Option.some.inj hf
                exact hR H locs 127 ls hP hD hS dX7_stable_127
      · have hf := hf_t c_65 hf
        refine lv_lload_n (pc := 68) hx hb dX7_stable_68 rfl (lv_at hl 2 rfl) ?_
        refine lv_lconst (pc := 69) hx hb (v := 0) dX7_stable_69 (by decide) ?_
        refine W.lcmp (pc := 70) hx hb dX7_stable_70 ?_
        refine lv_if_le (pc := 71) hx hb (tgt := 84) dX7_stable_71 (by decide) (fun c_71 => ?_) (fun c_71 => ?_)
        · have c_71 := lg_le0.mp c_71
          have hf := hf_f c_71 hf
          refine lv_iconst (pc := 84) hx hb (v := 0) dX7_stable_84 (by decide) ?_
          refine lv_goto (pc := 85) hx hb (tgt := 115) dX7_stable_85 (by decide) ?_
          refine lv_istore (pc := 115) hx hb (lv' := [(7, .int 0), (5, .long q36), (0, .ref (A 0)), (1, .long (-r2)), (3, .long r9)]) dX7_stable_115 hl (by decide) rfl (fun ls hl => ?_)
          refine lv_iload (pc := 117) hx hb dX7_stable_117 (lv_at hl 0 rfl) ?_
          refine lv_if_eq (pc := 119) hx hb (tgt := 126) dX7_stable_119 (by decide) (fun c_119 => ?_) (fun c_119 => ?_)
          · have hf := hf_t c_119 hf
            refine lv_iconst (pc := 126) hx hb (v := 0) dX7_stable_126 (by decide) ?_
            obtain rfl := Option.some.inj hf
            exact hR H locs 127 ls hP hD hS dX7_stable_127
          · have hf := hf_f c_119 hf
            refine lv_iconst (pc := 122) hx hb (v := 1) dX7_stable_122 (by decide) ?_
            refine lv_goto (pc := 123) hx hb (tgt := 127) dX7_stable_123 (by decide) ?_
            obtain rfl := Option.some.inj hf
            exact hR H locs 127 ls hP hD hS dX7_stable_127
        · have c_71 := Classical.byContradiction fun h9 => c_71 (lg_le0.mpr h9)
          have hf := hf_t c_71 hf
          refine lv_lload_n (pc := 74) hx hb dX7_stable_74 rfl (lv_at hl 3 rfl) ?_
          refine lv_lconst (pc := 75) hx hb (v := 0) dX7_stable_75 (by decide) ?_
          refine W.lcmp (pc := 76) hx hb dX7_stable_76 ?_
          refine lv_if_le (pc := 77) hx hb (tgt := 84) dX7_stable_77 (by decide) (fun c_77 => ?_) (fun c_77 => ?_)
          · have c_77 := lg_le0.mp c_77
            have hf := hf_f c_77 hf
            refine lv_iconst (pc := 84) hx hb (v := 0) dX7_stable_84 (by decide) ?_
            refine lv_goto (pc := 85) hx hb (tgt := 115) dX7_stable_85 (by decide) ?_
            refine lv_istore (pc := 115) hx hb (lv' := [(7, .int 0), (5, .long q36), (0, .ref (A 0)), (1, .long (-r2)), (3, .long r9)]) dX7_stable_115 hl (by decide) rfl (fun ls hl => ?_)
            refine lv_iload (pc := 117) hx hb dX7_stable_117 (lv_at hl 0 rfl) ?_
            refine lv_if_eq (pc := 119) hx hb (tgt := 126) dX7_stable_119 (by decide) (fun c_119 => ?_) (fun c_119 => ?_)
            · have hf := hf_t c_119 hf
              refine lv_iconst (pc := 126) hx hb (v := 0) dX7_stable_126 (by decide) ?_
              obtain rfl := Option.some.inj hf
              exact hR H locs 127 ls hP hD hS dX7_stable_127
            · have hf := hf_f c_119 hf
              refine lv_iconst (pc := 122) hx hb (v := 1) dX7_stable_122 (by decide) ?_
              refine lv_goto (pc := 123) hx hb (tgt := 127) dX7_stable_123 (by decide) ?_
              obtain rfl := Option.some.inj hf
              exact hR H locs 127 ls hP hD hS dX7_stable_127
          · have c_77 := Classical.byContradiction fun h9 => c_77 (lg_le0.mpr h9)
            have hf := hf_t c_77 hf
            refine lv_iconst (pc := 80) hx hb (v := 1) dX7_stable_80 (by decide) ?_
            refine lv_goto (pc := 81) hx hb (tgt := 115) dX7_stable_81 (by decide) ?_
            refine lv_istore (pc := 115) hx hb (lv' := [(7, .int 1), (5, .long q36), (0, .ref (A 0)), (1, .long (-r2)), (3, .long r9)]) dX7_stable_115 hl (by decide) rfl (fun ls hl => ?_)
            refine lv_iload (pc := 117) hx hb dX7_stable_117 (lv_at hl 0 rfl) ?_
            refine lv_if_eq (pc := 119) hx hb (tgt := 126) dX7_stable_119 (by decide) (fun c_119 => ?_) (fun c_119 => ?_)
            · have hf := hf_t c_119 hf
              refine lv_iconst (pc := 126) hx hb (v := 0) dX7_stable_126 (by decide) ?_
              obtain rfl := Option.some.inj hf
              exact hR H locs 127 ls hP hD hS dX7_stable_127
            · have hf := hf_f c_119 hf
              refine lv_iconst (pc := 122) hx hb (v := 1) dX7_stable_122 (by decide) ?_
              refine lv_goto (pc := 123) hx hb (tgt := 127) dX7_stable_123 (by decide) ?_
              obtain rfl := Option.some.inj hf
              exact hR H locs 127 ls hP hD hS dX7_stable_127
    · have hf := hf_t c_43 hf
      refine lv_lload_n (pc := 46) hx hb dX7_stable_46 rfl (lv_at hl 2 rfl) ?_
      refine lv_lconst (pc := 47) hx hb (v := 0) dX7_stable_47 (by decide) ?_
      refine W.lcmp (pc := 48) hx hb dX7_stable_48 ?_
      refine lv_if_le (pc := 49) hx hb (tgt := 56) dX7_stable_49 (by decide) (fun c_49 => ?_) (fun c_49 => ?_)
      · have c_49 := lg_le0.mp c_49
        have hf := hf_f c_49 hf
        refine lv_iconst (pc := 56) hx hb (v := 0) dX7_stable_56 (by decide) ?_
        refine lv_goto (pc := 57) hx hb (tgt := 115) dX7_stable_57 (by decide) ?_
        refine lv_istore (pc := 115) hx hb (lv' := [(7, .int 0), (5, .long q36), (0, .ref (A 0)), (1, .long (-r2)), (3, .long r9)]) dX7_stable_115 hl (by decide) rfl (fun ls hl => ?_)
        refine lv_iload (pc := 117) hx hb dX7_stable_117 (lv_at hl 0 rfl) ?_
        refine lv_if_eq (pc := 119) hx hb (tgt := 126) dX7_stable_119 (by decide) (fun c_119 => ?_) (fun c_119 => ?_)
        · have hf := hf_t c_119 hf
          refine lv_iconst (pc := 126) hx hb (v := 0) dX7_stable_126 (by decide) ?_
          obtain rfl := Option.some.inj hf
          exact hR H locs 127 ls hP hD hS dX7_stable_127
        · have hf := hf_f c_119 hf
          refine lv_iconst (pc := 122) hx hb (v := 1) dX7_stable_122 (by decide) ?_
          refine lv_goto (pc := 123) hx hb (tgt := 127) dX7_stable_123 (by decide) ?_
          obtain rfl := Option.some.inj hf
          exact hR H locs 127 ls hP hD hS dX7_stable_127
      · have c_49 := Classical.byContradiction fun h9 => c_49 (lg_le0.mpr h9)
        have hf := hf_t c_49 hf
        refine lv_iconst (pc := 52) hx hb (v := 1) dX7_stable_52 (by decide) ?_
        refine lv_goto (pc := 53) hx hb (tgt := 115) dX7_stable_53 (by decide) ?_
        refine lv_istore (pc := 115) hx hb (lv' := [(7, .int 1), (5, .long q36), (0, .ref (A 0)), (1, .long (-r2)), (3, .long r9)]) dX7_stable_115 hl (by decide) rfl (fun ls hl => ?_)
        refine lv_iload (pc := 117) hx hb dX7_stable_117 (lv_at hl 0 rfl) ?_
        refine lv_if_eq (pc := 119) hx hb (tgt := 126) dX7_stable_119 (by decide) (fun c_119 => ?_) (fun c_119 => ?_)
        · have hf := hf_t c_119 hf
          refine lv_iconst (pc := 126) hx hb (v := 0) dX7_stable_126 (by decide) ?_
          obtain rfl := Option.some.inj hf
          exact hR H locs 127 ls hP hD hS dX7_stable_127
        · have hf := hf_f c_119 hf
          refine lv_iconst (pc := 122) hx hb (v := 1) dX7_stable_122 (by decide) ?_
          refine lv_goto (pc := 123) hx hb (tgt := 127) dX7_stable_123 (by decide) ?_
          obtain rfl := Option.some.inj hf
          exact hR H locs 127 ls hP hD hS dX7_stable_127
  refine lv_if_ne (pc := 19) hx hb (tgt := 30) dX7_stable_19 (by decide) (fun c_19 => ?_) (fun c_19 => ?_)
  · have hv36 := hf_f c_19 hv36
    refine lv_aload_n (pc := 30) hx hb dX7_stable_30 rfl (lv_at hl 2 rfl) ?_
    refine lv_iconst (pc := 31) hx hb (v := 0) dX7_stable_31 (by decide) ?_
    obtain ⟨r32, hc32, hv36⟩ := hf_b hv36
    refine cl_V (pc := 32) (As := [.int 0]) (rest := []) hx hb hml hown hts (kX7_detOf l D A B _ S 0 r32 hc32) (cwV 1 hts gwRX7_136 rfl rfl rfl hdX7_detOf ⟨Nat.le_of_ble_eq_true rfl, Nat.le_of_ble_eq_true rfl⟩) hN hK hP hD hS hA (va_recv hK hP (ci := 7) (q0 := 0) rfl (eM_0 A B _)) rfl hl.1 rfl (Nat.le_of_ble_eq_true rfl) dX7_stable_32 (st1 := [.long r32]) rfl ⟨Nat.zero_le _, Nat.zero_le _⟩ (fun H locs hP hD hS => ?_)
    refine lv_lneg (pc := 35) hx hb dX7_stable_35 ?_
    obtain rfl := Option.some.inj hv36
    exact hj36 H locs ls hP hD hS (lv_sub hl [2, 1, 0] rfl)
  · have hv36 := hf_t c_19 hv36
    refine lv_aload_n (pc := 22) hx hb dX7_stable_22 rfl (lv_at hl 2 rfl) ?_
    refine lv_iconst (pc := 23) hx hb (v := 0) dX7_stable_23 (by decide) ?_
    obtain ⟨r24, hc24, hv36⟩ := hf_b hv36
    refine cl_V (pc := 24) (As := [.int 0]) (rest := []) hx hb hml hown hts (kX7_detOf l D A B _ S 0 r24 hc24) (cwV 1 hts gwRX7_136 rfl rfl rfl hdX7_detOf ⟨Nat.le_of_ble_eq_true rfl, Nat.le_of_ble_eq_true rfl⟩) hN hK hP hD hS hA (va_recv hK hP (ci := 7) (q0 := 0) rfl (eM_0 A B _)) rfl hl.1 rfl (Nat.le_of_ble_eq_true rfl) dX7_stable_24 (st1 := [.long r24]) rfl ⟨Nat.zero_le _, Nat.zero_le _⟩ (fun H locs hP hD hS => ?_)
    refine lv_goto (pc := 27) hx hb (tgt := 36) dX7_stable_27 (by decide) ?_
    obtain rfl := Option.some.inj hv36
    exact hj36 H locs ls hP hD hS (lv_sub hl [2, 1, 0] rfl)
set_option maxHeartbeats 4000000 in
set_option maxRecDepth 100000 in
theorem kX7_isSheet (l : Launch) (D : va_G) (A : Nat → Nat) (B : Nat → ClassId) (sz : Nat) (S : w_S) (a0 : Int32) (z : Int32) (hf : fX7_isSheet a0 = some z) : MetW l yX7_isSheet (wsO yX7_isSheet cX7_isSheet 1 (some .boolean)) rm_X7_isSheet [.int a0] D (tyB B) (wM A B S) (wM A B S) sz (some (.int z)) := by
  refine MetW.mkZ (cc := cX7_isSheet) (maxL := 1) (by decide) (Nat.le_of_ble_eq_true rfl) ?_
  intro p e s m args below meth c Ad Q hx hb hts hown hml hN hK hA hR H locs ls hP hD hS hl
  have hl : lv_has ls 1 [(0, .int a0)] := hl
  rw [fX7_isSheet] at hf
  refine lv_iload_n (pc := 0) hx hb dX7_isSheet_0 rfl (lv_at hl 0 rfl) ?_
  refine lv_i2l (pc := 1) hx hb (v := a0.toInt64) dX7_isSheet_1 rfl ?_
  refine lv_lconst (pc := 2) hx hb (v := 0) dX7_isSheet_2 (by decide) ?_
  refine lv_ldc2 (pc := 3) hx hb (v := 3) hown (hts (.constantLong RX7 118 (3)) mU_125) dX7_isSheet_3 ?_
  obtain ⟨r6, hc6, hf⟩ := hf_b hf
  refine cl_S (pc := 6) (As := [.long a0.toInt64, .long 0, .long 3]) (rest := []) hx hb hml hown hts (kX7_in l D A B _ S a0.toInt64 0 3 r6 hc6) (va_cwS 3 hts gwRX7_99 rfl rfl rfl hdX7_in ⟨Nat.le_of_ble_eq_true rfl, Nat.le_of_ble_eq_true rfl⟩) hN hK hP hD hS hA rfl hl.1 rfl (Nat.le_of_ble_eq_true rfl) dX7_isSheet_6 (st1 := [.int r6]) rfl ⟨Nat.zero_le _, Nat.zero_le _⟩ (fun H locs hP hD hS => ?_)
  obtain ⟨hg9, hf⟩ := hf_g hf
  obtain rfl := Option.some.inj hf
  exact hR H locs 9 ls hP hD hS (nz_of hg9) dX7_isSheet_9
set_option maxHeartbeats 4000000 in
set_option maxRecDepth 100000 in
theorem kX7_leastScale (l : Launch) (D : va_G) (A : Nat → Nat) (B : Nat → ClassId) (sz : Nat) (S : w_S) (a1 : Int32) (z : Int64) (hf : fX7_leastScale S a1 = some z) : MetW l yX7_leastScale (wsO yX7_leastScale cX7_leastScale 7 (some .long)) rm_X7_leastScale [.ref (A 0), .int a1] D (tyB B) (wM A B S) (wM A B S) sz (some (.long z)) := by
  refine MetW.mkL (cc := cX7_leastScale) (maxL := 7) (by decide) (Nat.le_of_ble_eq_true rfl) ?_
  intro p e s m args below meth c Ad Q hx hb hts hown hml hN hK hA hR H locs ls hP hD hS hl
  have hl : lv_has ls 7 [(0, .ref (A 0)), (1, .int a1)] := hl
  rw [fX7_leastScale] at hf
  refine lv_lconst (pc := 0) hx hb (v := 1) dX7_leastScale_0 (by decide) ?_
  refine lv_lstore_n (pc := 1) hx hb (lv' := [(2, .long 1), (0, .ref (A 0)), (1, .int a1)]) dX7_leastScale_1 rfl hl (by decide) rfl (fun ls hl => ?_)
  refine lv_iconst (pc := 2) hx hb (v := 0) dX7_leastScale_2 (by decide) ?_
  refine lv_istore (pc := 3) hx hb (lv' := [(4, .int 0), (2, .long 1), (0, .ref (A 0)), (1, .int a1)]) dX7_leastScale_3 hl (by decide) rfl (fun ls hl => ?_)
  obtain ⟨q5, hq5, hf⟩ := hf_b hf
  have hk5 : ∀ (H : Heap) (locs : List Loc) (ls : Array Slot), va_P D vwCl (wM A B S) H → va_D Ad (wM A B S) → va_S Ad s.heap H locs → lv_has ls 7 [(2, .long q5)] → W p l e rm_X7_leastScale s m args below meth c H locs 0 0 Q (F0 m 67 ls []) := by
    intro H locs ls hP hD hS hl
    refine lv_lload_n (pc := 67) hx hb dX7_leastScale_67 rfl (lv_at hl 0 rfl) ?_
    obtain rfl := Option.some.inj hf
    exact hR H locs 68 ls hP hD hS dX7_leastScale_68
  have lp5 : ∀ (n : Nat) (u2_5 : Int64) (u4_5 : Int32) (H : Heap) (locs : List Loc) (ls : Array Slot), fX7_leastScale_L5 S a1 n u2_5 u4_5 = some q5 → va_P D vwCl (wM A B S) H → va_D Ad (wM A B S) → va_S Ad s.heap H locs → lv_has ls 7 [(0, .ref (A 0)), (1, .int a1), (2, .long u2_5), (4, .int u4_5)] → W p l e rm_X7_leastScale s m args below meth c H locs 0 0 Q (F0 m 5 ls []) := by
    intro n5
    induction n5 with
    | zero => intro u2_5 u4_5 H locs ls hq5; exact hf_0 hq5
    | succ n5 ih5 =>
      intro u2_5 u4_5 H locs ls hq5 hP hD hS hl
      rw [fX7_leastScale_L5] at hq5
      refine lv_iload (pc := 5) hx hb dX7_leastScale_5 (lv_at hl 3 rfl) ?_
      refine lv_aload_n (pc := 7) hx hb dX7_leastScale_7 rfl (lv_at hl 0 rfl) ?_
      refine vMgRX7_19_0 (pc := 8) hx hb hts mU_84 inU7 hown hK hP (x := (gI S 0)) rfl dX7_leastScale_8 ?_
      refine lv_aload_n (pc := 11) hx hb dX7_leastScale_11 rfl (lv_at hl 0 rfl) ?_
      refine vMgRX7_23_0 (pc := 12) hx hb hts mU_85 inU7 hown hK hP (x := (gI S 1)) rfl dX7_leastScale_12 ?_
      refine lv_imul (pc := 15) hx hb dX7_leastScale_15 ?_
      refine lv_icmp_ge (pc := 16) hx hb (tgt := 67) dX7_leastScale_16 (by decide) (fun c_16 => ?_) (fun c_16 => ?_)
      · have hq5 := hf_t c_16 hq5
        obtain rfl := Option.some.inj hq5
        exact hk5 H locs ls hP hD hS (lv_sub hl [2] rfl)
      · have hq5 := hf_f c_16 hq5
        refine lv_aload_n (pc := 19) hx hb dX7_leastScale_19 rfl (lv_at hl 0 rfl) ?_
        refine lv_iload_n (pc := 20) hx hb dX7_leastScale_20 rfl (lv_at hl 1 rfl) ?_
        refine lv_iload (pc := 21) hx hb dX7_leastScale_21 (lv_at hl 3 rfl) ?_
        refine lv_aload_n (pc := 23) hx hb dX7_leastScale_23 rfl (lv_at hl 0 rfl) ?_
        refine vMgRX7_23_0 (pc := 24) hx hb hts mU_85 inU7 hown hK hP (x := (gI S 1)) rfl dX7_leastScale_24 ?_
        obtain ⟨hg27, hq5⟩ := hf_g hq5
        refine lv_idiv (pc := 27) hx hb dX7_leastScale_27 hg27 ?_
        refine lv_iload (pc := 28) hx hb dX7_leastScale_28 (lv_at hl 3 rfl) ?_
        refine lv_aload_n (pc := 30) hx hb dX7_leastScale_30 rfl (lv_at hl 0 rfl) ?_
        refine vMgRX7_23_0 (pc := 31) hx hb hts mU_85 inU7 hown hK hP (x := (gI S 1)) rfl dX7_leastScale_31 ?_
        obtain ⟨hg34, hq5⟩ := hf_g hq5
        refine lv_irem (pc := 34) hx hb dX7_leastScale_34 hg34 ?_
        refine lv_iconst (pc := 35) hx hb (v := (-1)) dX7_leastScale_35 (by decide) ?_
        obtain ⟨r36, hc36, hq5⟩ := hf_b hq5
        refine cl_V (pc := 36) (As := [.int a1, .int (u4_5 / (gI S 1)), .int (u4_5 - u4_5 / (gI S 1) * (gI S 1)), .int (-1)]) (rest := []) hx hb hml hown hts (kX7_shapedSum l D A B _ S a1 (u4_5 / (gI S 1)) (u4_5 - u4_5 / (gI S 1) * (gI S 1)) (-1) r36 hc36) (cwV 4 hts gwRX7_278 rfl rfl rfl hdX7_shapedSum ⟨Nat.le_of_ble_eq_true rfl, Nat.le_of_ble_eq_true rfl⟩) hN hK hP hD hS hA (va_recv hK hP (ci := 7) (q0 := 0) rfl (eM_0 A B _)) rfl hl.1 rfl (Nat.le_of_ble_eq_true rfl) dX7_leastScale_36 (st1 := [.long r36]) rfl ⟨Nat.zero_le _, Nat.zero_le _⟩ (fun H locs hP hD hS => ?_)
        refine lv_aload_n (pc := 39) hx hb dX7_leastScale_39 rfl (lv_at hl 0 rfl) ?_
        refine vMgRX7_235_0 (pc := 40) hx hb hts mU_566 inU7 hown hK hP (x := (gL S 0)) rfl dX7_leastScale_40 ?_
        refine lv_iconst (pc := 43) hx hb (v := 1) dX7_leastScale_43 (by decide) ?_
        obtain ⟨r44, hc44, hq5⟩ := hf_b hq5
        refine cl_S (pc := 44) (As := [.long r36, .long (gL S 0), .int 1]) (rest := []) hx hb hml hown hts (kX7_partOf l D A B _ S r36 (gL S 0) 1 r44 hc44) (va_cwS 3 hts gwRX7_282 rfl rfl rfl hdX7_partOf ⟨Nat.le_of_ble_eq_true rfl, Nat.le_of_ble_eq_true rfl⟩) hN hK hP hD hS hA rfl hl.1 rfl (Nat.le_of_ble_eq_true rfl) dX7_leastScale_44 (st1 := [.long r44]) rfl ⟨Nat.zero_le _, Nat.zero_le _⟩ (fun H locs hP hD hS => ?_)
        refine lv_lstore (pc := 47) hx hb (lv' := [(5, .long r44), (0, .ref (A 0)), (1, .int a1), (2, .long u2_5), (4, .int u4_5)]) dX7_leastScale_47 hl (by decide) rfl (fun ls hl => ?_)
        refine lv_lload_n (pc := 49) hx hb dX7_leastScale_49 rfl (lv_at hl 3 rfl) ?_
        refine lv_lload_n (pc := 50) hx hb dX7_leastScale_50 rfl (lv_at hl 3 rfl) ?_
        refine lv_lload (pc := 51) hx hb dX7_leastScale_51 (lv_at hl 0 rfl) ?_
        obtain ⟨r53, hc53, hq5⟩ := hf_b hq5
        refine cl_S (pc := 53) (As := [.long u2_5, .long r44]) (rest := [.long u2_5]) hx hb hml hown hts (kX7_common l D A B _ S u2_5 r44 r53 hc53) (va_cwS 2 hts gwRX7_93 rfl rfl rfl hdX7_common ⟨Nat.le_of_ble_eq_true rfl, Nat.le_of_ble_eq_true rfl⟩) hN hK hP hD hS hA rfl hl.1 rfl (Nat.le_of_ble_eq_true rfl) dX7_leastScale_53 (st1 := [.long r53, .long u2_5]) rfl ⟨Nat.zero_le _, Nat.zero_le _⟩ (fun H locs hP hD hS => ?_)
        obtain ⟨hg56, hq5⟩ := hf_g hq5
        refine lv_ldiv (pc := 56) hx hb dX7_leastScale_56 hg56 ?_
        refine lv_lload (pc := 57) hx hb dX7_leastScale_57 (lv_at hl 0 rfl) ?_
        refine lv_lmul (pc := 59) hx hb dX7_leastScale_59 ?_
        refine lv_lstore_n (pc := 60) hx hb (lv' := [(2, .long ((u2_5 / r53) * r44)), (5, .long r44), (0, .ref (A 0)), (1, .int a1), (4, .int u4_5)]) dX7_leastScale_60 rfl hl (by decide) rfl (fun ls hl => ?_)
        refine lv_iinc (pc := 61) hx hb (v := u4_5 + 1) (lv' := [(4, .int (u4_5 + 1)), (2, .long ((u2_5 / r53) * r44)), (5, .long r44), (0, .ref (A 0)), (1, .int a1)]) dX7_leastScale_61 hl (k := 4) rfl rfl (by decide) rfl (fun ls hl => ?_)
        refine lv_goto (pc := 64) hx hb (tgt := 5) dX7_leastScale_64 (by decide) ?_
        exact ih5 ((u2_5 / r53) * r44) (u4_5 + 1) H locs ls hq5 hP hD hS (lv_sub hl [3, 4, 1, 0] rfl)
  exact lp5 256 1 0 H locs ls hq5 hP hD hS (lv_sub hl [2, 3, 1, 0] rfl)
set_option maxHeartbeats 4000000 in
set_option maxRecDepth 100000 in
theorem kX7_lay (l : Launch) (D : va_G) (A : Nat → Nat) (B : Nat → ClassId) (sz : Nat) (S : w_S) (a1 : Int32) (a2 : Int32) (z : Int32 × w_S) (hf : fX7_lay S a1 a2 = some z) : MetW l yX7_lay (wsO yX7_lay cX7_lay 10 (some .int)) rm_X7_lay [.ref (A 0), .int a1, .int a2] D (tyB B) (wM A B S) (wM A B z.2) sz (some (.int z.1)) := by
  refine MetW.mkI (cc := cX7_lay) (maxL := 10) (by decide) (Nat.le_of_ble_eq_true rfl) ?_
  intro p e s m args below meth c Ad Q hx hb hts hown hml hN hK hA hR H locs ls hP hD hS hl
  have hl : lv_has ls 10 [(0, .ref (A 0)), (1, .int a1), (2, .int a2)] := hl
  rw [fX7_lay] at hf
  refine lv_aload_n (pc := 0) hx hb dX7_lay_0 rfl (lv_at hl 0 rfl) ?_
  refine lv_iload_n (pc := 1) hx hb dX7_lay_1 rfl (lv_at hl 1 rfl) ?_
  obtain ⟨r2, hc2, hf⟩ := hf_b hf
  refine cl_V (pc := 2) (As := [.int a1]) (rest := []) hx hb hml hown hts (kX7_isEquation l D A B _ S a1 r2 hc2) (cwV 1 hts gwRX7_203 rfl rfl rfl hdX7_isEquation ⟨Nat.le_of_ble_eq_true rfl, Nat.le_of_ble_eq_true rfl⟩) hN hK hP hD hS hA (va_recv hK hP (ci := 7) (q0 := 0) rfl (eM_0 A B _)) rfl hl.1 rfl (Nat.le_of_ble_eq_true rfl) dX7_lay_2 (st1 := [.int r2]) rfl ⟨Nat.zero_le _, Nat.zero_le _⟩ (fun H locs hP hD hS => ?_)
  refine lv_if_eq (pc := 5) hx hb (tgt := 15) dX7_lay_5 (by decide) (fun c_5 => ?_) (fun c_5 => ?_)
  · have hf := hf_t c_5 hf
    refine lv_iconst (pc := 15) hx hb (v := (-1)) dX7_lay_15 (by decide) ?_
    obtain rfl := Option.some.inj hf
    exact hR H locs 16 ls hP hD hS dX7_lay_16
  · have hf := hf_f c_5 hf
    refine lv_iload_n (pc := 8) hx hb dX7_lay_8 rfl (lv_at hl 2 rfl) ?_
    obtain ⟨r9, hc9, hf⟩ := hf_b hf
    refine cl_S (pc := 9) (As := [.int a2]) (rest := []) hx hb hml hown hts (kX7_isSheet l D A B _ S a2 r9 hc9) (va_cwS 1 hts gwRX7_303 rfl rfl rfl hdX7_isSheet ⟨Nat.le_of_ble_eq_true rfl, Nat.le_of_ble_eq_true rfl⟩) hN hK hP hD hS hA rfl hl.1 rfl (Nat.le_of_ble_eq_true rfl) dX7_lay_9 (st1 := [.int r9]) rfl ⟨Nat.zero_le _, Nat.zero_le _⟩ (fun H locs hP hD hS => ?_)
    refine lv_if_ne (pc := 12) hx hb (tgt := 17) dX7_lay_12 (by decide) (fun c_12 => ?_) (fun c_12 => ?_)
    · have hf := hf_f c_12 hf
      refine lv_aload_n (pc := 17) hx hb dX7_lay_17 rfl (lv_at hl 0 rfl) ?_
      refine vMgRX7_29_0 (pc := 18) hx hb hts mU_87 inU7 hown hK hP dX7_lay_18 ?_
      refine lv_iload_n (pc := 21) hx hb dX7_lay_21 rfl (lv_at hl 1 rfl) ?_
      obtain ⟨hg22, hf⟩ := hf_g hf
      refine vMra_4 (pc := 22) hx hb hK hP (f := (gA S 3)) rfl hg22 dX7_lay_22 ?_
      refine lv_istore_n (pc := 23) hx hb (lv' := [(3, .int ((gA S 3) a1.toNatClampNeg)), (0, .ref (A 0)), (1, .int a1), (2, .int a2)]) dX7_lay_23 rfl hl (by decide) rfl (fun ls hl => ?_)
      refine lv_aload_n (pc := 24) hx hb dX7_lay_24 rfl (lv_at hl 1 rfl) ?_
      refine lv_iload_n (pc := 25) hx hb dX7_lay_25 rfl (lv_at hl 0 rfl) ?_
      obtain ⟨r26, hc26, hf⟩ := hf_b hf
      refine cl_V (pc := 26) (As := [.int ((gA S 3) a1.toNatClampNeg)]) (rest := []) hx hb hml hown hts (kX7_isFit l D A B _ S ((gA S 3) a1.toNatClampNeg) r26 hc26) (cwV 1 hts gwRX7_259 rfl rfl rfl hdX7_isFit ⟨Nat.le_of_ble_eq_true rfl, Nat.le_of_ble_eq_true rfl⟩) hN hK hP hD hS hA (va_recv hK hP (ci := 7) (q0 := 0) rfl (eM_0 A B _)) rfl hl.1 rfl (Nat.le_of_ble_eq_true rfl) dX7_lay_26 (st1 := [.int r26.1]) rfl ⟨Nat.zero_le _, Nat.zero_le _⟩ (fun H locs hP hD hS => ?_)
      refine lv_if_ne (pc := 29) hx hb (tgt := 35) dX7_lay_29 (by decide) (fun c_29 => ?_) (fun c_29 => ?_)
      · have hf := hf_f c_29 hf
        refine lv_aload_n (pc := 35) hx hb dX7_lay_35 rfl (lv_at hl 1 rfl) ?_
        refine lv_iload_n (pc := 36) hx hb dX7_lay_36 rfl (lv_at hl 2 rfl) ?_
        obtain ⟨r37, hc37, hf⟩ := hf_b hf
        refine cl_V (pc := 37) (As := [.int a1]) (rest := []) hx hb hml hown hts (kX7_setsUp l D A B _ r26.2 a1 r37 hc37) (cwV 1 hts gwRX7_262 rfl rfl rfl hdX7_setsUp ⟨Nat.le_of_ble_eq_true rfl, Nat.le_of_ble_eq_true rfl⟩) hN hK hP hD hS hA (va_recv hK hP (ci := 7) (q0 := 0) rfl (eM_0 A B _)) rfl hl.1 rfl (Nat.le_of_ble_eq_true rfl) dX7_lay_37 (st1 := []) rfl ⟨Nat.zero_le _, Nat.zero_le _⟩ (fun H locs hP hD hS => ?_)
        refine lv_aload_n (pc := 40) hx hb dX7_lay_40 rfl (lv_at hl 1 rfl) ?_
        obtain ⟨r41, hc41, hf⟩ := hf_b hf
        refine cl_V (pc := 41) (As := []) (rest := []) hx hb hml hown hts (kX7_isSolved l D A B _ r37 r41 hc41) (cwV 0 hts gwRX7_270 rfl rfl rfl hdX7_isSolved ⟨Nat.le_of_ble_eq_true rfl, Nat.le_of_ble_eq_true rfl⟩) hN hK hP hD hS hA (va_recv hK hP (ci := 7) (q0 := 0) rfl (eM_0 A B _)) rfl hl.1 rfl (Nat.le_of_ble_eq_true rfl) dX7_lay_41 (st1 := [.int r41]) rfl ⟨Nat.zero_le _, Nat.zero_le _⟩ (fun H locs hP hD hS => ?_)
        refine lv_if_ne (pc := 44) hx hb (tgt := 50) dX7_lay_44 (by decide) (fun c_44 => ?_) (fun c_44 => ?_)
        · have hf := hf_f c_44 hf
          refine lv_aload_n (pc := 50) hx hb dX7_lay_50 rfl (lv_at hl 1 rfl) ?_
          refine lv_iload_n (pc := 51) hx hb dX7_lay_51 rfl (lv_at hl 0 rfl) ?_
          obtain ⟨r52, hc52, hf⟩ := hf_b hf
          refine cl_V (pc := 52) (As := [.int ((gA S 3) a1.toNatClampNeg)]) (rest := []) hx hb hml hown hts (kX7_leastScale l D A B _ r37 ((gA S 3) a1.toNatClampNeg) r52 hc52) (cwV 1 hts gwRX7_306 rfl rfl rfl hdX7_leastScale ⟨Nat.le_of_ble_eq_true rfl, Nat.le_of_ble_eq_true rfl⟩) hN hK hP hD hS hA (va_recv hK hP (ci := 7) (q0 := 0) rfl (eM_0 A B _)) rfl hl.1 rfl (Nat.le_of_ble_eq_true rfl) dX7_lay_52 (st1 := [.long r52]) rfl ⟨Nat.zero_le _, Nat.zero_le _⟩ (fun H locs hP hD hS => ?_)
          refine lv_lstore (pc := 55) hx hb (lv' := [(4, .long r52), (3, .int ((gA S 3) a1.toNatClampNeg)), (0, .ref (A 0)), (1, .int a1), (2, .int a2)]) dX7_lay_55 hl (by decide) rfl (fun ls hl => ?_)
          refine lv_lload (pc := 57) hx hb dX7_lay_57 (lv_at hl 0 rfl) ?_
          refine lv_lload (pc := 59) hx hb dX7_lay_59 (lv_at hl 0 rfl) ?_
          refine lv_l2i (pc := 61) hx hb (v := r52.toInt32) dX7_lay_61 rfl ?_
          refine lv_i2l (pc := 62) hx hb (v := r52.toInt32.toInt64) dX7_lay_62 rfl ?_
          obtain ⟨q72, hv72, hf⟩ := hf_b hf
          have hj72 : ∀ (H : Heap) (locs : List Loc) (ls : Array Slot), va_P D vwCl (wM A B r37) H → va_D Ad (wM A B r37) → va_S Ad s.heap H locs → lv_has ls 10 [(0, .ref (A 0)), (2, .int a2), (3, .int ((gA S 3) a1.toNatClampNeg)), (4, .long r52)] → W p l e rm_X7_lay s m args below meth c H locs 0 0 Q (F0 m 72 ls [.int q72]) := by
            intro H locs ls hP hD hS hl
            refine lv_istore (pc := 72) hx hb (lv' := [(6, .int q72), (0, .ref (A 0)), (2, .int a2), (3, .int ((gA S 3) a1.toNatClampNeg)), (4, .long r52)]) dX7_lay_72 hl (by decide) rfl (fun ls hl => ?_)
            refine lv_iconst (pc := 74) hx hb (v := 0) dX7_lay_74 (by decide) ?_
            refine lv_istore (pc := 75) hx hb (lv' := [(7, .int 0), (6, .int q72), (0, .ref (A 0)), (2, .int a2), (3, .int ((gA S 3) a1.toNatClampNeg)), (4, .long r52)]) dX7_lay_75 hl (by decide) rfl (fun ls hl => ?_)
            obtain ⟨q77, hq77, hf⟩ := hf_b hf
            have hk77 : ∀ (H : Heap) (locs : List Loc) (ls : Array Slot), va_P D vwCl (wM A B r37) H → va_D Ad (wM A B r37) → va_S Ad s.heap H locs → lv_has ls 10 [(0, .ref (A 0)), (2, .int a2), (3, .int ((gA S 3) a1.toNatClampNeg)), (4, .long r52), (6, .int q77)] → W p l e rm_X7_lay s m args below meth c H locs 0 0 Q (F0 m 181 ls []) := by
              intro H locs ls hP hD hS hl
              refine lv_iload (pc := 181) hx hb dX7_lay_181 (lv_at hl 4 rfl) ?_
              refine lv_if_ne (pc := 183) hx hb (tgt := 189) dX7_lay_183 (by decide) (fun c_183 => ?_) (fun c_183 => ?_)
              · have hf := hf_f c_183 hf
                refine lv_aload_n (pc := 189) hx hb dX7_lay_189 rfl (lv_at hl 0 rfl) ?_
                refine vMgRX7_67_0 (pc := 190) hx hb hts mU_99 inU7 hown hK hP dX7_lay_190 ?_
                refine lv_iload_n (pc := 193) hx hb dX7_lay_193 rfl (lv_at hl 1 rfl) ?_
                refine lv_iconst (pc := 194) hx hb (v := 2) dX7_lay_194 (by decide) ?_
                obtain ⟨hg195, hf⟩ := hf_g hf
                refine vMwa_16 (pc := 195) hx hb hK hP hD hS (f := (gA r37 12)) rfl hg195 dX7_lay_195 (fun H locs hP hD hS => ?_)
                refine lv_aload_n (pc := 196) hx hb dX7_lay_196 rfl (lv_at hl 0 rfl) ?_
                refine vMgRX7_70_0 (pc := 197) hx hb hts mU_100 inU7 hown hK hP dX7_lay_197 ?_
                refine lv_iload_n (pc := 200) hx hb dX7_lay_200 rfl (lv_at hl 1 rfl) ?_
                refine lv_aload_n (pc := 201) hx hb dX7_lay_201 rfl (lv_at hl 0 rfl) ?_
                refine vMgRX7_19_0 (pc := 202) hx hb hts mU_84 inU7 hown hK hP (x := (gI r37 0)) rfl dX7_lay_202 ?_
                refine lv_aload_n (pc := 205) hx hb dX7_lay_205 rfl (lv_at hl 0 rfl) ?_
                refine vMgRX7_23_0 (pc := 206) hx hb hts mU_85 inU7 hown hK hP (x := (gI r37 1)) rfl dX7_lay_206 ?_
                refine lv_imul (pc := 209) hx hb dX7_lay_209 ?_
                obtain ⟨hg210, hf⟩ := hf_g hf
                refine vMwa_17 (pc := 210) hx hb hK hP hD hS (f := (gA r37 13)) rfl hg210 dX7_lay_210 (fun H locs hP hD hS => ?_)
                refine lv_iconst (pc := 211) hx hb (v := 0) dX7_lay_211 (by decide) ?_
                refine lv_istore (pc := 212) hx hb (lv' := [(7, .int 0), (0, .ref (A 0)), (2, .int a2), (3, .int ((gA S 3) a1.toNatClampNeg)), (4, .long r52), (6, .int q77)]) dX7_lay_212 hl (by decide) rfl (fun ls hl => ?_)
                obtain ⟨q214, hq214, hf⟩ := hf_b hf
                have hk214 : ∀ (H : Heap) (locs : List Loc) (ls : Array Slot), va_P D vwCl (wM A B q214) H → va_D Ad (wM A B q214) → va_S Ad s.heap H locs → lv_has ls 10 [(4, .long r52)] → W p l e rm_X7_lay s m args below meth c H locs 0 0 Q (F0 m 317 ls []) := by
                  intro H locs ls hP hD hS hl
                  refine lv_lload (pc := 317) hx hb dX7_lay_317 (lv_at hl 0 rfl) ?_
                  refine lv_l2i (pc := 319) hx hb (v := r52.toInt32) dX7_lay_319 rfl ?_
                  obtain rfl := Option.some.inj hf
                  exact hR H locs 320 ls hP hD hS dX7_lay_320
                have lp214 : ∀ (n : Nat) (T214 : w_S) (u7_214 : Int32) (H : Heap) (locs : List Loc) (ls : Array Slot), fX7_lay_L214 a2 ((gA S 3) a1.toNatClampNeg) r52 n T214 u7_214 = some q214 → va_P D vwCl (wM A B T214) H → va_D Ad (wM A B T214) → va_S Ad s.heap H locs → lv_has ls 10 [(0, .ref (A 0)), (2, .int a2), (3, .int ((gA S 3) a1.toNatClampNeg)), (4, .long r52), (7, .int u7_214)] → W p l e rm_X7_lay s m args below meth c H locs 0 0 Q (F0 m 214 ls []) := by
                  intro n214
                  induction n214 with
                  | zero => intro T214 u7_214 H locs ls hq214; exact hf_0 hq214
                  | succ n214 ih214 =>
                    intro T214 u7_214 H locs ls hq214 hP hD hS hl
                    rw [fX7_lay_L214] at hq214
                    refine lv_iload (pc := 214) hx hb dX7_lay_214 (lv_at hl 4 rfl) ?_
                    refine lv_bipush (pc := 216) hx hb (v := 40) dX7_lay_216 (by decide) ?_
                    refine lv_icmp_ge (pc := 218) hx hb (tgt := 317) dX7_lay_218 (by decide) (fun c_218 => ?_) (fun c_218 => ?_)
                    · have hq214 := hf_t c_218 hq214
                      obtain rfl := Option.some.inj hq214
                      exact hk214 H locs ls hP hD hS (lv_sub hl [3] rfl)
                    · have hq214 := hf_f c_218 hq214
                      refine lv_aload_n (pc := 221) hx hb dX7_lay_221 rfl (lv_at hl 0 rfl) ?_
                      refine vMgRX7_73_0 (pc := 222) hx hb hts mU_101 inU7 hown hK hP dX7_lay_222 ?_
                      refine lv_bipush (pc := 225) hx hb (v := 40) dX7_lay_225 (by decide) ?_
                      refine lv_iload_n (pc := 227) hx hb dX7_lay_227 rfl (lv_at hl 1 rfl) ?_
                      refine lv_imul (pc := 228) hx hb dX7_lay_228 ?_
                      refine lv_iload (pc := 229) hx hb dX7_lay_229 (lv_at hl 4 rfl) ?_
                      refine lv_iadd (pc := 231) hx hb dX7_lay_231 ?_
                      refine lv_iload (pc := 232) hx hb dX7_lay_232 (lv_at hl 4 rfl) ?_
                      refine lv_aload_n (pc := 234) hx hb dX7_lay_234 rfl (lv_at hl 0 rfl) ?_
                      refine vMgRX7_19_0 (pc := 235) hx hb hts mU_84 inU7 hown hK hP (x := (gI T214 0)) rfl dX7_lay_235 ?_
                      refine lv_aload_n (pc := 238) hx hb dX7_lay_238 rfl (lv_at hl 0 rfl) ?_
                      refine vMgRX7_23_0 (pc := 239) hx hb hts mU_85 inU7 hown hK hP (x := (gI T214 1)) rfl dX7_lay_239 ?_
                      refine lv_imul (pc := 242) hx hb dX7_lay_242 ?_
                      refine lv_icmp_ge (pc := 243) hx hb (tgt := 309) dX7_lay_243 (by decide) (fun c_243 => ?_) (fun c_243 => ?_)
                      · have hq214 := hf_t c_243 hq214
                        refine lv_lconst (pc := 309) hx hb (v := 0) dX7_lay_309 (by decide) ?_
                        obtain ⟨hg310, hq214⟩ := hf_g hq214
                        refine vMwa_18 (pc := 310) hx hb hK hP hD hS (f := (gB T214 3)) rfl hg310 dX7_lay_310 (fun H locs hP hD hS => ?_)
                        refine lv_iinc (pc := 311) hx hb (v := u7_214 + 1) (lv' := [(7, .int (u7_214 + 1)), (0, .ref (A 0)), (2, .int a2), (3, .int ((gA S 3) a1.toNatClampNeg)), (4, .long r52)]) dX7_lay_311 hl (k := 4) rfl rfl (by decide) rfl (fun ls hl => ?_)
                        refine lv_goto (pc := 314) hx hb (tgt := 214) dX7_lay_314 (by decide) ?_
                        exact ih214 (sB T214 3 (vp_updL (gB T214 3) ((40 * a2) + u7_214).toNatClampNeg 0)) (u7_214 + 1) H locs ls hq214 hP hD hS (lv_sub hl [1, 2, 3, 4, 0] rfl)
                      · have hq214 := hf_f c_243 hq214
                        refine lv_aload_n (pc := 246) hx hb dX7_lay_246 rfl (lv_at hl 0 rfl) ?_
                        refine lv_iload_n (pc := 247) hx hb dX7_lay_247 rfl (lv_at hl 2 rfl) ?_
                        refine lv_iload (pc := 248) hx hb dX7_lay_248 (lv_at hl 4 rfl) ?_
                        refine lv_aload_n (pc := 250) hx hb dX7_lay_250 rfl (lv_at hl 0 rfl) ?_
                        refine vMgRX7_23_0 (pc := 251) hx hb hts mU_85 inU7 hown hK hP (x := (gI T214 1)) rfl dX7_lay_251 ?_
                        obtain ⟨hg254, hq214⟩ := hf_g hq214
                        refine lv_idiv (pc := 254) hx hb dX7_lay_254 hg254 ?_
                        refine lv_iload (pc := 255) hx hb dX7_lay_255 (lv_at hl 4 rfl) ?_
                        refine lv_aload_n (pc := 257) hx hb dX7_lay_257 rfl (lv_at hl 0 rfl) ?_
                        refine vMgRX7_23_0 (pc := 258) hx hb hts mU_85 inU7 hown hK hP (x := (gI T214 1)) rfl dX7_lay_258 ?_
                        obtain ⟨hg261, hq214⟩ := hf_g hq214
                        refine lv_irem (pc := 261) hx hb dX7_lay_261 hg261 ?_
                        refine lv_iconst (pc := 262) hx hb (v := (-1)) dX7_lay_262 (by decide) ?_
                        obtain ⟨r263, hc263, hq214⟩ := hf_b hq214
                        refine cl_V (pc := 263) (As := [.int ((gA S 3) a1.toNatClampNeg), .int (u7_214 / (gI T214 1)), .int (u7_214 - u7_214 / (gI T214 1) * (gI T214 1)), .int (-1)]) (rest := [.int ((40 * a2) + u7_214), .ref (A 18)]) hx hb hml hown hts (kX7_shapedSum l D A B _ T214 ((gA S 3) a1.toNatClampNeg) (u7_214 / (gI T214 1)) (u7_214 - u7_214 / (gI T214 1) * (gI T214 1)) (-1) r263 hc263) (cwV 4 hts gwRX7_278 rfl rfl rfl hdX7_shapedSum ⟨Nat.le_of_ble_eq_true rfl, Nat.le_of_ble_eq_true rfl⟩) hN hK hP hD hS hA (va_recv hK hP (ci := 7) (q0 := 0) rfl (eM_0 A B _)) rfl hl.1 rfl (Nat.le_of_ble_eq_true rfl) dX7_lay_263 (st1 := [.long r263, .int ((40 * a2) + u7_214), .ref (A 18)]) rfl ⟨Nat.zero_le _, Nat.zero_le _⟩ (fun H locs hP hD hS => ?_)
                        refine lv_aload_n (pc := 266) hx hb dX7_lay_266 rfl (lv_at hl 0 rfl) ?_
                        refine vMgRX7_235_0 (pc := 267) hx hb hts mU_566 inU7 hown hK hP (x := (gL T214 0)) rfl dX7_lay_267 ?_
                        refine lv_iconst (pc := 270) hx hb (v := 0) dX7_lay_270 (by decide) ?_
                        obtain ⟨r271, hc271, hq214⟩ := hf_b hq214
                        refine cl_S (pc := 271) (As := [.long r263, .long (gL T214 0), .int 0]) (rest := [.int ((40 * a2) + u7_214), .ref (A 18)]) hx hb hml hown hts (kX7_partOf l D A B _ T214 r263 (gL T214 0) 0 r271 hc271) (va_cwS 3 hts gwRX7_282 rfl rfl rfl hdX7_partOf ⟨Nat.le_of_ble_eq_true rfl, Nat.le_of_ble_eq_true rfl⟩) hN hK hP hD hS hA rfl hl.1 rfl (Nat.le_of_ble_eq_true rfl) dX7_lay_271 (st1 := [.long r271, .int ((40 * a2) + u7_214), .ref (A 18)]) rfl ⟨Nat.zero_le _, Nat.zero_le _⟩ (fun H locs hP hD hS => ?_)
                        refine lv_lload (pc := 274) hx hb dX7_lay_274 (lv_at hl 3 rfl) ?_
                        refine lv_aload_n (pc := 276) hx hb dX7_lay_276 rfl (lv_at hl 0 rfl) ?_
                        refine lv_iload_n (pc := 277) hx hb dX7_lay_277 rfl (lv_at hl 2 rfl) ?_
                        refine lv_iload (pc := 278) hx hb dX7_lay_278 (lv_at hl 4 rfl) ?_
                        refine lv_aload_n (pc := 280) hx hb dX7_lay_280 rfl (lv_at hl 0 rfl) ?_
                        refine vMgRX7_23_0 (pc := 281) hx hb hts mU_85 inU7 hown hK hP (x := (gI T214 1)) rfl dX7_lay_281 ?_
                        obtain ⟨hg284, hq214⟩ := hf_g hq214
                        refine lv_idiv (pc := 284) hx hb dX7_lay_284 hg284 ?_
                        refine lv_iload (pc := 285) hx hb dX7_lay_285 (lv_at hl 4 rfl) ?_
                        refine lv_aload_n (pc := 287) hx hb dX7_lay_287 rfl (lv_at hl 0 rfl) ?_
                        refine vMgRX7_23_0 (pc := 288) hx hb hts mU_85 inU7 hown hK hP (x := (gI T214 1)) rfl dX7_lay_288 ?_
                        obtain ⟨hg291, hq214⟩ := hf_g hq214
                        refine lv_irem (pc := 291) hx hb dX7_lay_291 hg291 ?_
                        refine lv_iconst (pc := 292) hx hb (v := (-1)) dX7_lay_292 (by decide) ?_
                        obtain ⟨r293, hc293, hq214⟩ := hf_b hq214
                        refine cl_V (pc := 293) (As := [.int ((gA S 3) a1.toNatClampNeg), .int (u7_214 / (gI T214 1)), .int (u7_214 - u7_214 / (gI T214 1) * (gI T214 1)), .int (-1)]) (rest := [.long r52, .long r271, .int ((40 * a2) + u7_214), .ref (A 18)]) hx hb hml hown hts (kX7_shapedSum l D A B _ T214 ((gA S 3) a1.toNatClampNeg) (u7_214 / (gI T214 1)) (u7_214 - u7_214 / (gI T214 1) * (gI T214 1)) (-1) r293 hc293) (cwV 4 hts gwRX7_278 rfl rfl rfl hdX7_shapedSum ⟨Nat.le_of_ble_eq_true rfl, Nat.le_of_ble_eq_true rfl⟩) hN hK hP hD hS hA (va_recv hK hP (ci := 7) (q0 := 0) rfl (eM_0 A B _)) rfl hl.1 rfl (Nat.le_of_ble_eq_true rfl) dX7_lay_293 (st1 := [.long r293, .long r52, .long r271, .int ((40 * a2) + u7_214), .ref (A 18)]) rfl ⟨Nat.zero_le _, Nat.zero_le _⟩ (fun H locs hP hD hS => ?_)
                        refine lv_aload_n (pc := 296) hx hb dX7_lay_296 rfl (lv_at hl 0 rfl) ?_
                        refine vMgRX7_235_0 (pc := 297) hx hb hts mU_566 inU7 hown hK hP (x := (gL T214 0)) rfl dX7_lay_297 ?_
                        refine lv_iconst (pc := 300) hx hb (v := 1) dX7_lay_300 (by decide) ?_
                        obtain ⟨r301, hc301, hq214⟩ := hf_b hq214
                        refine cl_S (pc := 301) (As := [.long r293, .long (gL T214 0), .int 1]) (rest := [.long r52, .long r271, .int ((40 * a2) + u7_214), .ref (A 18)]) hx hb hml hown hts (kX7_partOf l D A B _ T214 r293 (gL T214 0) 1 r301 hc301) (va_cwS 3 hts gwRX7_282 rfl rfl rfl hdX7_partOf ⟨Nat.le_of_ble_eq_true rfl, Nat.le_of_ble_eq_true rfl⟩) hN hK hP hD hS hA rfl hl.1 rfl (Nat.le_of_ble_eq_true rfl) dX7_lay_301 (st1 := [.long r301, .long r52, .long r271, .int ((40 * a2) + u7_214), .ref (A 18)]) rfl ⟨Nat.zero_le _, Nat.zero_le _⟩ (fun H locs hP hD hS => ?_)
                        obtain ⟨hg304, hq214⟩ := hf_g hq214
                        refine lv_ldiv (pc := 304) hx hb dX7_lay_304 hg304 ?_
                        refine lv_lmul (pc := 305) hx hb dX7_lay_305 ?_
                        refine lv_goto (pc := 306) hx hb (tgt := 310) dX7_lay_306 (by decide) ?_
                        obtain ⟨hg310, hq214⟩ := hf_g hq214
                        refine vMwa_18 (pc := 310) hx hb hK hP hD hS (f := (gB T214 3)) rfl hg310 dX7_lay_310 (fun H locs hP hD hS => ?_)
                        refine lv_iinc (pc := 311) hx hb (v := u7_214 + 1) (lv' := [(7, .int (u7_214 + 1)), (0, .ref (A 0)), (2, .int a2), (3, .int ((gA S 3) a1.toNatClampNeg)), (4, .long r52)]) dX7_lay_311 hl (k := 4) rfl rfl (by decide) rfl (fun ls hl => ?_)
                        refine lv_goto (pc := 314) hx hb (tgt := 214) dX7_lay_314 (by decide) ?_
                        exact ih214 (sB T214 3 (vp_updL (gB T214 3) ((40 * a2) + u7_214).toNatClampNeg (r271 * (r52 / r301)))) (u7_214 + 1) H locs ls hq214 hP hD hS (lv_sub hl [1, 2, 3, 4, 0] rfl)
                exact lp214 256 (sA (sA r37 12 (upd (gA r37 12) a2.toNatClampNeg 2)) 13 (upd (gA r37 13) a2.toNatClampNeg ((gI r37 0) * (gI r37 1)))) 0 H locs ls hq214 hP hD hS (lv_sub hl [1, 2, 3, 4, 0] rfl)
              · have hf := hf_t c_183 hf
                refine lv_bipush (pc := 186) hx hb (v := (-16)) dX7_lay_186 (by decide) ?_
                obtain rfl := Option.some.inj hf
                exact hR H locs 188 ls hP hD hS dX7_lay_188
            have lp77 : ∀ (n : Nat) (u6_77 : Int32) (u7_77 : Int32) (H : Heap) (locs : List Loc) (ls : Array Slot), fX7_lay_L77 r37 a2 ((gA S 3) a1.toNatClampNeg) r52 n u6_77 u7_77 = some q77 → va_P D vwCl (wM A B r37) H → va_D Ad (wM A B r37) → va_S Ad s.heap H locs → lv_has ls 10 [(0, .ref (A 0)), (2, .int a2), (3, .int ((gA S 3) a1.toNatClampNeg)), (4, .long r52), (6, .int u6_77), (7, .int u7_77)] → W p l e rm_X7_lay s m args below meth c H locs 0 0 Q (F0 m 77 ls []) := by
              intro n77
              induction n77 with
              | zero => intro u6_77 u7_77 H locs ls hq77; exact hf_0 hq77
              | succ n77 ih77 =>
                intro u6_77 u7_77 H locs ls hq77 hP hD hS hl
                rw [fX7_lay_L77] at hq77
                refine lv_iload (pc := 77) hx hb dX7_lay_77 (lv_at hl 5 rfl) ?_
                refine lv_aload_n (pc := 79) hx hb dX7_lay_79 rfl (lv_at hl 0 rfl) ?_
                refine vMgRX7_19_0 (pc := 80) hx hb hts mU_84 inU7 hown hK hP (x := (gI r37 0)) rfl dX7_lay_80 ?_
                refine lv_aload_n (pc := 83) hx hb dX7_lay_83 rfl (lv_at hl 0 rfl) ?_
                refine vMgRX7_23_0 (pc := 84) hx hb hts mU_85 inU7 hown hK hP (x := (gI r37 1)) rfl dX7_lay_84 ?_
                refine lv_imul (pc := 87) hx hb dX7_lay_87 ?_
                refine lv_icmp_ge (pc := 88) hx hb (tgt := 181) dX7_lay_88 (by decide) (fun c_88 => ?_) (fun c_88 => ?_)
                · have hq77 := hf_t c_88 hq77
                  obtain rfl := Option.some.inj hq77
                  exact hk77 H locs ls hP hD hS (lv_sub hl [0, 1, 2, 3, 4] rfl)
                · have hq77 := hf_f c_88 hq77
                  refine lv_aload_n (pc := 91) hx hb dX7_lay_91 rfl (lv_at hl 0 rfl) ?_
                  refine lv_iload_n (pc := 92) hx hb dX7_lay_92 rfl (lv_at hl 2 rfl) ?_
                  refine lv_iload (pc := 93) hx hb dX7_lay_93 (lv_at hl 5 rfl) ?_
                  refine lv_aload_n (pc := 95) hx hb dX7_lay_95 rfl (lv_at hl 0 rfl) ?_
                  refine vMgRX7_23_0 (pc := 96) hx hb hts mU_85 inU7 hown hK hP (x := (gI r37 1)) rfl dX7_lay_96 ?_
                  obtain ⟨hg99, hq77⟩ := hf_g hq77
                  refine lv_idiv (pc := 99) hx hb dX7_lay_99 hg99 ?_
                  refine lv_iload (pc := 100) hx hb dX7_lay_100 (lv_at hl 5 rfl) ?_
                  refine lv_aload_n (pc := 102) hx hb dX7_lay_102 rfl (lv_at hl 0 rfl) ?_
                  refine vMgRX7_23_0 (pc := 103) hx hb hts mU_85 inU7 hown hK hP (x := (gI r37 1)) rfl dX7_lay_103 ?_
                  obtain ⟨hg106, hq77⟩ := hf_g hq77
                  refine lv_irem (pc := 106) hx hb dX7_lay_106 hg106 ?_
                  refine lv_iconst (pc := 107) hx hb (v := (-1)) dX7_lay_107 (by decide) ?_
                  obtain ⟨r108, hc108, hq77⟩ := hf_b hq77
                  refine cl_V (pc := 108) (As := [.int ((gA S 3) a1.toNatClampNeg), .int (u7_77 / (gI r37 1)), .int (u7_77 - u7_77 / (gI r37 1) * (gI r37 1)), .int (-1)]) (rest := []) hx hb hml hown hts (kX7_shapedSum l D A B _ r37 ((gA S 3) a1.toNatClampNeg) (u7_77 / (gI r37 1)) (u7_77 - u7_77 / (gI r37 1) * (gI r37 1)) (-1) r108 hc108) (cwV 4 hts gwRX7_278 rfl rfl rfl hdX7_shapedSum ⟨Nat.le_of_ble_eq_true rfl, Nat.le_of_ble_eq_true rfl⟩) hN hK hP hD hS hA (va_recv hK hP (ci := 7) (q0 := 0) rfl (eM_0 A B _)) rfl hl.1 rfl (Nat.le_of_ble_eq_true rfl) dX7_lay_108 (st1 := [.long r108]) rfl ⟨Nat.zero_le _, Nat.zero_le _⟩ (fun H locs hP hD hS => ?_)
                  refine lv_aload_n (pc := 111) hx hb dX7_lay_111 rfl (lv_at hl 0 rfl) ?_
                  refine vMgRX7_235_0 (pc := 112) hx hb hts mU_566 inU7 hown hK hP (x := (gL r37 0)) rfl dX7_lay_112 ?_
                  refine lv_iconst (pc := 115) hx hb (v := 0) dX7_lay_115 (by decide) ?_
                  obtain ⟨r116, hc116, hq77⟩ := hf_b hq77
                  refine cl_S (pc := 116) (As := [.long r108, .long (gL r37 0), .int 0]) (rest := []) hx hb hml hown hts (kX7_partOf l D A B _ r37 r108 (gL r37 0) 0 r116 hc116) (va_cwS 3 hts gwRX7_282 rfl rfl rfl hdX7_partOf ⟨Nat.le_of_ble_eq_true rfl, Nat.le_of_ble_eq_true rfl⟩) hN hK hP hD hS hA rfl hl.1 rfl (Nat.le_of_ble_eq_true rfl) dX7_lay_116 (st1 := [.long r116]) rfl ⟨Nat.zero_le _, Nat.zero_le _⟩ (fun H locs hP hD hS => ?_)
                  refine lv_lload (pc := 119) hx hb dX7_lay_119 (lv_at hl 3 rfl) ?_
                  refine lv_aload_n (pc := 121) hx hb dX7_lay_121 rfl (lv_at hl 0 rfl) ?_
                  refine lv_iload_n (pc := 122) hx hb dX7_lay_122 rfl (lv_at hl 2 rfl) ?_
                  refine lv_iload (pc := 123) hx hb dX7_lay_123 (lv_at hl 5 rfl) ?_
                  refine lv_aload_n (pc := 125) hx hb dX7_lay_125 rfl (lv_at hl 0 rfl) ?_
                  refine vMgRX7_23_0 (pc := 126) hx hb hts mU_85 inU7 hown hK hP (x := (gI r37 1)) rfl dX7_lay_126 ?_
                  obtain ⟨hg129, hq77⟩ := hf_g hq77
                  refine lv_idiv (pc := 129) hx hb dX7_lay_129 hg129 ?_
                  refine lv_iload (pc := 130) hx hb dX7_lay_130 (lv_at hl 5 rfl) ?_
                  refine lv_aload_n (pc := 132) hx hb dX7_lay_132 rfl (lv_at hl 0 rfl) ?_
                  refine vMgRX7_23_0 (pc := 133) hx hb hts mU_85 inU7 hown hK hP (x := (gI r37 1)) rfl dX7_lay_133 ?_
                  obtain ⟨hg136, hq77⟩ := hf_g hq77
                  refine lv_irem (pc := 136) hx hb dX7_lay_136 hg136 ?_
                  refine lv_iconst (pc := 137) hx hb (v := (-1)) dX7_lay_137 (by decide) ?_
                  obtain ⟨r138, hc138, hq77⟩ := hf_b hq77
                  refine cl_V (pc := 138) (As := [.int ((gA S 3) a1.toNatClampNeg), .int (u7_77 / (gI r37 1)), .int (u7_77 - u7_77 / (gI r37 1) * (gI r37 1)), .int (-1)]) (rest := [.long r52, .long r116]) hx hb hml hown hts (kX7_shapedSum l D A B _ r37 ((gA S 3) a1.toNatClampNeg) (u7_77 / (gI r37 1)) (u7_77 - u7_77 / (gI r37 1) * (gI r37 1)) (-1) r138 hc138) (cwV 4 hts gwRX7_278 rfl rfl rfl hdX7_shapedSum ⟨Nat.le_of_ble_eq_true rfl, Nat.le_of_ble_eq_true rfl⟩) hN hK hP hD hS hA (va_recv hK hP (ci := 7) (q0 := 0) rfl (eM_0 A B _)) rfl hl.1 rfl (Nat.le_of_ble_eq_true rfl) dX7_lay_138 (st1 := [.long r138, .long r52, .long r116]) rfl ⟨Nat.zero_le _, Nat.zero_le _⟩ (fun H locs hP hD hS => ?_)
                  refine lv_aload_n (pc := 141) hx hb dX7_lay_141 rfl (lv_at hl 0 rfl) ?_
                  refine vMgRX7_235_0 (pc := 142) hx hb hts mU_566 inU7 hown hK hP (x := (gL r37 0)) rfl dX7_lay_142 ?_
                  refine lv_iconst (pc := 145) hx hb (v := 1) dX7_lay_145 (by decide) ?_
                  obtain ⟨r146, hc146, hq77⟩ := hf_b hq77
                  refine cl_S (pc := 146) (As := [.long r138, .long (gL r37 0), .int 1]) (rest := [.long r52, .long r116]) hx hb hml hown hts (kX7_partOf l D A B _ r37 r138 (gL r37 0) 1 r146 hc146) (va_cwS 3 hts gwRX7_282 rfl rfl rfl hdX7_partOf ⟨Nat.le_of_ble_eq_true rfl, Nat.le_of_ble_eq_true rfl⟩) hN hK hP hD hS hA rfl hl.1 rfl (Nat.le_of_ble_eq_true rfl) dX7_lay_146 (st1 := [.long r146, .long r52, .long r116]) rfl ⟨Nat.zero_le _, Nat.zero_le _⟩ (fun H locs hP hD hS => ?_)
                  obtain ⟨hg149, hq77⟩ := hf_g hq77
                  refine lv_ldiv (pc := 149) hx hb dX7_lay_149 hg149 ?_
                  refine lv_lmul (pc := 150) hx hb dX7_lay_150 ?_
                  refine lv_lstore (pc := 151) hx hb (lv' := [(8, .long (r116 * (r52 / r146))), (0, .ref (A 0)), (2, .int a2), (3, .int ((gA S 3) a1.toNatClampNeg)), (4, .long r52), (6, .int u6_77), (7, .int u7_77)]) dX7_lay_151 hl (by decide) rfl (fun ls hl => ?_)
                  refine lv_iload (pc := 153) hx hb dX7_lay_153 (lv_at hl 5 rfl) ?_
                  refine lv_if_eq (pc := 155) hx hb (tgt := 172) dX7_lay_155 (by decide) (fun c_155 => ?_) (fun c_155 => ?_)
                  · have hq77 := hf_t c_155 hq77
                    refine lv_iconst (pc := 172) hx hb (v := 0) dX7_lay_172 (by decide) ?_
                    refine lv_istore (pc := 173) hx hb (lv' := [(6, .int 0), (8, .long (r116 * (r52 / r146))), (0, .ref (A 0)), (2, .int a2), (3, .int ((gA S 3) a1.toNatClampNeg)), (4, .long r52), (7, .int u7_77)]) dX7_lay_173 hl (by decide) rfl (fun ls hl => ?_)
                    refine lv_iinc (pc := 175) hx hb (v := u7_77 + 1) (lv' := [(7, .int (u7_77 + 1)), (6, .int 0), (8, .long (r116 * (r52 / r146))), (0, .ref (A 0)), (2, .int a2), (3, .int ((gA S 3) a1.toNatClampNeg)), (4, .long r52)]) dX7_lay_175 hl (k := 6) rfl rfl (by decide) rfl (fun ls hl => ?_)
                    refine lv_goto (pc := 178) hx hb (tgt := 77) dX7_lay_178 (by decide) ?_
                    exact ih77 0 (u7_77 + 1) H locs ls hq77 hP hD hS (lv_sub hl [3, 4, 5, 6, 1, 0] rfl)
                  · have hq77 := hf_f c_155 hq77
                    refine lv_lload (pc := 158) hx hb dX7_lay_158 (lv_at hl 0 rfl) ?_
                    refine lv_lload (pc := 160) hx hb dX7_lay_160 (lv_at hl 0 rfl) ?_
                    refine lv_l2i (pc := 162) hx hb (v := (r116 * (r52 / r146)).toInt32) dX7_lay_162 rfl ?_
                    refine lv_i2l (pc := 163) hx hb (v := ((r116 * (r52 / r146)).toInt32).toInt64) dX7_lay_163 rfl ?_
                    refine W.lcmp (pc := 164) hx hb dX7_lay_164 ?_
                    refine lv_if_ne (pc := 165) hx hb (tgt := 172) dX7_lay_165 (by decide) (fun c_165 => ?_) (fun c_165 => ?_)
                    · have c_165 := fun h9 => c_165 (lg_eq0.mpr h9)
                      have hq77 := hf_f c_165 hq77
                      refine lv_iconst (pc := 172) hx hb (v := 0) dX7_lay_172 (by decide) ?_
                      refine lv_istore (pc := 173) hx hb (lv' := [(6, .int 0), (8, .long (r116 * (r52 / r146))), (0, .ref (A 0)), (2, .int a2), (3, .int ((gA S 3) a1.toNatClampNeg)), (4, .long r52), (7, .int u7_77)]) dX7_lay_173 hl (by decide) rfl (fun ls hl => ?_)
                      refine lv_iinc (pc := 175) hx hb (v := u7_77 + 1) (lv' := [(7, .int (u7_77 + 1)), (6, .int 0), (8, .long (r116 * (r52 / r146))), (0, .ref (A 0)), (2, .int a2), (3, .int ((gA S 3) a1.toNatClampNeg)), (4, .long r52)]) dX7_lay_175 hl (k := 6) rfl rfl (by decide) rfl (fun ls hl => ?_)
                      refine lv_goto (pc := 178) hx hb (tgt := 77) dX7_lay_178 (by decide) ?_
                      exact ih77 0 (u7_77 + 1) H locs ls hq77 hP hD hS (lv_sub hl [3, 4, 5, 6, 1, 0] rfl)
                    · have c_165 := lg_eq0.mp c_165
                      have hq77 := hf_t c_165 hq77
                      refine lv_iconst (pc := 168) hx hb (v := 1) dX7_lay_168 (by decide) ?_
                      refine lv_goto (pc := 169) hx hb (tgt := 173) dX7_lay_169 (by decide) ?_
                      refine lv_istore (pc := 173) hx hb (lv' := [(6, .int 1), (8, .long (r116 * (r52 / r146))), (0, .ref (A 0)), (2, .int a2), (3, .int ((gA S 3) a1.toNatClampNeg)), (4, .long r52), (7, .int u7_77)]) dX7_lay_173 hl (by decide) rfl (fun ls hl => ?_)
                      refine lv_iinc (pc := 175) hx hb (v := u7_77 + 1) (lv' := [(7, .int (u7_77 + 1)), (6, .int 1), (8, .long (r116 * (r52 / r146))), (0, .ref (A 0)), (2, .int a2), (3, .int ((gA S 3) a1.toNatClampNeg)), (4, .long r52)]) dX7_lay_175 hl (k := 6) rfl rfl (by decide) rfl (fun ls hl => ?_)
                      refine lv_goto (pc := 178) hx hb (tgt := 77) dX7_lay_178 (by decide) ?_
                      exact ih77 1 (u7_77 + 1) H locs ls hq77 hP hD hS (lv_sub hl [3, 4, 5, 6, 1, 0] rfl)
            exact lp77 256 q72 0 H locs ls hq77 hP hD hS (lv_sub hl [2, 3, 4, 5, 1, 0] rfl)
          refine W.lcmp (pc := 63) hx hb dX7_lay_63 ?_
          refine lv_if_ne (pc := 64) hx hb (tgt := 71) dX7_lay_64 (by decide) (fun c_64 => ?_) (fun c_64 => ?_)
          · have c_64 := fun h9 => c_64 (lg_eq0.mpr h9)
            have hv72 := hf_f c_64 hv72
            refine lv_iconst (pc := 71) hx hb (v := 0) dX7_lay_71 (by decide) ?_
            obtain rfl := Option.some.inj hv72
            exact hj72 H locs ls hP hD hS (lv_sub hl [2, 4, 1, 0] rfl)
          · have c_64 := lg_eq0.mp c_64
            have hv72 := hf_t c_64 hv72
            refine lv_iconst (pc := 67) hx hb (v := 1) dX7_lay_67 (by decide) ?_
            refine lv_goto (pc := 68) hx hb (tgt := 72) dX7_lay_68 (by decide) ?_
            obtain rfl := Option.some.inj hv72
            exact hj72 H locs ls hP hD hS (lv_sub hl [2, 4, 1, 0] rfl)
        · have hf := hf_t c_44 hf
          refine lv_bipush (pc := 47) hx hb (v := (-3)) dX7_lay_47 (by decide) ?_
          obtain rfl := Option.some.inj hf
          exact hR H locs 49 ls hP hD hS dX7_lay_49
      · have hf := hf_t c_29 hf
        refine lv_bipush (pc := 32) hx hb (v := (-4)) dX7_lay_32 (by decide) ?_
        obtain rfl := Option.some.inj hf
        exact hR H locs 34 ls hP hD hS dX7_lay_34
    · have hf := hf_t c_12 hf
      refine lv_iconst (pc := 15) hx hb (v := (-1)) dX7_lay_15 (by decide) ?_
      obtain rfl := Option.some.inj hf
      exact hR H locs 16 ls hP hD hS dX7_lay_16
