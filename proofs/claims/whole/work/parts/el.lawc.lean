/-! the law: its cases -/
/-- what the class does, the reference does too: the same thrown, the same answer, the same state -/
def Ag (l : Launch) (D : va_G) (cA : Nat → ClassId) (S : Nat → Nat → Nat) (Xa : XAd) (M : Nat → Nat → Nat) (Inv Inv2 : AState → Prop) (y6 : MethodName) (c6 : ByteArray) (m6 : Nat) (t6 : FieldType) (r6 : Room) (conv : Int32 → Int64) (y7 : MethodName) (c7 : ByteArray) (m7 : Nat) (t7 : FieldType) (r7 : Room) (Es : List String) (av : List Value) : Prop :=
  ∀ A th hs hr, Inv A → isW cA D S Xa hs A → rW cA M th hr A → ∃ Q PX RO, mCx l y6 c6 m6 (some t6) r6 D (mT cA) (.ref Xa.1 :: av) hs (mFi hs Q) PX ∧ (∀ E h1, PX E h1 → E ∈ Es) ∧ mCi l y7 c7 m7 t7 r7 D (mT cA) (.ref (M 3 0) :: av) hr RO ∧
    ∀ k v hs1 r hr1, (k = nI 0 ∧ (∃ r0, v = conv r0 ∧ Q r0 hs1) ∨ ∃ j E, Es[j]? = some E ∧ k = nI (j + 1) ∧ PX E hs1) → RO r hr1 → ∃ A' th', Inv2 A' ∧ isW cA D S Xa hs1 A' ∧ rW cA M th' hr1 A' ∧ nI th' = k ∧ (k = nI 0 → v = conv r)
def LW (cA : Nat → ClassId) (D : va_G) (S : Nat → Nat → Nat) (Xa : XAd) (M : Nat → Nat → Nat) (Inv : AState → Prop) (ou : Nat) (h : mH) : Prop := ∃ hs hr g A th, LPW cA ou h hs hr g ∧ Inv A ∧ isW cA D S Xa hs A ∧ rW cA M th hr A
theorem isW_x {cA : Nat → ClassId} {D : va_G} {S : Nat → Nat → Nat} {Xa : XAd} {h : mH} {A : AState} (hw : isW cA D S Xa h A) : ∃ fs, h Xa.1 = some (.inr (10, fs)) := by
  obtain ⟨x, sl, rw, is, lst, sa⟩ := Xa
  obtain ⟨Sl, n, V, src⟩ := A
  obtain ⟨T, P, G, Ln, hw⟩ := hw
  exact ⟨_, hw.2.2.1.1⟩
theorem rW_x {cA : Nat → ClassId} {M : Nat → Nat → Nat} {th : Nat} {h : mH} {A : AState} (hw : rW cA M th h A) : ∃ fs, h (M 3 0) = some (.inr (11, fs)) := by
  obtain ⟨ln, R, cap, P, kp, hu, -⟩ := hw
  exact ⟨_, hu.2.1.1⟩
theorem rW_thrown {cA : Nat → ClassId} {M : Nat → Nat → Nat} {th : Nat} {h : mH} {A : AState} (l : Launch) (D : va_G) (hw : rW cA M th h A) : mCi l yX7_thrown cX7_thrown 1 .int (rmd 1) D (mT cA) [.ref (M 3 0)] h (fun r h1 => h1 = h ∧ r = nI th) := by
  obtain ⟨ln, R, cap, P, kp, hu, -⟩ := hw
  exact u_thrown l D hu
theorem lg_eq (v : Int64) : lg_cmp v v = 0 := by
  unfold lg_cmp
  simp
theorem kh_mk {y : MethodName} {bytes : ByteArray} {maxL : Nat} {ret : Option FieldType} {hh : mHT} {n : Nat} (h1 : Cond.initialized y.cls ∈ mAll) (h2 : Cond.codeWith y bytes maxL ret hh ∈ mAll) (h3 : y.cls ≠ "java/lang/invoke/MethodHandle" ∧ y.cls ≠ "java/lang/invoke/VarHandle" ∧ (parseMethodDescriptor y.desc).map (fun d => d.parameters.length) = some n) : mCalH y bytes maxL ret hh n := ⟨h1, h2, h3⟩
section LAWC
variable {z : mZ} {l : Launch} {D : va_G} {cells slots : Nat} {cA : Nat → ClassId} {S : Nat → Nat → Nat} {Xa : XAd} {M : Nat → Nat → Nat} {Inv Inv2 : AState → Prop} {scr sn ou i : Nat} {sf : Nat → Int32} {h : mH} {L5 L6 : Option Value}
theorem lc_set (X : zX z l D cL_law yL_law.cls (mT cA) 8 (some .boolean) room_1 yL_law.name) (hag : Ag l D cA S Xa M Inv Inv2 yX6_set cX6_set 4 .int (rmc 7 3 18) Int32.toInt64 yX7_set_ cX7_set_ 4 .int (rmd 2) [eI, eA] [.int (sf (i + 1)), .int (sf (i + 2)), .int (sf (i + 3))]) (hB : zB z scr sn sf) (hi : i + 6 ≤ sn) (hsn : sn ≤ 3072) (hc : cells + 10 ≤ 603072) (hsl : slots + 13212 ≤ 7202922) (hw : LW cA D S Xa M Inv ou h)
    (nx : ∀ h' L5 L6, LW cA D S Xa M Inv2 ou h' → zM z (cells + 10) (slots + 13212) 2204 [some (.ref scr), some (.ref Xa.1), some (.ref (M 3 0)), some (.ref ou), some (.int (nI i)), L5, L6, none] [] h') : zM z cells slots 180 [some (.ref scr), some (.ref Xa.1), some (.ref (M 3 0)), some (.ref ou), some (.int (nI i)), L5, L6, none] [] h := by
  have f1 : (rmc 8 3 18).cells = 3 := rfl
  have f2 : (rmc 8 3 18).slots = 18 := rfl
  have f3 : (rmd 2).cells = 0 := rfl
  have f4 : (rmd 2).slots = 0 := rfl
  have f5 : (rmd 1).cells = 0 := rfl
  have f6 : (rmd 1).slots = 0 := rfl
  have f7 : room_1.cells = 603072 := rfl
  have f8 : room_1.slots = 7202922 := rfl
  obtain ⟨hs, hr, g, A, th, hp, hI, hW, hR⟩ := hw
  obtain ⟨Q, PX, RO, C6, CE, C7, CJ⟩ := hag A th hs hr hI hW hR
  obtain ⟨fs, hx⟩ := isW_x hW
  have in1 : vp_in (nI i + nI 1) sn := by rw [nI_add]; exact vp_in_nI (by omega) (by omega)
  have in2 : vp_in (nI i + nI 2) sn := by rw [nI_add]; exact vp_in_nI (by omega) (by omega)
  have in3 : vp_in (nI i + nI 3) sn := by rw [nI_add]; exact vp_in_nI (by omega) (by omega)
  have cl1 : (nI i + nI 1).toNatClampNeg = i + 1 := by rw [nI_add]; exact nI_cl (by omega)
  have cl2 : (nI i + nI 2).toNatClampNeg = i + 2 := by rw [nI_add]; exact nI_cl (by omega)
  have cl3 : (nI i + nI 3).toNatClampNeg = i + 3 := by rw [nI_add]; exact nI_cl (by omega)
  refine zi_aload_n X dL_law_180 rfl rfl ?_
  refine zi_aload_n X dL_law_181 rfl rfl ?_
  refine zi_iload X dL_law_182 rfl ?_
  refine zi_iconst (v := (nI 1)) X dL_law_184 (by decide) ?_
  refine zi_iadd X dL_law_185 ?_
  refine zi_sld X hB in1 dL_law_186 ?_
  refine zi_aload_n X dL_law_187 rfl rfl ?_
  refine zi_iload X dL_law_188 rfl ?_
  refine zi_iconst (v := (nI 2)) X dL_law_190 (by decide) ?_
  refine zi_iadd X dL_law_191 ?_
  refine zi_sld X hB in2 dL_law_192 ?_
  refine zi_aload_n X dL_law_193 rfl rfl ?_
  refine zi_iload X dL_law_194 rfl ?_
  refine zi_iconst (v := (nI 3)) X dL_law_196 (by decide) ?_
  refine zi_iadd X dL_law_197 ?_
  refine zi_sld X hB in3 dL_law_198 ?_
  refine zi_aload_n X dL_law_199 rfl rfl ?_
  rw [cl1, cl2, cl3]
  refine zi_hcallSiF X (w_set (g := g) C6 CE hx hp.2.2.2.2.1) (kh_mk (n := 5) win_L wcw_L_set (by decide)) wm_L_114 wst_L_set (LPW_sub hp) ⟨Nat.le_of_ble_eq_true rfl, Nat.le_of_ble_eq_true rfl⟩ rfl rfl (Nat.le_of_ble_eq_true rfl) ⟨by omega, by omega⟩ dL_law_200 (fun k h1 hq hn => ?_)
  obtain ⟨hs1, g1, s1, s2, s3, hq⟩ := hq
  have hp2 := LPW_c hp s1 s2 s3 hn
  generalize mjoin h (mup hs ou (wO (cA 1) g)) h1 = h2 at hp2 ⊢
  obtain ⟨fr, hy⟩ := rW_x hR
  have hy2 := hp2.2.1 _ _ hy
  refine zi_istore X dL_law_203 (by decide) ?_
  refine zi_aload_n X dL_law_205 rfl rfl ?_
  refine zi_aload_n X dL_law_206 rfl rfl ?_
  refine zi_iload X dL_law_207 rfl ?_
  refine zi_iconst (v := (nI 1)) X dL_law_209 (by decide) ?_
  refine zi_iadd X dL_law_210 ?_
  refine zi_sld X hB in1 dL_law_211 ?_
  refine zi_aload_n X dL_law_212 rfl rfl ?_
  refine zi_iload X dL_law_213 rfl ?_
  refine zi_iconst (v := (nI 2)) X dL_law_215 (by decide) ?_
  refine zi_iadd X dL_law_216 ?_
  refine zi_sld X hB in2 dL_law_217 ?_
  refine zi_aload_n X dL_law_218 rfl rfl ?_
  refine zi_iload X dL_law_219 rfl ?_
  refine zi_iconst (v := (nI 3)) X dL_law_221 (by decide) ?_
  refine zi_iadd X dL_law_222 ?_
  refine zi_sld X hB in3 dL_law_223 ?_
  rw [cl1, cl2, cl3]
  refine zi_callViG X C7 kc_X7_set_ wm_L_119 hy2 rfl wim_X7_set_ wse_X7_set_ hp2.2.1 ⟨Nat.le_of_ble_eq_true rfl, Nat.le_of_ble_eq_true rfl⟩ rfl rfl (Nat.le_of_ble_eq_true rfl) ⟨by omega, by omega⟩ dL_law_224 (fun r h3 hro hn3 => ?_)
  obtain ⟨A1, th1, I1, W1, R1, ek, ev⟩ := CJ k (g1 0) hs1 r h3 hq hro
  have hp3 := LPW_r hp2 hn3
  generalize mjoin h2 hr h3 = h4 at hp3 ⊢
  obtain ⟨f3, hz⟩ := rW_x R1
  have hz3 := hp3.2.1 _ _ hz
  have ho3 := hp3.2.2.2.1
  refine zi_istore X dL_law_227 (by decide) ?_
  refine zi_aload_n X dL_law_229 rfl rfl ?_
  refine zi_callViG X (rW_thrown l D R1) kc_X7_thrown wm_L_120 hz3 rfl wim_X7_thrown wse_X7_thrown hp3.2.1 ⟨Nat.le_of_ble_eq_true rfl, Nat.le_of_ble_eq_true rfl⟩ rfl rfl (Nat.le_of_ble_eq_true rfl) ⟨by omega, by omega⟩ dL_law_230 (fun r2 h5 hro2 hn5 => ?_)
  obtain ⟨rfl, rfl⟩ := hro2
  have hp5 := LPW_r hp3 hn5
  have ho5 := hp5.2.2.2.1
  generalize mjoin h4 h5 h5 = h6 at hp5 ho5 ⊢
  refine zi_widen (k := cells + 10) (n := slots + 13212) (by omega) (by omega) ?_
  refine zi_iload X dL_law_233 rfl ?_
  refine zi_icmp_eq (tgt := 240) X dL_law_235 (by decide) (fun c_235 => ?_) (fun c_235 => (by first | exact absurd ek c_235 | exact absurd c_235 ek))
  by_cases k0 : k = 0
  · refine zi_iload X dL_law_240 rfl ?_
    refine zi_if_ne (tgt := 257) X dL_law_242 (by decide) (fun c_242 => (by first | exact absurd (fun q => q k0) c_242 | exact absurd c_242 (fun q => q k0))) (fun c_242 => ?_)
    refine zi_aload_n X dL_law_245 rfl rfl ?_
    refine zi_iconst (v := (nI 0)) X dL_law_246 (by decide) ?_
    refine zi_lald X 1 ho5 rfl (vin (show 0 < 1 by decide) (by decide)) dL_law_247 ?_
    refine zi_iload X dL_law_248 rfl ?_
    refine zi_i2l X dL_law_250 ?_
    refine zi_lcmp X dL_law_251 ?_
    have e0 : lg_cmp (g1 (nI 0).toNatClampNeg) r.toInt64 = 0 := by
      rw [show (nI 0).toNatClampNeg = 0 from rfl, ev k0]
      exact lg_eq _
    refine zi_if_eq (tgt := 257) X dL_law_252 (by decide) (fun c_252 => ?_) (fun c_252 => (by first | exact absurd e0 c_252 | exact absurd c_252 e0))
    refine zi_goto (tgt := 2204) X dL_law_257 (by decide) ?_
    exact nx h6 _ _ ⟨hs1, h5, g1, A1, th1, hp5, I1, W1, R1⟩
  · refine zi_iload X dL_law_240 rfl ?_
    refine zi_if_ne (tgt := 257) X dL_law_242 (by decide) (fun c_242 => ?_) (fun c_242 => (by first | exact absurd k0 c_242 | exact absurd c_242 k0))
    refine zi_goto (tgt := 2204) X dL_law_257 (by decide) ?_
    exact nx h6 _ _ ⟨hs1, h5, g1, A1, th1, hp5, I1, W1, R1⟩
theorem lc_coefficient (X : zX z l D cL_law yL_law.cls (mT cA) 8 (some .boolean) room_1 yL_law.name) (hag : Ag l D cA S Xa M Inv Inv2 yX6_coefficient cX6_coefficient 3 .int (rmc 7 2 12) Int32.toInt64 yX7_coefficient cX7_coefficient 3 .int (rmd 2) [eI] [.int (sf (i + 1)), .int (sf (i + 2))]) (hB : zB z scr sn sf) (hi : i + 6 ≤ sn) (hsn : sn ≤ 3072) (hc : cells + 10 ≤ 603072) (hsl : slots + 13212 ≤ 7202922) (hw : LW cA D S Xa M Inv ou h)
    (nx : ∀ h' L5 L6, LW cA D S Xa M Inv2 ou h' → zM z (cells + 10) (slots + 13212) 2204 [some (.ref scr), some (.ref Xa.1), some (.ref (M 3 0)), some (.ref ou), some (.int (nI i)), L5, L6, none] [] h') : zM z cells slots 260 [some (.ref scr), some (.ref Xa.1), some (.ref (M 3 0)), some (.ref ou), some (.int (nI i)), L5, L6, none] [] h := by
  have f1 : (rmc 8 2 12).cells = 2 := rfl
  have f2 : (rmc 8 2 12).slots = 12 := rfl
  have f3 : (rmd 2).cells = 0 := rfl
  have f4 : (rmd 2).slots = 0 := rfl
  have f5 : (rmd 1).cells = 0 := rfl
  have f6 : (rmd 1).slots = 0 := rfl
  have f7 : room_1.cells = 603072 := rfl
  have f8 : room_1.slots = 7202922 := rfl
  obtain ⟨hs, hr, g, A, th, hp, hI, hW, hR⟩ := hw
  obtain ⟨Q, PX, RO, C6, CE, C7, CJ⟩ := hag A th hs hr hI hW hR
  obtain ⟨fs, hx⟩ := isW_x hW
  have in1 : vp_in (nI i + nI 1) sn := by rw [nI_add]; exact vp_in_nI (by omega) (by omega)
  have in2 : vp_in (nI i + nI 2) sn := by rw [nI_add]; exact vp_in_nI (by omega) (by omega)
  have cl1 : (nI i + nI 1).toNatClampNeg = i + 1 := by rw [nI_add]; exact nI_cl (by omega)
  have cl2 : (nI i + nI 2).toNatClampNeg = i + 2 := by rw [nI_add]; exact nI_cl (by omega)
  refine zi_aload_n X dL_law_260 rfl rfl ?_
  refine zi_aload_n X dL_law_261 rfl rfl ?_
  refine zi_iload X dL_law_262 rfl ?_
  refine zi_iconst (v := (nI 1)) X dL_law_264 (by decide) ?_
  refine zi_iadd X dL_law_265 ?_
  refine zi_sld X hB in1 dL_law_266 ?_
  refine zi_aload_n X dL_law_267 rfl rfl ?_
  refine zi_iload X dL_law_268 rfl ?_
  refine zi_iconst (v := (nI 2)) X dL_law_270 (by decide) ?_
  refine zi_iadd X dL_law_271 ?_
  refine zi_sld X hB in2 dL_law_272 ?_
  refine zi_aload_n X dL_law_273 rfl rfl ?_
  rw [cl1, cl2]
  refine zi_hcallSiF X (w_coefficient (g := g) C6 CE hx hp.2.2.2.2.1) (kh_mk (n := 4) win_L wcw_L_coefficient (by decide)) wm_L_124 wst_L_coefficient (LPW_sub hp) ⟨Nat.le_of_ble_eq_true rfl, Nat.le_of_ble_eq_true rfl⟩ rfl rfl (Nat.le_of_ble_eq_true rfl) ⟨by omega, by omega⟩ dL_law_274 (fun k h1 hq hn => ?_)
  obtain ⟨hs1, g1, s1, s2, s3, hq⟩ := hq
  have hp2 := LPW_c hp s1 s2 s3 hn
  generalize mjoin h (mup hs ou (wO (cA 1) g)) h1 = h2 at hp2 ⊢
  obtain ⟨fr, hy⟩ := rW_x hR
  have hy2 := hp2.2.1 _ _ hy
  refine zi_istore X dL_law_277 (by decide) ?_
  refine zi_aload_n X dL_law_279 rfl rfl ?_
  refine zi_aload_n X dL_law_280 rfl rfl ?_
  refine zi_iload X dL_law_281 rfl ?_
  refine zi_iconst (v := (nI 1)) X dL_law_283 (by decide) ?_
  refine zi_iadd X dL_law_284 ?_
  refine zi_sld X hB in1 dL_law_285 ?_
  refine zi_aload_n X dL_law_286 rfl rfl ?_
  refine zi_iload X dL_law_287 rfl ?_
  refine zi_iconst (v := (nI 2)) X dL_law_289 (by decide) ?_
  refine zi_iadd X dL_law_290 ?_
  refine zi_sld X hB in2 dL_law_291 ?_
  rw [cl1, cl2]
  refine zi_callViG X C7 kc_X7_coefficient wm_L_127 hy2 rfl wim_X7_coefficient wse_X7_coefficient hp2.2.1 ⟨Nat.le_of_ble_eq_true rfl, Nat.le_of_ble_eq_true rfl⟩ rfl rfl (Nat.le_of_ble_eq_true rfl) ⟨by omega, by omega⟩ dL_law_292 (fun r h3 hro hn3 => ?_)
  obtain ⟨A1, th1, I1, W1, R1, ek, ev⟩ := CJ k (g1 0) hs1 r h3 hq hro
  have hp3 := LPW_r hp2 hn3
  generalize mjoin h2 hr h3 = h4 at hp3 ⊢
  obtain ⟨f3, hz⟩ := rW_x R1
  have hz3 := hp3.2.1 _ _ hz
  have ho3 := hp3.2.2.2.1
  refine zi_istore X dL_law_295 (by decide) ?_
  refine zi_aload_n X dL_law_297 rfl rfl ?_
  refine zi_callViG X (rW_thrown l D R1) kc_X7_thrown wm_L_120 hz3 rfl wim_X7_thrown wse_X7_thrown hp3.2.1 ⟨Nat.le_of_ble_eq_true rfl, Nat.le_of_ble_eq_true rfl⟩ rfl rfl (Nat.le_of_ble_eq_true rfl) ⟨by omega, by omega⟩ dL_law_298 (fun r2 h5 hro2 hn5 => ?_)
  obtain ⟨rfl, rfl⟩ := hro2
  have hp5 := LPW_r hp3 hn5
  have ho5 := hp5.2.2.2.1
  generalize mjoin h4 h5 h5 = h6 at hp5 ho5 ⊢
  refine zi_widen (k := cells + 10) (n := slots + 13212) (by omega) (by omega) ?_
  refine zi_iload X dL_law_301 rfl ?_
  refine zi_icmp_eq (tgt := 308) X dL_law_303 (by decide) (fun c_303 => ?_) (fun c_303 => (by first | exact absurd ek c_303 | exact absurd c_303 ek))
  by_cases k0 : k = 0
  · refine zi_iload X dL_law_308 rfl ?_
    refine zi_if_ne (tgt := 325) X dL_law_310 (by decide) (fun c_310 => (by first | exact absurd (fun q => q k0) c_310 | exact absurd c_310 (fun q => q k0))) (fun c_310 => ?_)
    refine zi_aload_n X dL_law_313 rfl rfl ?_
    refine zi_iconst (v := (nI 0)) X dL_law_314 (by decide) ?_
    refine zi_lald X 1 ho5 rfl (vin (show 0 < 1 by decide) (by decide)) dL_law_315 ?_
    refine zi_iload X dL_law_316 rfl ?_
    refine zi_i2l X dL_law_318 ?_
    refine zi_lcmp X dL_law_319 ?_
    have e0 : lg_cmp (g1 (nI 0).toNatClampNeg) r.toInt64 = 0 := by
      rw [show (nI 0).toNatClampNeg = 0 from rfl, ev k0]
      exact lg_eq _
    refine zi_if_eq (tgt := 325) X dL_law_320 (by decide) (fun c_320 => ?_) (fun c_320 => (by first | exact absurd e0 c_320 | exact absurd c_320 e0))
    refine zi_goto (tgt := 2204) X dL_law_325 (by decide) ?_
    exact nx h6 _ _ ⟨hs1, h5, g1, A1, th1, hp5, I1, W1, R1⟩
  · refine zi_iload X dL_law_308 rfl ?_
    refine zi_if_ne (tgt := 325) X dL_law_310 (by decide) (fun c_310 => ?_) (fun c_310 => (by first | exact absurd k0 c_310 | exact absurd c_310 k0))
    refine zi_goto (tgt := 2204) X dL_law_325 (by decide) ?_
    exact nx h6 _ _ ⟨hs1, h5, g1, A1, th1, hp5, I1, W1, R1⟩
theorem lc_degree (X : zX z l D cL_law yL_law.cls (mT cA) 8 (some .boolean) room_1 yL_law.name) (hag : Ag l D cA S Xa M Inv Inv2 yX6_degree cX6_degree 2 .int (rmc 7 1 6) Int32.toInt64 yX7_degree__ cX7_degree__ 2 .int (rmd 2) [eI] [.int (sf (i + 1))]) (hB : zB z scr sn sf) (hi : i + 6 ≤ sn) (hsn : sn ≤ 3072) (hc : cells + 10 ≤ 603072) (hsl : slots + 13212 ≤ 7202922) (hw : LW cA D S Xa M Inv ou h)
    (nx : ∀ h' L5 L6, LW cA D S Xa M Inv2 ou h' → zM z (cells + 10) (slots + 13212) 2204 [some (.ref scr), some (.ref Xa.1), some (.ref (M 3 0)), some (.ref ou), some (.int (nI i)), L5, L6, none] [] h') : zM z cells slots 328 [some (.ref scr), some (.ref Xa.1), some (.ref (M 3 0)), some (.ref ou), some (.int (nI i)), L5, L6, none] [] h := by
  have f1 : (rmc 8 1 6).cells = 1 := rfl
  have f2 : (rmc 8 1 6).slots = 6 := rfl
  have f3 : (rmd 2).cells = 0 := rfl
  have f4 : (rmd 2).slots = 0 := rfl
  have f5 : (rmd 1).cells = 0 := rfl
  have f6 : (rmd 1).slots = 0 := rfl
  have f7 : room_1.cells = 603072 := rfl
  have f8 : room_1.slots = 7202922 := rfl
  obtain ⟨hs, hr, g, A, th, hp, hI, hW, hR⟩ := hw
  obtain ⟨Q, PX, RO, C6, CE, C7, CJ⟩ := hag A th hs hr hI hW hR
  obtain ⟨fs, hx⟩ := isW_x hW
  have in1 : vp_in (nI i + nI 1) sn := by rw [nI_add]; exact vp_in_nI (by omega) (by omega)
  have cl1 : (nI i + nI 1).toNatClampNeg = i + 1 := by rw [nI_add]; exact nI_cl (by omega)
  refine zi_aload_n X dL_law_328 rfl rfl ?_
  refine zi_aload_n X dL_law_329 rfl rfl ?_
  refine zi_iload X dL_law_330 rfl ?_
  refine zi_iconst (v := (nI 1)) X dL_law_332 (by decide) ?_
  refine zi_iadd X dL_law_333 ?_
  refine zi_sld X hB in1 dL_law_334 ?_
  refine zi_aload_n X dL_law_335 rfl rfl ?_
  rw [cl1]
  refine zi_hcallSiF X (w_degree (g := g) C6 CE hx hp.2.2.2.2.1) (kh_mk (n := 3) win_L wcw_L_degree (by decide)) wm_L_128 wst_L_degree (LPW_sub hp) ⟨Nat.le_of_ble_eq_true rfl, Nat.le_of_ble_eq_true rfl⟩ rfl rfl (Nat.le_of_ble_eq_true rfl) ⟨by omega, by omega⟩ dL_law_336 (fun k h1 hq hn => ?_)
  obtain ⟨hs1, g1, s1, s2, s3, hq⟩ := hq
  have hp2 := LPW_c hp s1 s2 s3 hn
  generalize mjoin h (mup hs ou (wO (cA 1) g)) h1 = h2 at hp2 ⊢
  obtain ⟨fr, hy⟩ := rW_x hR
  have hy2 := hp2.2.1 _ _ hy
  refine zi_istore X dL_law_339 (by decide) ?_
  refine zi_aload_n X dL_law_341 rfl rfl ?_
  refine zi_aload_n X dL_law_342 rfl rfl ?_
  refine zi_iload X dL_law_343 rfl ?_
  refine zi_iconst (v := (nI 1)) X dL_law_345 (by decide) ?_
  refine zi_iadd X dL_law_346 ?_
  refine zi_sld X hB in1 dL_law_347 ?_
  rw [cl1]
  refine zi_callViG X C7 kc_X7_degree__ wm_L_131 hy2 rfl wim_X7_degree__ wse_X7_degree__ hp2.2.1 ⟨Nat.le_of_ble_eq_true rfl, Nat.le_of_ble_eq_true rfl⟩ rfl rfl (Nat.le_of_ble_eq_true rfl) ⟨by omega, by omega⟩ dL_law_348 (fun r h3 hro hn3 => ?_)
  obtain ⟨A1, th1, I1, W1, R1, ek, ev⟩ := CJ k (g1 0) hs1 r h3 hq hro
  have hp3 := LPW_r hp2 hn3
  generalize mjoin h2 hr h3 = h4 at hp3 ⊢
  obtain ⟨f3, hz⟩ := rW_x R1
  have hz3 := hp3.2.1 _ _ hz
  have ho3 := hp3.2.2.2.1
  refine zi_istore X dL_law_351 (by decide) ?_
  refine zi_aload_n X dL_law_353 rfl rfl ?_
  refine zi_callViG X (rW_thrown l D R1) kc_X7_thrown wm_L_120 hz3 rfl wim_X7_thrown wse_X7_thrown hp3.2.1 ⟨Nat.le_of_ble_eq_true rfl, Nat.le_of_ble_eq_true rfl⟩ rfl rfl (Nat.le_of_ble_eq_true rfl) ⟨by omega, by omega⟩ dL_law_354 (fun r2 h5 hro2 hn5 => ?_)
  obtain ⟨rfl, rfl⟩ := hro2
  have hp5 := LPW_r hp3 hn5
  have ho5 := hp5.2.2.2.1
  generalize mjoin h4 h5 h5 = h6 at hp5 ho5 ⊢
  refine zi_widen (k := cells + 10) (n := slots + 13212) (by omega) (by omega) ?_
  refine zi_iload X dL_law_357 rfl ?_
  refine zi_icmp_eq (tgt := 364) X dL_law_359 (by decide) (fun c_359 => ?_) (fun c_359 => (by first | exact absurd ek c_359 | exact absurd c_359 ek))
  by_cases k0 : k = 0
  · refine zi_iload X dL_law_364 rfl ?_
    refine zi_if_ne (tgt := 381) X dL_law_366 (by decide) (fun c_366 => (by first | exact absurd (fun q => q k0) c_366 | exact absurd c_366 (fun q => q k0))) (fun c_366 => ?_)
    refine zi_aload_n X dL_law_369 rfl rfl ?_
    refine zi_iconst (v := (nI 0)) X dL_law_370 (by decide) ?_
    refine zi_lald X 1 ho5 rfl (vin (show 0 < 1 by decide) (by decide)) dL_law_371 ?_
    refine zi_iload X dL_law_372 rfl ?_
    refine zi_i2l X dL_law_374 ?_
    refine zi_lcmp X dL_law_375 ?_
    have e0 : lg_cmp (g1 (nI 0).toNatClampNeg) r.toInt64 = 0 := by
      rw [show (nI 0).toNatClampNeg = 0 from rfl, ev k0]
      exact lg_eq _
    refine zi_if_eq (tgt := 381) X dL_law_376 (by decide) (fun c_376 => ?_) (fun c_376 => (by first | exact absurd e0 c_376 | exact absurd c_376 e0))
    refine zi_goto (tgt := 2204) X dL_law_381 (by decide) ?_
    exact nx h6 _ _ ⟨hs1, h5, g1, A1, th1, hp5, I1, W1, R1⟩
  · refine zi_iload X dL_law_364 rfl ?_
    refine zi_if_ne (tgt := 381) X dL_law_366 (by decide) (fun c_366 => ?_) (fun c_366 => (by first | exact absurd k0 c_366 | exact absurd c_366 k0))
    refine zi_goto (tgt := 2204) X dL_law_381 (by decide) ?_
    exact nx h6 _ _ ⟨hs1, h5, g1, A1, th1, hp5, I1, W1, R1⟩
theorem lc_copy (X : zX z l D cL_law yL_law.cls (mT cA) 8 (some .boolean) room_1 yL_law.name) (hag : Ag l D cA S Xa M Inv Inv2 yX6_copy cX6_copy 3 .int (rmc 7 2 12) Int32.toInt64 yX7_copy__ cX7_copy__ 4 .int (rmd 3) [eI] [.int (sf (i + 1)), .int (sf (i + 2))]) (hB : zB z scr sn sf) (hi : i + 6 ≤ sn) (hsn : sn ≤ 3072) (hc : cells + 10 ≤ 603072) (hsl : slots + 13212 ≤ 7202922) (hw : LW cA D S Xa M Inv ou h)
    (nx : ∀ h' L5 L6, LW cA D S Xa M Inv2 ou h' → zM z (cells + 10) (slots + 13212) 2204 [some (.ref scr), some (.ref Xa.1), some (.ref (M 3 0)), some (.ref ou), some (.int (nI i)), L5, L6, none] [] h') : zM z cells slots 384 [some (.ref scr), some (.ref Xa.1), some (.ref (M 3 0)), some (.ref ou), some (.int (nI i)), L5, L6, none] [] h := by
  have f1 : (rmc 8 2 12).cells = 2 := rfl
  have f2 : (rmc 8 2 12).slots = 12 := rfl
  have f3 : (rmd 3).cells = 0 := rfl
  have f4 : (rmd 3).slots = 0 := rfl
  have f5 : (rmd 1).cells = 0 := rfl
  have f6 : (rmd 1).slots = 0 := rfl
  have f7 : room_1.cells = 603072 := rfl
  have f8 : room_1.slots = 7202922 := rfl
  obtain ⟨hs, hr, g, A, th, hp, hI, hW, hR⟩ := hw
  obtain ⟨Q, PX, RO, C6, CE, C7, CJ⟩ := hag A th hs hr hI hW hR
  obtain ⟨fs, hx⟩ := isW_x hW
  have in1 : vp_in (nI i + nI 1) sn := by rw [nI_add]; exact vp_in_nI (by omega) (by omega)
  have in2 : vp_in (nI i + nI 2) sn := by rw [nI_add]; exact vp_in_nI (by omega) (by omega)
  have cl1 : (nI i + nI 1).toNatClampNeg = i + 1 := by rw [nI_add]; exact nI_cl (by omega)
  have cl2 : (nI i + nI 2).toNatClampNeg = i + 2 := by rw [nI_add]; exact nI_cl (by omega)
  refine zi_aload_n X dL_law_384 rfl rfl ?_
  refine zi_aload_n X dL_law_385 rfl rfl ?_
  refine zi_iload X dL_law_386 rfl ?_
  refine zi_iconst (v := (nI 1)) X dL_law_388 (by decide) ?_
  refine zi_iadd X dL_law_389 ?_
  refine zi_sld X hB in1 dL_law_390 ?_
  refine zi_aload_n X dL_law_391 rfl rfl ?_
  refine zi_iload X dL_law_392 rfl ?_
  refine zi_iconst (v := (nI 2)) X dL_law_394 (by decide) ?_
  refine zi_iadd X dL_law_395 ?_
  refine zi_sld X hB in2 dL_law_396 ?_
  refine zi_aload_n X dL_law_397 rfl rfl ?_
  rw [cl1, cl2]
  refine zi_hcallSiF X (w_copy (g := g) C6 CE hx hp.2.2.2.2.1) (kh_mk (n := 4) win_L wcw_L_copy (by decide)) wm_L_132 wst_L_copy (LPW_sub hp) ⟨Nat.le_of_ble_eq_true rfl, Nat.le_of_ble_eq_true rfl⟩ rfl rfl (Nat.le_of_ble_eq_true rfl) ⟨by omega, by omega⟩ dL_law_398 (fun k h1 hq hn => ?_)
  obtain ⟨hs1, g1, s1, s2, s3, hq⟩ := hq
  have hp2 := LPW_c hp s1 s2 s3 hn
  generalize mjoin h (mup hs ou (wO (cA 1) g)) h1 = h2 at hp2 ⊢
  obtain ⟨fr, hy⟩ := rW_x hR
  have hy2 := hp2.2.1 _ _ hy
  refine zi_istore X dL_law_401 (by decide) ?_
  refine zi_aload_n X dL_law_403 rfl rfl ?_
  refine zi_aload_n X dL_law_404 rfl rfl ?_
  refine zi_iload X dL_law_405 rfl ?_
  refine zi_iconst (v := (nI 1)) X dL_law_407 (by decide) ?_
  refine zi_iadd X dL_law_408 ?_
  refine zi_sld X hB in1 dL_law_409 ?_
  refine zi_aload_n X dL_law_410 rfl rfl ?_
  refine zi_iload X dL_law_411 rfl ?_
  refine zi_iconst (v := (nI 2)) X dL_law_413 (by decide) ?_
  refine zi_iadd X dL_law_414 ?_
  refine zi_sld X hB in2 dL_law_415 ?_
  rw [cl1, cl2]
  refine zi_callViG X C7 kc_X7_copy__ wm_L_134 hy2 rfl wim_X7_copy__ wse_X7_copy__ hp2.2.1 ⟨Nat.le_of_ble_eq_true rfl, Nat.le_of_ble_eq_true rfl⟩ rfl rfl (Nat.le_of_ble_eq_true rfl) ⟨by omega, by omega⟩ dL_law_416 (fun r h3 hro hn3 => ?_)
  obtain ⟨A1, th1, I1, W1, R1, ek, ev⟩ := CJ k (g1 0) hs1 r h3 hq hro
  have hp3 := LPW_r hp2 hn3
  generalize mjoin h2 hr h3 = h4 at hp3 ⊢
  obtain ⟨f3, hz⟩ := rW_x R1
  have hz3 := hp3.2.1 _ _ hz
  have ho3 := hp3.2.2.2.1
  refine zi_istore X dL_law_419 (by decide) ?_
  refine zi_aload_n X dL_law_421 rfl rfl ?_
  refine zi_callViG X (rW_thrown l D R1) kc_X7_thrown wm_L_120 hz3 rfl wim_X7_thrown wse_X7_thrown hp3.2.1 ⟨Nat.le_of_ble_eq_true rfl, Nat.le_of_ble_eq_true rfl⟩ rfl rfl (Nat.le_of_ble_eq_true rfl) ⟨by omega, by omega⟩ dL_law_422 (fun r2 h5 hro2 hn5 => ?_)
  obtain ⟨rfl, rfl⟩ := hro2
  have hp5 := LPW_r hp3 hn5
  have ho5 := hp5.2.2.2.1
  generalize mjoin h4 h5 h5 = h6 at hp5 ho5 ⊢
  refine zi_widen (k := cells + 10) (n := slots + 13212) (by omega) (by omega) ?_
  refine zi_iload X dL_law_425 rfl ?_
  refine zi_icmp_eq (tgt := 432) X dL_law_427 (by decide) (fun c_427 => ?_) (fun c_427 => (by first | exact absurd ek c_427 | exact absurd c_427 ek))
  by_cases k0 : k = 0
  · refine zi_iload X dL_law_432 rfl ?_
    refine zi_if_ne (tgt := 449) X dL_law_434 (by decide) (fun c_434 => (by first | exact absurd (fun q => q k0) c_434 | exact absurd c_434 (fun q => q k0))) (fun c_434 => ?_)
    refine zi_aload_n X dL_law_437 rfl rfl ?_
    refine zi_iconst (v := (nI 0)) X dL_law_438 (by decide) ?_
    refine zi_lald X 1 ho5 rfl (vin (show 0 < 1 by decide) (by decide)) dL_law_439 ?_
    refine zi_iload X dL_law_440 rfl ?_
    refine zi_i2l X dL_law_442 ?_
    refine zi_lcmp X dL_law_443 ?_
    have e0 : lg_cmp (g1 (nI 0).toNatClampNeg) r.toInt64 = 0 := by
      rw [show (nI 0).toNatClampNeg = 0 from rfl, ev k0]
      exact lg_eq _
    refine zi_if_eq (tgt := 449) X dL_law_444 (by decide) (fun c_444 => ?_) (fun c_444 => (by first | exact absurd e0 c_444 | exact absurd c_444 e0))
    refine zi_goto (tgt := 2204) X dL_law_449 (by decide) ?_
    exact nx h6 _ _ ⟨hs1, h5, g1, A1, th1, hp5, I1, W1, R1⟩
  · refine zi_iload X dL_law_432 rfl ?_
    refine zi_if_ne (tgt := 449) X dL_law_434 (by decide) (fun c_434 => ?_) (fun c_434 => (by first | exact absurd k0 c_434 | exact absurd c_434 k0))
    refine zi_goto (tgt := 2204) X dL_law_449 (by decide) ?_
    exact nx h6 _ _ ⟨hs1, h5, g1, A1, th1, hp5, I1, W1, R1⟩
theorem lc_add (X : zX z l D cL_law yL_law.cls (mT cA) 8 (some .boolean) room_1 yL_law.name) (hag : Ag l D cA S Xa M Inv Inv2 yX6_add cX6_add 5 .int (rmc 7 4 24) Int32.toInt64 yX7_add_ cX7_add_ 5 .int (rmd 3) [eI, eS] [.int (sf (i + 1)), .int (sf (i + 2)), .int (sf (i + 3))]) (hB : zB z scr sn sf) (hi : i + 6 ≤ sn) (hsn : sn ≤ 3072) (hc : cells + 10 ≤ 603072) (hsl : slots + 13212 ≤ 7202922) (hw : LW cA D S Xa M Inv ou h)
    (nx : ∀ h' L5 L6, LW cA D S Xa M Inv2 ou h' → zM z (cells + 10) (slots + 13212) 2204 [some (.ref scr), some (.ref Xa.1), some (.ref (M 3 0)), some (.ref ou), some (.int (nI i)), L5, L6, none] [] h') : zM z cells slots 452 [some (.ref scr), some (.ref Xa.1), some (.ref (M 3 0)), some (.ref ou), some (.int (nI i)), L5, L6, none] [] h := by
  have f1 : (rmc 8 4 24).cells = 4 := rfl
  have f2 : (rmc 8 4 24).slots = 24 := rfl
  have f3 : (rmd 3).cells = 0 := rfl
  have f4 : (rmd 3).slots = 0 := rfl
  have f5 : (rmd 1).cells = 0 := rfl
  have f6 : (rmd 1).slots = 0 := rfl
  have f7 : room_1.cells = 603072 := rfl
  have f8 : room_1.slots = 7202922 := rfl
  obtain ⟨hs, hr, g, A, th, hp, hI, hW, hR⟩ := hw
  obtain ⟨Q, PX, RO, C6, CE, C7, CJ⟩ := hag A th hs hr hI hW hR
  obtain ⟨fs, hx⟩ := isW_x hW
  have in1 : vp_in (nI i + nI 1) sn := by rw [nI_add]; exact vp_in_nI (by omega) (by omega)
  have in2 : vp_in (nI i + nI 2) sn := by rw [nI_add]; exact vp_in_nI (by omega) (by omega)
  have in3 : vp_in (nI i + nI 3) sn := by rw [nI_add]; exact vp_in_nI (by omega) (by omega)
  have cl1 : (nI i + nI 1).toNatClampNeg = i + 1 := by rw [nI_add]; exact nI_cl (by omega)
  have cl2 : (nI i + nI 2).toNatClampNeg = i + 2 := by rw [nI_add]; exact nI_cl (by omega)
  have cl3 : (nI i + nI 3).toNatClampNeg = i + 3 := by rw [nI_add]; exact nI_cl (by omega)
  refine zi_aload_n X dL_law_452 rfl rfl ?_
  refine zi_aload_n X dL_law_453 rfl rfl ?_
  refine zi_iload X dL_law_454 rfl ?_
  refine zi_iconst (v := (nI 1)) X dL_law_456 (by decide) ?_
  refine zi_iadd X dL_law_457 ?_
  refine zi_sld X hB in1 dL_law_458 ?_
  refine zi_aload_n X dL_law_459 rfl rfl ?_
  refine zi_iload X dL_law_460 rfl ?_
  refine zi_iconst (v := (nI 2)) X dL_law_462 (by decide) ?_
  refine zi_iadd X dL_law_463 ?_
  refine zi_sld X hB in2 dL_law_464 ?_
  refine zi_aload_n X dL_law_465 rfl rfl ?_
  refine zi_iload X dL_law_466 rfl ?_
  refine zi_iconst (v := (nI 3)) X dL_law_468 (by decide) ?_
  refine zi_iadd X dL_law_469 ?_
  refine zi_sld X hB in3 dL_law_470 ?_
  refine zi_aload_n X dL_law_471 rfl rfl ?_
  rw [cl1, cl2, cl3]
  refine zi_hcallSiF X (w_add (g := g) C6 CE hx hp.2.2.2.2.1) (kh_mk (n := 5) win_L wcw_L_add (by decide)) wm_L_135 wst_L_add (LPW_sub hp) ⟨Nat.le_of_ble_eq_true rfl, Nat.le_of_ble_eq_true rfl⟩ rfl rfl (Nat.le_of_ble_eq_true rfl) ⟨by omega, by omega⟩ dL_law_472 (fun k h1 hq hn => ?_)
  obtain ⟨hs1, g1, s1, s2, s3, hq⟩ := hq
  have hp2 := LPW_c hp s1 s2 s3 hn
  generalize mjoin h (mup hs ou (wO (cA 1) g)) h1 = h2 at hp2 ⊢
  obtain ⟨fr, hy⟩ := rW_x hR
  have hy2 := hp2.2.1 _ _ hy
  refine zi_istore X dL_law_475 (by decide) ?_
  refine zi_aload_n X dL_law_477 rfl rfl ?_
  refine zi_aload_n X dL_law_478 rfl rfl ?_
  refine zi_iload X dL_law_479 rfl ?_
  refine zi_iconst (v := (nI 1)) X dL_law_481 (by decide) ?_
  refine zi_iadd X dL_law_482 ?_
  refine zi_sld X hB in1 dL_law_483 ?_
  refine zi_aload_n X dL_law_484 rfl rfl ?_
  refine zi_iload X dL_law_485 rfl ?_
  refine zi_iconst (v := (nI 2)) X dL_law_487 (by decide) ?_
  refine zi_iadd X dL_law_488 ?_
  refine zi_sld X hB in2 dL_law_489 ?_
  refine zi_aload_n X dL_law_490 rfl rfl ?_
  refine zi_iload X dL_law_491 rfl ?_
  refine zi_iconst (v := (nI 3)) X dL_law_493 (by decide) ?_
  refine zi_iadd X dL_law_494 ?_
  refine zi_sld X hB in3 dL_law_495 ?_
  rw [cl1, cl2, cl3]
  refine zi_callViG X C7 kc_X7_add_ wm_L_137 hy2 rfl wim_X7_add_ wse_X7_add_ hp2.2.1 ⟨Nat.le_of_ble_eq_true rfl, Nat.le_of_ble_eq_true rfl⟩ rfl rfl (Nat.le_of_ble_eq_true rfl) ⟨by omega, by omega⟩ dL_law_496 (fun r h3 hro hn3 => ?_)
  obtain ⟨A1, th1, I1, W1, R1, ek, ev⟩ := CJ k (g1 0) hs1 r h3 hq hro
  have hp3 := LPW_r hp2 hn3
  generalize mjoin h2 hr h3 = h4 at hp3 ⊢
  obtain ⟨f3, hz⟩ := rW_x R1
  have hz3 := hp3.2.1 _ _ hz
  have ho3 := hp3.2.2.2.1
  refine zi_istore X dL_law_499 (by decide) ?_
  refine zi_aload_n X dL_law_501 rfl rfl ?_
  refine zi_callViG X (rW_thrown l D R1) kc_X7_thrown wm_L_120 hz3 rfl wim_X7_thrown wse_X7_thrown hp3.2.1 ⟨Nat.le_of_ble_eq_true rfl, Nat.le_of_ble_eq_true rfl⟩ rfl rfl (Nat.le_of_ble_eq_true rfl) ⟨by omega, by omega⟩ dL_law_502 (fun r2 h5 hro2 hn5 => ?_)
  obtain ⟨rfl, rfl⟩ := hro2
  have hp5 := LPW_r hp3 hn5
  have ho5 := hp5.2.2.2.1
  generalize mjoin h4 h5 h5 = h6 at hp5 ho5 ⊢
  refine zi_widen (k := cells + 10) (n := slots + 13212) (by omega) (by omega) ?_
  refine zi_iload X dL_law_505 rfl ?_
  refine zi_icmp_eq (tgt := 512) X dL_law_507 (by decide) (fun c_507 => ?_) (fun c_507 => (by first | exact absurd ek c_507 | exact absurd c_507 ek))
  by_cases k0 : k = 0
  · refine zi_iload X dL_law_512 rfl ?_
    refine zi_if_ne (tgt := 529) X dL_law_514 (by decide) (fun c_514 => (by first | exact absurd (fun q => q k0) c_514 | exact absurd c_514 (fun q => q k0))) (fun c_514 => ?_)
    refine zi_aload_n X dL_law_517 rfl rfl ?_
    refine zi_iconst (v := (nI 0)) X dL_law_518 (by decide) ?_
    refine zi_lald X 1 ho5 rfl (vin (show 0 < 1 by decide) (by decide)) dL_law_519 ?_
    refine zi_iload X dL_law_520 rfl ?_
    refine zi_i2l X dL_law_522 ?_
    refine zi_lcmp X dL_law_523 ?_
    have e0 : lg_cmp (g1 (nI 0).toNatClampNeg) r.toInt64 = 0 := by
      rw [show (nI 0).toNatClampNeg = 0 from rfl, ev k0]
      exact lg_eq _
    refine zi_if_eq (tgt := 529) X dL_law_524 (by decide) (fun c_524 => ?_) (fun c_524 => (by first | exact absurd e0 c_524 | exact absurd c_524 e0))
    refine zi_goto (tgt := 2204) X dL_law_529 (by decide) ?_
    exact nx h6 _ _ ⟨hs1, h5, g1, A1, th1, hp5, I1, W1, R1⟩
  · refine zi_iload X dL_law_512 rfl ?_
    refine zi_if_ne (tgt := 529) X dL_law_514 (by decide) (fun c_514 => ?_) (fun c_514 => (by first | exact absurd k0 c_514 | exact absurd c_514 k0))
    refine zi_goto (tgt := 2204) X dL_law_529 (by decide) ?_
    exact nx h6 _ _ ⟨hs1, h5, g1, A1, th1, hp5, I1, W1, R1⟩
theorem lc_multiply (X : zX z l D cL_law yL_law.cls (mT cA) 8 (some .boolean) room_1 yL_law.name) (hag : Ag l D cA S Xa M Inv Inv2 yX6_multiply cX6_multiply 8 .int (rmc 7 4 24) Int32.toInt64 yX7_multiply_ cX7_multiply_ 6 .int (rmd 3) [eI, eS] [.int (sf (i + 1)), .int (sf (i + 2)), .int (sf (i + 3))]) (hB : zB z scr sn sf) (hi : i + 6 ≤ sn) (hsn : sn ≤ 3072) (hc : cells + 10 ≤ 603072) (hsl : slots + 13212 ≤ 7202922) (hw : LW cA D S Xa M Inv ou h)
    (nx : ∀ h' L5 L6, LW cA D S Xa M Inv2 ou h' → zM z (cells + 10) (slots + 13212) 2204 [some (.ref scr), some (.ref Xa.1), some (.ref (M 3 0)), some (.ref ou), some (.int (nI i)), L5, L6, none] [] h') : zM z cells slots 532 [some (.ref scr), some (.ref Xa.1), some (.ref (M 3 0)), some (.ref ou), some (.int (nI i)), L5, L6, none] [] h := by
  have f1 : (rmc 8 4 24).cells = 4 := rfl
  have f2 : (rmc 8 4 24).slots = 24 := rfl
  have f3 : (rmd 3).cells = 0 := rfl
  have f4 : (rmd 3).slots = 0 := rfl
  have f5 : (rmd 1).cells = 0 := rfl
  have f6 : (rmd 1).slots = 0 := rfl
  have f7 : room_1.cells = 603072 := rfl
  have f8 : room_1.slots = 7202922 := rfl
  obtain ⟨hs, hr, g, A, th, hp, hI, hW, hR⟩ := hw
  obtain ⟨Q, PX, RO, C6, CE, C7, CJ⟩ := hag A th hs hr hI hW hR
  obtain ⟨fs, hx⟩ := isW_x hW
  have in1 : vp_in (nI i + nI 1) sn := by rw [nI_add]; exact vp_in_nI (by omega) (by omega)
  have in2 : vp_in (nI i + nI 2) sn := by rw [nI_add]; exact vp_in_nI (by omega) (by omega)
  have in3 : vp_in (nI i + nI 3) sn := by rw [nI_add]; exact vp_in_nI (by omega) (by omega)
  have cl1 : (nI i + nI 1).toNatClampNeg = i + 1 := by rw [nI_add]; exact nI_cl (by omega)
  have cl2 : (nI i + nI 2).toNatClampNeg = i + 2 := by rw [nI_add]; exact nI_cl (by omega)
  have cl3 : (nI i + nI 3).toNatClampNeg = i + 3 := by rw [nI_add]; exact nI_cl (by omega)
  refine zi_aload_n X dL_law_532 rfl rfl ?_
  refine zi_aload_n X dL_law_533 rfl rfl ?_
  refine zi_iload X dL_law_534 rfl ?_
  refine zi_iconst (v := (nI 1)) X dL_law_536 (by decide) ?_
  refine zi_iadd X dL_law_537 ?_
  refine zi_sld X hB in1 dL_law_538 ?_
  refine zi_aload_n X dL_law_539 rfl rfl ?_
  refine zi_iload X dL_law_540 rfl ?_
  refine zi_iconst (v := (nI 2)) X dL_law_542 (by decide) ?_
  refine zi_iadd X dL_law_543 ?_
  refine zi_sld X hB in2 dL_law_544 ?_
  refine zi_aload_n X dL_law_545 rfl rfl ?_
  refine zi_iload X dL_law_546 rfl ?_
  refine zi_iconst (v := (nI 3)) X dL_law_548 (by decide) ?_
  refine zi_iadd X dL_law_549 ?_
  refine zi_sld X hB in3 dL_law_550 ?_
  refine zi_aload_n X dL_law_551 rfl rfl ?_
  rw [cl1, cl2, cl3]
  refine zi_hcallSiF X (w_multiply (g := g) C6 CE hx hp.2.2.2.2.1) (kh_mk (n := 5) win_L wcw_L_multiply (by decide)) wm_L_138 wst_L_multiply (LPW_sub hp) ⟨Nat.le_of_ble_eq_true rfl, Nat.le_of_ble_eq_true rfl⟩ rfl rfl (Nat.le_of_ble_eq_true rfl) ⟨by omega, by omega⟩ dL_law_552 (fun k h1 hq hn => ?_)
  obtain ⟨hs1, g1, s1, s2, s3, hq⟩ := hq
  have hp2 := LPW_c hp s1 s2 s3 hn
  generalize mjoin h (mup hs ou (wO (cA 1) g)) h1 = h2 at hp2 ⊢
  obtain ⟨fr, hy⟩ := rW_x hR
  have hy2 := hp2.2.1 _ _ hy
  refine zi_istore X dL_law_555 (by decide) ?_
  refine zi_aload_n X dL_law_557 rfl rfl ?_
  refine zi_aload_n X dL_law_558 rfl rfl ?_
  refine zi_iload X dL_law_559 rfl ?_
  refine zi_iconst (v := (nI 1)) X dL_law_561 (by decide) ?_
  refine zi_iadd X dL_law_562 ?_
  refine zi_sld X hB in1 dL_law_563 ?_
  refine zi_aload_n X dL_law_564 rfl rfl ?_
  refine zi_iload X dL_law_565 rfl ?_
  refine zi_iconst (v := (nI 2)) X dL_law_567 (by decide) ?_
  refine zi_iadd X dL_law_568 ?_
  refine zi_sld X hB in2 dL_law_569 ?_
  refine zi_aload_n X dL_law_570 rfl rfl ?_
  refine zi_iload X dL_law_571 rfl ?_
  refine zi_iconst (v := (nI 3)) X dL_law_573 (by decide) ?_
  refine zi_iadd X dL_law_574 ?_
  refine zi_sld X hB in3 dL_law_575 ?_
  rw [cl1, cl2, cl3]
  refine zi_callViG X C7 kc_X7_multiply_ wm_L_140 hy2 rfl wim_X7_multiply_ wse_X7_multiply_ hp2.2.1 ⟨Nat.le_of_ble_eq_true rfl, Nat.le_of_ble_eq_true rfl⟩ rfl rfl (Nat.le_of_ble_eq_true rfl) ⟨by omega, by omega⟩ dL_law_576 (fun r h3 hro hn3 => ?_)
  obtain ⟨A1, th1, I1, W1, R1, ek, ev⟩ := CJ k (g1 0) hs1 r h3 hq hro
  have hp3 := LPW_r hp2 hn3
  generalize mjoin h2 hr h3 = h4 at hp3 ⊢
  obtain ⟨f3, hz⟩ := rW_x R1
  have hz3 := hp3.2.1 _ _ hz
  have ho3 := hp3.2.2.2.1
  refine zi_istore X dL_law_579 (by decide) ?_
  refine zi_aload_n X dL_law_581 rfl rfl ?_
  refine zi_callViG X (rW_thrown l D R1) kc_X7_thrown wm_L_120 hz3 rfl wim_X7_thrown wse_X7_thrown hp3.2.1 ⟨Nat.le_of_ble_eq_true rfl, Nat.le_of_ble_eq_true rfl⟩ rfl rfl (Nat.le_of_ble_eq_true rfl) ⟨by omega, by omega⟩ dL_law_582 (fun r2 h5 hro2 hn5 => ?_)
  obtain ⟨rfl, rfl⟩ := hro2
  have hp5 := LPW_r hp3 hn5
  have ho5 := hp5.2.2.2.1
  generalize mjoin h4 h5 h5 = h6 at hp5 ho5 ⊢
  refine zi_widen (k := cells + 10) (n := slots + 13212) (by omega) (by omega) ?_
  refine zi_iload X dL_law_585 rfl ?_
  refine zi_icmp_eq (tgt := 592) X dL_law_587 (by decide) (fun c_587 => ?_) (fun c_587 => (by first | exact absurd ek c_587 | exact absurd c_587 ek))
  by_cases k0 : k = 0
  · refine zi_iload X dL_law_592 rfl ?_
    refine zi_if_ne (tgt := 609) X dL_law_594 (by decide) (fun c_594 => (by first | exact absurd (fun q => q k0) c_594 | exact absurd c_594 (fun q => q k0))) (fun c_594 => ?_)
    refine zi_aload_n X dL_law_597 rfl rfl ?_
    refine zi_iconst (v := (nI 0)) X dL_law_598 (by decide) ?_
    refine zi_lald X 1 ho5 rfl (vin (show 0 < 1 by decide) (by decide)) dL_law_599 ?_
    refine zi_iload X dL_law_600 rfl ?_
    refine zi_i2l X dL_law_602 ?_
    refine zi_lcmp X dL_law_603 ?_
    have e0 : lg_cmp (g1 (nI 0).toNatClampNeg) r.toInt64 = 0 := by
      rw [show (nI 0).toNatClampNeg = 0 from rfl, ev k0]
      exact lg_eq _
    refine zi_if_eq (tgt := 609) X dL_law_604 (by decide) (fun c_604 => ?_) (fun c_604 => (by first | exact absurd e0 c_604 | exact absurd c_604 e0))
    refine zi_goto (tgt := 2204) X dL_law_609 (by decide) ?_
    exact nx h6 _ _ ⟨hs1, h5, g1, A1, th1, hp5, I1, W1, R1⟩
  · refine zi_iload X dL_law_592 rfl ?_
    refine zi_if_ne (tgt := 609) X dL_law_594 (by decide) (fun c_594 => ?_) (fun c_594 => (by first | exact absurd k0 c_594 | exact absurd c_594 k0))
    refine zi_goto (tgt := 2204) X dL_law_609 (by decide) ?_
    exact nx h6 _ _ ⟨hs1, h5, g1, A1, th1, hp5, I1, W1, R1⟩
theorem lc_derivative (X : zX z l D cL_law yL_law.cls (mT cA) 8 (some .boolean) room_1 yL_law.name) (hag : Ag l D cA S Xa M Inv Inv2 yX6_derivative cX6_derivative 4 .int (rmc 7 3 18) Int32.toInt64 yX7_derivative cX7_derivative 4 .int (rmd 3) [eI, eS] [.int (sf (i + 1)), .int (sf (i + 2))]) (hB : zB z scr sn sf) (hi : i + 6 ≤ sn) (hsn : sn ≤ 3072) (hc : cells + 10 ≤ 603072) (hsl : slots + 13212 ≤ 7202922) (hw : LW cA D S Xa M Inv ou h)
    (nx : ∀ h' L5 L6, LW cA D S Xa M Inv2 ou h' → zM z (cells + 10) (slots + 13212) 2204 [some (.ref scr), some (.ref Xa.1), some (.ref (M 3 0)), some (.ref ou), some (.int (nI i)), L5, L6, none] [] h') : zM z cells slots 612 [some (.ref scr), some (.ref Xa.1), some (.ref (M 3 0)), some (.ref ou), some (.int (nI i)), L5, L6, none] [] h := by
  have f1 : (rmc 8 3 18).cells = 3 := rfl
  have f2 : (rmc 8 3 18).slots = 18 := rfl
  have f3 : (rmd 3).cells = 0 := rfl
  have f4 : (rmd 3).slots = 0 := rfl
  have f5 : (rmd 1).cells = 0 := rfl
  have f6 : (rmd 1).slots = 0 := rfl
  have f7 : room_1.cells = 603072 := rfl
  have f8 : room_1.slots = 7202922 := rfl
  obtain ⟨hs, hr, g, A, th, hp, hI, hW, hR⟩ := hw
  obtain ⟨Q, PX, RO, C6, CE, C7, CJ⟩ := hag A th hs hr hI hW hR
  obtain ⟨fs, hx⟩ := isW_x hW
  have in1 : vp_in (nI i + nI 1) sn := by rw [nI_add]; exact vp_in_nI (by omega) (by omega)
  have in2 : vp_in (nI i + nI 2) sn := by rw [nI_add]; exact vp_in_nI (by omega) (by omega)
  have cl1 : (nI i + nI 1).toNatClampNeg = i + 1 := by rw [nI_add]; exact nI_cl (by omega)
  have cl2 : (nI i + nI 2).toNatClampNeg = i + 2 := by rw [nI_add]; exact nI_cl (by omega)
  refine zi_aload_n X dL_law_612 rfl rfl ?_
  refine zi_aload_n X dL_law_613 rfl rfl ?_
  refine zi_iload X dL_law_614 rfl ?_
  refine zi_iconst (v := (nI 1)) X dL_law_616 (by decide) ?_
  refine zi_iadd X dL_law_617 ?_
  refine zi_sld X hB in1 dL_law_618 ?_
  refine zi_aload_n X dL_law_619 rfl rfl ?_
  refine zi_iload X dL_law_620 rfl ?_
  refine zi_iconst (v := (nI 2)) X dL_law_622 (by decide) ?_
  refine zi_iadd X dL_law_623 ?_
  refine zi_sld X hB in2 dL_law_624 ?_
  refine zi_aload_n X dL_law_625 rfl rfl ?_
  rw [cl1, cl2]
  refine zi_hcallSiF X (w_derivative (g := g) C6 CE hx hp.2.2.2.2.1) (kh_mk (n := 4) win_L wcw_L_derivative (by decide)) wm_L_141 wst_L_derivative (LPW_sub hp) ⟨Nat.le_of_ble_eq_true rfl, Nat.le_of_ble_eq_true rfl⟩ rfl rfl (Nat.le_of_ble_eq_true rfl) ⟨by omega, by omega⟩ dL_law_626 (fun k h1 hq hn => ?_)
  obtain ⟨hs1, g1, s1, s2, s3, hq⟩ := hq
  have hp2 := LPW_c hp s1 s2 s3 hn
  generalize mjoin h (mup hs ou (wO (cA 1) g)) h1 = h2 at hp2 ⊢
  obtain ⟨fr, hy⟩ := rW_x hR
  have hy2 := hp2.2.1 _ _ hy
  refine zi_istore X dL_law_629 (by decide) ?_
  refine zi_aload_n X dL_law_631 rfl rfl ?_
  refine zi_aload_n X dL_law_632 rfl rfl ?_
  refine zi_iload X dL_law_633 rfl ?_
  refine zi_iconst (v := (nI 1)) X dL_law_635 (by decide) ?_
  refine zi_iadd X dL_law_636 ?_
  refine zi_sld X hB in1 dL_law_637 ?_
  refine zi_aload_n X dL_law_638 rfl rfl ?_
  refine zi_iload X dL_law_639 rfl ?_
  refine zi_iconst (v := (nI 2)) X dL_law_641 (by decide) ?_
  refine zi_iadd X dL_law_642 ?_
  refine zi_sld X hB in2 dL_law_643 ?_
  rw [cl1, cl2]
  refine zi_callViG X C7 kc_X7_derivative wm_L_143 hy2 rfl wim_X7_derivative wse_X7_derivative hp2.2.1 ⟨Nat.le_of_ble_eq_true rfl, Nat.le_of_ble_eq_true rfl⟩ rfl rfl (Nat.le_of_ble_eq_true rfl) ⟨by omega, by omega⟩ dL_law_644 (fun r h3 hro hn3 => ?_)
  obtain ⟨A1, th1, I1, W1, R1, ek, ev⟩ := CJ k (g1 0) hs1 r h3 hq hro
  have hp3 := LPW_r hp2 hn3
  generalize mjoin h2 hr h3 = h4 at hp3 ⊢
  obtain ⟨f3, hz⟩ := rW_x R1
  have hz3 := hp3.2.1 _ _ hz
  have ho3 := hp3.2.2.2.1
  refine zi_istore X dL_law_647 (by decide) ?_
  refine zi_aload_n X dL_law_649 rfl rfl ?_
  refine zi_callViG X (rW_thrown l D R1) kc_X7_thrown wm_L_120 hz3 rfl wim_X7_thrown wse_X7_thrown hp3.2.1 ⟨Nat.le_of_ble_eq_true rfl, Nat.le_of_ble_eq_true rfl⟩ rfl rfl (Nat.le_of_ble_eq_true rfl) ⟨by omega, by omega⟩ dL_law_650 (fun r2 h5 hro2 hn5 => ?_)
  obtain ⟨rfl, rfl⟩ := hro2
  have hp5 := LPW_r hp3 hn5
  have ho5 := hp5.2.2.2.1
  generalize mjoin h4 h5 h5 = h6 at hp5 ho5 ⊢
  refine zi_widen (k := cells + 10) (n := slots + 13212) (by omega) (by omega) ?_
  refine zi_iload X dL_law_653 rfl ?_
  refine zi_icmp_eq (tgt := 660) X dL_law_655 (by decide) (fun c_655 => ?_) (fun c_655 => (by first | exact absurd ek c_655 | exact absurd c_655 ek))
  by_cases k0 : k = 0
  · refine zi_iload X dL_law_660 rfl ?_
    refine zi_if_ne (tgt := 677) X dL_law_662 (by decide) (fun c_662 => (by first | exact absurd (fun q => q k0) c_662 | exact absurd c_662 (fun q => q k0))) (fun c_662 => ?_)
    refine zi_aload_n X dL_law_665 rfl rfl ?_
    refine zi_iconst (v := (nI 0)) X dL_law_666 (by decide) ?_
    refine zi_lald X 1 ho5 rfl (vin (show 0 < 1 by decide) (by decide)) dL_law_667 ?_
    refine zi_iload X dL_law_668 rfl ?_
    refine zi_i2l X dL_law_670 ?_
    refine zi_lcmp X dL_law_671 ?_
    have e0 : lg_cmp (g1 (nI 0).toNatClampNeg) r.toInt64 = 0 := by
      rw [show (nI 0).toNatClampNeg = 0 from rfl, ev k0]
      exact lg_eq _
    refine zi_if_eq (tgt := 677) X dL_law_672 (by decide) (fun c_672 => ?_) (fun c_672 => (by first | exact absurd e0 c_672 | exact absurd c_672 e0))
    refine zi_goto (tgt := 2204) X dL_law_677 (by decide) ?_
    exact nx h6 _ _ ⟨hs1, h5, g1, A1, th1, hp5, I1, W1, R1⟩
  · refine zi_iload X dL_law_660 rfl ?_
    refine zi_if_ne (tgt := 677) X dL_law_662 (by decide) (fun c_662 => ?_) (fun c_662 => (by first | exact absurd k0 c_662 | exact absurd c_662 k0))
    refine zi_goto (tgt := 2204) X dL_law_677 (by decide) ?_
    exact nx h6 _ _ ⟨hs1, h5, g1, A1, th1, hp5, I1, W1, R1⟩
theorem lc_shift (X : zX z l D cL_law yL_law.cls (mT cA) 8 (some .boolean) room_1 yL_law.name) (hag : Ag l D cA S Xa M Inv Inv2 yX6_shift cX6_shift 6 .int (rmc 7 3 18) Int32.toInt64 yX7_shift cX7_shift 6 .int (rmd 3) [eI, eA, eS] [.int (sf (i + 1)), .int (sf (i + 2)), .int (sf (i + 3))]) (hB : zB z scr sn sf) (hi : i + 6 ≤ sn) (hsn : sn ≤ 3072) (hc : cells + 10 ≤ 603072) (hsl : slots + 13212 ≤ 7202922) (hw : LW cA D S Xa M Inv ou h)
    (nx : ∀ h' L5 L6, LW cA D S Xa M Inv2 ou h' → zM z (cells + 10) (slots + 13212) 2204 [some (.ref scr), some (.ref Xa.1), some (.ref (M 3 0)), some (.ref ou), some (.int (nI i)), L5, L6, none] [] h') : zM z cells slots 680 [some (.ref scr), some (.ref Xa.1), some (.ref (M 3 0)), some (.ref ou), some (.int (nI i)), L5, L6, none] [] h := by
  have f1 : (rmc 8 3 18).cells = 3 := rfl
  have f2 : (rmc 8 3 18).slots = 18 := rfl
  have f3 : (rmd 3).cells = 0 := rfl
  have f4 : (rmd 3).slots = 0 := rfl
  have f5 : (rmd 1).cells = 0 := rfl
  have f6 : (rmd 1).slots = 0 := rfl
  have f7 : room_1.cells = 603072 := rfl
  have f8 : room_1.slots = 7202922 := rfl
  obtain ⟨hs, hr, g, A, th, hp, hI, hW, hR⟩ := hw
  obtain ⟨Q, PX, RO, C6, CE, C7, CJ⟩ := hag A th hs hr hI hW hR
  obtain ⟨fs, hx⟩ := isW_x hW
  have in1 : vp_in (nI i + nI 1) sn := by rw [nI_add]; exact vp_in_nI (by omega) (by omega)
  have in2 : vp_in (nI i + nI 2) sn := by rw [nI_add]; exact vp_in_nI (by omega) (by omega)
  have in3 : vp_in (nI i + nI 3) sn := by rw [nI_add]; exact vp_in_nI (by omega) (by omega)
  have cl1 : (nI i + nI 1).toNatClampNeg = i + 1 := by rw [nI_add]; exact nI_cl (by omega)
  have cl2 : (nI i + nI 2).toNatClampNeg = i + 2 := by rw [nI_add]; exact nI_cl (by omega)
  have cl3 : (nI i + nI 3).toNatClampNeg = i + 3 := by rw [nI_add]; exact nI_cl (by omega)
  refine zi_aload_n X dL_law_680 rfl rfl ?_
  refine zi_aload_n X dL_law_681 rfl rfl ?_
  refine zi_iload X dL_law_682 rfl ?_
  refine zi_iconst (v := (nI 1)) X dL_law_684 (by decide) ?_
  refine zi_iadd X dL_law_685 ?_
  refine zi_sld X hB in1 dL_law_686 ?_
  refine zi_aload_n X dL_law_687 rfl rfl ?_
  refine zi_iload X dL_law_688 rfl ?_
  refine zi_iconst (v := (nI 2)) X dL_law_690 (by decide) ?_
  refine zi_iadd X dL_law_691 ?_
  refine zi_sld X hB in2 dL_law_692 ?_
  refine zi_aload_n X dL_law_693 rfl rfl ?_
  refine zi_iload X dL_law_694 rfl ?_
  refine zi_iconst (v := (nI 3)) X dL_law_696 (by decide) ?_
  refine zi_iadd X dL_law_697 ?_
  refine zi_sld X hB in3 dL_law_698 ?_
  refine zi_aload_n X dL_law_699 rfl rfl ?_
  rw [cl1, cl2, cl3]
  refine zi_hcallSiF X (w_shift (g := g) C6 CE hx hp.2.2.2.2.1) (kh_mk (n := 5) win_L wcw_L_shift (by decide)) wm_L_144 wst_L_shift (LPW_sub hp) ⟨Nat.le_of_ble_eq_true rfl, Nat.le_of_ble_eq_true rfl⟩ rfl rfl (Nat.le_of_ble_eq_true rfl) ⟨by omega, by omega⟩ dL_law_700 (fun k h1 hq hn => ?_)
  obtain ⟨hs1, g1, s1, s2, s3, hq⟩ := hq
  have hp2 := LPW_c hp s1 s2 s3 hn
  generalize mjoin h (mup hs ou (wO (cA 1) g)) h1 = h2 at hp2 ⊢
  obtain ⟨fr, hy⟩ := rW_x hR
  have hy2 := hp2.2.1 _ _ hy
  refine zi_istore X dL_law_703 (by decide) ?_
  refine zi_aload_n X dL_law_705 rfl rfl ?_
  refine zi_aload_n X dL_law_706 rfl rfl ?_
  refine zi_iload X dL_law_707 rfl ?_
  refine zi_iconst (v := (nI 1)) X dL_law_709 (by decide) ?_
  refine zi_iadd X dL_law_710 ?_
  refine zi_sld X hB in1 dL_law_711 ?_
  refine zi_aload_n X dL_law_712 rfl rfl ?_
  refine zi_iload X dL_law_713 rfl ?_
  refine zi_iconst (v := (nI 2)) X dL_law_715 (by decide) ?_
  refine zi_iadd X dL_law_716 ?_
  refine zi_sld X hB in2 dL_law_717 ?_
  refine zi_aload_n X dL_law_718 rfl rfl ?_
  refine zi_iload X dL_law_719 rfl ?_
  refine zi_iconst (v := (nI 3)) X dL_law_721 (by decide) ?_
  refine zi_iadd X dL_law_722 ?_
  refine zi_sld X hB in3 dL_law_723 ?_
  rw [cl1, cl2, cl3]
  refine zi_callViG X C7 kc_X7_shift wm_L_146 hy2 rfl wim_X7_shift wse_X7_shift hp2.2.1 ⟨Nat.le_of_ble_eq_true rfl, Nat.le_of_ble_eq_true rfl⟩ rfl rfl (Nat.le_of_ble_eq_true rfl) ⟨by omega, by omega⟩ dL_law_724 (fun r h3 hro hn3 => ?_)
  obtain ⟨A1, th1, I1, W1, R1, ek, ev⟩ := CJ k (g1 0) hs1 r h3 hq hro
  have hp3 := LPW_r hp2 hn3
  generalize mjoin h2 hr h3 = h4 at hp3 ⊢
  obtain ⟨f3, hz⟩ := rW_x R1
  have hz3 := hp3.2.1 _ _ hz
  have ho3 := hp3.2.2.2.1
  refine zi_istore X dL_law_727 (by decide) ?_
  refine zi_aload_n X dL_law_729 rfl rfl ?_
  refine zi_callViG X (rW_thrown l D R1) kc_X7_thrown wm_L_120 hz3 rfl wim_X7_thrown wse_X7_thrown hp3.2.1 ⟨Nat.le_of_ble_eq_true rfl, Nat.le_of_ble_eq_true rfl⟩ rfl rfl (Nat.le_of_ble_eq_true rfl) ⟨by omega, by omega⟩ dL_law_730 (fun r2 h5 hro2 hn5 => ?_)
  obtain ⟨rfl, rfl⟩ := hro2
  have hp5 := LPW_r hp3 hn5
  have ho5 := hp5.2.2.2.1
  generalize mjoin h4 h5 h5 = h6 at hp5 ho5 ⊢
  refine zi_widen (k := cells + 10) (n := slots + 13212) (by omega) (by omega) ?_
  refine zi_iload X dL_law_733 rfl ?_
  refine zi_icmp_eq (tgt := 740) X dL_law_735 (by decide) (fun c_735 => ?_) (fun c_735 => (by first | exact absurd ek c_735 | exact absurd c_735 ek))
  by_cases k0 : k = 0
  · refine zi_iload X dL_law_740 rfl ?_
    refine zi_if_ne (tgt := 757) X dL_law_742 (by decide) (fun c_742 => (by first | exact absurd (fun q => q k0) c_742 | exact absurd c_742 (fun q => q k0))) (fun c_742 => ?_)
    refine zi_aload_n X dL_law_745 rfl rfl ?_
    refine zi_iconst (v := (nI 0)) X dL_law_746 (by decide) ?_
    refine zi_lald X 1 ho5 rfl (vin (show 0 < 1 by decide) (by decide)) dL_law_747 ?_
    refine zi_iload X dL_law_748 rfl ?_
    refine zi_i2l X dL_law_750 ?_
    refine zi_lcmp X dL_law_751 ?_
    have e0 : lg_cmp (g1 (nI 0).toNatClampNeg) r.toInt64 = 0 := by
      rw [show (nI 0).toNatClampNeg = 0 from rfl, ev k0]
      exact lg_eq _
    refine zi_if_eq (tgt := 757) X dL_law_752 (by decide) (fun c_752 => ?_) (fun c_752 => (by first | exact absurd e0 c_752 | exact absurd c_752 e0))
    refine zi_goto (tgt := 2204) X dL_law_757 (by decide) ?_
    exact nx h6 _ _ ⟨hs1, h5, g1, A1, th1, hp5, I1, W1, R1⟩
  · refine zi_iload X dL_law_740 rfl ?_
    refine zi_if_ne (tgt := 757) X dL_law_742 (by decide) (fun c_742 => ?_) (fun c_742 => (by first | exact absurd k0 c_742 | exact absurd c_742 k0))
    refine zi_goto (tgt := 2204) X dL_law_757 (by decide) ?_
    exact nx h6 _ _ ⟨hs1, h5, g1, A1, th1, hp5, I1, W1, R1⟩
theorem lc_reflect (X : zX z l D cL_law yL_law.cls (mT cA) 8 (some .boolean) room_1 yL_law.name) (hag : Ag l D cA S Xa M Inv Inv2 yX6_reflect cX6_reflect 4 .int (rmc 7 2 12) Int32.toInt64 yX7_reflect cX7_reflect 4 .int (rmd 3) [eI] [.int (sf (i + 1)), .int (sf (i + 2))]) (hB : zB z scr sn sf) (hi : i + 6 ≤ sn) (hsn : sn ≤ 3072) (hc : cells + 10 ≤ 603072) (hsl : slots + 13212 ≤ 7202922) (hw : LW cA D S Xa M Inv ou h)
    (nx : ∀ h' L5 L6, LW cA D S Xa M Inv2 ou h' → zM z (cells + 10) (slots + 13212) 2204 [some (.ref scr), some (.ref Xa.1), some (.ref (M 3 0)), some (.ref ou), some (.int (nI i)), L5, L6, none] [] h') : zM z cells slots 760 [some (.ref scr), some (.ref Xa.1), some (.ref (M 3 0)), some (.ref ou), some (.int (nI i)), L5, L6, none] [] h := by
  have f1 : (rmc 8 2 12).cells = 2 := rfl
  have f2 : (rmc 8 2 12).slots = 12 := rfl
  have f3 : (rmd 3).cells = 0 := rfl
  have f4 : (rmd 3).slots = 0 := rfl
  have f5 : (rmd 1).cells = 0 := rfl
  have f6 : (rmd 1).slots = 0 := rfl
  have f7 : room_1.cells = 603072 := rfl
  have f8 : room_1.slots = 7202922 := rfl
  obtain ⟨hs, hr, g, A, th, hp, hI, hW, hR⟩ := hw
  obtain ⟨Q, PX, RO, C6, CE, C7, CJ⟩ := hag A th hs hr hI hW hR
  obtain ⟨fs, hx⟩ := isW_x hW
  have in1 : vp_in (nI i + nI 1) sn := by rw [nI_add]; exact vp_in_nI (by omega) (by omega)
  have in2 : vp_in (nI i + nI 2) sn := by rw [nI_add]; exact vp_in_nI (by omega) (by omega)
  have cl1 : (nI i + nI 1).toNatClampNeg = i + 1 := by rw [nI_add]; exact nI_cl (by omega)
  have cl2 : (nI i + nI 2).toNatClampNeg = i + 2 := by rw [nI_add]; exact nI_cl (by omega)
  refine zi_aload_n X dL_law_760 rfl rfl ?_
  refine zi_aload_n X dL_law_761 rfl rfl ?_
  refine zi_iload X dL_law_762 rfl ?_
  refine zi_iconst (v := (nI 1)) X dL_law_764 (by decide) ?_
  refine zi_iadd X dL_law_765 ?_
  refine zi_sld X hB in1 dL_law_766 ?_
  refine zi_aload_n X dL_law_767 rfl rfl ?_
  refine zi_iload X dL_law_768 rfl ?_
  refine zi_iconst (v := (nI 2)) X dL_law_770 (by decide) ?_
  refine zi_iadd X dL_law_771 ?_
  refine zi_sld X hB in2 dL_law_772 ?_
  refine zi_aload_n X dL_law_773 rfl rfl ?_
  rw [cl1, cl2]
  refine zi_hcallSiF X (w_reflect (g := g) C6 CE hx hp.2.2.2.2.1) (kh_mk (n := 4) win_L wcw_L_reflect (by decide)) wm_L_147 wst_L_reflect (LPW_sub hp) ⟨Nat.le_of_ble_eq_true rfl, Nat.le_of_ble_eq_true rfl⟩ rfl rfl (Nat.le_of_ble_eq_true rfl) ⟨by omega, by omega⟩ dL_law_774 (fun k h1 hq hn => ?_)
  obtain ⟨hs1, g1, s1, s2, s3, hq⟩ := hq
  have hp2 := LPW_c hp s1 s2 s3 hn
  generalize mjoin h (mup hs ou (wO (cA 1) g)) h1 = h2 at hp2 ⊢
  obtain ⟨fr, hy⟩ := rW_x hR
  have hy2 := hp2.2.1 _ _ hy
  refine zi_istore X dL_law_777 (by decide) ?_
  refine zi_aload_n X dL_law_779 rfl rfl ?_
  refine zi_aload_n X dL_law_780 rfl rfl ?_
  refine zi_iload X dL_law_781 rfl ?_
  refine zi_iconst (v := (nI 1)) X dL_law_783 (by decide) ?_
  refine zi_iadd X dL_law_784 ?_
  refine zi_sld X hB in1 dL_law_785 ?_
  refine zi_aload_n X dL_law_786 rfl rfl ?_
  refine zi_iload X dL_law_787 rfl ?_
  refine zi_iconst (v := (nI 2)) X dL_law_789 (by decide) ?_
  refine zi_iadd X dL_law_790 ?_
  refine zi_sld X hB in2 dL_law_791 ?_
  rw [cl1, cl2]
  refine zi_callViG X C7 kc_X7_reflect wm_L_149 hy2 rfl wim_X7_reflect wse_X7_reflect hp2.2.1 ⟨Nat.le_of_ble_eq_true rfl, Nat.le_of_ble_eq_true rfl⟩ rfl rfl (Nat.le_of_ble_eq_true rfl) ⟨by omega, by omega⟩ dL_law_792 (fun r h3 hro hn3 => ?_)
  obtain ⟨A1, th1, I1, W1, R1, ek, ev⟩ := CJ k (g1 0) hs1 r h3 hq hro
  have hp3 := LPW_r hp2 hn3
  generalize mjoin h2 hr h3 = h4 at hp3 ⊢
  obtain ⟨f3, hz⟩ := rW_x R1
  have hz3 := hp3.2.1 _ _ hz
  have ho3 := hp3.2.2.2.1
  refine zi_istore X dL_law_795 (by decide) ?_
  refine zi_aload_n X dL_law_797 rfl rfl ?_
  refine zi_callViG X (rW_thrown l D R1) kc_X7_thrown wm_L_120 hz3 rfl wim_X7_thrown wse_X7_thrown hp3.2.1 ⟨Nat.le_of_ble_eq_true rfl, Nat.le_of_ble_eq_true rfl⟩ rfl rfl (Nat.le_of_ble_eq_true rfl) ⟨by omega, by omega⟩ dL_law_798 (fun r2 h5 hro2 hn5 => ?_)
  obtain ⟨rfl, rfl⟩ := hro2
  have hp5 := LPW_r hp3 hn5
  have ho5 := hp5.2.2.2.1
  generalize mjoin h4 h5 h5 = h6 at hp5 ho5 ⊢
  refine zi_widen (k := cells + 10) (n := slots + 13212) (by omega) (by omega) ?_
  refine zi_iload X dL_law_801 rfl ?_
  refine zi_icmp_eq (tgt := 808) X dL_law_803 (by decide) (fun c_803 => ?_) (fun c_803 => (by first | exact absurd ek c_803 | exact absurd c_803 ek))
  by_cases k0 : k = 0
  · refine zi_iload X dL_law_808 rfl ?_
    refine zi_if_ne (tgt := 825) X dL_law_810 (by decide) (fun c_810 => (by first | exact absurd (fun q => q k0) c_810 | exact absurd c_810 (fun q => q k0))) (fun c_810 => ?_)
    refine zi_aload_n X dL_law_813 rfl rfl ?_
    refine zi_iconst (v := (nI 0)) X dL_law_814 (by decide) ?_
    refine zi_lald X 1 ho5 rfl (vin (show 0 < 1 by decide) (by decide)) dL_law_815 ?_
    refine zi_iload X dL_law_816 rfl ?_
    refine zi_i2l X dL_law_818 ?_
    refine zi_lcmp X dL_law_819 ?_
    have e0 : lg_cmp (g1 (nI 0).toNatClampNeg) r.toInt64 = 0 := by
      rw [show (nI 0).toNatClampNeg = 0 from rfl, ev k0]
      exact lg_eq _
    refine zi_if_eq (tgt := 825) X dL_law_820 (by decide) (fun c_820 => ?_) (fun c_820 => (by first | exact absurd e0 c_820 | exact absurd c_820 e0))
    refine zi_goto (tgt := 2204) X dL_law_825 (by decide) ?_
    exact nx h6 _ _ ⟨hs1, h5, g1, A1, th1, hp5, I1, W1, R1⟩
  · refine zi_iload X dL_law_808 rfl ?_
    refine zi_if_ne (tgt := 825) X dL_law_810 (by decide) (fun c_810 => ?_) (fun c_810 => (by first | exact absurd k0 c_810 | exact absurd c_810 k0))
    refine zi_goto (tgt := 2204) X dL_law_825 (by decide) ?_
    exact nx h6 _ _ ⟨hs1, h5, g1, A1, th1, hp5, I1, W1, R1⟩
theorem lc_scale (X : zX z l D cL_law yL_law.cls (mT cA) 8 (some .boolean) room_1 yL_law.name) (hag : Ag l D cA S Xa M Inv Inv2 yX6_scale cX6_scale 7 .int (rmc 7 3 18) Int32.toInt64 yX7_scale cX7_scale 7 .int (rmd 3) [eI, eA, eS] [.int (sf (i + 1)), .int (sf (i + 2)), .int (sf (i + 3))]) (hB : zB z scr sn sf) (hi : i + 6 ≤ sn) (hsn : sn ≤ 3072) (hc : cells + 10 ≤ 603072) (hsl : slots + 13212 ≤ 7202922) (hw : LW cA D S Xa M Inv ou h)
    (nx : ∀ h' L5 L6, LW cA D S Xa M Inv2 ou h' → zM z (cells + 10) (slots + 13212) 2204 [some (.ref scr), some (.ref Xa.1), some (.ref (M 3 0)), some (.ref ou), some (.int (nI i)), L5, L6, none] [] h') : zM z cells slots 828 [some (.ref scr), some (.ref Xa.1), some (.ref (M 3 0)), some (.ref ou), some (.int (nI i)), L5, L6, none] [] h := by
  have f1 : (rmc 8 3 18).cells = 3 := rfl
  have f2 : (rmc 8 3 18).slots = 18 := rfl
  have f3 : (rmd 3).cells = 0 := rfl
  have f4 : (rmd 3).slots = 0 := rfl
  have f5 : (rmd 1).cells = 0 := rfl
  have f6 : (rmd 1).slots = 0 := rfl
  have f7 : room_1.cells = 603072 := rfl
  have f8 : room_1.slots = 7202922 := rfl
  obtain ⟨hs, hr, g, A, th, hp, hI, hW, hR⟩ := hw
  obtain ⟨Q, PX, RO, C6, CE, C7, CJ⟩ := hag A th hs hr hI hW hR
  obtain ⟨fs, hx⟩ := isW_x hW
  have in1 : vp_in (nI i + nI 1) sn := by rw [nI_add]; exact vp_in_nI (by omega) (by omega)
  have in2 : vp_in (nI i + nI 2) sn := by rw [nI_add]; exact vp_in_nI (by omega) (by omega)
  have in3 : vp_in (nI i + nI 3) sn := by rw [nI_add]; exact vp_in_nI (by omega) (by omega)
  have cl1 : (nI i + nI 1).toNatClampNeg = i + 1 := by rw [nI_add]; exact nI_cl (by omega)
  have cl2 : (nI i + nI 2).toNatClampNeg = i + 2 := by rw [nI_add]; exact nI_cl (by omega)
  have cl3 : (nI i + nI 3).toNatClampNeg = i + 3 := by rw [nI_add]; exact nI_cl (by omega)
  refine zi_aload_n X dL_law_828 rfl rfl ?_
  refine zi_aload_n X dL_law_829 rfl rfl ?_
  refine zi_iload X dL_law_830 rfl ?_
  refine zi_iconst (v := (nI 1)) X dL_law_832 (by decide) ?_
  refine zi_iadd X dL_law_833 ?_
  refine zi_sld X hB in1 dL_law_834 ?_
  refine zi_aload_n X dL_law_835 rfl rfl ?_
  refine zi_iload X dL_law_836 rfl ?_
  refine zi_iconst (v := (nI 2)) X dL_law_838 (by decide) ?_
  refine zi_iadd X dL_law_839 ?_
  refine zi_sld X hB in2 dL_law_840 ?_
  refine zi_aload_n X dL_law_841 rfl rfl ?_
  refine zi_iload X dL_law_842 rfl ?_
  refine zi_iconst (v := (nI 3)) X dL_law_844 (by decide) ?_
  refine zi_iadd X dL_law_845 ?_
  refine zi_sld X hB in3 dL_law_846 ?_
  refine zi_aload_n X dL_law_847 rfl rfl ?_
  rw [cl1, cl2, cl3]
  refine zi_hcallSiF X (w_scale (g := g) C6 CE hx hp.2.2.2.2.1) (kh_mk (n := 5) win_L wcw_L_scale (by decide)) wm_L_150 wst_L_scale (LPW_sub hp) ⟨Nat.le_of_ble_eq_true rfl, Nat.le_of_ble_eq_true rfl⟩ rfl rfl (Nat.le_of_ble_eq_true rfl) ⟨by omega, by omega⟩ dL_law_848 (fun k h1 hq hn => ?_)
  obtain ⟨hs1, g1, s1, s2, s3, hq⟩ := hq
  have hp2 := LPW_c hp s1 s2 s3 hn
  generalize mjoin h (mup hs ou (wO (cA 1) g)) h1 = h2 at hp2 ⊢
  obtain ⟨fr, hy⟩ := rW_x hR
  have hy2 := hp2.2.1 _ _ hy
  refine zi_istore X dL_law_851 (by decide) ?_
  refine zi_aload_n X dL_law_853 rfl rfl ?_
  refine zi_aload_n X dL_law_854 rfl rfl ?_
  refine zi_iload X dL_law_855 rfl ?_
  refine zi_iconst (v := (nI 1)) X dL_law_857 (by decide) ?_
  refine zi_iadd X dL_law_858 ?_
  refine zi_sld X hB in1 dL_law_859 ?_
  refine zi_aload_n X dL_law_860 rfl rfl ?_
  refine zi_iload X dL_law_861 rfl ?_
  refine zi_iconst (v := (nI 2)) X dL_law_863 (by decide) ?_
  refine zi_iadd X dL_law_864 ?_
  refine zi_sld X hB in2 dL_law_865 ?_
  refine zi_aload_n X dL_law_866 rfl rfl ?_
  refine zi_iload X dL_law_867 rfl ?_
  refine zi_iconst (v := (nI 3)) X dL_law_869 (by decide) ?_
  refine zi_iadd X dL_law_870 ?_
  refine zi_sld X hB in3 dL_law_871 ?_
  rw [cl1, cl2, cl3]
  refine zi_callViG X C7 kc_X7_scale wm_L_152 hy2 rfl wim_X7_scale wse_X7_scale hp2.2.1 ⟨Nat.le_of_ble_eq_true rfl, Nat.le_of_ble_eq_true rfl⟩ rfl rfl (Nat.le_of_ble_eq_true rfl) ⟨by omega, by omega⟩ dL_law_872 (fun r h3 hro hn3 => ?_)
  obtain ⟨A1, th1, I1, W1, R1, ek, ev⟩ := CJ k (g1 0) hs1 r h3 hq hro
  have hp3 := LPW_r hp2 hn3
  generalize mjoin h2 hr h3 = h4 at hp3 ⊢
  obtain ⟨f3, hz⟩ := rW_x R1
  have hz3 := hp3.2.1 _ _ hz
  have ho3 := hp3.2.2.2.1
  refine zi_istore X dL_law_875 (by decide) ?_
  refine zi_aload_n X dL_law_877 rfl rfl ?_
  refine zi_callViG X (rW_thrown l D R1) kc_X7_thrown wm_L_120 hz3 rfl wim_X7_thrown wse_X7_thrown hp3.2.1 ⟨Nat.le_of_ble_eq_true rfl, Nat.le_of_ble_eq_true rfl⟩ rfl rfl (Nat.le_of_ble_eq_true rfl) ⟨by omega, by omega⟩ dL_law_878 (fun r2 h5 hro2 hn5 => ?_)
  obtain ⟨rfl, rfl⟩ := hro2
  have hp5 := LPW_r hp3 hn5
  have ho5 := hp5.2.2.2.1
  generalize mjoin h4 h5 h5 = h6 at hp5 ho5 ⊢
  refine zi_widen (k := cells + 10) (n := slots + 13212) (by omega) (by omega) ?_
  refine zi_iload X dL_law_881 rfl ?_
  refine zi_icmp_eq (tgt := 888) X dL_law_883 (by decide) (fun c_883 => ?_) (fun c_883 => (by first | exact absurd ek c_883 | exact absurd c_883 ek))
  by_cases k0 : k = 0
  · refine zi_iload X dL_law_888 rfl ?_
    refine zi_if_ne (tgt := 905) X dL_law_890 (by decide) (fun c_890 => (by first | exact absurd (fun q => q k0) c_890 | exact absurd c_890 (fun q => q k0))) (fun c_890 => ?_)
    refine zi_aload_n X dL_law_893 rfl rfl ?_
    refine zi_iconst (v := (nI 0)) X dL_law_894 (by decide) ?_
    refine zi_lald X 1 ho5 rfl (vin (show 0 < 1 by decide) (by decide)) dL_law_895 ?_
    refine zi_iload X dL_law_896 rfl ?_
    refine zi_i2l X dL_law_898 ?_
    refine zi_lcmp X dL_law_899 ?_
    have e0 : lg_cmp (g1 (nI 0).toNatClampNeg) r.toInt64 = 0 := by
      rw [show (nI 0).toNatClampNeg = 0 from rfl, ev k0]
      exact lg_eq _
    refine zi_if_eq (tgt := 905) X dL_law_900 (by decide) (fun c_900 => ?_) (fun c_900 => (by first | exact absurd e0 c_900 | exact absurd c_900 e0))
    refine zi_goto (tgt := 2204) X dL_law_905 (by decide) ?_
    exact nx h6 _ _ ⟨hs1, h5, g1, A1, th1, hp5, I1, W1, R1⟩
  · refine zi_iload X dL_law_888 rfl ?_
    refine zi_if_ne (tgt := 905) X dL_law_890 (by decide) (fun c_890 => ?_) (fun c_890 => (by first | exact absurd k0 c_890 | exact absurd c_890 k0))
    refine zi_goto (tgt := 2204) X dL_law_905 (by decide) ?_
    exact nx h6 _ _ ⟨hs1, h5, g1, A1, th1, hp5, I1, W1, R1⟩
theorem lc_gcd (X : zX z l D cL_law yL_law.cls (mT cA) 8 (some .boolean) room_1 yL_law.name) (hag : Ag l D cA S Xa M Inv Inv2 yX6_gcd cX6_gcd 4 .int (rmc 8 4 24) Int32.toInt64 yX7_gcd cX7_gcd 4 .int (rmd 8) [eI, eS] [.int (sf (i + 1)), .int (sf (i + 2)), .int (sf (i + 3))]) (hB : zB z scr sn sf) (hi : i + 6 ≤ sn) (hsn : sn ≤ 3072) (hc : cells + 10 ≤ 603072) (hsl : slots + 13212 ≤ 7202922) (hw : LW cA D S Xa M Inv ou h)
    (nx : ∀ h' L5 L6, LW cA D S Xa M Inv2 ou h' → zM z (cells + 10) (slots + 13212) 2204 [some (.ref scr), some (.ref Xa.1), some (.ref (M 3 0)), some (.ref ou), some (.int (nI i)), L5, L6, none] [] h') : zM z cells slots 908 [some (.ref scr), some (.ref Xa.1), some (.ref (M 3 0)), some (.ref ou), some (.int (nI i)), L5, L6, none] [] h := by
  have f1 : (rmc 9 4 24).cells = 4 := rfl
  have f2 : (rmc 9 4 24).slots = 24 := rfl
  have f3 : (rmd 8).cells = 0 := rfl
  have f4 : (rmd 8).slots = 0 := rfl
  have f5 : (rmd 1).cells = 0 := rfl
  have f6 : (rmd 1).slots = 0 := rfl
  have f7 : room_1.cells = 603072 := rfl
  have f8 : room_1.slots = 7202922 := rfl
  obtain ⟨hs, hr, g, A, th, hp, hI, hW, hR⟩ := hw
  obtain ⟨Q, PX, RO, C6, CE, C7, CJ⟩ := hag A th hs hr hI hW hR
  obtain ⟨fs, hx⟩ := isW_x hW
  have in1 : vp_in (nI i + nI 1) sn := by rw [nI_add]; exact vp_in_nI (by omega) (by omega)
  have in2 : vp_in (nI i + nI 2) sn := by rw [nI_add]; exact vp_in_nI (by omega) (by omega)
  have in3 : vp_in (nI i + nI 3) sn := by rw [nI_add]; exact vp_in_nI (by omega) (by omega)
  have cl1 : (nI i + nI 1).toNatClampNeg = i + 1 := by rw [nI_add]; exact nI_cl (by omega)
  have cl2 : (nI i + nI 2).toNatClampNeg = i + 2 := by rw [nI_add]; exact nI_cl (by omega)
  have cl3 : (nI i + nI 3).toNatClampNeg = i + 3 := by rw [nI_add]; exact nI_cl (by omega)
  refine zi_aload_n X dL_law_908 rfl rfl ?_
  refine zi_aload_n X dL_law_909 rfl rfl ?_
  refine zi_iload X dL_law_910 rfl ?_
  refine zi_iconst (v := (nI 1)) X dL_law_912 (by decide) ?_
  refine zi_iadd X dL_law_913 ?_
  refine zi_sld X hB in1 dL_law_914 ?_
  refine zi_aload_n X dL_law_915 rfl rfl ?_
  refine zi_iload X dL_law_916 rfl ?_
  refine zi_iconst (v := (nI 2)) X dL_law_918 (by decide) ?_
  refine zi_iadd X dL_law_919 ?_
  refine zi_sld X hB in2 dL_law_920 ?_
  refine zi_aload_n X dL_law_921 rfl rfl ?_
  refine zi_iload X dL_law_922 rfl ?_
  refine zi_iconst (v := (nI 3)) X dL_law_924 (by decide) ?_
  refine zi_iadd X dL_law_925 ?_
  refine zi_sld X hB in3 dL_law_926 ?_
  refine zi_aload_n X dL_law_927 rfl rfl ?_
  rw [cl1, cl2, cl3]
  refine zi_hcallSiF X (w_gcd (g := g) C6 CE hx hp.2.2.2.2.1) (kh_mk (n := 5) win_L wcw_L_gcd (by decide)) wm_L_153 wst_L_gcd (LPW_sub hp) ⟨Nat.le_of_ble_eq_true rfl, Nat.le_of_ble_eq_true rfl⟩ rfl rfl (Nat.le_of_ble_eq_true rfl) ⟨by omega, by omega⟩ dL_law_928 (fun k h1 hq hn => ?_)
  obtain ⟨hs1, g1, s1, s2, s3, hq⟩ := hq
  have hp2 := LPW_c hp s1 s2 s3 hn
  generalize mjoin h (mup hs ou (wO (cA 1) g)) h1 = h2 at hp2 ⊢
  obtain ⟨fr, hy⟩ := rW_x hR
  have hy2 := hp2.2.1 _ _ hy
  refine zi_istore X dL_law_931 (by decide) ?_
  refine zi_aload_n X dL_law_933 rfl rfl ?_
  refine zi_aload_n X dL_law_934 rfl rfl ?_
  refine zi_iload X dL_law_935 rfl ?_
  refine zi_iconst (v := (nI 1)) X dL_law_937 (by decide) ?_
  refine zi_iadd X dL_law_938 ?_
  refine zi_sld X hB in1 dL_law_939 ?_
  refine zi_aload_n X dL_law_940 rfl rfl ?_
  refine zi_iload X dL_law_941 rfl ?_
  refine zi_iconst (v := (nI 2)) X dL_law_943 (by decide) ?_
  refine zi_iadd X dL_law_944 ?_
  refine zi_sld X hB in2 dL_law_945 ?_
  refine zi_aload_n X dL_law_946 rfl rfl ?_
  refine zi_iload X dL_law_947 rfl ?_
  refine zi_iconst (v := (nI 3)) X dL_law_949 (by decide) ?_
  refine zi_iadd X dL_law_950 ?_
  refine zi_sld X hB in3 dL_law_951 ?_
  rw [cl1, cl2, cl3]
  refine zi_callViG X C7 kc_X7_gcd wm_L_155 hy2 rfl wim_X7_gcd wse_X7_gcd hp2.2.1 ⟨Nat.le_of_ble_eq_true rfl, Nat.le_of_ble_eq_true rfl⟩ rfl rfl (Nat.le_of_ble_eq_true rfl) ⟨by omega, by omega⟩ dL_law_952 (fun r h3 hro hn3 => ?_)
  obtain ⟨A1, th1, I1, W1, R1, ek, ev⟩ := CJ k (g1 0) hs1 r h3 hq hro
  have hp3 := LPW_r hp2 hn3
  generalize mjoin h2 hr h3 = h4 at hp3 ⊢
  obtain ⟨f3, hz⟩ := rW_x R1
  have hz3 := hp3.2.1 _ _ hz
  have ho3 := hp3.2.2.2.1
  refine zi_istore X dL_law_955 (by decide) ?_
  refine zi_aload_n X dL_law_957 rfl rfl ?_
  refine zi_callViG X (rW_thrown l D R1) kc_X7_thrown wm_L_120 hz3 rfl wim_X7_thrown wse_X7_thrown hp3.2.1 ⟨Nat.le_of_ble_eq_true rfl, Nat.le_of_ble_eq_true rfl⟩ rfl rfl (Nat.le_of_ble_eq_true rfl) ⟨by omega, by omega⟩ dL_law_958 (fun r2 h5 hro2 hn5 => ?_)
  obtain ⟨rfl, rfl⟩ := hro2
  have hp5 := LPW_r hp3 hn5
  have ho5 := hp5.2.2.2.1
  generalize mjoin h4 h5 h5 = h6 at hp5 ho5 ⊢
  refine zi_widen (k := cells + 10) (n := slots + 13212) (by omega) (by omega) ?_
  refine zi_iload X dL_law_961 rfl ?_
  refine zi_icmp_eq (tgt := 968) X dL_law_963 (by decide) (fun c_963 => ?_) (fun c_963 => (by first | exact absurd ek c_963 | exact absurd c_963 ek))
  by_cases k0 : k = 0
  · refine zi_iload X dL_law_968 rfl ?_
    refine zi_if_ne (tgt := 985) X dL_law_970 (by decide) (fun c_970 => (by first | exact absurd (fun q => q k0) c_970 | exact absurd c_970 (fun q => q k0))) (fun c_970 => ?_)
    refine zi_aload_n X dL_law_973 rfl rfl ?_
    refine zi_iconst (v := (nI 0)) X dL_law_974 (by decide) ?_
    refine zi_lald X 1 ho5 rfl (vin (show 0 < 1 by decide) (by decide)) dL_law_975 ?_
    refine zi_iload X dL_law_976 rfl ?_
    refine zi_i2l X dL_law_978 ?_
    refine zi_lcmp X dL_law_979 ?_
    have e0 : lg_cmp (g1 (nI 0).toNatClampNeg) r.toInt64 = 0 := by
      rw [show (nI 0).toNatClampNeg = 0 from rfl, ev k0]
      exact lg_eq _
    refine zi_if_eq (tgt := 985) X dL_law_980 (by decide) (fun c_980 => ?_) (fun c_980 => (by first | exact absurd e0 c_980 | exact absurd c_980 e0))
    refine zi_goto (tgt := 2204) X dL_law_985 (by decide) ?_
    exact nx h6 _ _ ⟨hs1, h5, g1, A1, th1, hp5, I1, W1, R1⟩
  · refine zi_iload X dL_law_968 rfl ?_
    refine zi_if_ne (tgt := 985) X dL_law_970 (by decide) (fun c_970 => ?_) (fun c_970 => (by first | exact absurd k0 c_970 | exact absurd c_970 k0))
    refine zi_goto (tgt := 2204) X dL_law_985 (by decide) ?_
    exact nx h6 _ _ ⟨hs1, h5, g1, A1, th1, hp5, I1, W1, R1⟩
theorem lc_squareFreePart (X : zX z l D cL_law yL_law.cls (mT cA) 8 (some .boolean) room_1 yL_law.name) (hag : Ag l D cA S Xa M Inv Inv2 yX6_squareFreePart cX6_squareFreePart 3 .int (rmc 8 4 24) Int32.toInt64 yX7_squareFreePart cX7_squareFreePart 3 .int (rmd 9) [eI, eM, eS] [.int (sf (i + 1)), .int (sf (i + 2))]) (hB : zB z scr sn sf) (hi : i + 6 ≤ sn) (hsn : sn ≤ 3072) (hc : cells + 10 ≤ 603072) (hsl : slots + 13212 ≤ 7202922) (hw : LW cA D S Xa M Inv ou h)
    (nx : ∀ h' L5 L6, LW cA D S Xa M Inv2 ou h' → zM z (cells + 10) (slots + 13212) 2204 [some (.ref scr), some (.ref Xa.1), some (.ref (M 3 0)), some (.ref ou), some (.int (nI i)), L5, L6, none] [] h') : zM z cells slots 988 [some (.ref scr), some (.ref Xa.1), some (.ref (M 3 0)), some (.ref ou), some (.int (nI i)), L5, L6, none] [] h := by
  have f1 : (rmc 9 4 24).cells = 4 := rfl
  have f2 : (rmc 9 4 24).slots = 24 := rfl
  have f3 : (rmd 9).cells = 0 := rfl
  have f4 : (rmd 9).slots = 0 := rfl
  have f5 : (rmd 1).cells = 0 := rfl
  have f6 : (rmd 1).slots = 0 := rfl
  have f7 : room_1.cells = 603072 := rfl
  have f8 : room_1.slots = 7202922 := rfl
  obtain ⟨hs, hr, g, A, th, hp, hI, hW, hR⟩ := hw
  obtain ⟨Q, PX, RO, C6, CE, C7, CJ⟩ := hag A th hs hr hI hW hR
  obtain ⟨fs, hx⟩ := isW_x hW
  have in1 : vp_in (nI i + nI 1) sn := by rw [nI_add]; exact vp_in_nI (by omega) (by omega)
  have in2 : vp_in (nI i + nI 2) sn := by rw [nI_add]; exact vp_in_nI (by omega) (by omega)
  have cl1 : (nI i + nI 1).toNatClampNeg = i + 1 := by rw [nI_add]; exact nI_cl (by omega)
  have cl2 : (nI i + nI 2).toNatClampNeg = i + 2 := by rw [nI_add]; exact nI_cl (by omega)
  refine zi_aload_n X dL_law_988 rfl rfl ?_
  refine zi_aload_n X dL_law_989 rfl rfl ?_
  refine zi_iload X dL_law_990 rfl ?_
  refine zi_iconst (v := (nI 1)) X dL_law_992 (by decide) ?_
  refine zi_iadd X dL_law_993 ?_
  refine zi_sld X hB in1 dL_law_994 ?_
  refine zi_aload_n X dL_law_995 rfl rfl ?_
  refine zi_iload X dL_law_996 rfl ?_
  refine zi_iconst (v := (nI 2)) X dL_law_998 (by decide) ?_
  refine zi_iadd X dL_law_999 ?_
  refine zi_sld X hB in2 dL_law_1000 ?_
  refine zi_aload_n X dL_law_1001 rfl rfl ?_
  rw [cl1, cl2]
  refine zi_hcallSiF X (w_squareFreePart (g := g) C6 CE hx hp.2.2.2.2.1) (kh_mk (n := 4) win_L wcw_L_squareFreePart (by decide)) wm_L_156 wst_L_squareFreePart (LPW_sub hp) ⟨Nat.le_of_ble_eq_true rfl, Nat.le_of_ble_eq_true rfl⟩ rfl rfl (Nat.le_of_ble_eq_true rfl) ⟨by omega, by omega⟩ dL_law_1002 (fun k h1 hq hn => ?_)
  obtain ⟨hs1, g1, s1, s2, s3, hq⟩ := hq
  have hp2 := LPW_c hp s1 s2 s3 hn
  generalize mjoin h (mup hs ou (wO (cA 1) g)) h1 = h2 at hp2 ⊢
  obtain ⟨fr, hy⟩ := rW_x hR
  have hy2 := hp2.2.1 _ _ hy
  refine zi_istore X dL_law_1005 (by decide) ?_
  refine zi_aload_n X dL_law_1007 rfl rfl ?_
  refine zi_aload_n X dL_law_1008 rfl rfl ?_
  refine zi_iload X dL_law_1009 rfl ?_
  refine zi_iconst (v := (nI 1)) X dL_law_1011 (by decide) ?_
  refine zi_iadd X dL_law_1012 ?_
  refine zi_sld X hB in1 dL_law_1013 ?_
  refine zi_aload_n X dL_law_1014 rfl rfl ?_
  refine zi_iload X dL_law_1015 rfl ?_
  refine zi_iconst (v := (nI 2)) X dL_law_1017 (by decide) ?_
  refine zi_iadd X dL_law_1018 ?_
  refine zi_sld X hB in2 dL_law_1019 ?_
  rw [cl1, cl2]
  refine zi_callViG X C7 kc_X7_squareFreePart wm_L_158 hy2 rfl wim_X7_squareFreePart wse_X7_squareFreePart hp2.2.1 ⟨Nat.le_of_ble_eq_true rfl, Nat.le_of_ble_eq_true rfl⟩ rfl rfl (Nat.le_of_ble_eq_true rfl) ⟨by omega, by omega⟩ dL_law_1020 (fun r h3 hro hn3 => ?_)
  obtain ⟨A1, th1, I1, W1, R1, ek, ev⟩ := CJ k (g1 0) hs1 r h3 hq hro
  have hp3 := LPW_r hp2 hn3
  generalize mjoin h2 hr h3 = h4 at hp3 ⊢
  obtain ⟨f3, hz⟩ := rW_x R1
  have hz3 := hp3.2.1 _ _ hz
  have ho3 := hp3.2.2.2.1
  refine zi_istore X dL_law_1023 (by decide) ?_
  refine zi_aload_n X dL_law_1025 rfl rfl ?_
  refine zi_callViG X (rW_thrown l D R1) kc_X7_thrown wm_L_120 hz3 rfl wim_X7_thrown wse_X7_thrown hp3.2.1 ⟨Nat.le_of_ble_eq_true rfl, Nat.le_of_ble_eq_true rfl⟩ rfl rfl (Nat.le_of_ble_eq_true rfl) ⟨by omega, by omega⟩ dL_law_1026 (fun r2 h5 hro2 hn5 => ?_)
  obtain ⟨rfl, rfl⟩ := hro2
  have hp5 := LPW_r hp3 hn5
  have ho5 := hp5.2.2.2.1
  generalize mjoin h4 h5 h5 = h6 at hp5 ho5 ⊢
  refine zi_widen (k := cells + 10) (n := slots + 13212) (by omega) (by omega) ?_
  refine zi_iload X dL_law_1029 rfl ?_
  refine zi_icmp_eq (tgt := 1036) X dL_law_1031 (by decide) (fun c_1031 => ?_) (fun c_1031 => (by first | exact absurd ek c_1031 | exact absurd c_1031 ek))
  by_cases k0 : k = 0
  · refine zi_iload X dL_law_1036 rfl ?_
    refine zi_if_ne (tgt := 1053) X dL_law_1038 (by decide) (fun c_1038 => (by first | exact absurd (fun q => q k0) c_1038 | exact absurd c_1038 (fun q => q k0))) (fun c_1038 => ?_)
    refine zi_aload_n X dL_law_1041 rfl rfl ?_
    refine zi_iconst (v := (nI 0)) X dL_law_1042 (by decide) ?_
    refine zi_lald X 1 ho5 rfl (vin (show 0 < 1 by decide) (by decide)) dL_law_1043 ?_
    refine zi_iload X dL_law_1044 rfl ?_
    refine zi_i2l X dL_law_1046 ?_
    refine zi_lcmp X dL_law_1047 ?_
    have e0 : lg_cmp (g1 (nI 0).toNatClampNeg) r.toInt64 = 0 := by
      rw [show (nI 0).toNatClampNeg = 0 from rfl, ev k0]
      exact lg_eq _
    refine zi_if_eq (tgt := 1053) X dL_law_1048 (by decide) (fun c_1048 => ?_) (fun c_1048 => (by first | exact absurd e0 c_1048 | exact absurd c_1048 e0))
    refine zi_goto (tgt := 2204) X dL_law_1053 (by decide) ?_
    exact nx h6 _ _ ⟨hs1, h5, g1, A1, th1, hp5, I1, W1, R1⟩
  · refine zi_iload X dL_law_1036 rfl ?_
    refine zi_if_ne (tgt := 1053) X dL_law_1038 (by decide) (fun c_1038 => ?_) (fun c_1038 => (by first | exact absurd k0 c_1038 | exact absurd c_1038 k0))
    refine zi_goto (tgt := 2204) X dL_law_1053 (by decide) ?_
    exact nx h6 _ _ ⟨hs1, h5, g1, A1, th1, hp5, I1, W1, R1⟩
theorem lc_sturmLength (X : zX z l D cL_law yL_law.cls (mT cA) 8 (some .boolean) room_1 yL_law.name) (hag : Ag l D cA S Xa M Inv Inv2 yX6_sturmLength cX6_sturmLength 2 .int (rmc 8 2 12) Int32.toInt64 yX7_sturmLength cX7_sturmLength 2 .int (rmd 9) [eI, eM] [.int (sf (i + 1))]) (hB : zB z scr sn sf) (hi : i + 6 ≤ sn) (hsn : sn ≤ 3072) (hc : cells + 10 ≤ 603072) (hsl : slots + 13212 ≤ 7202922) (hw : LW cA D S Xa M Inv ou h)
    (nx : ∀ h' L5 L6, LW cA D S Xa M Inv2 ou h' → zM z (cells + 10) (slots + 13212) 2204 [some (.ref scr), some (.ref Xa.1), some (.ref (M 3 0)), some (.ref ou), some (.int (nI i)), L5, L6, none] [] h') : zM z cells slots 1056 [some (.ref scr), some (.ref Xa.1), some (.ref (M 3 0)), some (.ref ou), some (.int (nI i)), L5, L6, none] [] h := by
  have f1 : (rmc 9 2 12).cells = 2 := rfl
  have f2 : (rmc 9 2 12).slots = 12 := rfl
  have f3 : (rmd 9).cells = 0 := rfl
  have f4 : (rmd 9).slots = 0 := rfl
  have f5 : (rmd 1).cells = 0 := rfl
  have f6 : (rmd 1).slots = 0 := rfl
  have f7 : room_1.cells = 603072 := rfl
  have f8 : room_1.slots = 7202922 := rfl
  obtain ⟨hs, hr, g, A, th, hp, hI, hW, hR⟩ := hw
  obtain ⟨Q, PX, RO, C6, CE, C7, CJ⟩ := hag A th hs hr hI hW hR
  obtain ⟨fs, hx⟩ := isW_x hW
  have in1 : vp_in (nI i + nI 1) sn := by rw [nI_add]; exact vp_in_nI (by omega) (by omega)
  have cl1 : (nI i + nI 1).toNatClampNeg = i + 1 := by rw [nI_add]; exact nI_cl (by omega)
  refine zi_aload_n X dL_law_1056 rfl rfl ?_
  refine zi_aload_n X dL_law_1057 rfl rfl ?_
  refine zi_iload X dL_law_1058 rfl ?_
  refine zi_iconst (v := (nI 1)) X dL_law_1060 (by decide) ?_
  refine zi_iadd X dL_law_1061 ?_
  refine zi_sld X hB in1 dL_law_1062 ?_
  refine zi_aload_n X dL_law_1063 rfl rfl ?_
  rw [cl1]
  refine zi_hcallSiF X (w_sturmLength (g := g) C6 CE hx hp.2.2.2.2.1) (kh_mk (n := 3) win_L wcw_L_sturmLength (by decide)) wm_L_159 wst_L_sturmLength (LPW_sub hp) ⟨Nat.le_of_ble_eq_true rfl, Nat.le_of_ble_eq_true rfl⟩ rfl rfl (Nat.le_of_ble_eq_true rfl) ⟨by omega, by omega⟩ dL_law_1064 (fun k h1 hq hn => ?_)
  obtain ⟨hs1, g1, s1, s2, s3, hq⟩ := hq
  have hp2 := LPW_c hp s1 s2 s3 hn
  generalize mjoin h (mup hs ou (wO (cA 1) g)) h1 = h2 at hp2 ⊢
  obtain ⟨fr, hy⟩ := rW_x hR
  have hy2 := hp2.2.1 _ _ hy
  refine zi_istore X dL_law_1067 (by decide) ?_
  refine zi_aload_n X dL_law_1069 rfl rfl ?_
  refine zi_aload_n X dL_law_1070 rfl rfl ?_
  refine zi_iload X dL_law_1071 rfl ?_
  refine zi_iconst (v := (nI 1)) X dL_law_1073 (by decide) ?_
  refine zi_iadd X dL_law_1074 ?_
  refine zi_sld X hB in1 dL_law_1075 ?_
  rw [cl1]
  refine zi_callViG X C7 kc_X7_sturmLength wm_L_161 hy2 rfl wim_X7_sturmLength wse_X7_sturmLength hp2.2.1 ⟨Nat.le_of_ble_eq_true rfl, Nat.le_of_ble_eq_true rfl⟩ rfl rfl (Nat.le_of_ble_eq_true rfl) ⟨by omega, by omega⟩ dL_law_1076 (fun r h3 hro hn3 => ?_)
  obtain ⟨A1, th1, I1, W1, R1, ek, ev⟩ := CJ k (g1 0) hs1 r h3 hq hro
  have hp3 := LPW_r hp2 hn3
  generalize mjoin h2 hr h3 = h4 at hp3 ⊢
  obtain ⟨f3, hz⟩ := rW_x R1
  have hz3 := hp3.2.1 _ _ hz
  have ho3 := hp3.2.2.2.1
  refine zi_istore X dL_law_1079 (by decide) ?_
  refine zi_aload_n X dL_law_1081 rfl rfl ?_
  refine zi_callViG X (rW_thrown l D R1) kc_X7_thrown wm_L_120 hz3 rfl wim_X7_thrown wse_X7_thrown hp3.2.1 ⟨Nat.le_of_ble_eq_true rfl, Nat.le_of_ble_eq_true rfl⟩ rfl rfl (Nat.le_of_ble_eq_true rfl) ⟨by omega, by omega⟩ dL_law_1082 (fun r2 h5 hro2 hn5 => ?_)
  obtain ⟨rfl, rfl⟩ := hro2
  have hp5 := LPW_r hp3 hn5
  have ho5 := hp5.2.2.2.1
  generalize mjoin h4 h5 h5 = h6 at hp5 ho5 ⊢
  refine zi_widen (k := cells + 10) (n := slots + 13212) (by omega) (by omega) ?_
  refine zi_iload X dL_law_1085 rfl ?_
  refine zi_icmp_eq (tgt := 1092) X dL_law_1087 (by decide) (fun c_1087 => ?_) (fun c_1087 => (by first | exact absurd ek c_1087 | exact absurd c_1087 ek))
  by_cases k0 : k = 0
  · refine zi_iload X dL_law_1092 rfl ?_
    refine zi_if_ne (tgt := 1109) X dL_law_1094 (by decide) (fun c_1094 => (by first | exact absurd (fun q => q k0) c_1094 | exact absurd c_1094 (fun q => q k0))) (fun c_1094 => ?_)
    refine zi_aload_n X dL_law_1097 rfl rfl ?_
    refine zi_iconst (v := (nI 0)) X dL_law_1098 (by decide) ?_
    refine zi_lald X 1 ho5 rfl (vin (show 0 < 1 by decide) (by decide)) dL_law_1099 ?_
    refine zi_iload X dL_law_1100 rfl ?_
    refine zi_i2l X dL_law_1102 ?_
    refine zi_lcmp X dL_law_1103 ?_
    have e0 : lg_cmp (g1 (nI 0).toNatClampNeg) r.toInt64 = 0 := by
      rw [show (nI 0).toNatClampNeg = 0 from rfl, ev k0]
      exact lg_eq _
    refine zi_if_eq (tgt := 1109) X dL_law_1104 (by decide) (fun c_1104 => ?_) (fun c_1104 => (by first | exact absurd e0 c_1104 | exact absurd c_1104 e0))
    refine zi_goto (tgt := 2204) X dL_law_1109 (by decide) ?_
    exact nx h6 _ _ ⟨hs1, h5, g1, A1, th1, hp5, I1, W1, R1⟩
  · refine zi_iload X dL_law_1092 rfl ?_
    refine zi_if_ne (tgt := 1109) X dL_law_1094 (by decide) (fun c_1094 => ?_) (fun c_1094 => (by first | exact absurd k0 c_1094 | exact absurd c_1094 k0))
    refine zi_goto (tgt := 2204) X dL_law_1109 (by decide) ?_
    exact nx h6 _ _ ⟨hs1, h5, g1, A1, th1, hp5, I1, W1, R1⟩
theorem lc_sturmDegree (X : zX z l D cL_law yL_law.cls (mT cA) 8 (some .boolean) room_1 yL_law.name) (hag : Ag l D cA S Xa M Inv Inv2 yX6_sturmDegree cX6_sturmDegree 3 .int (rmc 8 3 18) Int32.toInt64 yX7_sturmDegree cX7_sturmDegree 3 .int (rmd 9) [eI, eM, eN] [.int (sf (i + 1)), .int (sf (i + 2))]) (hB : zB z scr sn sf) (hi : i + 6 ≤ sn) (hsn : sn ≤ 3072) (hc : cells + 10 ≤ 603072) (hsl : slots + 13212 ≤ 7202922) (hw : LW cA D S Xa M Inv ou h)
    (nx : ∀ h' L5 L6, LW cA D S Xa M Inv2 ou h' → zM z (cells + 10) (slots + 13212) 2204 [some (.ref scr), some (.ref Xa.1), some (.ref (M 3 0)), some (.ref ou), some (.int (nI i)), L5, L6, none] [] h') : zM z cells slots 1191 [some (.ref scr), some (.ref Xa.1), some (.ref (M 3 0)), some (.ref ou), some (.int (nI i)), L5, L6, none] [] h := by
  have f1 : (rmc 9 3 18).cells = 3 := rfl
  have f2 : (rmc 9 3 18).slots = 18 := rfl
  have f3 : (rmd 9).cells = 0 := rfl
  have f4 : (rmd 9).slots = 0 := rfl
  have f5 : (rmd 1).cells = 0 := rfl
  have f6 : (rmd 1).slots = 0 := rfl
  have f7 : room_1.cells = 603072 := rfl
  have f8 : room_1.slots = 7202922 := rfl
  obtain ⟨hs, hr, g, A, th, hp, hI, hW, hR⟩ := hw
  obtain ⟨Q, PX, RO, C6, CE, C7, CJ⟩ := hag A th hs hr hI hW hR
  obtain ⟨fs, hx⟩ := isW_x hW
  have in1 : vp_in (nI i + nI 1) sn := by rw [nI_add]; exact vp_in_nI (by omega) (by omega)
  have in2 : vp_in (nI i + nI 2) sn := by rw [nI_add]; exact vp_in_nI (by omega) (by omega)
  have cl1 : (nI i + nI 1).toNatClampNeg = i + 1 := by rw [nI_add]; exact nI_cl (by omega)
  have cl2 : (nI i + nI 2).toNatClampNeg = i + 2 := by rw [nI_add]; exact nI_cl (by omega)
  refine zi_aload_n X dL_law_1191 rfl rfl ?_
  refine zi_aload_n X dL_law_1192 rfl rfl ?_
  refine zi_iload X dL_law_1193 rfl ?_
  refine zi_iconst (v := (nI 1)) X dL_law_1195 (by decide) ?_
  refine zi_iadd X dL_law_1196 ?_
  refine zi_sld X hB in1 dL_law_1197 ?_
  refine zi_aload_n X dL_law_1198 rfl rfl ?_
  refine zi_iload X dL_law_1199 rfl ?_
  refine zi_iconst (v := (nI 2)) X dL_law_1201 (by decide) ?_
  refine zi_iadd X dL_law_1202 ?_
  refine zi_sld X hB in2 dL_law_1203 ?_
  refine zi_aload_n X dL_law_1204 rfl rfl ?_
  rw [cl1, cl2]
  refine zi_hcallSiF X (w_sturmDegree (g := g) C6 CE hx hp.2.2.2.2.1) (kh_mk (n := 4) win_L wcw_L_sturmDegree (by decide)) wm_L_165 wst_L_sturmDegree (LPW_sub hp) ⟨Nat.le_of_ble_eq_true rfl, Nat.le_of_ble_eq_true rfl⟩ rfl rfl (Nat.le_of_ble_eq_true rfl) ⟨by omega, by omega⟩ dL_law_1205 (fun k h1 hq hn => ?_)
  obtain ⟨hs1, g1, s1, s2, s3, hq⟩ := hq
  have hp2 := LPW_c hp s1 s2 s3 hn
  generalize mjoin h (mup hs ou (wO (cA 1) g)) h1 = h2 at hp2 ⊢
  obtain ⟨fr, hy⟩ := rW_x hR
  have hy2 := hp2.2.1 _ _ hy
  refine zi_istore X dL_law_1208 (by decide) ?_
  refine zi_aload_n X dL_law_1210 rfl rfl ?_
  refine zi_aload_n X dL_law_1211 rfl rfl ?_
  refine zi_iload X dL_law_1212 rfl ?_
  refine zi_iconst (v := (nI 1)) X dL_law_1214 (by decide) ?_
  refine zi_iadd X dL_law_1215 ?_
  refine zi_sld X hB in1 dL_law_1216 ?_
  refine zi_aload_n X dL_law_1217 rfl rfl ?_
  refine zi_iload X dL_law_1218 rfl ?_
  refine zi_iconst (v := (nI 2)) X dL_law_1220 (by decide) ?_
  refine zi_iadd X dL_law_1221 ?_
  refine zi_sld X hB in2 dL_law_1222 ?_
  rw [cl1, cl2]
  refine zi_callViG X C7 kc_X7_sturmDegree wm_L_167 hy2 rfl wim_X7_sturmDegree wse_X7_sturmDegree hp2.2.1 ⟨Nat.le_of_ble_eq_true rfl, Nat.le_of_ble_eq_true rfl⟩ rfl rfl (Nat.le_of_ble_eq_true rfl) ⟨by omega, by omega⟩ dL_law_1223 (fun r h3 hro hn3 => ?_)
  obtain ⟨A1, th1, I1, W1, R1, ek, ev⟩ := CJ k (g1 0) hs1 r h3 hq hro
  have hp3 := LPW_r hp2 hn3
  generalize mjoin h2 hr h3 = h4 at hp3 ⊢
  obtain ⟨f3, hz⟩ := rW_x R1
  have hz3 := hp3.2.1 _ _ hz
  have ho3 := hp3.2.2.2.1
  refine zi_istore X dL_law_1226 (by decide) ?_
  refine zi_aload_n X dL_law_1228 rfl rfl ?_
  refine zi_callViG X (rW_thrown l D R1) kc_X7_thrown wm_L_120 hz3 rfl wim_X7_thrown wse_X7_thrown hp3.2.1 ⟨Nat.le_of_ble_eq_true rfl, Nat.le_of_ble_eq_true rfl⟩ rfl rfl (Nat.le_of_ble_eq_true rfl) ⟨by omega, by omega⟩ dL_law_1229 (fun r2 h5 hro2 hn5 => ?_)
  obtain ⟨rfl, rfl⟩ := hro2
  have hp5 := LPW_r hp3 hn5
  have ho5 := hp5.2.2.2.1
  generalize mjoin h4 h5 h5 = h6 at hp5 ho5 ⊢
  refine zi_widen (k := cells + 10) (n := slots + 13212) (by omega) (by omega) ?_
  refine zi_iload X dL_law_1232 rfl ?_
  refine zi_icmp_eq (tgt := 1239) X dL_law_1234 (by decide) (fun c_1234 => ?_) (fun c_1234 => (by first | exact absurd ek c_1234 | exact absurd c_1234 ek))
  by_cases k0 : k = 0
  · refine zi_iload X dL_law_1239 rfl ?_
    refine zi_if_ne (tgt := 1256) X dL_law_1241 (by decide) (fun c_1241 => (by first | exact absurd (fun q => q k0) c_1241 | exact absurd c_1241 (fun q => q k0))) (fun c_1241 => ?_)
    refine zi_aload_n X dL_law_1244 rfl rfl ?_
    refine zi_iconst (v := (nI 0)) X dL_law_1245 (by decide) ?_
    refine zi_lald X 1 ho5 rfl (vin (show 0 < 1 by decide) (by decide)) dL_law_1246 ?_
    refine zi_iload X dL_law_1247 rfl ?_
    refine zi_i2l X dL_law_1249 ?_
    refine zi_lcmp X dL_law_1250 ?_
    have e0 : lg_cmp (g1 (nI 0).toNatClampNeg) r.toInt64 = 0 := by
      rw [show (nI 0).toNatClampNeg = 0 from rfl, ev k0]
      exact lg_eq _
    refine zi_if_eq (tgt := 1256) X dL_law_1251 (by decide) (fun c_1251 => ?_) (fun c_1251 => (by first | exact absurd e0 c_1251 | exact absurd c_1251 e0))
    refine zi_goto (tgt := 2204) X dL_law_1256 (by decide) ?_
    exact nx h6 _ _ ⟨hs1, h5, g1, A1, th1, hp5, I1, W1, R1⟩
  · refine zi_iload X dL_law_1239 rfl ?_
    refine zi_if_ne (tgt := 1256) X dL_law_1241 (by decide) (fun c_1241 => ?_) (fun c_1241 => (by first | exact absurd k0 c_1241 | exact absurd c_1241 k0))
    refine zi_goto (tgt := 2204) X dL_law_1256 (by decide) ?_
    exact nx h6 _ _ ⟨hs1, h5, g1, A1, th1, hp5, I1, W1, R1⟩
theorem lc_signChanges (X : zX z l D cL_law yL_law.cls (mT cA) 8 (some .boolean) room_1 yL_law.name) (hag : Ag l D cA S Xa M Inv Inv2 yX6_signChanges cX6_signChanges 4 .int (rmc 8 3 18) Int32.toInt64 yX7_signChanges cX7_signChanges 8 .int (rmd 9) [eI, eA, eM] [.int (sf (i + 1)), .int (sf (i + 2)), .int (sf (i + 3))]) (hB : zB z scr sn sf) (hi : i + 6 ≤ sn) (hsn : sn ≤ 3072) (hc : cells + 10 ≤ 603072) (hsl : slots + 13212 ≤ 7202922) (hw : LW cA D S Xa M Inv ou h)
    (nx : ∀ h' L5 L6, LW cA D S Xa M Inv2 ou h' → zM z (cells + 10) (slots + 13212) 2204 [some (.ref scr), some (.ref Xa.1), some (.ref (M 3 0)), some (.ref ou), some (.int (nI i)), L5, L6, none] [] h') : zM z cells slots 1259 [some (.ref scr), some (.ref Xa.1), some (.ref (M 3 0)), some (.ref ou), some (.int (nI i)), L5, L6, none] [] h := by
  have f1 : (rmc 9 3 18).cells = 3 := rfl
  have f2 : (rmc 9 3 18).slots = 18 := rfl
  have f3 : (rmd 9).cells = 0 := rfl
  have f4 : (rmd 9).slots = 0 := rfl
  have f5 : (rmd 1).cells = 0 := rfl
  have f6 : (rmd 1).slots = 0 := rfl
  have f7 : room_1.cells = 603072 := rfl
  have f8 : room_1.slots = 7202922 := rfl
  obtain ⟨hs, hr, g, A, th, hp, hI, hW, hR⟩ := hw
  obtain ⟨Q, PX, RO, C6, CE, C7, CJ⟩ := hag A th hs hr hI hW hR
  obtain ⟨fs, hx⟩ := isW_x hW
  have in1 : vp_in (nI i + nI 1) sn := by rw [nI_add]; exact vp_in_nI (by omega) (by omega)
  have in2 : vp_in (nI i + nI 2) sn := by rw [nI_add]; exact vp_in_nI (by omega) (by omega)
  have in3 : vp_in (nI i + nI 3) sn := by rw [nI_add]; exact vp_in_nI (by omega) (by omega)
  have cl1 : (nI i + nI 1).toNatClampNeg = i + 1 := by rw [nI_add]; exact nI_cl (by omega)
  have cl2 : (nI i + nI 2).toNatClampNeg = i + 2 := by rw [nI_add]; exact nI_cl (by omega)
  have cl3 : (nI i + nI 3).toNatClampNeg = i + 3 := by rw [nI_add]; exact nI_cl (by omega)
  refine zi_aload_n X dL_law_1259 rfl rfl ?_
  refine zi_aload_n X dL_law_1260 rfl rfl ?_
  refine zi_iload X dL_law_1261 rfl ?_
  refine zi_iconst (v := (nI 1)) X dL_law_1263 (by decide) ?_
  refine zi_iadd X dL_law_1264 ?_
  refine zi_sld X hB in1 dL_law_1265 ?_
  refine zi_aload_n X dL_law_1266 rfl rfl ?_
  refine zi_iload X dL_law_1267 rfl ?_
  refine zi_iconst (v := (nI 2)) X dL_law_1269 (by decide) ?_
  refine zi_iadd X dL_law_1270 ?_
  refine zi_sld X hB in2 dL_law_1271 ?_
  refine zi_aload_n X dL_law_1272 rfl rfl ?_
  refine zi_iload X dL_law_1273 rfl ?_
  refine zi_iconst (v := (nI 3)) X dL_law_1275 (by decide) ?_
  refine zi_iadd X dL_law_1276 ?_
  refine zi_sld X hB in3 dL_law_1277 ?_
  refine zi_aload_n X dL_law_1278 rfl rfl ?_
  rw [cl1, cl2, cl3]
  refine zi_hcallSiF X (w_signChanges (g := g) C6 CE hx hp.2.2.2.2.1) (kh_mk (n := 5) win_L wcw_L_signChanges (by decide)) wm_L_168 wst_L_signChanges (LPW_sub hp) ⟨Nat.le_of_ble_eq_true rfl, Nat.le_of_ble_eq_true rfl⟩ rfl rfl (Nat.le_of_ble_eq_true rfl) ⟨by omega, by omega⟩ dL_law_1279 (fun k h1 hq hn => ?_)
  obtain ⟨hs1, g1, s1, s2, s3, hq⟩ := hq
  have hp2 := LPW_c hp s1 s2 s3 hn
  generalize mjoin h (mup hs ou (wO (cA 1) g)) h1 = h2 at hp2 ⊢
  obtain ⟨fr, hy⟩ := rW_x hR
  have hy2 := hp2.2.1 _ _ hy
  refine zi_istore X dL_law_1282 (by decide) ?_
  refine zi_aload_n X dL_law_1284 rfl rfl ?_
  refine zi_aload_n X dL_law_1285 rfl rfl ?_
  refine zi_iload X dL_law_1286 rfl ?_
  refine zi_iconst (v := (nI 1)) X dL_law_1288 (by decide) ?_
  refine zi_iadd X dL_law_1289 ?_
  refine zi_sld X hB in1 dL_law_1290 ?_
  refine zi_aload_n X dL_law_1291 rfl rfl ?_
  refine zi_iload X dL_law_1292 rfl ?_
  refine zi_iconst (v := (nI 2)) X dL_law_1294 (by decide) ?_
  refine zi_iadd X dL_law_1295 ?_
  refine zi_sld X hB in2 dL_law_1296 ?_
  refine zi_aload_n X dL_law_1297 rfl rfl ?_
  refine zi_iload X dL_law_1298 rfl ?_
  refine zi_iconst (v := (nI 3)) X dL_law_1300 (by decide) ?_
  refine zi_iadd X dL_law_1301 ?_
  refine zi_sld X hB in3 dL_law_1302 ?_
  rw [cl1, cl2, cl3]
  refine zi_callViG X C7 kc_X7_signChanges wm_L_170 hy2 rfl wim_X7_signChanges wse_X7_signChanges hp2.2.1 ⟨Nat.le_of_ble_eq_true rfl, Nat.le_of_ble_eq_true rfl⟩ rfl rfl (Nat.le_of_ble_eq_true rfl) ⟨by omega, by omega⟩ dL_law_1303 (fun r h3 hro hn3 => ?_)
  obtain ⟨A1, th1, I1, W1, R1, ek, ev⟩ := CJ k (g1 0) hs1 r h3 hq hro
  have hp3 := LPW_r hp2 hn3
  generalize mjoin h2 hr h3 = h4 at hp3 ⊢
  obtain ⟨f3, hz⟩ := rW_x R1
  have hz3 := hp3.2.1 _ _ hz
  have ho3 := hp3.2.2.2.1
  refine zi_istore X dL_law_1306 (by decide) ?_
  refine zi_aload_n X dL_law_1308 rfl rfl ?_
  refine zi_callViG X (rW_thrown l D R1) kc_X7_thrown wm_L_120 hz3 rfl wim_X7_thrown wse_X7_thrown hp3.2.1 ⟨Nat.le_of_ble_eq_true rfl, Nat.le_of_ble_eq_true rfl⟩ rfl rfl (Nat.le_of_ble_eq_true rfl) ⟨by omega, by omega⟩ dL_law_1309 (fun r2 h5 hro2 hn5 => ?_)
  obtain ⟨rfl, rfl⟩ := hro2
  have hp5 := LPW_r hp3 hn5
  have ho5 := hp5.2.2.2.1
  generalize mjoin h4 h5 h5 = h6 at hp5 ho5 ⊢
  refine zi_widen (k := cells + 10) (n := slots + 13212) (by omega) (by omega) ?_
  refine zi_iload X dL_law_1312 rfl ?_
  refine zi_icmp_eq (tgt := 1319) X dL_law_1314 (by decide) (fun c_1314 => ?_) (fun c_1314 => (by first | exact absurd ek c_1314 | exact absurd c_1314 ek))
  by_cases k0 : k = 0
  · refine zi_iload X dL_law_1319 rfl ?_
    refine zi_if_ne (tgt := 1336) X dL_law_1321 (by decide) (fun c_1321 => (by first | exact absurd (fun q => q k0) c_1321 | exact absurd c_1321 (fun q => q k0))) (fun c_1321 => ?_)
    refine zi_aload_n X dL_law_1324 rfl rfl ?_
    refine zi_iconst (v := (nI 0)) X dL_law_1325 (by decide) ?_
    refine zi_lald X 1 ho5 rfl (vin (show 0 < 1 by decide) (by decide)) dL_law_1326 ?_
    refine zi_iload X dL_law_1327 rfl ?_
    refine zi_i2l X dL_law_1329 ?_
    refine zi_lcmp X dL_law_1330 ?_
    have e0 : lg_cmp (g1 (nI 0).toNatClampNeg) r.toInt64 = 0 := by
      rw [show (nI 0).toNatClampNeg = 0 from rfl, ev k0]
      exact lg_eq _
    refine zi_if_eq (tgt := 1336) X dL_law_1331 (by decide) (fun c_1331 => ?_) (fun c_1331 => (by first | exact absurd e0 c_1331 | exact absurd c_1331 e0))
    refine zi_goto (tgt := 2204) X dL_law_1336 (by decide) ?_
    exact nx h6 _ _ ⟨hs1, h5, g1, A1, th1, hp5, I1, W1, R1⟩
  · refine zi_iload X dL_law_1319 rfl ?_
    refine zi_if_ne (tgt := 1336) X dL_law_1321 (by decide) (fun c_1321 => ?_) (fun c_1321 => (by first | exact absurd k0 c_1321 | exact absurd c_1321 k0))
    refine zi_goto (tgt := 2204) X dL_law_1336 (by decide) ?_
    exact nx h6 _ _ ⟨hs1, h5, g1, A1, th1, hp5, I1, W1, R1⟩
theorem lc_sign (X : zX z l D cL_law yL_law.cls (mT cA) 8 (some .boolean) room_1 yL_law.name) (hag : Ag l D cA S Xa M Inv Inv2 yX6_sign cX6_sign 4 .int (rmc 8 2 12) Int32.toInt64 yX7_sign_ cX7_sign_ 4 .int (rmd 4) [eI, eA] [.int (sf (i + 1)), .int (sf (i + 2)), .int (sf (i + 3))]) (hB : zB z scr sn sf) (hi : i + 6 ≤ sn) (hsn : sn ≤ 3072) (hc : cells + 10 ≤ 603072) (hsl : slots + 13212 ≤ 7202922) (hw : LW cA D S Xa M Inv ou h)
    (nx : ∀ h' L5 L6, LW cA D S Xa M Inv2 ou h' → zM z (cells + 10) (slots + 13212) 2204 [some (.ref scr), some (.ref Xa.1), some (.ref (M 3 0)), some (.ref ou), some (.int (nI i)), L5, L6, none] [] h') : zM z cells slots 1339 [some (.ref scr), some (.ref Xa.1), some (.ref (M 3 0)), some (.ref ou), some (.int (nI i)), L5, L6, none] [] h := by
  have f1 : (rmc 9 2 12).cells = 2 := rfl
  have f2 : (rmc 9 2 12).slots = 12 := rfl
  have f3 : (rmd 4).cells = 0 := rfl
  have f4 : (rmd 4).slots = 0 := rfl
  have f5 : (rmd 1).cells = 0 := rfl
  have f6 : (rmd 1).slots = 0 := rfl
  have f7 : room_1.cells = 603072 := rfl
  have f8 : room_1.slots = 7202922 := rfl
  obtain ⟨hs, hr, g, A, th, hp, hI, hW, hR⟩ := hw
  obtain ⟨Q, PX, RO, C6, CE, C7, CJ⟩ := hag A th hs hr hI hW hR
  obtain ⟨fs, hx⟩ := isW_x hW
  have in1 : vp_in (nI i + nI 1) sn := by rw [nI_add]; exact vp_in_nI (by omega) (by omega)
  have in2 : vp_in (nI i + nI 2) sn := by rw [nI_add]; exact vp_in_nI (by omega) (by omega)
  have in3 : vp_in (nI i + nI 3) sn := by rw [nI_add]; exact vp_in_nI (by omega) (by omega)
  have cl1 : (nI i + nI 1).toNatClampNeg = i + 1 := by rw [nI_add]; exact nI_cl (by omega)
  have cl2 : (nI i + nI 2).toNatClampNeg = i + 2 := by rw [nI_add]; exact nI_cl (by omega)
  have cl3 : (nI i + nI 3).toNatClampNeg = i + 3 := by rw [nI_add]; exact nI_cl (by omega)
  refine zi_aload_n X dL_law_1339 rfl rfl ?_
  refine zi_aload_n X dL_law_1340 rfl rfl ?_
  refine zi_iload X dL_law_1341 rfl ?_
  refine zi_iconst (v := (nI 1)) X dL_law_1343 (by decide) ?_
  refine zi_iadd X dL_law_1344 ?_
  refine zi_sld X hB in1 dL_law_1345 ?_
  refine zi_aload_n X dL_law_1346 rfl rfl ?_
  refine zi_iload X dL_law_1347 rfl ?_
  refine zi_iconst (v := (nI 2)) X dL_law_1349 (by decide) ?_
  refine zi_iadd X dL_law_1350 ?_
  refine zi_sld X hB in2 dL_law_1351 ?_
  refine zi_aload_n X dL_law_1352 rfl rfl ?_
  refine zi_iload X dL_law_1353 rfl ?_
  refine zi_iconst (v := (nI 3)) X dL_law_1355 (by decide) ?_
  refine zi_iadd X dL_law_1356 ?_
  refine zi_sld X hB in3 dL_law_1357 ?_
  refine zi_aload_n X dL_law_1358 rfl rfl ?_
  rw [cl1, cl2, cl3]
  refine zi_hcallSiF X (w_sign (g := g) C6 CE hx hp.2.2.2.2.1) (kh_mk (n := 5) win_L wcw_L_sign (by decide)) wm_L_171 wst_L_sign (LPW_sub hp) ⟨Nat.le_of_ble_eq_true rfl, Nat.le_of_ble_eq_true rfl⟩ rfl rfl (Nat.le_of_ble_eq_true rfl) ⟨by omega, by omega⟩ dL_law_1359 (fun k h1 hq hn => ?_)
  obtain ⟨hs1, g1, s1, s2, s3, hq⟩ := hq
  have hp2 := LPW_c hp s1 s2 s3 hn
  generalize mjoin h (mup hs ou (wO (cA 1) g)) h1 = h2 at hp2 ⊢
  obtain ⟨fr, hy⟩ := rW_x hR
  have hy2 := hp2.2.1 _ _ hy
  refine zi_istore X dL_law_1362 (by decide) ?_
  refine zi_aload_n X dL_law_1364 rfl rfl ?_
  refine zi_aload_n X dL_law_1365 rfl rfl ?_
  refine zi_iload X dL_law_1366 rfl ?_
  refine zi_iconst (v := (nI 1)) X dL_law_1368 (by decide) ?_
  refine zi_iadd X dL_law_1369 ?_
  refine zi_sld X hB in1 dL_law_1370 ?_
  refine zi_aload_n X dL_law_1371 rfl rfl ?_
  refine zi_iload X dL_law_1372 rfl ?_
  refine zi_iconst (v := (nI 2)) X dL_law_1374 (by decide) ?_
  refine zi_iadd X dL_law_1375 ?_
  refine zi_sld X hB in2 dL_law_1376 ?_
  refine zi_aload_n X dL_law_1377 rfl rfl ?_
  refine zi_iload X dL_law_1378 rfl ?_
  refine zi_iconst (v := (nI 3)) X dL_law_1380 (by decide) ?_
  refine zi_iadd X dL_law_1381 ?_
  refine zi_sld X hB in3 dL_law_1382 ?_
  rw [cl1, cl2, cl3]
  refine zi_callViG X C7 kc_X7_sign_ wm_L_173 hy2 rfl wim_X7_sign_ wse_X7_sign_ hp2.2.1 ⟨Nat.le_of_ble_eq_true rfl, Nat.le_of_ble_eq_true rfl⟩ rfl rfl (Nat.le_of_ble_eq_true rfl) ⟨by omega, by omega⟩ dL_law_1383 (fun r h3 hro hn3 => ?_)
  obtain ⟨A1, th1, I1, W1, R1, ek, ev⟩ := CJ k (g1 0) hs1 r h3 hq hro
  have hp3 := LPW_r hp2 hn3
  generalize mjoin h2 hr h3 = h4 at hp3 ⊢
  obtain ⟨f3, hz⟩ := rW_x R1
  have hz3 := hp3.2.1 _ _ hz
  have ho3 := hp3.2.2.2.1
  refine zi_istore X dL_law_1386 (by decide) ?_
  refine zi_aload_n X dL_law_1388 rfl rfl ?_
  refine zi_callViG X (rW_thrown l D R1) kc_X7_thrown wm_L_120 hz3 rfl wim_X7_thrown wse_X7_thrown hp3.2.1 ⟨Nat.le_of_ble_eq_true rfl, Nat.le_of_ble_eq_true rfl⟩ rfl rfl (Nat.le_of_ble_eq_true rfl) ⟨by omega, by omega⟩ dL_law_1389 (fun r2 h5 hro2 hn5 => ?_)
  obtain ⟨rfl, rfl⟩ := hro2
  have hp5 := LPW_r hp3 hn5
  have ho5 := hp5.2.2.2.1
  generalize mjoin h4 h5 h5 = h6 at hp5 ho5 ⊢
  refine zi_widen (k := cells + 10) (n := slots + 13212) (by omega) (by omega) ?_
  refine zi_iload X dL_law_1392 rfl ?_
  refine zi_icmp_eq (tgt := 1399) X dL_law_1394 (by decide) (fun c_1394 => ?_) (fun c_1394 => (by first | exact absurd ek c_1394 | exact absurd c_1394 ek))
  by_cases k0 : k = 0
  · refine zi_iload X dL_law_1399 rfl ?_
    refine zi_if_ne (tgt := 1416) X dL_law_1401 (by decide) (fun c_1401 => (by first | exact absurd (fun q => q k0) c_1401 | exact absurd c_1401 (fun q => q k0))) (fun c_1401 => ?_)
    refine zi_aload_n X dL_law_1404 rfl rfl ?_
    refine zi_iconst (v := (nI 0)) X dL_law_1405 (by decide) ?_
    refine zi_lald X 1 ho5 rfl (vin (show 0 < 1 by decide) (by decide)) dL_law_1406 ?_
    refine zi_iload X dL_law_1407 rfl ?_
    refine zi_i2l X dL_law_1409 ?_
    refine zi_lcmp X dL_law_1410 ?_
    have e0 : lg_cmp (g1 (nI 0).toNatClampNeg) r.toInt64 = 0 := by
      rw [show (nI 0).toNatClampNeg = 0 from rfl, ev k0]
      exact lg_eq _
    refine zi_if_eq (tgt := 1416) X dL_law_1411 (by decide) (fun c_1411 => ?_) (fun c_1411 => (by first | exact absurd e0 c_1411 | exact absurd c_1411 e0))
    refine zi_goto (tgt := 2204) X dL_law_1416 (by decide) ?_
    exact nx h6 _ _ ⟨hs1, h5, g1, A1, th1, hp5, I1, W1, R1⟩
  · refine zi_iload X dL_law_1399 rfl ?_
    refine zi_if_ne (tgt := 1416) X dL_law_1401 (by decide) (fun c_1401 => ?_) (fun c_1401 => (by first | exact absurd k0 c_1401 | exact absurd c_1401 k0))
    refine zi_goto (tgt := 2204) X dL_law_1416 (by decide) ?_
    exact nx h6 _ _ ⟨hs1, h5, g1, A1, th1, hp5, I1, W1, R1⟩
theorem lc_countDistinct (X : zX z l D cL_law yL_law.cls (mT cA) 8 (some .boolean) room_1 yL_law.name) (hag : Ag l D cA S Xa M Inv Inv2 yX6_countDistinct cX6_countDistinct 6 .int (rmc 8 7 42) Int32.toInt64 yX7_countDistinct cX7_countDistinct 7 .int (rmd 10) [eI, eA, eM, eS] [.int (sf (i + 1)), .int (sf (i + 2)), .int (sf (i + 3)), .int (sf (i + 4)), .int (sf (i + 5))]) (hB : zB z scr sn sf) (hi : i + 6 ≤ sn) (hsn : sn ≤ 3072) (hc : cells + 10 ≤ 603072) (hsl : slots + 13212 ≤ 7202922) (hw : LW cA D S Xa M Inv ou h)
    (nx : ∀ h' L5 L6, LW cA D S Xa M Inv2 ou h' → zM z (cells + 10) (slots + 13212) 2204 [some (.ref scr), some (.ref Xa.1), some (.ref (M 3 0)), some (.ref ou), some (.int (nI i)), L5, L6, none] [] h') : zM z cells slots 1419 [some (.ref scr), some (.ref Xa.1), some (.ref (M 3 0)), some (.ref ou), some (.int (nI i)), L5, L6, none] [] h := by
  have f1 : (rmc 9 7 42).cells = 7 := rfl
  have f2 : (rmc 9 7 42).slots = 42 := rfl
  have f3 : (rmd 10).cells = 0 := rfl
  have f4 : (rmd 10).slots = 0 := rfl
  have f5 : (rmd 1).cells = 0 := rfl
  have f6 : (rmd 1).slots = 0 := rfl
  have f7 : room_1.cells = 603072 := rfl
  have f8 : room_1.slots = 7202922 := rfl
  obtain ⟨hs, hr, g, A, th, hp, hI, hW, hR⟩ := hw
  obtain ⟨Q, PX, RO, C6, CE, C7, CJ⟩ := hag A th hs hr hI hW hR
  obtain ⟨fs, hx⟩ := isW_x hW
  have in1 : vp_in (nI i + nI 1) sn := by rw [nI_add]; exact vp_in_nI (by omega) (by omega)
  have in2 : vp_in (nI i + nI 2) sn := by rw [nI_add]; exact vp_in_nI (by omega) (by omega)
  have in3 : vp_in (nI i + nI 3) sn := by rw [nI_add]; exact vp_in_nI (by omega) (by omega)
  have in4 : vp_in (nI i + nI 4) sn := by rw [nI_add]; exact vp_in_nI (by omega) (by omega)
  have in5 : vp_in (nI i + nI 5) sn := by rw [nI_add]; exact vp_in_nI (by omega) (by omega)
  have cl1 : (nI i + nI 1).toNatClampNeg = i + 1 := by rw [nI_add]; exact nI_cl (by omega)
  have cl2 : (nI i + nI 2).toNatClampNeg = i + 2 := by rw [nI_add]; exact nI_cl (by omega)
  have cl3 : (nI i + nI 3).toNatClampNeg = i + 3 := by rw [nI_add]; exact nI_cl (by omega)
  have cl4 : (nI i + nI 4).toNatClampNeg = i + 4 := by rw [nI_add]; exact nI_cl (by omega)
  have cl5 : (nI i + nI 5).toNatClampNeg = i + 5 := by rw [nI_add]; exact nI_cl (by omega)
  refine zi_aload_n X dL_law_1419 rfl rfl ?_
  refine zi_aload_n X dL_law_1420 rfl rfl ?_
  refine zi_iload X dL_law_1421 rfl ?_
  refine zi_iconst (v := (nI 1)) X dL_law_1423 (by decide) ?_
  refine zi_iadd X dL_law_1424 ?_
  refine zi_sld X hB in1 dL_law_1425 ?_
  refine zi_aload_n X dL_law_1426 rfl rfl ?_
  refine zi_iload X dL_law_1427 rfl ?_
  refine zi_iconst (v := (nI 2)) X dL_law_1429 (by decide) ?_
  refine zi_iadd X dL_law_1430 ?_
  refine zi_sld X hB in2 dL_law_1431 ?_
  refine zi_aload_n X dL_law_1432 rfl rfl ?_
  refine zi_iload X dL_law_1433 rfl ?_
  refine zi_iconst (v := (nI 3)) X dL_law_1435 (by decide) ?_
  refine zi_iadd X dL_law_1436 ?_
  refine zi_sld X hB in3 dL_law_1437 ?_
  refine zi_aload_n X dL_law_1438 rfl rfl ?_
  refine zi_iload X dL_law_1439 rfl ?_
  refine zi_iconst (v := (nI 4)) X dL_law_1441 (by decide) ?_
  refine zi_iadd X dL_law_1442 ?_
  refine zi_sld X hB in4 dL_law_1443 ?_
  refine zi_aload_n X dL_law_1444 rfl rfl ?_
  refine zi_iload X dL_law_1445 rfl ?_
  refine zi_iconst (v := (nI 5)) X dL_law_1447 (by decide) ?_
  refine zi_iadd X dL_law_1448 ?_
  refine zi_sld X hB in5 dL_law_1449 ?_
  refine zi_aload_n X dL_law_1450 rfl rfl ?_
  rw [cl1, cl2, cl3, cl4, cl5]
  refine zi_hcallSiF X (w_countDistinct (g := g) C6 CE hx hp.2.2.2.2.1) (kh_mk (n := 7) win_L wcw_L_countDistinct (by decide)) wm_L_174 wst_L_countDistinct (LPW_sub hp) ⟨Nat.le_of_ble_eq_true rfl, Nat.le_of_ble_eq_true rfl⟩ rfl rfl (Nat.le_of_ble_eq_true rfl) ⟨by omega, by omega⟩ dL_law_1451 (fun k h1 hq hn => ?_)
  obtain ⟨hs1, g1, s1, s2, s3, hq⟩ := hq
  have hp2 := LPW_c hp s1 s2 s3 hn
  generalize mjoin h (mup hs ou (wO (cA 1) g)) h1 = h2 at hp2 ⊢
  obtain ⟨fr, hy⟩ := rW_x hR
  have hy2 := hp2.2.1 _ _ hy
  refine zi_istore X dL_law_1454 (by decide) ?_
  refine zi_aload_n X dL_law_1456 rfl rfl ?_
  refine zi_aload_n X dL_law_1457 rfl rfl ?_
  refine zi_iload X dL_law_1458 rfl ?_
  refine zi_iconst (v := (nI 1)) X dL_law_1460 (by decide) ?_
  refine zi_iadd X dL_law_1461 ?_
  refine zi_sld X hB in1 dL_law_1462 ?_
  refine zi_aload_n X dL_law_1463 rfl rfl ?_
  refine zi_iload X dL_law_1464 rfl ?_
  refine zi_iconst (v := (nI 2)) X dL_law_1466 (by decide) ?_
  refine zi_iadd X dL_law_1467 ?_
  refine zi_sld X hB in2 dL_law_1468 ?_
  refine zi_aload_n X dL_law_1469 rfl rfl ?_
  refine zi_iload X dL_law_1470 rfl ?_
  refine zi_iconst (v := (nI 3)) X dL_law_1472 (by decide) ?_
  refine zi_iadd X dL_law_1473 ?_
  refine zi_sld X hB in3 dL_law_1474 ?_
  refine zi_aload_n X dL_law_1475 rfl rfl ?_
  refine zi_iload X dL_law_1476 rfl ?_
  refine zi_iconst (v := (nI 4)) X dL_law_1478 (by decide) ?_
  refine zi_iadd X dL_law_1479 ?_
  refine zi_sld X hB in4 dL_law_1480 ?_
  refine zi_aload_n X dL_law_1481 rfl rfl ?_
  refine zi_iload X dL_law_1482 rfl ?_
  refine zi_iconst (v := (nI 5)) X dL_law_1484 (by decide) ?_
  refine zi_iadd X dL_law_1485 ?_
  refine zi_sld X hB in5 dL_law_1486 ?_
  rw [cl1, cl2, cl3, cl4, cl5]
  refine zi_callViG X C7 kc_X7_countDistinct wm_L_177 hy2 rfl wim_X7_countDistinct wse_X7_countDistinct hp2.2.1 ⟨Nat.le_of_ble_eq_true rfl, Nat.le_of_ble_eq_true rfl⟩ rfl rfl (Nat.le_of_ble_eq_true rfl) ⟨by omega, by omega⟩ dL_law_1487 (fun r h3 hro hn3 => ?_)
  obtain ⟨A1, th1, I1, W1, R1, ek, ev⟩ := CJ k (g1 0) hs1 r h3 hq hro
  have hp3 := LPW_r hp2 hn3
  generalize mjoin h2 hr h3 = h4 at hp3 ⊢
  obtain ⟨f3, hz⟩ := rW_x R1
  have hz3 := hp3.2.1 _ _ hz
  have ho3 := hp3.2.2.2.1
  refine zi_istore X dL_law_1490 (by decide) ?_
  refine zi_aload_n X dL_law_1492 rfl rfl ?_
  refine zi_callViG X (rW_thrown l D R1) kc_X7_thrown wm_L_120 hz3 rfl wim_X7_thrown wse_X7_thrown hp3.2.1 ⟨Nat.le_of_ble_eq_true rfl, Nat.le_of_ble_eq_true rfl⟩ rfl rfl (Nat.le_of_ble_eq_true rfl) ⟨by omega, by omega⟩ dL_law_1493 (fun r2 h5 hro2 hn5 => ?_)
  obtain ⟨rfl, rfl⟩ := hro2
  have hp5 := LPW_r hp3 hn5
  have ho5 := hp5.2.2.2.1
  generalize mjoin h4 h5 h5 = h6 at hp5 ho5 ⊢
  refine zi_widen (k := cells + 10) (n := slots + 13212) (by omega) (by omega) ?_
  refine zi_iload X dL_law_1496 rfl ?_
  refine zi_icmp_eq (tgt := 1503) X dL_law_1498 (by decide) (fun c_1498 => ?_) (fun c_1498 => (by first | exact absurd ek c_1498 | exact absurd c_1498 ek))
  by_cases k0 : k = 0
  · refine zi_iload X dL_law_1503 rfl ?_
    refine zi_if_ne (tgt := 1520) X dL_law_1505 (by decide) (fun c_1505 => (by first | exact absurd (fun q => q k0) c_1505 | exact absurd c_1505 (fun q => q k0))) (fun c_1505 => ?_)
    refine zi_aload_n X dL_law_1508 rfl rfl ?_
    refine zi_iconst (v := (nI 0)) X dL_law_1509 (by decide) ?_
    refine zi_lald X 1 ho5 rfl (vin (show 0 < 1 by decide) (by decide)) dL_law_1510 ?_
    refine zi_iload X dL_law_1511 rfl ?_
    refine zi_i2l X dL_law_1513 ?_
    refine zi_lcmp X dL_law_1514 ?_
    have e0 : lg_cmp (g1 (nI 0).toNatClampNeg) r.toInt64 = 0 := by
      rw [show (nI 0).toNatClampNeg = 0 from rfl, ev k0]
      exact lg_eq _
    refine zi_if_eq (tgt := 1520) X dL_law_1515 (by decide) (fun c_1515 => ?_) (fun c_1515 => (by first | exact absurd e0 c_1515 | exact absurd c_1515 e0))
    refine zi_goto (tgt := 2204) X dL_law_1520 (by decide) ?_
    exact nx h6 _ _ ⟨hs1, h5, g1, A1, th1, hp5, I1, W1, R1⟩
  · refine zi_iload X dL_law_1503 rfl ?_
    refine zi_if_ne (tgt := 1520) X dL_law_1505 (by decide) (fun c_1505 => ?_) (fun c_1505 => (by first | exact absurd k0 c_1505 | exact absurd c_1505 k0))
    refine zi_goto (tgt := 2204) X dL_law_1520 (by decide) ?_
    exact nx h6 _ _ ⟨hs1, h5, g1, A1, th1, hp5, I1, W1, R1⟩
theorem lc_countAll (X : zX z l D cL_law yL_law.cls (mT cA) 8 (some .boolean) room_1 yL_law.name) (hag : Ag l D cA S Xa M Inv Inv2 yX6_countAll cX6_countAll 8 .int (rmc 8 7 42) Int32.toInt64 yX7_countAll cX7_countAll 8 .int (rmd 10) [eI, eA, eM, eS] [.int (sf (i + 1)), .int (sf (i + 2)), .int (sf (i + 3)), .int (sf (i + 4)), .int (sf (i + 5))]) (hB : zB z scr sn sf) (hi : i + 6 ≤ sn) (hsn : sn ≤ 3072) (hc : cells + 10 ≤ 603072) (hsl : slots + 13212 ≤ 7202922) (hw : LW cA D S Xa M Inv ou h)
    (nx : ∀ h' L5 L6, LW cA D S Xa M Inv2 ou h' → zM z (cells + 10) (slots + 13212) 2204 [some (.ref scr), some (.ref Xa.1), some (.ref (M 3 0)), some (.ref ou), some (.int (nI i)), L5, L6, none] [] h') : zM z cells slots 1523 [some (.ref scr), some (.ref Xa.1), some (.ref (M 3 0)), some (.ref ou), some (.int (nI i)), L5, L6, none] [] h := by
  have f1 : (rmc 9 7 42).cells = 7 := rfl
  have f2 : (rmc 9 7 42).slots = 42 := rfl
  have f3 : (rmd 10).cells = 0 := rfl
  have f4 : (rmd 10).slots = 0 := rfl
  have f5 : (rmd 1).cells = 0 := rfl
  have f6 : (rmd 1).slots = 0 := rfl
  have f7 : room_1.cells = 603072 := rfl
  have f8 : room_1.slots = 7202922 := rfl
  obtain ⟨hs, hr, g, A, th, hp, hI, hW, hR⟩ := hw
  obtain ⟨Q, PX, RO, C6, CE, C7, CJ⟩ := hag A th hs hr hI hW hR
  obtain ⟨fs, hx⟩ := isW_x hW
  have in1 : vp_in (nI i + nI 1) sn := by rw [nI_add]; exact vp_in_nI (by omega) (by omega)
  have in2 : vp_in (nI i + nI 2) sn := by rw [nI_add]; exact vp_in_nI (by omega) (by omega)
  have in3 : vp_in (nI i + nI 3) sn := by rw [nI_add]; exact vp_in_nI (by omega) (by omega)
  have in4 : vp_in (nI i + nI 4) sn := by rw [nI_add]; exact vp_in_nI (by omega) (by omega)
  have in5 : vp_in (nI i + nI 5) sn := by rw [nI_add]; exact vp_in_nI (by omega) (by omega)
  have cl1 : (nI i + nI 1).toNatClampNeg = i + 1 := by rw [nI_add]; exact nI_cl (by omega)
  have cl2 : (nI i + nI 2).toNatClampNeg = i + 2 := by rw [nI_add]; exact nI_cl (by omega)
  have cl3 : (nI i + nI 3).toNatClampNeg = i + 3 := by rw [nI_add]; exact nI_cl (by omega)
  have cl4 : (nI i + nI 4).toNatClampNeg = i + 4 := by rw [nI_add]; exact nI_cl (by omega)
  have cl5 : (nI i + nI 5).toNatClampNeg = i + 5 := by rw [nI_add]; exact nI_cl (by omega)
  refine zi_aload_n X dL_law_1523 rfl rfl ?_
  refine zi_aload_n X dL_law_1524 rfl rfl ?_
  refine zi_iload X dL_law_1525 rfl ?_
  refine zi_iconst (v := (nI 1)) X dL_law_1527 (by decide) ?_
  refine zi_iadd X dL_law_1528 ?_
  refine zi_sld X hB in1 dL_law_1529 ?_
  refine zi_aload_n X dL_law_1530 rfl rfl ?_
  refine zi_iload X dL_law_1531 rfl ?_
  refine zi_iconst (v := (nI 2)) X dL_law_1533 (by decide) ?_
  refine zi_iadd X dL_law_1534 ?_
  refine zi_sld X hB in2 dL_law_1535 ?_
  refine zi_aload_n X dL_law_1536 rfl rfl ?_
  refine zi_iload X dL_law_1537 rfl ?_
  refine zi_iconst (v := (nI 3)) X dL_law_1539 (by decide) ?_
  refine zi_iadd X dL_law_1540 ?_
  refine zi_sld X hB in3 dL_law_1541 ?_
  refine zi_aload_n X dL_law_1542 rfl rfl ?_
  refine zi_iload X dL_law_1543 rfl ?_
  refine zi_iconst (v := (nI 4)) X dL_law_1545 (by decide) ?_
  refine zi_iadd X dL_law_1546 ?_
  refine zi_sld X hB in4 dL_law_1547 ?_
  refine zi_aload_n X dL_law_1548 rfl rfl ?_
  refine zi_iload X dL_law_1549 rfl ?_
  refine zi_iconst (v := (nI 5)) X dL_law_1551 (by decide) ?_
  refine zi_iadd X dL_law_1552 ?_
  refine zi_sld X hB in5 dL_law_1553 ?_
  refine zi_aload_n X dL_law_1554 rfl rfl ?_
  rw [cl1, cl2, cl3, cl4, cl5]
  refine zi_hcallSiF X (w_countAll (g := g) C6 CE hx hp.2.2.2.2.1) (kh_mk (n := 7) win_L wcw_L_countAll (by decide)) wm_L_178 wst_L_countAll (LPW_sub hp) ⟨Nat.le_of_ble_eq_true rfl, Nat.le_of_ble_eq_true rfl⟩ rfl rfl (Nat.le_of_ble_eq_true rfl) ⟨by omega, by omega⟩ dL_law_1555 (fun k h1 hq hn => ?_)
  obtain ⟨hs1, g1, s1, s2, s3, hq⟩ := hq
  have hp2 := LPW_c hp s1 s2 s3 hn
  generalize mjoin h (mup hs ou (wO (cA 1) g)) h1 = h2 at hp2 ⊢
  obtain ⟨fr, hy⟩ := rW_x hR
  have hy2 := hp2.2.1 _ _ hy
  refine zi_istore X dL_law_1558 (by decide) ?_
  refine zi_aload_n X dL_law_1560 rfl rfl ?_
  refine zi_aload_n X dL_law_1561 rfl rfl ?_
  refine zi_iload X dL_law_1562 rfl ?_
  refine zi_iconst (v := (nI 1)) X dL_law_1564 (by decide) ?_
  refine zi_iadd X dL_law_1565 ?_
  refine zi_sld X hB in1 dL_law_1566 ?_
  refine zi_aload_n X dL_law_1567 rfl rfl ?_
  refine zi_iload X dL_law_1568 rfl ?_
  refine zi_iconst (v := (nI 2)) X dL_law_1570 (by decide) ?_
  refine zi_iadd X dL_law_1571 ?_
  refine zi_sld X hB in2 dL_law_1572 ?_
  refine zi_aload_n X dL_law_1573 rfl rfl ?_
  refine zi_iload X dL_law_1574 rfl ?_
  refine zi_iconst (v := (nI 3)) X dL_law_1576 (by decide) ?_
  refine zi_iadd X dL_law_1577 ?_
  refine zi_sld X hB in3 dL_law_1578 ?_
  refine zi_aload_n X dL_law_1579 rfl rfl ?_
  refine zi_iload X dL_law_1580 rfl ?_
  refine zi_iconst (v := (nI 4)) X dL_law_1582 (by decide) ?_
  refine zi_iadd X dL_law_1583 ?_
  refine zi_sld X hB in4 dL_law_1584 ?_
  refine zi_aload_n X dL_law_1585 rfl rfl ?_
  refine zi_iload X dL_law_1586 rfl ?_
  refine zi_iconst (v := (nI 5)) X dL_law_1588 (by decide) ?_
  refine zi_iadd X dL_law_1589 ?_
  refine zi_sld X hB in5 dL_law_1590 ?_
  rw [cl1, cl2, cl3, cl4, cl5]
  refine zi_callViG X C7 kc_X7_countAll wm_L_180 hy2 rfl wim_X7_countAll wse_X7_countAll hp2.2.1 ⟨Nat.le_of_ble_eq_true rfl, Nat.le_of_ble_eq_true rfl⟩ rfl rfl (Nat.le_of_ble_eq_true rfl) ⟨by omega, by omega⟩ dL_law_1591 (fun r h3 hro hn3 => ?_)
  obtain ⟨A1, th1, I1, W1, R1, ek, ev⟩ := CJ k (g1 0) hs1 r h3 hq hro
  have hp3 := LPW_r hp2 hn3
  generalize mjoin h2 hr h3 = h4 at hp3 ⊢
  obtain ⟨f3, hz⟩ := rW_x R1
  have hz3 := hp3.2.1 _ _ hz
  have ho3 := hp3.2.2.2.1
  refine zi_istore X dL_law_1594 (by decide) ?_
  refine zi_aload_n X dL_law_1596 rfl rfl ?_
  refine zi_callViG X (rW_thrown l D R1) kc_X7_thrown wm_L_120 hz3 rfl wim_X7_thrown wse_X7_thrown hp3.2.1 ⟨Nat.le_of_ble_eq_true rfl, Nat.le_of_ble_eq_true rfl⟩ rfl rfl (Nat.le_of_ble_eq_true rfl) ⟨by omega, by omega⟩ dL_law_1597 (fun r2 h5 hro2 hn5 => ?_)
  obtain ⟨rfl, rfl⟩ := hro2
  have hp5 := LPW_r hp3 hn5
  have ho5 := hp5.2.2.2.1
  generalize mjoin h4 h5 h5 = h6 at hp5 ho5 ⊢
  refine zi_widen (k := cells + 10) (n := slots + 13212) (by omega) (by omega) ?_
  refine zi_iload X dL_law_1600 rfl ?_
  refine zi_icmp_eq (tgt := 1607) X dL_law_1602 (by decide) (fun c_1602 => ?_) (fun c_1602 => (by first | exact absurd ek c_1602 | exact absurd c_1602 ek))
  by_cases k0 : k = 0
  · refine zi_iload X dL_law_1607 rfl ?_
    refine zi_if_ne (tgt := 1624) X dL_law_1609 (by decide) (fun c_1609 => (by first | exact absurd (fun q => q k0) c_1609 | exact absurd c_1609 (fun q => q k0))) (fun c_1609 => ?_)
    refine zi_aload_n X dL_law_1612 rfl rfl ?_
    refine zi_iconst (v := (nI 0)) X dL_law_1613 (by decide) ?_
    refine zi_lald X 1 ho5 rfl (vin (show 0 < 1 by decide) (by decide)) dL_law_1614 ?_
    refine zi_iload X dL_law_1615 rfl ?_
    refine zi_i2l X dL_law_1617 ?_
    refine zi_lcmp X dL_law_1618 ?_
    have e0 : lg_cmp (g1 (nI 0).toNatClampNeg) r.toInt64 = 0 := by
      rw [show (nI 0).toNatClampNeg = 0 from rfl, ev k0]
      exact lg_eq _
    refine zi_if_eq (tgt := 1624) X dL_law_1619 (by decide) (fun c_1619 => ?_) (fun c_1619 => (by first | exact absurd e0 c_1619 | exact absurd c_1619 e0))
    refine zi_goto (tgt := 2204) X dL_law_1624 (by decide) ?_
    exact nx h6 _ _ ⟨hs1, h5, g1, A1, th1, hp5, I1, W1, R1⟩
  · refine zi_iload X dL_law_1607 rfl ?_
    refine zi_if_ne (tgt := 1624) X dL_law_1609 (by decide) (fun c_1609 => ?_) (fun c_1609 => (by first | exact absurd k0 c_1609 | exact absurd c_1609 k0))
    refine zi_goto (tgt := 2204) X dL_law_1624 (by decide) ?_
    exact nx h6 _ _ ⟨hs1, h5, g1, A1, th1, hp5, I1, W1, R1⟩
theorem lc_distinctRoots (X : zX z l D cL_law yL_law.cls (mT cA) 8 (some .boolean) room_1 yL_law.name) (hag : Ag l D cA S Xa M Inv Inv2 yX6_distinctRoots cX6_distinctRoots 2 .int (rmc 8 2 12) Int32.toInt64 yX7_distinctRoots cX7_distinctRoots 3 .int (rmd 10) [eI, eM] [.int (sf (i + 1))]) (hB : zB z scr sn sf) (hi : i + 6 ≤ sn) (hsn : sn ≤ 3072) (hc : cells + 10 ≤ 603072) (hsl : slots + 13212 ≤ 7202922) (hw : LW cA D S Xa M Inv ou h)
    (nx : ∀ h' L5 L6, LW cA D S Xa M Inv2 ou h' → zM z (cells + 10) (slots + 13212) 2204 [some (.ref scr), some (.ref Xa.1), some (.ref (M 3 0)), some (.ref ou), some (.int (nI i)), L5, L6, none] [] h') : zM z cells slots 1627 [some (.ref scr), some (.ref Xa.1), some (.ref (M 3 0)), some (.ref ou), some (.int (nI i)), L5, L6, none] [] h := by
  have f1 : (rmc 9 2 12).cells = 2 := rfl
  have f2 : (rmc 9 2 12).slots = 12 := rfl
  have f3 : (rmd 10).cells = 0 := rfl
  have f4 : (rmd 10).slots = 0 := rfl
  have f5 : (rmd 1).cells = 0 := rfl
  have f6 : (rmd 1).slots = 0 := rfl
  have f7 : room_1.cells = 603072 := rfl
  have f8 : room_1.slots = 7202922 := rfl
  obtain ⟨hs, hr, g, A, th, hp, hI, hW, hR⟩ := hw
  obtain ⟨Q, PX, RO, C6, CE, C7, CJ⟩ := hag A th hs hr hI hW hR
  obtain ⟨fs, hx⟩ := isW_x hW
  have in1 : vp_in (nI i + nI 1) sn := by rw [nI_add]; exact vp_in_nI (by omega) (by omega)
  have cl1 : (nI i + nI 1).toNatClampNeg = i + 1 := by rw [nI_add]; exact nI_cl (by omega)
  refine zi_aload_n X dL_law_1627 rfl rfl ?_
  refine zi_aload_n X dL_law_1628 rfl rfl ?_
  refine zi_iload X dL_law_1629 rfl ?_
  refine zi_iconst (v := (nI 1)) X dL_law_1631 (by decide) ?_
  refine zi_iadd X dL_law_1632 ?_
  refine zi_sld X hB in1 dL_law_1633 ?_
  refine zi_aload_n X dL_law_1634 rfl rfl ?_
  rw [cl1]
  refine zi_hcallSiF X (w_distinctRoots (g := g) C6 CE hx hp.2.2.2.2.1) (kh_mk (n := 3) win_L wcw_L_distinctRoots (by decide)) wm_L_181 wst_L_distinctRoots (LPW_sub hp) ⟨Nat.le_of_ble_eq_true rfl, Nat.le_of_ble_eq_true rfl⟩ rfl rfl (Nat.le_of_ble_eq_true rfl) ⟨by omega, by omega⟩ dL_law_1635 (fun k h1 hq hn => ?_)
  obtain ⟨hs1, g1, s1, s2, s3, hq⟩ := hq
  have hp2 := LPW_c hp s1 s2 s3 hn
  generalize mjoin h (mup hs ou (wO (cA 1) g)) h1 = h2 at hp2 ⊢
  obtain ⟨fr, hy⟩ := rW_x hR
  have hy2 := hp2.2.1 _ _ hy
  refine zi_istore X dL_law_1638 (by decide) ?_
  refine zi_aload_n X dL_law_1640 rfl rfl ?_
  refine zi_aload_n X dL_law_1641 rfl rfl ?_
  refine zi_iload X dL_law_1642 rfl ?_
  refine zi_iconst (v := (nI 1)) X dL_law_1644 (by decide) ?_
  refine zi_iadd X dL_law_1645 ?_
  refine zi_sld X hB in1 dL_law_1646 ?_
  rw [cl1]
  refine zi_callViG X C7 kc_X7_distinctRoots wm_L_183 hy2 rfl wim_X7_distinctRoots wse_X7_distinctRoots hp2.2.1 ⟨Nat.le_of_ble_eq_true rfl, Nat.le_of_ble_eq_true rfl⟩ rfl rfl (Nat.le_of_ble_eq_true rfl) ⟨by omega, by omega⟩ dL_law_1647 (fun r h3 hro hn3 => ?_)
  obtain ⟨A1, th1, I1, W1, R1, ek, ev⟩ := CJ k (g1 0) hs1 r h3 hq hro
  have hp3 := LPW_r hp2 hn3
  generalize mjoin h2 hr h3 = h4 at hp3 ⊢
  obtain ⟨f3, hz⟩ := rW_x R1
  have hz3 := hp3.2.1 _ _ hz
  have ho3 := hp3.2.2.2.1
  refine zi_istore X dL_law_1650 (by decide) ?_
  refine zi_aload_n X dL_law_1652 rfl rfl ?_
  refine zi_callViG X (rW_thrown l D R1) kc_X7_thrown wm_L_120 hz3 rfl wim_X7_thrown wse_X7_thrown hp3.2.1 ⟨Nat.le_of_ble_eq_true rfl, Nat.le_of_ble_eq_true rfl⟩ rfl rfl (Nat.le_of_ble_eq_true rfl) ⟨by omega, by omega⟩ dL_law_1653 (fun r2 h5 hro2 hn5 => ?_)
  obtain ⟨rfl, rfl⟩ := hro2
  have hp5 := LPW_r hp3 hn5
  have ho5 := hp5.2.2.2.1
  generalize mjoin h4 h5 h5 = h6 at hp5 ho5 ⊢
  refine zi_widen (k := cells + 10) (n := slots + 13212) (by omega) (by omega) ?_
  refine zi_iload X dL_law_1656 rfl ?_
  refine zi_icmp_eq (tgt := 1663) X dL_law_1658 (by decide) (fun c_1658 => ?_) (fun c_1658 => (by first | exact absurd ek c_1658 | exact absurd c_1658 ek))
  by_cases k0 : k = 0
  · refine zi_iload X dL_law_1663 rfl ?_
    refine zi_if_ne (tgt := 1680) X dL_law_1665 (by decide) (fun c_1665 => (by first | exact absurd (fun q => q k0) c_1665 | exact absurd c_1665 (fun q => q k0))) (fun c_1665 => ?_)
    refine zi_aload_n X dL_law_1668 rfl rfl ?_
    refine zi_iconst (v := (nI 0)) X dL_law_1669 (by decide) ?_
    refine zi_lald X 1 ho5 rfl (vin (show 0 < 1 by decide) (by decide)) dL_law_1670 ?_
    refine zi_iload X dL_law_1671 rfl ?_
    refine zi_i2l X dL_law_1673 ?_
    refine zi_lcmp X dL_law_1674 ?_
    have e0 : lg_cmp (g1 (nI 0).toNatClampNeg) r.toInt64 = 0 := by
      rw [show (nI 0).toNatClampNeg = 0 from rfl, ev k0]
      exact lg_eq _
    refine zi_if_eq (tgt := 1680) X dL_law_1675 (by decide) (fun c_1675 => ?_) (fun c_1675 => (by first | exact absurd e0 c_1675 | exact absurd c_1675 e0))
    refine zi_goto (tgt := 2204) X dL_law_1680 (by decide) ?_
    exact nx h6 _ _ ⟨hs1, h5, g1, A1, th1, hp5, I1, W1, R1⟩
  · refine zi_iload X dL_law_1663 rfl ?_
    refine zi_if_ne (tgt := 1680) X dL_law_1665 (by decide) (fun c_1665 => ?_) (fun c_1665 => (by first | exact absurd k0 c_1665 | exact absurd c_1665 k0))
    refine zi_goto (tgt := 2204) X dL_law_1680 (by decide) ?_
    exact nx h6 _ _ ⟨hs1, h5, g1, A1, th1, hp5, I1, W1, R1⟩
theorem lc_coefficientSignChanges (X : zX z l D cL_law yL_law.cls (mT cA) 8 (some .boolean) room_1 yL_law.name) (hag : Ag l D cA S Xa M Inv Inv2 yX6_coefficientSignChanges cX6_coefficientSignChanges 2 .int (rmc 7 1 6) Int32.toInt64 yX7_coefficientSignChanges cX7_coefficientSignChanges 2 .int (rmd 3) [eI] [.int (sf (i + 1))]) (hB : zB z scr sn sf) (hi : i + 6 ≤ sn) (hsn : sn ≤ 3072) (hc : cells + 10 ≤ 603072) (hsl : slots + 13212 ≤ 7202922) (hw : LW cA D S Xa M Inv ou h)
    (nx : ∀ h' L5 L6, LW cA D S Xa M Inv2 ou h' → zM z (cells + 10) (slots + 13212) 2204 [some (.ref scr), some (.ref Xa.1), some (.ref (M 3 0)), some (.ref ou), some (.int (nI i)), L5, L6, none] [] h') : zM z cells slots 1683 [some (.ref scr), some (.ref Xa.1), some (.ref (M 3 0)), some (.ref ou), some (.int (nI i)), L5, L6, none] [] h := by
  have f1 : (rmc 8 1 6).cells = 1 := rfl
  have f2 : (rmc 8 1 6).slots = 6 := rfl
  have f3 : (rmd 3).cells = 0 := rfl
  have f4 : (rmd 3).slots = 0 := rfl
  have f5 : (rmd 1).cells = 0 := rfl
  have f6 : (rmd 1).slots = 0 := rfl
  have f7 : room_1.cells = 603072 := rfl
  have f8 : room_1.slots = 7202922 := rfl
  obtain ⟨hs, hr, g, A, th, hp, hI, hW, hR⟩ := hw
  obtain ⟨Q, PX, RO, C6, CE, C7, CJ⟩ := hag A th hs hr hI hW hR
  obtain ⟨fs, hx⟩ := isW_x hW
  have in1 : vp_in (nI i + nI 1) sn := by rw [nI_add]; exact vp_in_nI (by omega) (by omega)
  have cl1 : (nI i + nI 1).toNatClampNeg = i + 1 := by rw [nI_add]; exact nI_cl (by omega)
  refine zi_aload_n X dL_law_1683 rfl rfl ?_
  refine zi_aload_n X dL_law_1684 rfl rfl ?_
  refine zi_iload X dL_law_1685 rfl ?_
  refine zi_iconst (v := (nI 1)) X dL_law_1687 (by decide) ?_
  refine zi_iadd X dL_law_1688 ?_
  refine zi_sld X hB in1 dL_law_1689 ?_
  refine zi_aload_n X dL_law_1690 rfl rfl ?_
  rw [cl1]
  refine zi_hcallSiF X (w_coefficientSignChanges (g := g) C6 CE hx hp.2.2.2.2.1) (kh_mk (n := 3) win_L wcw_L_coefficientSignChanges (by decide)) wm_L_184 wst_L_coefficientSignChanges (LPW_sub hp) ⟨Nat.le_of_ble_eq_true rfl, Nat.le_of_ble_eq_true rfl⟩ rfl rfl (Nat.le_of_ble_eq_true rfl) ⟨by omega, by omega⟩ dL_law_1691 (fun k h1 hq hn => ?_)
  obtain ⟨hs1, g1, s1, s2, s3, hq⟩ := hq
  have hp2 := LPW_c hp s1 s2 s3 hn
  generalize mjoin h (mup hs ou (wO (cA 1) g)) h1 = h2 at hp2 ⊢
  obtain ⟨fr, hy⟩ := rW_x hR
  have hy2 := hp2.2.1 _ _ hy
  refine zi_istore X dL_law_1694 (by decide) ?_
  refine zi_aload_n X dL_law_1696 rfl rfl ?_
  refine zi_aload_n X dL_law_1697 rfl rfl ?_
  refine zi_iload X dL_law_1698 rfl ?_
  refine zi_iconst (v := (nI 1)) X dL_law_1700 (by decide) ?_
  refine zi_iadd X dL_law_1701 ?_
  refine zi_sld X hB in1 dL_law_1702 ?_
  rw [cl1]
  refine zi_callViG X C7 kc_X7_coefficientSignChanges wm_L_186 hy2 rfl wim_X7_coefficientSignChanges wse_X7_coefficientSignChanges hp2.2.1 ⟨Nat.le_of_ble_eq_true rfl, Nat.le_of_ble_eq_true rfl⟩ rfl rfl (Nat.le_of_ble_eq_true rfl) ⟨by omega, by omega⟩ dL_law_1703 (fun r h3 hro hn3 => ?_)
  obtain ⟨A1, th1, I1, W1, R1, ek, ev⟩ := CJ k (g1 0) hs1 r h3 hq hro
  have hp3 := LPW_r hp2 hn3
  generalize mjoin h2 hr h3 = h4 at hp3 ⊢
  obtain ⟨f3, hz⟩ := rW_x R1
  have hz3 := hp3.2.1 _ _ hz
  have ho3 := hp3.2.2.2.1
  refine zi_istore X dL_law_1706 (by decide) ?_
  refine zi_aload_n X dL_law_1708 rfl rfl ?_
  refine zi_callViG X (rW_thrown l D R1) kc_X7_thrown wm_L_120 hz3 rfl wim_X7_thrown wse_X7_thrown hp3.2.1 ⟨Nat.le_of_ble_eq_true rfl, Nat.le_of_ble_eq_true rfl⟩ rfl rfl (Nat.le_of_ble_eq_true rfl) ⟨by omega, by omega⟩ dL_law_1709 (fun r2 h5 hro2 hn5 => ?_)
  obtain ⟨rfl, rfl⟩ := hro2
  have hp5 := LPW_r hp3 hn5
  have ho5 := hp5.2.2.2.1
  generalize mjoin h4 h5 h5 = h6 at hp5 ho5 ⊢
  refine zi_widen (k := cells + 10) (n := slots + 13212) (by omega) (by omega) ?_
  refine zi_iload X dL_law_1712 rfl ?_
  refine zi_icmp_eq (tgt := 1719) X dL_law_1714 (by decide) (fun c_1714 => ?_) (fun c_1714 => (by first | exact absurd ek c_1714 | exact absurd c_1714 ek))
  by_cases k0 : k = 0
  · refine zi_iload X dL_law_1719 rfl ?_
    refine zi_if_ne (tgt := 1736) X dL_law_1721 (by decide) (fun c_1721 => (by first | exact absurd (fun q => q k0) c_1721 | exact absurd c_1721 (fun q => q k0))) (fun c_1721 => ?_)
    refine zi_aload_n X dL_law_1724 rfl rfl ?_
    refine zi_iconst (v := (nI 0)) X dL_law_1725 (by decide) ?_
    refine zi_lald X 1 ho5 rfl (vin (show 0 < 1 by decide) (by decide)) dL_law_1726 ?_
    refine zi_iload X dL_law_1727 rfl ?_
    refine zi_i2l X dL_law_1729 ?_
    refine zi_lcmp X dL_law_1730 ?_
    have e0 : lg_cmp (g1 (nI 0).toNatClampNeg) r.toInt64 = 0 := by
      rw [show (nI 0).toNatClampNeg = 0 from rfl, ev k0]
      exact lg_eq _
    refine zi_if_eq (tgt := 1736) X dL_law_1731 (by decide) (fun c_1731 => ?_) (fun c_1731 => (by first | exact absurd e0 c_1731 | exact absurd c_1731 e0))
    refine zi_goto (tgt := 2204) X dL_law_1736 (by decide) ?_
    exact nx h6 _ _ ⟨hs1, h5, g1, A1, th1, hp5, I1, W1, R1⟩
  · refine zi_iload X dL_law_1719 rfl ?_
    refine zi_if_ne (tgt := 1736) X dL_law_1721 (by decide) (fun c_1721 => ?_) (fun c_1721 => (by first | exact absurd k0 c_1721 | exact absurd c_1721 k0))
    refine zi_goto (tgt := 2204) X dL_law_1736 (by decide) ?_
    exact nx h6 _ _ ⟨hs1, h5, g1, A1, th1, hp5, I1, W1, R1⟩
theorem lc_isolate (X : zX z l D cL_law yL_law.cls (mT cA) 8 (some .boolean) room_1 yL_law.name) (hag : Ag l D cA S Xa M Inv Inv2 yX6_isolate cX6_isolate 2 .int (rmc 10 4 2516) Int32.toInt64 yX7_isolate cX7_isolate 3 .int (rmd 9) [eI, eM] [.int (sf (i + 1))]) (hB : zB z scr sn sf) (hi : i + 6 ≤ sn) (hsn : sn ≤ 3072) (hc : cells + 10 ≤ 603072) (hsl : slots + 13212 ≤ 7202922) (hw : LW cA D S Xa M Inv ou h)
    (nx : ∀ h' L5 L6, LW cA D S Xa M Inv2 ou h' → zM z (cells + 10) (slots + 13212) 2204 [some (.ref scr), some (.ref Xa.1), some (.ref (M 3 0)), some (.ref ou), some (.int (nI i)), L5, L6, none] [] h') : zM z cells slots 1739 [some (.ref scr), some (.ref Xa.1), some (.ref (M 3 0)), some (.ref ou), some (.int (nI i)), L5, L6, none] [] h := by
  have f1 : (rmc 11 4 2516).cells = 4 := rfl
  have f2 : (rmc 11 4 2516).slots = 2516 := rfl
  have f3 : (rmd 9).cells = 0 := rfl
  have f4 : (rmd 9).slots = 0 := rfl
  have f5 : (rmd 1).cells = 0 := rfl
  have f6 : (rmd 1).slots = 0 := rfl
  have f7 : room_1.cells = 603072 := rfl
  have f8 : room_1.slots = 7202922 := rfl
  obtain ⟨hs, hr, g, A, th, hp, hI, hW, hR⟩ := hw
  obtain ⟨Q, PX, RO, C6, CE, C7, CJ⟩ := hag A th hs hr hI hW hR
  obtain ⟨fs, hx⟩ := isW_x hW
  have in1 : vp_in (nI i + nI 1) sn := by rw [nI_add]; exact vp_in_nI (by omega) (by omega)
  have cl1 : (nI i + nI 1).toNatClampNeg = i + 1 := by rw [nI_add]; exact nI_cl (by omega)
  refine zi_aload_n X dL_law_1739 rfl rfl ?_
  refine zi_aload_n X dL_law_1740 rfl rfl ?_
  refine zi_iload X dL_law_1741 rfl ?_
  refine zi_iconst (v := (nI 1)) X dL_law_1743 (by decide) ?_
  refine zi_iadd X dL_law_1744 ?_
  refine zi_sld X hB in1 dL_law_1745 ?_
  refine zi_aload_n X dL_law_1746 rfl rfl ?_
  rw [cl1]
  refine zi_hcallSiF X (w_isolate (g := g) C6 CE hx hp.2.2.2.2.1) (kh_mk (n := 3) win_L wcw_L_isolate (by decide)) wm_L_187 wst_L_isolate (LPW_sub hp) ⟨Nat.le_of_ble_eq_true rfl, Nat.le_of_ble_eq_true rfl⟩ rfl rfl (Nat.le_of_ble_eq_true rfl) ⟨by omega, by omega⟩ dL_law_1747 (fun k h1 hq hn => ?_)
  obtain ⟨hs1, g1, s1, s2, s3, hq⟩ := hq
  have hp2 := LPW_c hp s1 s2 s3 hn
  generalize mjoin h (mup hs ou (wO (cA 1) g)) h1 = h2 at hp2 ⊢
  obtain ⟨fr, hy⟩ := rW_x hR
  have hy2 := hp2.2.1 _ _ hy
  refine zi_istore X dL_law_1750 (by decide) ?_
  refine zi_aload_n X dL_law_1752 rfl rfl ?_
  refine zi_aload_n X dL_law_1753 rfl rfl ?_
  refine zi_iload X dL_law_1754 rfl ?_
  refine zi_iconst (v := (nI 1)) X dL_law_1756 (by decide) ?_
  refine zi_iadd X dL_law_1757 ?_
  refine zi_sld X hB in1 dL_law_1758 ?_
  rw [cl1]
  refine zi_callViG X C7 kc_X7_isolate wm_L_189 hy2 rfl wim_X7_isolate wse_X7_isolate hp2.2.1 ⟨Nat.le_of_ble_eq_true rfl, Nat.le_of_ble_eq_true rfl⟩ rfl rfl (Nat.le_of_ble_eq_true rfl) ⟨by omega, by omega⟩ dL_law_1759 (fun r h3 hro hn3 => ?_)
  obtain ⟨A1, th1, I1, W1, R1, ek, ev⟩ := CJ k (g1 0) hs1 r h3 hq hro
  have hp3 := LPW_r hp2 hn3
  generalize mjoin h2 hr h3 = h4 at hp3 ⊢
  obtain ⟨f3, hz⟩ := rW_x R1
  have hz3 := hp3.2.1 _ _ hz
  have ho3 := hp3.2.2.2.1
  refine zi_istore X dL_law_1762 (by decide) ?_
  refine zi_aload_n X dL_law_1764 rfl rfl ?_
  refine zi_callViG X (rW_thrown l D R1) kc_X7_thrown wm_L_120 hz3 rfl wim_X7_thrown wse_X7_thrown hp3.2.1 ⟨Nat.le_of_ble_eq_true rfl, Nat.le_of_ble_eq_true rfl⟩ rfl rfl (Nat.le_of_ble_eq_true rfl) ⟨by omega, by omega⟩ dL_law_1765 (fun r2 h5 hro2 hn5 => ?_)
  obtain ⟨rfl, rfl⟩ := hro2
  have hp5 := LPW_r hp3 hn5
  have ho5 := hp5.2.2.2.1
  generalize mjoin h4 h5 h5 = h6 at hp5 ho5 ⊢
  refine zi_widen (k := cells + 10) (n := slots + 13212) (by omega) (by omega) ?_
  refine zi_iload X dL_law_1768 rfl ?_
  refine zi_icmp_eq (tgt := 1775) X dL_law_1770 (by decide) (fun c_1770 => ?_) (fun c_1770 => (by first | exact absurd ek c_1770 | exact absurd c_1770 ek))
  by_cases k0 : k = 0
  · refine zi_iload X dL_law_1775 rfl ?_
    refine zi_if_ne (tgt := 1792) X dL_law_1777 (by decide) (fun c_1777 => (by first | exact absurd (fun q => q k0) c_1777 | exact absurd c_1777 (fun q => q k0))) (fun c_1777 => ?_)
    refine zi_aload_n X dL_law_1780 rfl rfl ?_
    refine zi_iconst (v := (nI 0)) X dL_law_1781 (by decide) ?_
    refine zi_lald X 1 ho5 rfl (vin (show 0 < 1 by decide) (by decide)) dL_law_1782 ?_
    refine zi_iload X dL_law_1783 rfl ?_
    refine zi_i2l X dL_law_1785 ?_
    refine zi_lcmp X dL_law_1786 ?_
    have e0 : lg_cmp (g1 (nI 0).toNatClampNeg) r.toInt64 = 0 := by
      rw [show (nI 0).toNatClampNeg = 0 from rfl, ev k0]
      exact lg_eq _
    refine zi_if_eq (tgt := 1792) X dL_law_1787 (by decide) (fun c_1787 => ?_) (fun c_1787 => (by first | exact absurd e0 c_1787 | exact absurd c_1787 e0))
    refine zi_goto (tgt := 2204) X dL_law_1792 (by decide) ?_
    exact nx h6 _ _ ⟨hs1, h5, g1, A1, th1, hp5, I1, W1, R1⟩
  · refine zi_iload X dL_law_1775 rfl ?_
    refine zi_if_ne (tgt := 1792) X dL_law_1777 (by decide) (fun c_1777 => ?_) (fun c_1777 => (by first | exact absurd k0 c_1777 | exact absurd c_1777 k0))
    refine zi_goto (tgt := 2204) X dL_law_1792 (by decide) ?_
    exact nx h6 _ _ ⟨hs1, h5, g1, A1, th1, hp5, I1, W1, R1⟩
theorem lc_rootsIn (X : zX z l D cL_law yL_law.cls (mT cA) 8 (some .boolean) room_1 yL_law.name) (hag : Ag l D cA S Xa M Inv Inv2 yX6_rootsIn cX6_rootsIn 2 .int (rmc 7 1 6) Int32.toInt64 yX7_rootsIn cX7_rootsIn 2 .int (rmd 2) [eI] [.int (sf (i + 1))]) (hB : zB z scr sn sf) (hi : i + 6 ≤ sn) (hsn : sn ≤ 3072) (hc : cells + 10 ≤ 603072) (hsl : slots + 13212 ≤ 7202922) (hw : LW cA D S Xa M Inv ou h)
    (nx : ∀ h' L5 L6, LW cA D S Xa M Inv2 ou h' → zM z (cells + 10) (slots + 13212) 2204 [some (.ref scr), some (.ref Xa.1), some (.ref (M 3 0)), some (.ref ou), some (.int (nI i)), L5, L6, none] [] h') : zM z cells slots 1808 [some (.ref scr), some (.ref Xa.1), some (.ref (M 3 0)), some (.ref ou), some (.int (nI i)), L5, L6, none] [] h := by
  have f1 : (rmc 8 1 6).cells = 1 := rfl
  have f2 : (rmc 8 1 6).slots = 6 := rfl
  have f3 : (rmd 2).cells = 0 := rfl
  have f4 : (rmd 2).slots = 0 := rfl
  have f5 : (rmd 1).cells = 0 := rfl
  have f6 : (rmd 1).slots = 0 := rfl
  have f7 : room_1.cells = 603072 := rfl
  have f8 : room_1.slots = 7202922 := rfl
  obtain ⟨hs, hr, g, A, th, hp, hI, hW, hR⟩ := hw
  obtain ⟨Q, PX, RO, C6, CE, C7, CJ⟩ := hag A th hs hr hI hW hR
  obtain ⟨fs, hx⟩ := isW_x hW
  have in1 : vp_in (nI i + nI 1) sn := by rw [nI_add]; exact vp_in_nI (by omega) (by omega)
  have cl1 : (nI i + nI 1).toNatClampNeg = i + 1 := by rw [nI_add]; exact nI_cl (by omega)
  refine zi_aload_n X dL_law_1808 rfl rfl ?_
  refine zi_aload_n X dL_law_1809 rfl rfl ?_
  refine zi_iload X dL_law_1810 rfl ?_
  refine zi_iconst (v := (nI 1)) X dL_law_1812 (by decide) ?_
  refine zi_iadd X dL_law_1813 ?_
  refine zi_sld X hB in1 dL_law_1814 ?_
  refine zi_aload_n X dL_law_1815 rfl rfl ?_
  rw [cl1]
  refine zi_hcallSiF X (w_rootsIn (g := g) C6 CE hx hp.2.2.2.2.1) (kh_mk (n := 3) win_L wcw_L_rootsIn (by decide)) wm_L_194 wst_L_rootsIn (LPW_sub hp) ⟨Nat.le_of_ble_eq_true rfl, Nat.le_of_ble_eq_true rfl⟩ rfl rfl (Nat.le_of_ble_eq_true rfl) ⟨by omega, by omega⟩ dL_law_1816 (fun k h1 hq hn => ?_)
  obtain ⟨hs1, g1, s1, s2, s3, hq⟩ := hq
  have hp2 := LPW_c hp s1 s2 s3 hn
  generalize mjoin h (mup hs ou (wO (cA 1) g)) h1 = h2 at hp2 ⊢
  obtain ⟨fr, hy⟩ := rW_x hR
  have hy2 := hp2.2.1 _ _ hy
  refine zi_istore X dL_law_1819 (by decide) ?_
  refine zi_aload_n X dL_law_1821 rfl rfl ?_
  refine zi_aload_n X dL_law_1822 rfl rfl ?_
  refine zi_iload X dL_law_1823 rfl ?_
  refine zi_iconst (v := (nI 1)) X dL_law_1825 (by decide) ?_
  refine zi_iadd X dL_law_1826 ?_
  refine zi_sld X hB in1 dL_law_1827 ?_
  rw [cl1]
  refine zi_callViG X C7 kc_X7_rootsIn wm_L_196 hy2 rfl wim_X7_rootsIn wse_X7_rootsIn hp2.2.1 ⟨Nat.le_of_ble_eq_true rfl, Nat.le_of_ble_eq_true rfl⟩ rfl rfl (Nat.le_of_ble_eq_true rfl) ⟨by omega, by omega⟩ dL_law_1828 (fun r h3 hro hn3 => ?_)
  obtain ⟨A1, th1, I1, W1, R1, ek, ev⟩ := CJ k (g1 0) hs1 r h3 hq hro
  have hp3 := LPW_r hp2 hn3
  generalize mjoin h2 hr h3 = h4 at hp3 ⊢
  obtain ⟨f3, hz⟩ := rW_x R1
  have hz3 := hp3.2.1 _ _ hz
  have ho3 := hp3.2.2.2.1
  refine zi_istore X dL_law_1831 (by decide) ?_
  refine zi_aload_n X dL_law_1833 rfl rfl ?_
  refine zi_callViG X (rW_thrown l D R1) kc_X7_thrown wm_L_120 hz3 rfl wim_X7_thrown wse_X7_thrown hp3.2.1 ⟨Nat.le_of_ble_eq_true rfl, Nat.le_of_ble_eq_true rfl⟩ rfl rfl (Nat.le_of_ble_eq_true rfl) ⟨by omega, by omega⟩ dL_law_1834 (fun r2 h5 hro2 hn5 => ?_)
  obtain ⟨rfl, rfl⟩ := hro2
  have hp5 := LPW_r hp3 hn5
  have ho5 := hp5.2.2.2.1
  generalize mjoin h4 h5 h5 = h6 at hp5 ho5 ⊢
  refine zi_widen (k := cells + 10) (n := slots + 13212) (by omega) (by omega) ?_
  refine zi_iload X dL_law_1837 rfl ?_
  refine zi_icmp_eq (tgt := 1844) X dL_law_1839 (by decide) (fun c_1839 => ?_) (fun c_1839 => (by first | exact absurd ek c_1839 | exact absurd c_1839 ek))
  by_cases k0 : k = 0
  · refine zi_iload X dL_law_1844 rfl ?_
    refine zi_if_ne (tgt := 1861) X dL_law_1846 (by decide) (fun c_1846 => (by first | exact absurd (fun q => q k0) c_1846 | exact absurd c_1846 (fun q => q k0))) (fun c_1846 => ?_)
    refine zi_aload_n X dL_law_1849 rfl rfl ?_
    refine zi_iconst (v := (nI 0)) X dL_law_1850 (by decide) ?_
    refine zi_lald X 1 ho5 rfl (vin (show 0 < 1 by decide) (by decide)) dL_law_1851 ?_
    refine zi_iload X dL_law_1852 rfl ?_
    refine zi_i2l X dL_law_1854 ?_
    refine zi_lcmp X dL_law_1855 ?_
    have e0 : lg_cmp (g1 (nI 0).toNatClampNeg) r.toInt64 = 0 := by
      rw [show (nI 0).toNatClampNeg = 0 from rfl, ev k0]
      exact lg_eq _
    refine zi_if_eq (tgt := 1861) X dL_law_1856 (by decide) (fun c_1856 => ?_) (fun c_1856 => (by first | exact absurd e0 c_1856 | exact absurd c_1856 e0))
    refine zi_goto (tgt := 2204) X dL_law_1861 (by decide) ?_
    exact nx h6 _ _ ⟨hs1, h5, g1, A1, th1, hp5, I1, W1, R1⟩
  · refine zi_iload X dL_law_1844 rfl ?_
    refine zi_if_ne (tgt := 1861) X dL_law_1846 (by decide) (fun c_1846 => ?_) (fun c_1846 => (by first | exact absurd k0 c_1846 | exact absurd c_1846 k0))
    refine zi_goto (tgt := 2204) X dL_law_1861 (by decide) ?_
    exact nx h6 _ _ ⟨hs1, h5, g1, A1, th1, hp5, I1, W1, R1⟩
theorem lc_interval (X : zX z l D cL_law yL_law.cls (mT cA) 8 (some .boolean) room_1 yL_law.name) (hag : Ag l D cA S Xa M Inv Inv2 yX6_interval cX6_interval 4 .int (rmc 7 2 12) Int32.toInt64 yX7_interval cX7_interval 3 .int (rmd 2) [eI, eA] [.int (sf (i + 1)), .int ((sf (i + 2)).toUInt32 % 65536).toInt32]) (hB : zB z scr sn sf) (hi : i + 6 ≤ sn) (hsn : sn ≤ 3072) (hc : cells + 10 ≤ 603072) (hsl : slots + 13212 ≤ 7202922) (hw : LW cA D S Xa M Inv ou h)
    (nx : ∀ h' L5 L6, LW cA D S Xa M Inv2 ou h' → zM z (cells + 10) (slots + 13212) 2204 [some (.ref scr), some (.ref Xa.1), some (.ref (M 3 0)), some (.ref ou), some (.int (nI i)), L5, L6, none] [] h') : zM z cells slots 1864 [some (.ref scr), some (.ref Xa.1), some (.ref (M 3 0)), some (.ref ou), some (.int (nI i)), L5, L6, none] [] h := by
  have f1 : (rmc 8 2 12).cells = 2 := rfl
  have f2 : (rmc 8 2 12).slots = 12 := rfl
  have f3 : (rmd 2).cells = 0 := rfl
  have f4 : (rmd 2).slots = 0 := rfl
  have f5 : (rmd 1).cells = 0 := rfl
  have f6 : (rmd 1).slots = 0 := rfl
  have f7 : room_1.cells = 603072 := rfl
  have f8 : room_1.slots = 7202922 := rfl
  obtain ⟨hs, hr, g, A, th, hp, hI, hW, hR⟩ := hw
  obtain ⟨Q, PX, RO, C6, CE, C7, CJ⟩ := hag A th hs hr hI hW hR
  obtain ⟨fs, hx⟩ := isW_x hW
  have in1 : vp_in (nI i + nI 1) sn := by rw [nI_add]; exact vp_in_nI (by omega) (by omega)
  have in2 : vp_in (nI i + nI 2) sn := by rw [nI_add]; exact vp_in_nI (by omega) (by omega)
  have cl1 : (nI i + nI 1).toNatClampNeg = i + 1 := by rw [nI_add]; exact nI_cl (by omega)
  have cl2 : (nI i + nI 2).toNatClampNeg = i + 2 := by rw [nI_add]; exact nI_cl (by omega)
  refine zi_aload_n X dL_law_1864 rfl rfl ?_
  refine zi_aload_n X dL_law_1865 rfl rfl ?_
  refine zi_iload X dL_law_1866 rfl ?_
  refine zi_iconst (v := (nI 1)) X dL_law_1868 (by decide) ?_
  refine zi_iadd X dL_law_1869 ?_
  refine zi_sld X hB in1 dL_law_1870 ?_
  refine zi_aload_n X dL_law_1871 rfl rfl ?_
  refine zi_iload X dL_law_1872 rfl ?_
  refine zi_iconst (v := (nI 2)) X dL_law_1874 (by decide) ?_
  refine zi_iadd X dL_law_1875 ?_
  refine zi_sld X hB in2 dL_law_1876 ?_
  refine zi_i2c X dL_law_1877 ?_
  refine zi_aload_n X dL_law_1878 rfl rfl ?_
  rw [cl1, cl2]
  refine zi_hcallSiF X (w_interval (g := g) C6 CE hx hp.2.2.2.2.1) (kh_mk (n := 4) win_L wcw_L_interval (by decide)) wm_L_197 wst_L_interval (LPW_sub hp) ⟨Nat.le_of_ble_eq_true rfl, Nat.le_of_ble_eq_true rfl⟩ rfl rfl (Nat.le_of_ble_eq_true rfl) ⟨by omega, by omega⟩ dL_law_1879 (fun k h1 hq hn => ?_)
  obtain ⟨hs1, g1, s1, s2, s3, hq⟩ := hq
  have hp2 := LPW_c hp s1 s2 s3 hn
  generalize mjoin h (mup hs ou (wO (cA 1) g)) h1 = h2 at hp2 ⊢
  obtain ⟨fr, hy⟩ := rW_x hR
  have hy2 := hp2.2.1 _ _ hy
  refine zi_istore X dL_law_1882 (by decide) ?_
  refine zi_aload_n X dL_law_1884 rfl rfl ?_
  refine zi_aload_n X dL_law_1885 rfl rfl ?_
  refine zi_iload X dL_law_1886 rfl ?_
  refine zi_iconst (v := (nI 1)) X dL_law_1888 (by decide) ?_
  refine zi_iadd X dL_law_1889 ?_
  refine zi_sld X hB in1 dL_law_1890 ?_
  refine zi_aload_n X dL_law_1891 rfl rfl ?_
  refine zi_iload X dL_law_1892 rfl ?_
  refine zi_iconst (v := (nI 2)) X dL_law_1894 (by decide) ?_
  refine zi_iadd X dL_law_1895 ?_
  refine zi_sld X hB in2 dL_law_1896 ?_
  refine zi_i2c X dL_law_1897 ?_
  rw [cl1, cl2]
  refine zi_callViG X C7 kc_X7_interval wm_L_200 hy2 rfl wim_X7_interval wse_X7_interval hp2.2.1 ⟨Nat.le_of_ble_eq_true rfl, Nat.le_of_ble_eq_true rfl⟩ rfl rfl (Nat.le_of_ble_eq_true rfl) ⟨by omega, by omega⟩ dL_law_1898 (fun r h3 hro hn3 => ?_)
  obtain ⟨A1, th1, I1, W1, R1, ek, ev⟩ := CJ k (g1 0) hs1 r h3 hq hro
  have hp3 := LPW_r hp2 hn3
  generalize mjoin h2 hr h3 = h4 at hp3 ⊢
  obtain ⟨f3, hz⟩ := rW_x R1
  have hz3 := hp3.2.1 _ _ hz
  have ho3 := hp3.2.2.2.1
  refine zi_istore X dL_law_1901 (by decide) ?_
  refine zi_aload_n X dL_law_1903 rfl rfl ?_
  refine zi_callViG X (rW_thrown l D R1) kc_X7_thrown wm_L_120 hz3 rfl wim_X7_thrown wse_X7_thrown hp3.2.1 ⟨Nat.le_of_ble_eq_true rfl, Nat.le_of_ble_eq_true rfl⟩ rfl rfl (Nat.le_of_ble_eq_true rfl) ⟨by omega, by omega⟩ dL_law_1904 (fun r2 h5 hro2 hn5 => ?_)
  obtain ⟨rfl, rfl⟩ := hro2
  have hp5 := LPW_r hp3 hn5
  have ho5 := hp5.2.2.2.1
  generalize mjoin h4 h5 h5 = h6 at hp5 ho5 ⊢
  refine zi_widen (k := cells + 10) (n := slots + 13212) (by omega) (by omega) ?_
  refine zi_iload X dL_law_1907 rfl ?_
  refine zi_icmp_eq (tgt := 1914) X dL_law_1909 (by decide) (fun c_1909 => ?_) (fun c_1909 => (by first | exact absurd ek c_1909 | exact absurd c_1909 ek))
  by_cases k0 : k = 0
  · refine zi_iload X dL_law_1914 rfl ?_
    refine zi_if_ne (tgt := 1931) X dL_law_1916 (by decide) (fun c_1916 => (by first | exact absurd (fun q => q k0) c_1916 | exact absurd c_1916 (fun q => q k0))) (fun c_1916 => ?_)
    refine zi_aload_n X dL_law_1919 rfl rfl ?_
    refine zi_iconst (v := (nI 0)) X dL_law_1920 (by decide) ?_
    refine zi_lald X 1 ho5 rfl (vin (show 0 < 1 by decide) (by decide)) dL_law_1921 ?_
    refine zi_iload X dL_law_1922 rfl ?_
    refine zi_i2l X dL_law_1924 ?_
    refine zi_lcmp X dL_law_1925 ?_
    have e0 : lg_cmp (g1 (nI 0).toNatClampNeg) r.toInt64 = 0 := by
      rw [show (nI 0).toNatClampNeg = 0 from rfl, ev k0]
      exact lg_eq _
    refine zi_if_eq (tgt := 1931) X dL_law_1926 (by decide) (fun c_1926 => ?_) (fun c_1926 => (by first | exact absurd e0 c_1926 | exact absurd c_1926 e0))
    refine zi_goto (tgt := 2204) X dL_law_1931 (by decide) ?_
    exact nx h6 _ _ ⟨hs1, h5, g1, A1, th1, hp5, I1, W1, R1⟩
  · refine zi_iload X dL_law_1914 rfl ?_
    refine zi_if_ne (tgt := 1931) X dL_law_1916 (by decide) (fun c_1916 => ?_) (fun c_1916 => (by first | exact absurd k0 c_1916 | exact absurd c_1916 k0))
    refine zi_goto (tgt := 2204) X dL_law_1931 (by decide) ?_
    exact nx h6 _ _ ⟨hs1, h5, g1, A1, th1, hp5, I1, W1, R1⟩
theorem lc_bisect (X : zX z l D cL_law yL_law.cls (mT cA) 8 (some .boolean) room_1 yL_law.name) (hag : Ag l D cA S Xa M Inv Inv2 yX6_bisect cX6_bisect 3 .int (rmc 9 6 5020) Int32.toInt64 yX7_bisect cX7_bisect 7 .int (rmc 8 4 8192) [eI, eS] [.int (sf (i + 1))]) (hB : zB z scr sn sf) (hi : i + 6 ≤ sn) (hsn : sn ≤ 3072) (hc : cells + 10 ≤ 603072) (hsl : slots + 13212 ≤ 7202922) (hw : LW cA D S Xa M Inv ou h)
    (nx : ∀ h' L5 L6, LW cA D S Xa M Inv2 ou h' → zM z (cells + 10) (slots + 13212) 2204 [some (.ref scr), some (.ref Xa.1), some (.ref (M 3 0)), some (.ref ou), some (.int (nI i)), L5, L6, none] [] h') : zM z cells slots 1934 [some (.ref scr), some (.ref Xa.1), some (.ref (M 3 0)), some (.ref ou), some (.int (nI i)), L5, L6, none] [] h := by
  have f1 : (rmc 10 6 5020).cells = 6 := rfl
  have f2 : (rmc 10 6 5020).slots = 5020 := rfl
  have f3 : (rmc 8 4 8192).cells = 4 := rfl
  have f4 : (rmc 8 4 8192).slots = 8192 := rfl
  have f5 : (rmd 1).cells = 0 := rfl
  have f6 : (rmd 1).slots = 0 := rfl
  have f7 : room_1.cells = 603072 := rfl
  have f8 : room_1.slots = 7202922 := rfl
  obtain ⟨hs, hr, g, A, th, hp, hI, hW, hR⟩ := hw
  obtain ⟨Q, PX, RO, C6, CE, C7, CJ⟩ := hag A th hs hr hI hW hR
  obtain ⟨fs, hx⟩ := isW_x hW
  have in1 : vp_in (nI i + nI 1) sn := by rw [nI_add]; exact vp_in_nI (by omega) (by omega)
  have cl1 : (nI i + nI 1).toNatClampNeg = i + 1 := by rw [nI_add]; exact nI_cl (by omega)
  refine zi_aload_n X dL_law_1934 rfl rfl ?_
  refine zi_aload_n X dL_law_1935 rfl rfl ?_
  refine zi_iload X dL_law_1936 rfl ?_
  refine zi_iconst (v := (nI 1)) X dL_law_1938 (by decide) ?_
  refine zi_iadd X dL_law_1939 ?_
  refine zi_sld X hB in1 dL_law_1940 ?_
  refine zi_aload_n X dL_law_1941 rfl rfl ?_
  rw [cl1]
  refine zi_hcallSiF X (w_bisect (g := g) C6 CE hx hp.2.2.2.2.1) (kh_mk (n := 3) win_L wcw_L_bisect (by decide)) wm_L_201 wst_L_bisect (LPW_sub hp) ⟨Nat.le_of_ble_eq_true rfl, Nat.le_of_ble_eq_true rfl⟩ rfl rfl (Nat.le_of_ble_eq_true rfl) ⟨by omega, by omega⟩ dL_law_1942 (fun k h1 hq hn => ?_)
  obtain ⟨hs1, g1, s1, s2, s3, hq⟩ := hq
  have hp2 := LPW_c hp s1 s2 s3 hn
  generalize mjoin h (mup hs ou (wO (cA 1) g)) h1 = h2 at hp2 ⊢
  obtain ⟨fr, hy⟩ := rW_x hR
  have hy2 := hp2.2.1 _ _ hy
  refine zi_istore X dL_law_1945 (by decide) ?_
  refine zi_aload_n X dL_law_1947 rfl rfl ?_
  refine zi_aload_n X dL_law_1948 rfl rfl ?_
  refine zi_iload X dL_law_1949 rfl ?_
  refine zi_iconst (v := (nI 1)) X dL_law_1951 (by decide) ?_
  refine zi_iadd X dL_law_1952 ?_
  refine zi_sld X hB in1 dL_law_1953 ?_
  rw [cl1]
  refine zi_callViG X C7 kc_X7_bisect wm_L_203 hy2 rfl wim_X7_bisect wse_X7_bisect hp2.2.1 ⟨Nat.le_of_ble_eq_true rfl, Nat.le_of_ble_eq_true rfl⟩ rfl rfl (Nat.le_of_ble_eq_true rfl) ⟨by omega, by omega⟩ dL_law_1954 (fun r h3 hro hn3 => ?_)
  obtain ⟨A1, th1, I1, W1, R1, ek, ev⟩ := CJ k (g1 0) hs1 r h3 hq hro
  have hp3 := LPW_r hp2 hn3
  generalize mjoin h2 hr h3 = h4 at hp3 ⊢
  obtain ⟨f3, hz⟩ := rW_x R1
  have hz3 := hp3.2.1 _ _ hz
  have ho3 := hp3.2.2.2.1
  refine zi_istore X dL_law_1957 (by decide) ?_
  refine zi_aload_n X dL_law_1959 rfl rfl ?_
  refine zi_callViG X (rW_thrown l D R1) kc_X7_thrown wm_L_120 hz3 rfl wim_X7_thrown wse_X7_thrown hp3.2.1 ⟨Nat.le_of_ble_eq_true rfl, Nat.le_of_ble_eq_true rfl⟩ rfl rfl (Nat.le_of_ble_eq_true rfl) ⟨by omega, by omega⟩ dL_law_1960 (fun r2 h5 hro2 hn5 => ?_)
  obtain ⟨rfl, rfl⟩ := hro2
  have hp5 := LPW_r hp3 hn5
  have ho5 := hp5.2.2.2.1
  generalize mjoin h4 h5 h5 = h6 at hp5 ho5 ⊢
  refine zi_widen (k := cells + 10) (n := slots + 13212) (by omega) (by omega) ?_
  refine zi_iload X dL_law_1963 rfl ?_
  refine zi_icmp_eq (tgt := 1970) X dL_law_1965 (by decide) (fun c_1965 => ?_) (fun c_1965 => (by first | exact absurd ek c_1965 | exact absurd c_1965 ek))
  by_cases k0 : k = 0
  · refine zi_iload X dL_law_1970 rfl ?_
    refine zi_if_ne (tgt := 1987) X dL_law_1972 (by decide) (fun c_1972 => (by first | exact absurd (fun q => q k0) c_1972 | exact absurd c_1972 (fun q => q k0))) (fun c_1972 => ?_)
    refine zi_aload_n X dL_law_1975 rfl rfl ?_
    refine zi_iconst (v := (nI 0)) X dL_law_1976 (by decide) ?_
    refine zi_lald X 1 ho5 rfl (vin (show 0 < 1 by decide) (by decide)) dL_law_1977 ?_
    refine zi_iload X dL_law_1978 rfl ?_
    refine zi_i2l X dL_law_1980 ?_
    refine zi_lcmp X dL_law_1981 ?_
    have e0 : lg_cmp (g1 (nI 0).toNatClampNeg) r.toInt64 = 0 := by
      rw [show (nI 0).toNatClampNeg = 0 from rfl, ev k0]
      exact lg_eq _
    refine zi_if_eq (tgt := 1987) X dL_law_1982 (by decide) (fun c_1982 => ?_) (fun c_1982 => (by first | exact absurd e0 c_1982 | exact absurd c_1982 e0))
    refine zi_goto (tgt := 2204) X dL_law_1987 (by decide) ?_
    exact nx h6 _ _ ⟨hs1, h5, g1, A1, th1, hp5, I1, W1, R1⟩
  · refine zi_iload X dL_law_1970 rfl ?_
    refine zi_if_ne (tgt := 1987) X dL_law_1972 (by decide) (fun c_1972 => ?_) (fun c_1972 => (by first | exact absurd k0 c_1972 | exact absurd c_1972 k0))
    refine zi_goto (tgt := 2204) X dL_law_1987 (by decide) ?_
    exact nx h6 _ _ ⟨hs1, h5, g1, A1, th1, hp5, I1, W1, R1⟩
theorem lc_refine (X : zX z l D cL_law yL_law.cls (mT cA) 8 (some .boolean) room_1 yL_law.name) (hag : Ag l D cA S Xa M Inv Inv2 yX6_refine cX6_refine 5 .int (rmc 9 3 18) Int32.toInt64 yX7_refine cX7_refine 8 .int (rmd 8) [eI, eA, eS] [.int (sf (i + 1)), .int (sf (i + 2))]) (hB : zB z scr sn sf) (hi : i + 6 ≤ sn) (hsn : sn ≤ 3072) (hc : cells + 10 ≤ 603072) (hsl : slots + 13212 ≤ 7202922) (hw : LW cA D S Xa M Inv ou h)
    (nx : ∀ h' L5 L6, LW cA D S Xa M Inv2 ou h' → zM z (cells + 10) (slots + 13212) 2204 [some (.ref scr), some (.ref Xa.1), some (.ref (M 3 0)), some (.ref ou), some (.int (nI i)), L5, L6, none] [] h') : zM z cells slots 1990 [some (.ref scr), some (.ref Xa.1), some (.ref (M 3 0)), some (.ref ou), some (.int (nI i)), L5, L6, none] [] h := by
  have f1 : (rmc 10 3 18).cells = 3 := rfl
  have f2 : (rmc 10 3 18).slots = 18 := rfl
  have f3 : (rmd 8).cells = 0 := rfl
  have f4 : (rmd 8).slots = 0 := rfl
  have f5 : (rmd 1).cells = 0 := rfl
  have f6 : (rmd 1).slots = 0 := rfl
  have f7 : room_1.cells = 603072 := rfl
  have f8 : room_1.slots = 7202922 := rfl
  obtain ⟨hs, hr, g, A, th, hp, hI, hW, hR⟩ := hw
  obtain ⟨Q, PX, RO, C6, CE, C7, CJ⟩ := hag A th hs hr hI hW hR
  obtain ⟨fs, hx⟩ := isW_x hW
  have in1 : vp_in (nI i + nI 1) sn := by rw [nI_add]; exact vp_in_nI (by omega) (by omega)
  have in2 : vp_in (nI i + nI 2) sn := by rw [nI_add]; exact vp_in_nI (by omega) (by omega)
  have cl1 : (nI i + nI 1).toNatClampNeg = i + 1 := by rw [nI_add]; exact nI_cl (by omega)
  have cl2 : (nI i + nI 2).toNatClampNeg = i + 2 := by rw [nI_add]; exact nI_cl (by omega)
  refine zi_aload_n X dL_law_1990 rfl rfl ?_
  refine zi_aload_n X dL_law_1991 rfl rfl ?_
  refine zi_iload X dL_law_1992 rfl ?_
  refine zi_iconst (v := (nI 1)) X dL_law_1994 (by decide) ?_
  refine zi_iadd X dL_law_1995 ?_
  refine zi_sld X hB in1 dL_law_1996 ?_
  refine zi_aload_n X dL_law_1997 rfl rfl ?_
  refine zi_iload X dL_law_1998 rfl ?_
  refine zi_iconst (v := (nI 2)) X dL_law_2000 (by decide) ?_
  refine zi_iadd X dL_law_2001 ?_
  refine zi_sld X hB in2 dL_law_2002 ?_
  refine zi_aload_n X dL_law_2003 rfl rfl ?_
  rw [cl1, cl2]
  refine zi_hcallSiF X (w_refine (g := g) C6 CE hx hp.2.2.2.2.1) (kh_mk (n := 4) win_L wcw_L_refine (by decide)) wm_L_204 wst_L_refine (LPW_sub hp) ⟨Nat.le_of_ble_eq_true rfl, Nat.le_of_ble_eq_true rfl⟩ rfl rfl (Nat.le_of_ble_eq_true rfl) ⟨by omega, by omega⟩ dL_law_2004 (fun k h1 hq hn => ?_)
  obtain ⟨hs1, g1, s1, s2, s3, hq⟩ := hq
  have hp2 := LPW_c hp s1 s2 s3 hn
  generalize mjoin h (mup hs ou (wO (cA 1) g)) h1 = h2 at hp2 ⊢
  obtain ⟨fr, hy⟩ := rW_x hR
  have hy2 := hp2.2.1 _ _ hy
  refine zi_istore X dL_law_2007 (by decide) ?_
  refine zi_aload_n X dL_law_2009 rfl rfl ?_
  refine zi_aload_n X dL_law_2010 rfl rfl ?_
  refine zi_iload X dL_law_2011 rfl ?_
  refine zi_iconst (v := (nI 1)) X dL_law_2013 (by decide) ?_
  refine zi_iadd X dL_law_2014 ?_
  refine zi_sld X hB in1 dL_law_2015 ?_
  refine zi_aload_n X dL_law_2016 rfl rfl ?_
  refine zi_iload X dL_law_2017 rfl ?_
  refine zi_iconst (v := (nI 2)) X dL_law_2019 (by decide) ?_
  refine zi_iadd X dL_law_2020 ?_
  refine zi_sld X hB in2 dL_law_2021 ?_
  rw [cl1, cl2]
  refine zi_callViG X C7 kc_X7_refine wm_L_206 hy2 rfl wim_X7_refine wse_X7_refine hp2.2.1 ⟨Nat.le_of_ble_eq_true rfl, Nat.le_of_ble_eq_true rfl⟩ rfl rfl (Nat.le_of_ble_eq_true rfl) ⟨by omega, by omega⟩ dL_law_2022 (fun r h3 hro hn3 => ?_)
  obtain ⟨A1, th1, I1, W1, R1, ek, ev⟩ := CJ k (g1 0) hs1 r h3 hq hro
  have hp3 := LPW_r hp2 hn3
  generalize mjoin h2 hr h3 = h4 at hp3 ⊢
  obtain ⟨f3, hz⟩ := rW_x R1
  have hz3 := hp3.2.1 _ _ hz
  have ho3 := hp3.2.2.2.1
  refine zi_istore X dL_law_2025 (by decide) ?_
  refine zi_aload_n X dL_law_2027 rfl rfl ?_
  refine zi_callViG X (rW_thrown l D R1) kc_X7_thrown wm_L_120 hz3 rfl wim_X7_thrown wse_X7_thrown hp3.2.1 ⟨Nat.le_of_ble_eq_true rfl, Nat.le_of_ble_eq_true rfl⟩ rfl rfl (Nat.le_of_ble_eq_true rfl) ⟨by omega, by omega⟩ dL_law_2028 (fun r2 h5 hro2 hn5 => ?_)
  obtain ⟨rfl, rfl⟩ := hro2
  have hp5 := LPW_r hp3 hn5
  have ho5 := hp5.2.2.2.1
  generalize mjoin h4 h5 h5 = h6 at hp5 ho5 ⊢
  refine zi_widen (k := cells + 10) (n := slots + 13212) (by omega) (by omega) ?_
  refine zi_iload X dL_law_2031 rfl ?_
  refine zi_icmp_eq (tgt := 2038) X dL_law_2033 (by decide) (fun c_2033 => ?_) (fun c_2033 => (by first | exact absurd ek c_2033 | exact absurd c_2033 ek))
  by_cases k0 : k = 0
  · refine zi_iload X dL_law_2038 rfl ?_
    refine zi_if_ne (tgt := 2055) X dL_law_2040 (by decide) (fun c_2040 => (by first | exact absurd (fun q => q k0) c_2040 | exact absurd c_2040 (fun q => q k0))) (fun c_2040 => ?_)
    refine zi_aload_n X dL_law_2043 rfl rfl ?_
    refine zi_iconst (v := (nI 0)) X dL_law_2044 (by decide) ?_
    refine zi_lald X 1 ho5 rfl (vin (show 0 < 1 by decide) (by decide)) dL_law_2045 ?_
    refine zi_iload X dL_law_2046 rfl ?_
    refine zi_i2l X dL_law_2048 ?_
    refine zi_lcmp X dL_law_2049 ?_
    have e0 : lg_cmp (g1 (nI 0).toNatClampNeg) r.toInt64 = 0 := by
      rw [show (nI 0).toNatClampNeg = 0 from rfl, ev k0]
      exact lg_eq _
    refine zi_if_eq (tgt := 2055) X dL_law_2050 (by decide) (fun c_2050 => ?_) (fun c_2050 => (by first | exact absurd e0 c_2050 | exact absurd c_2050 e0))
    refine zi_goto (tgt := 2204) X dL_law_2055 (by decide) ?_
    exact nx h6 _ _ ⟨hs1, h5, g1, A1, th1, hp5, I1, W1, R1⟩
  · refine zi_iload X dL_law_2038 rfl ?_
    refine zi_if_ne (tgt := 2055) X dL_law_2040 (by decide) (fun c_2040 => ?_) (fun c_2040 => (by first | exact absurd k0 c_2040 | exact absurd c_2040 k0))
    refine zi_goto (tgt := 2204) X dL_law_2055 (by decide) ?_
    exact nx h6 _ _ ⟨hs1, h5, g1, A1, th1, hp5, I1, W1, R1⟩
theorem lc_multiplicity (X : zX z l D cL_law yL_law.cls (mT cA) 8 (some .boolean) room_1 yL_law.name) (hag : Ag l D cA S Xa M Inv Inv2 yX6_multiplicity cX6_multiplicity 5 .int (rmc 9 3 18) Int32.toInt64 yX7_multiplicity cX7_multiplicity 7 .int (rmd 9) [eI, eS] [.int (sf (i + 1))]) (hB : zB z scr sn sf) (hi : i + 6 ≤ sn) (hsn : sn ≤ 3072) (hc : cells + 10 ≤ 603072) (hsl : slots + 13212 ≤ 7202922) (hw : LW cA D S Xa M Inv ou h)
    (nx : ∀ h' L5 L6, LW cA D S Xa M Inv2 ou h' → zM z (cells + 10) (slots + 13212) 2204 [some (.ref scr), some (.ref Xa.1), some (.ref (M 3 0)), some (.ref ou), some (.int (nI i)), L5, L6, none] [] h') : zM z cells slots 2071 [some (.ref scr), some (.ref Xa.1), some (.ref (M 3 0)), some (.ref ou), some (.int (nI i)), L5, L6, none] [] h := by
  have f1 : (rmc 10 3 18).cells = 3 := rfl
  have f2 : (rmc 10 3 18).slots = 18 := rfl
  have f3 : (rmd 9).cells = 0 := rfl
  have f4 : (rmd 9).slots = 0 := rfl
  have f5 : (rmd 1).cells = 0 := rfl
  have f6 : (rmd 1).slots = 0 := rfl
  have f7 : room_1.cells = 603072 := rfl
  have f8 : room_1.slots = 7202922 := rfl
  obtain ⟨hs, hr, g, A, th, hp, hI, hW, hR⟩ := hw
  obtain ⟨Q, PX, RO, C6, CE, C7, CJ⟩ := hag A th hs hr hI hW hR
  obtain ⟨fs, hx⟩ := isW_x hW
  have in1 : vp_in (nI i + nI 1) sn := by rw [nI_add]; exact vp_in_nI (by omega) (by omega)
  have cl1 : (nI i + nI 1).toNatClampNeg = i + 1 := by rw [nI_add]; exact nI_cl (by omega)
  refine zi_aload_n X dL_law_2071 rfl rfl ?_
  refine zi_aload_n X dL_law_2072 rfl rfl ?_
  refine zi_iload X dL_law_2073 rfl ?_
  refine zi_iconst (v := (nI 1)) X dL_law_2075 (by decide) ?_
  refine zi_iadd X dL_law_2076 ?_
  refine zi_sld X hB in1 dL_law_2077 ?_
  refine zi_aload_n X dL_law_2078 rfl rfl ?_
  rw [cl1]
  refine zi_hcallSiF X (w_multiplicity (g := g) C6 CE hx hp.2.2.2.2.1) (kh_mk (n := 3) win_L wcw_L_multiplicity (by decide)) wm_L_211 wst_L_multiplicity (LPW_sub hp) ⟨Nat.le_of_ble_eq_true rfl, Nat.le_of_ble_eq_true rfl⟩ rfl rfl (Nat.le_of_ble_eq_true rfl) ⟨by omega, by omega⟩ dL_law_2079 (fun k h1 hq hn => ?_)
  obtain ⟨hs1, g1, s1, s2, s3, hq⟩ := hq
  have hp2 := LPW_c hp s1 s2 s3 hn
  generalize mjoin h (mup hs ou (wO (cA 1) g)) h1 = h2 at hp2 ⊢
  obtain ⟨fr, hy⟩ := rW_x hR
  have hy2 := hp2.2.1 _ _ hy
  refine zi_istore X dL_law_2082 (by decide) ?_
  refine zi_aload_n X dL_law_2084 rfl rfl ?_
  refine zi_aload_n X dL_law_2085 rfl rfl ?_
  refine zi_iload X dL_law_2086 rfl ?_
  refine zi_iconst (v := (nI 1)) X dL_law_2088 (by decide) ?_
  refine zi_iadd X dL_law_2089 ?_
  refine zi_sld X hB in1 dL_law_2090 ?_
  rw [cl1]
  refine zi_callViG X C7 kc_X7_multiplicity wm_L_213 hy2 rfl wim_X7_multiplicity wse_X7_multiplicity hp2.2.1 ⟨Nat.le_of_ble_eq_true rfl, Nat.le_of_ble_eq_true rfl⟩ rfl rfl (Nat.le_of_ble_eq_true rfl) ⟨by omega, by omega⟩ dL_law_2091 (fun r h3 hro hn3 => ?_)
  obtain ⟨A1, th1, I1, W1, R1, ek, ev⟩ := CJ k (g1 0) hs1 r h3 hq hro
  have hp3 := LPW_r hp2 hn3
  generalize mjoin h2 hr h3 = h4 at hp3 ⊢
  obtain ⟨f3, hz⟩ := rW_x R1
  have hz3 := hp3.2.1 _ _ hz
  have ho3 := hp3.2.2.2.1
  refine zi_istore X dL_law_2094 (by decide) ?_
  refine zi_aload_n X dL_law_2096 rfl rfl ?_
  refine zi_callViG X (rW_thrown l D R1) kc_X7_thrown wm_L_120 hz3 rfl wim_X7_thrown wse_X7_thrown hp3.2.1 ⟨Nat.le_of_ble_eq_true rfl, Nat.le_of_ble_eq_true rfl⟩ rfl rfl (Nat.le_of_ble_eq_true rfl) ⟨by omega, by omega⟩ dL_law_2097 (fun r2 h5 hro2 hn5 => ?_)
  obtain ⟨rfl, rfl⟩ := hro2
  have hp5 := LPW_r hp3 hn5
  have ho5 := hp5.2.2.2.1
  generalize mjoin h4 h5 h5 = h6 at hp5 ho5 ⊢
  refine zi_widen (k := cells + 10) (n := slots + 13212) (by omega) (by omega) ?_
  refine zi_iload X dL_law_2100 rfl ?_
  refine zi_icmp_eq (tgt := 2107) X dL_law_2102 (by decide) (fun c_2102 => ?_) (fun c_2102 => (by first | exact absurd ek c_2102 | exact absurd c_2102 ek))
  by_cases k0 : k = 0
  · refine zi_iload X dL_law_2107 rfl ?_
    refine zi_if_ne (tgt := 2124) X dL_law_2109 (by decide) (fun c_2109 => (by first | exact absurd (fun q => q k0) c_2109 | exact absurd c_2109 (fun q => q k0))) (fun c_2109 => ?_)
    refine zi_aload_n X dL_law_2112 rfl rfl ?_
    refine zi_iconst (v := (nI 0)) X dL_law_2113 (by decide) ?_
    refine zi_lald X 1 ho5 rfl (vin (show 0 < 1 by decide) (by decide)) dL_law_2114 ?_
    refine zi_iload X dL_law_2115 rfl ?_
    refine zi_i2l X dL_law_2117 ?_
    refine zi_lcmp X dL_law_2118 ?_
    have e0 : lg_cmp (g1 (nI 0).toNatClampNeg) r.toInt64 = 0 := by
      rw [show (nI 0).toNatClampNeg = 0 from rfl, ev k0]
      exact lg_eq _
    refine zi_if_eq (tgt := 2124) X dL_law_2119 (by decide) (fun c_2119 => ?_) (fun c_2119 => (by first | exact absurd e0 c_2119 | exact absurd c_2119 e0))
    refine zi_goto (tgt := 2204) X dL_law_2124 (by decide) ?_
    exact nx h6 _ _ ⟨hs1, h5, g1, A1, th1, hp5, I1, W1, R1⟩
  · refine zi_iload X dL_law_2107 rfl ?_
    refine zi_if_ne (tgt := 2124) X dL_law_2109 (by decide) (fun c_2109 => ?_) (fun c_2109 => (by first | exact absurd k0 c_2109 | exact absurd c_2109 k0))
    refine zi_goto (tgt := 2204) X dL_law_2124 (by decide) ?_
    exact nx h6 _ _ ⟨hs1, h5, g1, A1, th1, hp5, I1, W1, R1⟩
theorem lc_isTrue (X : zX z l D cL_law yL_law.cls (mT cA) 8 (some .boolean) room_1 yL_law.name) (hag : Ag l D cA S Xa M Inv Inv2 yX6_isTrue cX6_isTrue 7 .boolean (rmc 8 1 6) (fun r => if r = 0 then lN 0 else lN 1) yX7_isTrue cX7_isTrue 2 .boolean (rmd 2) [eI] [.int (sf (i + 1))]) (hB : zB z scr sn sf) (hi : i + 6 ≤ sn) (hsn : sn ≤ 3072) (hc : cells + 10 ≤ 603072) (hsl : slots + 13212 ≤ 7202922) (hw : LW cA D S Xa M Inv ou h)
    (nx : ∀ h' L5 L6, LW cA D S Xa M Inv2 ou h' → zM z (cells + 10) (slots + 13212) 2204 [some (.ref scr), some (.ref Xa.1), some (.ref (M 3 0)), some (.ref ou), some (.int (nI i)), L5, L6, none] [] h') : zM z cells slots 2127 [some (.ref scr), some (.ref Xa.1), some (.ref (M 3 0)), some (.ref ou), some (.int (nI i)), L5, L6, none] [] h := by
  have f1 : (rmc 9 1 6).cells = 1 := rfl
  have f2 : (rmc 9 1 6).slots = 6 := rfl
  have f3 : (rmd 2).cells = 0 := rfl
  have f4 : (rmd 2).slots = 0 := rfl
  have f5 : (rmd 1).cells = 0 := rfl
  have f6 : (rmd 1).slots = 0 := rfl
  have f7 : room_1.cells = 603072 := rfl
  have f8 : room_1.slots = 7202922 := rfl
  obtain ⟨hs, hr, g, A, th, hp, hI, hW, hR⟩ := hw
  obtain ⟨Q, PX, RO, C6, CE, C7, CJ⟩ := hag A th hs hr hI hW hR
  obtain ⟨fs, hx⟩ := isW_x hW
  have in1 : vp_in (nI i + nI 1) sn := by rw [nI_add]; exact vp_in_nI (by omega) (by omega)
  have cl1 : (nI i + nI 1).toNatClampNeg = i + 1 := by rw [nI_add]; exact nI_cl (by omega)
  refine zi_aload_n X dL_law_2127 rfl rfl ?_
  refine zi_aload_n X dL_law_2128 rfl rfl ?_
  refine zi_iload X dL_law_2129 rfl ?_
  refine zi_iconst (v := (nI 1)) X dL_law_2131 (by decide) ?_
  refine zi_iadd X dL_law_2132 ?_
  refine zi_sld X hB in1 dL_law_2133 ?_
  refine zi_aload_n X dL_law_2134 rfl rfl ?_
  rw [cl1]
  refine zi_hcallSiF X (w_isTrue (g := g) C6 CE hx hp.2.2.2.2.1) (kh_mk (n := 3) win_L wcw_L_isTrue (by decide)) wm_L_214 wst_L_isTrue (LPW_sub hp) ⟨Nat.le_of_ble_eq_true rfl, Nat.le_of_ble_eq_true rfl⟩ rfl rfl (Nat.le_of_ble_eq_true rfl) ⟨by omega, by omega⟩ dL_law_2135 (fun k h1 hq hn => ?_)
  obtain ⟨hs1, g1, s1, s2, s3, hq⟩ := hq
  have hp2 := LPW_c hp s1 s2 s3 hn
  generalize mjoin h (mup hs ou (wO (cA 1) g)) h1 = h2 at hp2 ⊢
  obtain ⟨fr, hy⟩ := rW_x hR
  have hy2 := hp2.2.1 _ _ hy
  refine zi_istore X dL_law_2138 (by decide) ?_
  refine zi_aload_n X dL_law_2140 rfl rfl ?_
  refine zi_aload_n X dL_law_2141 rfl rfl ?_
  refine zi_iload X dL_law_2142 rfl ?_
  refine zi_iconst (v := (nI 1)) X dL_law_2144 (by decide) ?_
  refine zi_iadd X dL_law_2145 ?_
  refine zi_sld X hB in1 dL_law_2146 ?_
  rw [cl1]
  refine zi_callViG X C7 kc_X7_isTrue wm_L_216 hy2 rfl wim_X7_isTrue wse_X7_isTrue hp2.2.1 ⟨Nat.le_of_ble_eq_true rfl, Nat.le_of_ble_eq_true rfl⟩ rfl rfl (Nat.le_of_ble_eq_true rfl) ⟨by omega, by omega⟩ dL_law_2147 (fun r h3 hro hn3 => ?_)
  obtain ⟨A1, th1, I1, W1, R1, ek, ev⟩ := CJ k (g1 0) hs1 r h3 hq hro
  have hp3 := LPW_r hp2 hn3
  generalize mjoin h2 hr h3 = h4 at hp3 ⊢
  obtain ⟨f3, hz⟩ := rW_x R1
  have hz3 := hp3.2.1 _ _ hz
  have ho3 := hp3.2.2.2.1
  refine zi_istore X dL_law_2150 (by decide) ?_
  refine zi_aload_n X dL_law_2152 rfl rfl ?_
  refine zi_callViG X (rW_thrown l D R1) kc_X7_thrown wm_L_120 hz3 rfl wim_X7_thrown wse_X7_thrown hp3.2.1 ⟨Nat.le_of_ble_eq_true rfl, Nat.le_of_ble_eq_true rfl⟩ rfl rfl (Nat.le_of_ble_eq_true rfl) ⟨by omega, by omega⟩ dL_law_2153 (fun r2 h5 hro2 hn5 => ?_)
  obtain ⟨rfl, rfl⟩ := hro2
  have hp5 := LPW_r hp3 hn5
  have ho5 := hp5.2.2.2.1
  generalize mjoin h4 h5 h5 = h6 at hp5 ho5 ⊢
  refine zi_widen (k := cells + 10) (n := slots + 13212) (by omega) (by omega) ?_
  refine zi_iload X dL_law_2156 rfl ?_
  refine zi_icmp_eq (tgt := 2163) X dL_law_2158 (by decide) (fun c_2158 => ?_) (fun c_2158 => (by first | exact absurd ek c_2158 | exact absurd c_2158 ek))
  by_cases k0 : k = 0
  · refine zi_iload X dL_law_2163 rfl ?_
    refine zi_if_ne (tgt := 2187) X dL_law_2165 (by decide) (fun c_2165 => (by first | exact absurd (fun q => q k0) c_2165 | exact absurd c_2165 (fun q => q k0))) (fun c_2165 => ?_)
    refine zi_aload_n X dL_law_2168 rfl rfl ?_
    refine zi_iconst (v := (nI 0)) X dL_law_2169 (by decide) ?_
    refine zi_lald X 1 ho5 rfl (vin (show 0 < 1 by decide) (by decide)) dL_law_2170 ?_
    by_cases c0 : r = 0
    · refine zi_iload X dL_law_2171 rfl ?_
      refine zi_if_eq (tgt := 2180) X dL_law_2173 (by decide) (fun c_2173 => ?_) (fun c_2173 => (by first | exact absurd c0 c_2173 | exact absurd c_2173 c0))
      refine zi_lconst (v := lN 0) X dL_law_2180 (by decide) ?_
      refine zi_lcmp X dL_law_2181 ?_
      have e0 : lg_cmp (g1 (nI 0).toNatClampNeg) (lN 0) = 0 := by
        rw [show (nI 0).toNatClampNeg = 0 from rfl, ev k0]
        dsimp only
        rw [if_pos c0]
        exact lg_eq _
      refine zi_if_eq (tgt := 2187) X dL_law_2182 (by decide) (fun c_2182 => ?_) (fun c_2182 => (by first | exact absurd e0 c_2182 | exact absurd c_2182 e0))
      refine zi_goto (tgt := 2204) X dL_law_2187 (by decide) ?_
      exact nx h6 _ _ ⟨hs1, h5, g1, A1, th1, hp5, I1, W1, R1⟩
    · refine zi_iload X dL_law_2171 rfl ?_
      refine zi_if_eq (tgt := 2180) X dL_law_2173 (by decide) (fun c_2173 => (by first | exact absurd c0 c_2173 | exact absurd c_2173 c0)) (fun c_2173 => ?_)
      refine zi_lconst (v := lN 1) X dL_law_2176 (by decide) ?_
      refine zi_goto (tgt := 2181) X dL_law_2177 (by decide) ?_
      refine zi_lcmp X dL_law_2181 ?_
      have e0 : lg_cmp (g1 (nI 0).toNatClampNeg) (lN 1) = 0 := by
        rw [show (nI 0).toNatClampNeg = 0 from rfl, ev k0]
        dsimp only
        rw [if_neg c0]
        exact lg_eq _
      refine zi_if_eq (tgt := 2187) X dL_law_2182 (by decide) (fun c_2182 => ?_) (fun c_2182 => (by first | exact absurd e0 c_2182 | exact absurd c_2182 e0))
      refine zi_goto (tgt := 2204) X dL_law_2187 (by decide) ?_
      exact nx h6 _ _ ⟨hs1, h5, g1, A1, th1, hp5, I1, W1, R1⟩
  · refine zi_iload X dL_law_2163 rfl ?_
    refine zi_if_ne (tgt := 2187) X dL_law_2165 (by decide) (fun c_2165 => ?_) (fun c_2165 => (by first | exact absurd k0 c_2165 | exact absurd c_2165 k0))
    refine zi_goto (tgt := 2204) X dL_law_2187 (by decide) ?_
    exact nx h6 _ _ ⟨hs1, h5, g1, A1, th1, hp5, I1, W1, R1⟩
def AgL (l : Launch) (D : va_G) (cA : Nat → ClassId) (S : Nat → Nat → Nat) (Xa : XAd) (M : Nat → Nat → Nat) (Inv Inv2 : AState → Prop) (Es : List String) (av : List Value) : Prop :=
  ∀ A th hs hr, Inv A → isW cA D S Xa hs A → rW cA M th hr A → ∃ Q PX RO, mCx l yX6_sturmCoefficient cX6_sturmCoefficient 4 (some .long) (rmc 8 4 24) D (mT cA) (.ref Xa.1 :: av) hs (mFl hs Q) PX ∧ (∀ E h1, PX E h1 → E ∈ Es) ∧ mCl l yX7_sturmCoefficient cX7_sturmCoefficient 5 (rmd 9) D (mT cA) (.ref (M 3 0) :: av) hr RO ∧
    ∀ k v hs1 r hr1, (k = nI 0 ∧ Q v hs1 ∨ ∃ j E, Es[j]? = some E ∧ k = nI (j + 1) ∧ PX E hs1) → RO r hr1 → ∃ A' th', Inv2 A' ∧ isW cA D S Xa hs1 A' ∧ rW cA M th' hr1 A' ∧ nI th' = k ∧ (k = nI 0 → v = r)
theorem lc_sturmCoefficient (X : zX z l D cL_law yL_law.cls (mT cA) 8 (some .boolean) room_1 yL_law.name) (hag : AgL l D cA S Xa M Inv Inv2 [eI, eM, eN] [.int (sf (i + 1)), .int (sf (i + 2)), .int (sf (i + 3))]) (hB : zB z scr sn sf) (hi : i + 6 ≤ sn) (hsn : sn ≤ 3072) (hc : cells + 10 ≤ 603072) (hsl : slots + 13212 ≤ 7202922) (hw : LW cA D S Xa M Inv ou h)
    (nx : ∀ h' L5 L6, LW cA D S Xa M Inv2 ou h' → zM z (cells + 10) (slots + 13212) 2204 [some (.ref scr), some (.ref Xa.1), some (.ref (M 3 0)), some (.ref ou), some (.int (nI i)), L5, L6, none] [] h') : zM z cells slots 1112 [some (.ref scr), some (.ref Xa.1), some (.ref (M 3 0)), some (.ref ou), some (.int (nI i)), L5, L6, none] [] h := by
  have f1 : (rmc 9 4 24).cells = 4 := rfl
  have f2 : (rmc 9 4 24).slots = 24 := rfl
  have f3 : (rmd 9).cells = 0 := rfl
  have f4 : (rmd 9).slots = 0 := rfl
  have f5 : (rmd 1).cells = 0 := rfl
  have f6 : (rmd 1).slots = 0 := rfl
  have f7 : room_1.cells = 603072 := rfl
  have f8 : room_1.slots = 7202922 := rfl
  obtain ⟨hs, hr, g, A, th, hp, hI, hW, hR⟩ := hw
  obtain ⟨Q, PX, RO, C6, CE, C7, CJ⟩ := hag A th hs hr hI hW hR
  obtain ⟨fs, hx⟩ := isW_x hW
  have in1 : vp_in (nI i + nI 1) sn := by rw [nI_add]; exact vp_in_nI (by omega) (by omega)
  have in2 : vp_in (nI i + nI 2) sn := by rw [nI_add]; exact vp_in_nI (by omega) (by omega)
  have in3 : vp_in (nI i + nI 3) sn := by rw [nI_add]; exact vp_in_nI (by omega) (by omega)
  have cl1 : (nI i + nI 1).toNatClampNeg = i + 1 := by rw [nI_add]; exact nI_cl (by omega)
  have cl2 : (nI i + nI 2).toNatClampNeg = i + 2 := by rw [nI_add]; exact nI_cl (by omega)
  have cl3 : (nI i + nI 3).toNatClampNeg = i + 3 := by rw [nI_add]; exact nI_cl (by omega)
  refine zi_aload_n X dL_law_1112 rfl rfl ?_
  refine zi_aload_n X dL_law_1113 rfl rfl ?_
  refine zi_iload X dL_law_1114 rfl ?_
  refine zi_iconst (v := (nI 1)) X dL_law_1116 (by decide) ?_
  refine zi_iadd X dL_law_1117 ?_
  refine zi_sld X hB in1 dL_law_1118 ?_
  refine zi_aload_n X dL_law_1119 rfl rfl ?_
  refine zi_iload X dL_law_1120 rfl ?_
  refine zi_iconst (v := (nI 2)) X dL_law_1122 (by decide) ?_
  refine zi_iadd X dL_law_1123 ?_
  refine zi_sld X hB in2 dL_law_1124 ?_
  refine zi_aload_n X dL_law_1125 rfl rfl ?_
  refine zi_iload X dL_law_1126 rfl ?_
  refine zi_iconst (v := (nI 3)) X dL_law_1128 (by decide) ?_
  refine zi_iadd X dL_law_1129 ?_
  refine zi_sld X hB in3 dL_law_1130 ?_
  refine zi_aload_n X dL_law_1131 rfl rfl ?_
  rw [cl1, cl2, cl3]
  refine zi_hcallSiF X (w_sturmCoefficient (g := g) C6 CE hx hp.2.2.2.2.1) (kh_mk (n := 5) win_L wcw_L_sturmCoefficient (by decide)) wm_L_162 wst_L_sturmCoefficient (LPW_sub hp) ⟨Nat.le_of_ble_eq_true rfl, Nat.le_of_ble_eq_true rfl⟩ rfl rfl (Nat.le_of_ble_eq_true rfl) ⟨by omega, by omega⟩ dL_law_1132 (fun k h1 hq hn => ?_)
  obtain ⟨hs1, g1, s1, s2, s3, hq⟩ := hq
  have hp2 := LPW_c hp s1 s2 s3 hn
  generalize mjoin h (mup hs ou (wO (cA 1) g)) h1 = h2 at hp2 ⊢
  obtain ⟨fr, hy⟩ := rW_x hR
  have hy2 := hp2.2.1 _ _ hy
  refine zi_istore X dL_law_1135 (by decide) ?_
  refine zi_aload_n X dL_law_1137 rfl rfl ?_
  refine zi_aload_n X dL_law_1138 rfl rfl ?_
  refine zi_iload X dL_law_1139 rfl ?_
  refine zi_iconst (v := (nI 1)) X dL_law_1141 (by decide) ?_
  refine zi_iadd X dL_law_1142 ?_
  refine zi_sld X hB in1 dL_law_1143 ?_
  refine zi_aload_n X dL_law_1144 rfl rfl ?_
  refine zi_iload X dL_law_1145 rfl ?_
  refine zi_iconst (v := (nI 2)) X dL_law_1147 (by decide) ?_
  refine zi_iadd X dL_law_1148 ?_
  refine zi_sld X hB in2 dL_law_1149 ?_
  refine zi_aload_n X dL_law_1150 rfl rfl ?_
  refine zi_iload X dL_law_1151 rfl ?_
  refine zi_iconst (v := (nI 3)) X dL_law_1153 (by decide) ?_
  refine zi_iadd X dL_law_1154 ?_
  refine zi_sld X hB in3 dL_law_1155 ?_
  rw [cl1, cl2, cl3]
  refine zi_callVlG X C7 kc_X7_sturmCoefficient wm_L_164 hy2 rfl wim_X7_sturmCoefficient wse_X7_sturmCoefficient hp2.2.1 ⟨Nat.le_of_ble_eq_true rfl, Nat.le_of_ble_eq_true rfl⟩ rfl rfl (Nat.le_of_ble_eq_true rfl) ⟨by omega, by omega⟩ dL_law_1156 (fun r h3 hro hn3 => ?_)
  obtain ⟨A1, th1, I1, W1, R1, ek, ev⟩ := CJ k (g1 0) hs1 r h3 hq hro
  have hp3 := LPW_r hp2 hn3
  generalize mjoin h2 hr h3 = h4 at hp3 ⊢
  obtain ⟨f3, hz⟩ := rW_x R1
  have hz3 := hp3.2.1 _ _ hz
  refine zi_lstore X dL_law_1159 (by decide) ?_
  refine zi_aload_n X dL_law_1161 rfl rfl ?_
  refine zi_callViG X (rW_thrown l D R1) kc_X7_thrown wm_L_120 hz3 rfl wim_X7_thrown wse_X7_thrown hp3.2.1 ⟨Nat.le_of_ble_eq_true rfl, Nat.le_of_ble_eq_true rfl⟩ rfl rfl (Nat.le_of_ble_eq_true rfl) ⟨by omega, by omega⟩ dL_law_1162 (fun r2 h5 hro2 hn5 => ?_)
  obtain ⟨rfl, rfl⟩ := hro2
  have hp5 := LPW_r hp3 hn5
  have ho5 := hp5.2.2.2.1
  generalize mjoin h4 h5 h5 = h6 at hp5 ho5 ⊢
  refine zi_widen (k := cells + 10) (n := slots + 13212) (by omega) (by omega) ?_
  refine zi_iload X dL_law_1165 rfl ?_
  refine zi_icmp_eq (tgt := 1172) X dL_law_1167 (by decide) (fun c_1167 => ?_) (fun c_1167 => (by first | exact absurd ek c_1167 | exact absurd c_1167 ek))
  have key : ∀ L6 L7, zM z (cells + 10) (slots + 13212) 1188 [some (.ref scr), some (.ref Xa.1), some (.ref (M 3 0)), some (.ref ou), some (.int (nI i)), some (.int k), L6, L7] [] h6 := fun L6 L7 => by
    refine zi_goto (tgt := 2204) X dL_law_1188 (by decide) ?_
    exact zi_sub (by repeat (first | exact trivial | refine And.intro rfl ?_)) (nx h6 (some (.int k)) none ⟨hs1, h5, g1, A1, th1, hp5, I1, W1, R1⟩)
  by_cases k0 : k = 0
  · refine zi_iload X dL_law_1172 rfl ?_
    refine zi_if_ne (tgt := 1188) X dL_law_1174 (by decide) (fun c_1174 => (by first | exact absurd (fun q => q k0) c_1174 | exact absurd c_1174 (fun q => q k0))) (fun c_1174 => ?_)
    refine zi_aload_n X dL_law_1177 rfl rfl ?_
    refine zi_iconst (v := (nI 0)) X dL_law_1178 (by decide) ?_
    refine zi_lald X 1 ho5 rfl (vin (show 0 < 1 by decide) (by decide)) dL_law_1179 ?_
    refine zi_lload X dL_law_1180 rfl ?_
    refine zi_lcmp X dL_law_1182 ?_
    have e0 : lg_cmp (g1 (nI 0).toNatClampNeg) r = 0 := by
      rw [show (nI 0).toNatClampNeg = 0 from rfl, ev k0]
      exact lg_eq _
    refine zi_if_eq (tgt := 1188) X dL_law_1183 (by decide) (fun c_1183 => ?_) (fun c_1183 => (by first | exact absurd e0 c_1183 | exact absurd c_1183 e0))
    exact key _ _
  · refine zi_iload X dL_law_1172 rfl ?_
    refine zi_if_ne (tgt := 1188) X dL_law_1174 (by decide) (fun c_1174 => ?_) (fun c_1174 => (by first | exact absurd k0 c_1174 | exact absurd c_1174 k0))
    exact key _ _
def Ag_intervals (l : Launch) (D : va_G) (cA : Nat → ClassId) (S : Nat → Nat → Nat) (Xa : XAd) (M : Nat → Nat → Nat) (Inv Inv2 : AState → Prop) : Prop :=
  ∀ A th hs hr, Inv A → isW cA D S Xa hs A → rW cA M th hr A → ∃ (Q : Int32 → mH → Prop) (RO : Int32 → mH → Prop), mCi l yX6_intervals cX6_intervals 1 .int (rmd 2) D (mT cA) [.ref Xa.1] hs Q ∧ mCi l yX7_intervals cX7_intervals 1 .int (rmd 2) D (mT cA) [.ref (M 3 0)] hr RO ∧
    ∀ v hs1 r hr1, Q v hs1 → RO r hr1 → ∃ A' th', Inv2 A' ∧ isW cA D S Xa hs1 A' ∧ rW cA M th' hr1 A' ∧ v = r
theorem lc_intervals (X : zX z l D cL_law yL_law.cls (mT cA) 8 (some .boolean) room_1 yL_law.name) (hag : Ag_intervals l D cA S Xa M Inv Inv2) (hc : cells + 10 ≤ 603072) (hsl : slots + 13212 ≤ 7202922) (hw : LW cA D S Xa M Inv ou h)
    (nx : ∀ h' L5 L6, LW cA D S Xa M Inv2 ou h' → zM z (cells + 10) (slots + 13212) 2204 [some (.ref scr), some (.ref Xa.1), some (.ref (M 3 0)), some (.ref ou), some (.int (nI i)), L5, L6, none] [] h') : zM z cells slots 1795 [some (.ref scr), some (.ref Xa.1), some (.ref (M 3 0)), some (.ref ou), some (.int (nI i)), L5, L6, none] [] h := by
  have f1 : (rmd 2).cells = 0 := rfl
  have f2 : (rmd 2).slots = 0 := rfl
  have f3 : (rmd 2).cells = 0 := rfl
  have f4 : (rmd 2).slots = 0 := rfl
  have f7 : room_1.cells = 603072 := rfl
  have f8 : room_1.slots = 7202922 := rfl
  obtain ⟨hs, hr, g, A, th, hp, hI, hW, hR⟩ := hw
  obtain ⟨Q, RO, C6, C7, CJ⟩ := hag A th hs hr hI hW hR
  obtain ⟨fs, hx⟩ := isW_x hW
  have hx2 := hp.1 _ _ hx
  refine zi_aload_n X dL_law_1795 rfl rfl ?_
  refine zi_callViG X C6 kc_X6_intervals wm_L_190 hx2 rfl wim_X6_intervals wse_X6_intervals hp.1 ⟨Nat.le_of_ble_eq_true rfl, Nat.le_of_ble_eq_true rfl⟩ rfl rfl (Nat.le_of_ble_eq_true rfl) ⟨by omega, by omega⟩ dL_law_1796 (fun v h1 hq hn => ?_)
  have hp2 := LPW_s hp hn
  generalize mjoin h hs h1 = h2 at hp2 ⊢
  obtain ⟨fr, hy⟩ := rW_x hR
  have hy2 := hp2.2.1 _ _ hy
  refine zi_aload_n X dL_law_1799 rfl rfl ?_
  refine zi_callViG X C7 kc_X7_intervals wm_L_193 hy2 rfl wim_X7_intervals wse_X7_intervals hp2.2.1 ⟨Nat.le_of_ble_eq_true rfl, Nat.le_of_ble_eq_true rfl⟩ rfl rfl (Nat.le_of_ble_eq_true rfl) ⟨by omega, by omega⟩ dL_law_1800 (fun r h3 hro hn3 => ?_)
  obtain ⟨A1, th1, I1, W1, R1, ev⟩ := CJ v h1 r h3 hq hro
  have hp3 := LPW_r hp2 hn3
  generalize mjoin h2 hr h3 = h4 at hp3 ⊢
  refine zi_widen (k := cells + 10) (n := slots + 13212) (by omega) (by omega) ?_
  refine zi_icmp_eq (tgt := 2204) X dL_law_1803 (by decide) (fun c_1803 => ?_) (fun c_1803 => (by first | exact absurd ev c_1803 | exact absurd c_1803 ev))
  exact nx h4 _ _ ⟨h1, h3, g, A1, th1, hp3, I1, W1, R1⟩
def Ag_removeEmpty (l : Launch) (D : va_G) (cA : Nat → ClassId) (S : Nat → Nat → Nat) (Xa : XAd) (M : Nat → Nat → Nat) (Inv Inv2 : AState → Prop) : Prop :=
  ∀ A th hs hr, Inv A → isW cA D S Xa hs A → rW cA M th hr A → ∃ (Q : Int32 → mH → Prop) (RO : Int32 → mH → Prop), mCi l yX6_removeEmpty cX6_removeEmpty 1 .int (rmd 5) D (mT cA) [.ref Xa.1] hs Q ∧ mCi l yX7_removeEmpty cX7_removeEmpty 3 .int (rmd 2) D (mT cA) [.ref (M 3 0)] hr RO ∧
    ∀ v hs1 r hr1, Q v hs1 → RO r hr1 → ∃ A' th', Inv2 A' ∧ isW cA D S Xa hs1 A' ∧ rW cA M th' hr1 A' ∧ v = r
theorem lc_removeEmpty (X : zX z l D cL_law yL_law.cls (mT cA) 8 (some .boolean) room_1 yL_law.name) (hag : Ag_removeEmpty l D cA S Xa M Inv Inv2) (hc : cells + 10 ≤ 603072) (hsl : slots + 13212 ≤ 7202922) (hw : LW cA D S Xa M Inv ou h)
    (nx : ∀ h' L5 L6, LW cA D S Xa M Inv2 ou h' → zM z (cells + 10) (slots + 13212) 2204 [some (.ref scr), some (.ref Xa.1), some (.ref (M 3 0)), some (.ref ou), some (.int (nI i)), L5, L6, none] [] h') : zM z cells slots 2058 [some (.ref scr), some (.ref Xa.1), some (.ref (M 3 0)), some (.ref ou), some (.int (nI i)), L5, L6, none] [] h := by
  have f1 : (rmd 5).cells = 0 := rfl
  have f2 : (rmd 5).slots = 0 := rfl
  have f3 : (rmd 2).cells = 0 := rfl
  have f4 : (rmd 2).slots = 0 := rfl
  have f7 : room_1.cells = 603072 := rfl
  have f8 : room_1.slots = 7202922 := rfl
  obtain ⟨hs, hr, g, A, th, hp, hI, hW, hR⟩ := hw
  obtain ⟨Q, RO, C6, C7, CJ⟩ := hag A th hs hr hI hW hR
  obtain ⟨fs, hx⟩ := isW_x hW
  have hx2 := hp.1 _ _ hx
  refine zi_aload_n X dL_law_2058 rfl rfl ?_
  refine zi_callViG X C6 kc_X6_removeEmpty wm_L_207 hx2 rfl wim_X6_removeEmpty wse_X6_removeEmpty hp.1 ⟨Nat.le_of_ble_eq_true rfl, Nat.le_of_ble_eq_true rfl⟩ rfl rfl (Nat.le_of_ble_eq_true rfl) ⟨by omega, by omega⟩ dL_law_2059 (fun v h1 hq hn => ?_)
  have hp2 := LPW_s hp hn
  generalize mjoin h hs h1 = h2 at hp2 ⊢
  obtain ⟨fr, hy⟩ := rW_x hR
  have hy2 := hp2.2.1 _ _ hy
  refine zi_aload_n X dL_law_2062 rfl rfl ?_
  refine zi_callViG X C7 kc_X7_removeEmpty wm_L_210 hy2 rfl wim_X7_removeEmpty wse_X7_removeEmpty hp2.2.1 ⟨Nat.le_of_ble_eq_true rfl, Nat.le_of_ble_eq_true rfl⟩ rfl rfl (Nat.le_of_ble_eq_true rfl) ⟨by omega, by omega⟩ dL_law_2063 (fun r h3 hro hn3 => ?_)
  obtain ⟨A1, th1, I1, W1, R1, ev⟩ := CJ v h1 r h3 hq hro
  have hp3 := LPW_r hp2 hn3
  generalize mjoin h2 hr h3 = h4 at hp3 ⊢
  refine zi_widen (k := cells + 10) (n := slots + 13212) (by omega) (by omega) ?_
  refine zi_icmp_eq (tgt := 2204) X dL_law_2066 (by decide) (fun c_2066 => ?_) (fun c_2066 => (by first | exact absurd ev c_2066 | exact absurd c_2066 ev))
  exact nx h4 _ _ ⟨h1, h3, g, A1, th1, hp3, I1, W1, R1⟩
def Ag_checksum (l : Launch) (D : va_G) (cA : Nat → ClassId) (S : Nat → Nat → Nat) (Xa : XAd) (M : Nat → Nat → Nat) (Inv Inv2 : AState → Prop) : Prop :=
  ∀ A th hs hr, Inv A → isW cA D S Xa hs A → rW cA M th hr A → ∃ (Q : Int64 → mH → Prop) (RO : Int64 → mH → Prop), mCl l yX6_checksum cX6_checksum 6 (rmd 5) D (mT cA) [.ref Xa.1] hs Q ∧ mCl l yX7_checksum cX7_checksum 8 (rmd 1) D (mT cA) [.ref (M 3 0)] hr RO ∧
    ∀ v hs1 r hr1, Q v hs1 → RO r hr1 → ∃ A' th', Inv2 A' ∧ isW cA D S Xa hs1 A' ∧ rW cA M th' hr1 A' ∧ v = r
theorem lc_checksum (X : zX z l D cL_law yL_law.cls (mT cA) 8 (some .boolean) room_1 yL_law.name) (hag : Ag_checksum l D cA S Xa M Inv Inv2) (hc : cells + 10 ≤ 603072) (hsl : slots + 13212 ≤ 7202922) (hw : LW cA D S Xa M Inv ou h)
    (nx : ∀ h' L5 L6, LW cA D S Xa M Inv2 ou h' → zM z (cells + 10) (slots + 13212) 2204 [some (.ref scr), some (.ref Xa.1), some (.ref (M 3 0)), some (.ref ou), some (.int (nI i)), L5, L6, none] [] h') : zM z cells slots 2190 [some (.ref scr), some (.ref Xa.1), some (.ref (M 3 0)), some (.ref ou), some (.int (nI i)), L5, L6, none] [] h := by
  have f1 : (rmd 5).cells = 0 := rfl
  have f2 : (rmd 5).slots = 0 := rfl
  have f3 : (rmd 1).cells = 0 := rfl
  have f4 : (rmd 1).slots = 0 := rfl
  have f7 : room_1.cells = 603072 := rfl
  have f8 : room_1.slots = 7202922 := rfl
  obtain ⟨hs, hr, g, A, th, hp, hI, hW, hR⟩ := hw
  obtain ⟨Q, RO, C6, C7, CJ⟩ := hag A th hs hr hI hW hR
  obtain ⟨fs, hx⟩ := isW_x hW
  have hx2 := hp.1 _ _ hx
  refine zi_aload_n X dL_law_2190 rfl rfl ?_
  refine zi_callVlG X C6 kc_X6_checksum wm_L_217 hx2 rfl wim_X6_checksum wse_X6_checksum hp.1 ⟨Nat.le_of_ble_eq_true rfl, Nat.le_of_ble_eq_true rfl⟩ rfl rfl (Nat.le_of_ble_eq_true rfl) ⟨by omega, by omega⟩ dL_law_2191 (fun v h1 hq hn => ?_)
  have hp2 := LPW_s hp hn
  generalize mjoin h hs h1 = h2 at hp2 ⊢
  obtain ⟨fr, hy⟩ := rW_x hR
  have hy2 := hp2.2.1 _ _ hy
  refine zi_aload_n X dL_law_2194 rfl rfl ?_
  refine zi_callVlG X C7 kc_X7_checksum wm_L_221 hy2 rfl wim_X7_checksum wse_X7_checksum hp2.2.1 ⟨Nat.le_of_ble_eq_true rfl, Nat.le_of_ble_eq_true rfl⟩ rfl rfl (Nat.le_of_ble_eq_true rfl) ⟨by omega, by omega⟩ dL_law_2195 (fun r h3 hro hn3 => ?_)
  obtain ⟨A1, th1, I1, W1, R1, ev⟩ := CJ v h1 r h3 hq hro
  have hp3 := LPW_r hp2 hn3
  generalize mjoin h2 hr h3 = h4 at hp3 ⊢
  refine zi_widen (k := cells + 10) (n := slots + 13212) (by omega) (by omega) ?_
  refine zi_lcmp X dL_law_2198 ?_
  have e0 : lg_cmp v r = 0 := by rw [ev]; exact lg_eq _
  refine zi_if_eq (tgt := 2204) X dL_law_2199 (by decide) (fun c_2199 => ?_) (fun c_2199 => (by first | exact absurd e0 c_2199 | exact absurd c_2199 e0))
  exact nx h4 _ _ ⟨h1, h3, g, A1, th1, hp3, I1, W1, R1⟩
end LAWC
