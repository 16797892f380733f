set_option maxRecDepth 100000 in
set_option maxHeartbeats 40000000 in
theorem law_from {p_ : Program} {e_ : Env} {s_ : State} {m_ : MethodId} {below_ : List Frame} {meth_ : Method} {c_ : Code} (l : Launch) {b_ L : Nat} {xs : Nat → Int32} (hL : L ≤ 1536) {D : va_G} {cy : ClassId} {q_ t_ : Nat} (X : Cx p_ s_ m_ #[Value.ref b_] meth_ c_ code RL 4 ret D cy (fun q => s_.heap.size ≤ q)) (hX : va_X b_ L xs s_ s_.heap) (hbl : b_ < s_.heap.size) (hbA : ¬ (fun q => s_.heap.size ≤ q) b_) (hZ : ZZ q_ t_ (fun q => s_.heap.size ≤ q) s_ s_.heap) (ax an am ak aT ag ay : Nat → Nat) (k : KV) (km : KV) (kk : KV) (v : MV) (od : Nat → Int32) (tc : Nat) (al : Nat → Int32) (wi : Nat → Int32) (hw : KW k) (hwk : KW kk) (h80 : mN v ≤ 80) (h12 : mIr v ≤ 12) (hI : mIm v = true → ∀ j, j < 57 → mIg v j = imF kk j) : G p_ l e_ room_1 s_ m_ #[Value.ref b_] below_ meth_ c_ 4 D (fun q => s_.heap.size ≤ q) 51 1291 (lw_Z below_ #[Value.ref b_] s_) [wX cy ax an am ak aT ag (mIm v) (mIr v) od (mRw v) (mRf v), wH cy an k, wH cy am km, wH cy ak kk, wT cy aT (mLt v) (mN v), wG cy ag tc al wi, wM cy ay k v] 16 [(2, .ref (ay 0)), (1, .ref (ax 0)), (0, .ref (b_))] [] := by
  refine g_iconst (v := 0) (pc := 16) X dL_law_16 (by decide) ?_
  refine g_istore_n (lv' := [(3, .int (0)), (2, .ref (ay 0)), (1, .ref (ax 0)), (0, .ref (b_))]) (pc := 17) X dL_law_17 rfl rfl rfl ?_
  have L18_1 : ∀ (fu_ : Nat) (k : KV) (km : KV) (kk : KV) (v : MV) (od : Nat → Int32) (tc : Nat) (al : Nat → Int32) (wi : Nat → Int32) (i : Nat) (hw : KW k) (hwk : KW kk) (h80 : mN v ≤ 80) (h12 : mIr v ≤ 12) (hI : mIm v = true → ∀ j, j < 57 → mIg v j = imF kk j) (hi : i ≤ L) (hm : L - i < fu_), G p_ l e_ room_1 s_ m_ #[Value.ref b_] below_ meth_ c_ 4 D (fun q => s_.heap.size ≤ q) 51 1291 (lw_Z below_ #[Value.ref b_] s_) [wX cy ax an am ak aT ag (mIm v) (mIr v) od (mRw v) (mRf v), wH cy an k, wH cy am km, wH cy ak kk, wT cy aT (mLt v) (mN v), wG cy ag tc al wi, wM cy ay k v] 18 [(0, .ref (b_)), (1, .ref (ax 0)), (2, .ref (ay 0)), (3, .int (nI i))] [] := by
    intro fu_
    induction fu_ with
    | zero => intro k km kk v od tc al wi i hw hwk h80 h12 hI hi hm; exact absurd hm (Nat.not_lt_zero _)
    | succ fu_ ih =>
      intro k km kk v od tc al wi i hw hwk h80 h12 hI hi hm
      have ih18 := ih
      clear ih
      refine g_iload_n (pc := 18) X dL_law_18 3 rfl ?_
      refine g_aload_n (pc := 19) X dL_law_19 0 rfl ?_
      refine g_slen (pc := 20) X hX hbl hbA dL_law_20 ?_
      refine g_iconst (v := 3) (pc := 21) X dL_law_21 (by decide) ?_
      refine g_isub (v := nI L - 3) (pc := 22) X dL_law_22 rfl ?_
      refine g_icmp_gt (pc := 23) (tgt := 803) X dL_law_23 (by decide) (fun c23 => ?_) (fun c23 => ?_)
      · refine g_iconst (v := 1) (pc := 803) X dL_law_803 (by decide) ?_
        exact g_lret (pc := 804) X dL_law_804 (Nat.le_of_ble_eq_true rfl) (Nat.le_of_ble_eq_true rfl)
      · have n23 := Int32.not_lt.mpr c23
        have i3 : i + 3 ≤ L := len_3 (by omega) hL c23
        refine g_aload_n (pc := 26) X dL_law_26 0 rfl ?_
        refine g_iload_n (pc := 27) X dL_law_27 3 rfl ?_
        refine g_sld (pc := 28) X hX hbl hbA hL i rfl (by omega) dL_law_28 ?_
        refine g_bipush (v := 31) (pc := 29) X dL_law_29 (by decide) ?_
        refine g_iand (v := (xs i) &&& 31) (pc := 31) X dL_law_31 rfl ?_
        by_cases e32_0 : (xs i) &&& 31 = (0 : Int32)
        · refine g_top X e32_0 ?_
          refine g_tableIn (pc := 32) (off := 124) (tgt := 156) X dL_law_32 (by decide) (by decide) (by decide) (by decide) ?_
          refine g_aload_n (pc := 156) X dL_law_156 1 rfl ?_
          refine g_aload_n (pc := 157) X dL_law_157 0 rfl ?_
          refine g_iload_n (pc := 158) X dL_law_158 3 rfl ?_
          refine g_iconst (v := 1) (pc := 159) X dL_law_159 (by decide) ?_
          refine g_iadd (v := nI (i + 1)) (pc := 160) X dL_law_160 (nI_add i 1) ?_
          refine g_sld (pc := 161) X hX hbl hbA hL (i + 1) rfl (by omega) dL_law_161 ?_
          refine g_callV (pc := 162) (rest := []) (ss' := [wX cy ax an am ak aT ag ((mIm v)) ((mIr v)) od ((mRw v)) (rfB (lcB (mN v) (xs (i + 1))) (mRf v) (lcA (mN v) (xs (i + 1)))), wH cy an k, wH cy am km, wH cy ak kk, wT cy aT (lcT (mLt v) (mN v) (xs (i + 1))) (lcN (mN v) (xs (i + 1))), wG cy ag tc al wi, wM cy ay k v]) X (c_X3_letter l D cy ax an am ak aT ag (mIm v) (mIr v) od (mRw v) (mRf v) (mLt v) (mN v) (xs (i + 1)) h80) vl_L_13 dL_law_162 [0, 4] 0 0 rfl rfl rfl rfl rfl rfl (ads_c (ads_X _ _ _ _ _ _ _ _ _ _ _ _ _ _ _ _ _) (ads_c (ads_T _ _ _ _ _ _) rfl)) rfl rfl rfl rfl rfl rfl ⟨Nat.le_of_ble_eq_true rfl, Nat.le_of_ble_eq_true rfl⟩ ?_
          refine g_aload_n (pc := 165) X dL_law_165 2 rfl ?_
          refine g_aload_n (pc := 166) X dL_law_166 0 rfl ?_
          refine g_iload_n (pc := 167) X dL_law_167 3 rfl ?_
          refine g_iconst (v := 1) (pc := 168) X dL_law_168 (by decide) ?_
          refine g_iadd (v := nI (i + 1)) (pc := 169) X dL_law_169 (nI_add i 1) ?_
          refine g_sld (pc := 170) X hX hbl hbA hL (i + 1) rfl (by omega) dL_law_170 ?_
          refine g_callV (pc := 171) (rest := [.int (lcA (mN v) (xs (i + 1)))]) (ss' := [wX cy ax an am ak aT ag ((mIm v)) ((mIr v)) od ((mRw v)) (rfB (lcB (mN v) (xs (i + 1))) (mRf v) (lcA (mN v) (xs (i + 1)))), wH cy an k, wH cy am km, wH cy ak kk, wT cy aT (lcT (mLt v) (mN v) (xs (i + 1))) (lcN (mN v) (xs (i + 1))), wG cy ag tc al wi, wM cy ay k (uRf (uLt (uN v (lcN (mN v) (xs (i + 1)))) (lcT (mLt v) (mN v) (xs (i + 1)))) (rfB (lcB (mN v) (xs (i + 1))) (mRf v) (lcA (mN v) (xs (i + 1)))))]) X (c_X4_letter l D cy ay k v (xs (i + 1)) h80) vl_L_17 dL_law_171 [6] 6 0 rfl rfl rfl rfl rfl rfl (ads_c (ads_M _ _ _ _ _ _) rfl) rfl rfl rfl rfl rfl rfl ⟨Nat.le_of_ble_eq_true rfl, Nat.le_of_ble_eq_true rfl⟩ ?_
          refine g_icmp_eq (pc := 174) (tgt := 797) X dL_law_174 (by decide) (fun c174 => ?_) (fun c174 => by exact absurd rfl c174)
          have hw2 : KW (k) := hw
          have hk2 : KW (kk) := hwk
          have h802 : lcN (mN v) (xs (i + 1)) ≤ 80 := lc_80 h80
          have h122 : mIr v ≤ 12 := h12
          have hI2 : mIm v = true → ∀ j, j < 57 → (mIg v) j = imF (kk) j := hI
          refine g_iinc (v := nI (i + 3)) (lv' := [(3, .int (nI (i + 3))), (0, .ref (b_)), (1, .ref (ax 0)), (2, .ref (ay 0))]) (pc := 797) X dL_law_797 3 rfl (nI_add i 3) rfl rfl ?_
          refine g_goto (pc := 800) (tgt := 18) X dL_law_800 (by decide) ?_
          refine g_lv X (lv' := [(0, .ref (b_)), (1, .ref (ax 0)), (2, .ref (ay 0)), (3, .int (nI (i + 3)))]) [1, 2, 3, 0] rfl ?_
          exact ih18 k km kk (uRf (uLt (uN v (lcN (mN v) (xs (i + 1)))) (lcT (mLt v) (mN v) (xs (i + 1)))) (rfB (lcB (mN v) (xs (i + 1))) (mRf v) (lcA (mN v) (xs (i + 1))))) od tc al wi (i + 3) hw2 hk2 h802 h122 hI2 (by omega) (by omega)
        by_cases e32_1 : (xs i) &&& 31 = (1 : Int32)
        · refine g_top X e32_1 ?_
          refine g_tableIn (pc := 32) (off := 147) (tgt := 179) X dL_law_32 (by decide) (by decide) (by decide) (by decide) ?_
          refine g_aload_n (pc := 179) X dL_law_179 1 rfl ?_
          refine g_callVE (pc := 180) (rest := []) (ss' := fun (u_ : (KV)) => [wX cy ax an am ak aT ag ((mIm v)) ((mIr v)) od ((mRw v)) ((mRf v)), wH cy an (hsK (mLt v) (mN v) k), wH cy am u_, wH cy ak kk, wT cy aT ((mLt v)) 0, wG cy ag tc al wi, wM cy ay k v]) X (c_X3_house l D cy ax an am ak aT ag (mIm v) (mIr v) od (mRw v) (mRf v) k km (mLt v) (mN v) h80 hw) vl_L_18 dL_law_180 [0, 1, 2, 4] 0 0 rfl rfl rfl rfl rfl rfl (fun _ => (ads_c (ads_X _ _ _ _ _ _ _ _ _ _ _ _ _ _ _ _ _) (ads_c (ads_H _ _ _ _ _ _ _ _) (ads_c (ads_H _ _ _ _ _ _ _ _) (ads_c (ads_T _ _ _ _ _ _) rfl))))) (fun _ => rfl) rfl rfl rfl rfl rfl ⟨Nat.le_of_ble_eq_true rfl, Nat.le_of_ble_eq_true rfl⟩ ?_
          rintro xm_180_1
          refine g_eq X (ss' := [wX cy ax an am ak aT ag ((mIm v)) ((mIr v)) od ((mRw v)) ((mRf v)), wH cy an (hsK (mLt v) (mN v) k), wH cy am xm_180_1, wH cy ak kk, wT cy aT ((mLt v)) 0, wG cy ag tc al wi, wM cy ay k v]) rfl ?_
          refine g_aload_n (pc := 183) X dL_law_183 2 rfl ?_
          refine g_callZE (pc := 184) (rest := [.int ((riR (mLt v) (mN v) k).1)]) (ss' := fun (u_ : (Nat) × (Nat → Int32) × (Nat → Int32)) => [wX cy ax an am ak aT ag ((mIm v)) ((mIr v)) od ((mRw v)) ((mRf v)), wH cy an (hsK (mLt v) (mN v) k), wH cy am xm_180_1, wH cy ak kk, wT cy aT ((mLt v)) 0, wG cy ag tc al wi, wM cy ay (hsK (mLt v) (mN v) k) (uAh (uVa (uAt (uN v 0) u_.1) u_.2.1) u_.2.2)]) X hZ (c_X4_house l D cy q_ t_ ay k v h80 hw) vl_L_22 dL_law_184 [6] 6 0 rfl rfl rfl rfl rfl rfl (fun _ => (ads_c (ads_M _ _ _ _ _ _) rfl)) (fun _ => rfl) rfl rfl rfl rfl rfl ⟨Nat.le_of_ble_eq_true rfl, Nat.le_of_ble_eq_true rfl⟩ ?_
          rintro ⟨xt_184_2, xv_184_2, xa_184_2⟩
          refine g_eq X (ss' := [wX cy ax an am ak aT ag ((mIm v)) ((mIr v)) od ((mRw v)) ((mRf v)), wH cy an (hsK (mLt v) (mN v) k), wH cy am xm_180_1, wH cy ak kk, wT cy aT ((mLt v)) 0, wG cy ag tc al wi, wM cy ay (hsK (mLt v) (mN v) k) (uAh (uVa (uAt (uN v 0) xt_184_2) xv_184_2) xa_184_2)]) rfl ?_
          refine g_icmp_eq (pc := 187) (tgt := 797) X dL_law_187 (by decide) (fun c187 => ?_) (fun c187 => by exact absurd rfl c187)
          have hw2 : KW (hsK (mLt v) (mN v) k) := KW_hs hw
          have hk2 : KW (kk) := hwk
          have h802 : 0 ≤ 80 := Nat.zero_le _
          have h122 : mIr v ≤ 12 := h12
          have hI2 : mIm v = true → ∀ j, j < 57 → (mIg v) j = imF (kk) j := hI
          refine g_iinc (v := nI (i + 3)) (lv' := [(3, .int (nI (i + 3))), (0, .ref (b_)), (1, .ref (ax 0)), (2, .ref (ay 0))]) (pc := 797) X dL_law_797 3 rfl (nI_add i 3) rfl rfl ?_
          refine g_goto (pc := 800) (tgt := 18) X dL_law_800 (by decide) ?_
          refine g_lv X (lv' := [(0, .ref (b_)), (1, .ref (ax 0)), (2, .ref (ay 0)), (3, .int (nI (i + 3)))]) [1, 2, 3, 0] rfl ?_
          exact ih18 (hsK (mLt v) (mN v) k) xm_180_1 kk (uAh (uVa (uAt (uN v 0) xt_184_2) xv_184_2) xa_184_2) od tc al wi (i + 3) hw2 hk2 h802 h122 hI2 (by omega) (by omega)
        by_cases e32_2 : (xs i) &&& 31 = (2 : Int32)
        · refine g_top X e32_2 ?_
          refine g_tableIn (pc := 32) (off := 160) (tgt := 192) X dL_law_32 (by decide) (by decide) (by decide) (by decide) ?_
          refine g_aload_n (pc := 192) X dL_law_192 1 rfl ?_
          refine g_aload_n (pc := 193) X dL_law_193 0 rfl ?_
          refine g_iload_n (pc := 194) X dL_law_194 3 rfl ?_
          refine g_iconst (v := 1) (pc := 195) X dL_law_195 (by decide) ?_
          refine g_iadd (v := nI (i + 1)) (pc := 196) X dL_law_196 (nI_add i 1) ?_
          refine g_sld (pc := 197) X hX hbl hbA hL (i + 1) rfl (by omega) dL_law_197 ?_
          refine g_aload_n (pc := 198) X dL_law_198 0 rfl ?_
          refine g_iload_n (pc := 199) X dL_law_199 3 rfl ?_
          refine g_iconst (v := 2) (pc := 200) X dL_law_200 (by decide) ?_
          refine g_iadd (v := nI (i + 2)) (pc := 201) X dL_law_201 (nI_add i 2) ?_
          refine g_sld (pc := 202) X hX hbl hbA hL (i + 2) rfl (by omega) dL_law_202 ?_
          refine g_callV (pc := 203) (rest := []) (ss' := [wX cy ax an am ak aT ag ((mIm v)) ((mIr v)) od ((mRw v)) (rfB (thB k (xs (i + 1)) (xs (i + 2))) (mRf v) (thA k (xs (i + 1)) (xs (i + 2)))), wH cy an k, wH cy am km, wH cy ak kk, wT cy aT (mLt v) (mN v), wG cy ag tc al wi, wM cy ay k v]) X (c_X3_thing l D cy ax an am ak aT ag (mIm v) (mIr v) od (mRw v) (mRf v) k (xs (i + 1)) (xs (i + 2)) hw) vl_L_23 dL_law_203 [0, 1] 0 0 rfl rfl rfl rfl rfl rfl (ads_c (ads_X _ _ _ _ _ _ _ _ _ _ _ _ _ _ _ _ _) (ads_c (ads_H _ _ _ _ _ _ _ _) rfl)) rfl rfl rfl rfl rfl rfl ⟨Nat.le_of_ble_eq_true rfl, Nat.le_of_ble_eq_true rfl⟩ ?_
          refine g_aload_n (pc := 206) X dL_law_206 2 rfl ?_
          refine g_aload_n (pc := 207) X dL_law_207 0 rfl ?_
          refine g_iload_n (pc := 208) X dL_law_208 3 rfl ?_
          refine g_iconst (v := 1) (pc := 209) X dL_law_209 (by decide) ?_
          refine g_iadd (v := nI (i + 1)) (pc := 210) X dL_law_210 (nI_add i 1) ?_
          refine g_sld (pc := 211) X hX hbl hbA hL (i + 1) rfl (by omega) dL_law_211 ?_
          refine g_aload_n (pc := 212) X dL_law_212 0 rfl ?_
          refine g_iload_n (pc := 213) X dL_law_213 3 rfl ?_
          refine g_iconst (v := 2) (pc := 214) X dL_law_214 (by decide) ?_
          refine g_iadd (v := nI (i + 2)) (pc := 215) X dL_law_215 (nI_add i 2) ?_
          refine g_sld (pc := 216) X hX hbl hbA hL (i + 2) rfl (by omega) dL_law_216 ?_
          refine g_callV (pc := 217) (rest := [.int (thA k (xs (i + 1)) (xs (i + 2)))]) (ss' := [wX cy ax an am ak aT ag ((mIm v)) ((mIr v)) od ((mRw v)) (rfB (thB k (xs (i + 1)) (xs (i + 2))) (mRf v) (thA k (xs (i + 1)) (xs (i + 2)))), wH cy an k, wH cy am km, wH cy ak kk, wT cy aT (mLt v) (mN v), wG cy ag tc al wi, wM cy ay k (uRf v (rfB (thB k (xs (i + 1)) (xs (i + 2))) (mRf v) (thA k (xs (i + 1)) (xs (i + 2)))))]) X (c_X4_thing l D cy ay k v (xs (i + 1)) (xs (i + 2)) hw) vl_L_27 dL_law_217 [6] 6 0 rfl rfl rfl rfl rfl rfl (ads_c (ads_M _ _ _ _ _ _) rfl) rfl rfl rfl rfl rfl rfl ⟨Nat.le_of_ble_eq_true rfl, Nat.le_of_ble_eq_true rfl⟩ ?_
          refine g_icmp_eq (pc := 220) (tgt := 797) X dL_law_220 (by decide) (fun c220 => ?_) (fun c220 => by exact absurd rfl c220)
          have hw2 : KW (k) := hw
          have hk2 : KW (kk) := hwk
          have h802 : mN v ≤ 80 := h80
          have h122 : mIr v ≤ 12 := h12
          have hI2 : mIm v = true → ∀ j, j < 57 → (mIg v) j = imF (kk) j := hI
          refine g_iinc (v := nI (i + 3)) (lv' := [(3, .int (nI (i + 3))), (0, .ref (b_)), (1, .ref (ax 0)), (2, .ref (ay 0))]) (pc := 797) X dL_law_797 3 rfl (nI_add i 3) rfl rfl ?_
          refine g_goto (pc := 800) (tgt := 18) X dL_law_800 (by decide) ?_
          refine g_lv X (lv' := [(0, .ref (b_)), (1, .ref (ax 0)), (2, .ref (ay 0)), (3, .int (nI (i + 3)))]) [1, 2, 3, 0] rfl ?_
          exact ih18 k km kk (uRf v (rfB (thB k (xs (i + 1)) (xs (i + 2))) (mRf v) (thA k (xs (i + 1)) (xs (i + 2))))) od tc al wi (i + 3) hw2 hk2 h802 h122 hI2 (by omega) (by omega)
        by_cases e32_3 : (xs i) &&& 31 = (3 : Int32)
        · refine g_top X e32_3 ?_
          refine g_tableIn (pc := 32) (off := 193) (tgt := 225) X dL_law_32 (by decide) (by decide) (by decide) (by decide) ?_
          refine g_aload_n (pc := 225) X dL_law_225 1 rfl ?_
          refine g_aload_n (pc := 226) X dL_law_226 0 rfl ?_
          refine g_iload_n (pc := 227) X dL_law_227 3 rfl ?_
          refine g_iconst (v := 1) (pc := 228) X dL_law_228 (by decide) ?_
          refine g_iadd (v := nI (i + 1)) (pc := 229) X dL_law_229 (nI_add i 1) ?_
          refine g_sld (pc := 230) X hX hbl hbA hL (i + 1) rfl (by omega) dL_law_230 ?_
          refine g_aload_n (pc := 231) X dL_law_231 0 rfl ?_
          refine g_iload_n (pc := 232) X dL_law_232 3 rfl ?_
          refine g_iconst (v := 2) (pc := 233) X dL_law_233 (by decide) ?_
          refine g_iadd (v := nI (i + 2)) (pc := 234) X dL_law_234 (nI_add i 2) ?_
          refine g_sld (pc := 235) X hX hbl hbA hL (i + 2) rfl (by omega) dL_law_235 ?_
          refine g_callV (pc := 236) (rest := []) (ss' := [wX cy ax an am ak aT ag ((mIm v)) ((mIr v)) od ((mRw v)) (rfB (liB k (xs (i + 1)) (xs (i + 2))) (mRf v) (liA k (xs (i + 1)) (xs (i + 2)))), wH cy an k, wH cy am km, wH cy ak kk, wT cy aT (mLt v) (mN v), wG cy ag tc al wi, wM cy ay k v]) X (c_X3_line l D cy ax an am ak aT ag (mIm v) (mIr v) od (mRw v) (mRf v) k (xs (i + 1)) (xs (i + 2)) hw) vl_L_28 dL_law_236 [0, 1] 0 0 rfl rfl rfl rfl rfl rfl (ads_c (ads_X _ _ _ _ _ _ _ _ _ _ _ _ _ _ _ _ _) (ads_c (ads_H _ _ _ _ _ _ _ _) rfl)) rfl rfl rfl rfl rfl rfl ⟨Nat.le_of_ble_eq_true rfl, Nat.le_of_ble_eq_true rfl⟩ ?_
          refine g_aload_n (pc := 239) X dL_law_239 2 rfl ?_
          refine g_aload_n (pc := 240) X dL_law_240 0 rfl ?_
          refine g_iload_n (pc := 241) X dL_law_241 3 rfl ?_
          refine g_iconst (v := 1) (pc := 242) X dL_law_242 (by decide) ?_
          refine g_iadd (v := nI (i + 1)) (pc := 243) X dL_law_243 (nI_add i 1) ?_
          refine g_sld (pc := 244) X hX hbl hbA hL (i + 1) rfl (by omega) dL_law_244 ?_
          refine g_aload_n (pc := 245) X dL_law_245 0 rfl ?_
          refine g_iload_n (pc := 246) X dL_law_246 3 rfl ?_
          refine g_iconst (v := 2) (pc := 247) X dL_law_247 (by decide) ?_
          refine g_iadd (v := nI (i + 2)) (pc := 248) X dL_law_248 (nI_add i 2) ?_
          refine g_sld (pc := 249) X hX hbl hbA hL (i + 2) rfl (by omega) dL_law_249 ?_
          refine g_callV (pc := 250) (rest := [.int (liA k (xs (i + 1)) (xs (i + 2)))]) (ss' := [wX cy ax an am ak aT ag ((mIm v)) ((mIr v)) od ((mRw v)) (rfB (liB k (xs (i + 1)) (xs (i + 2))) (mRf v) (liA k (xs (i + 1)) (xs (i + 2)))), wH cy an k, wH cy am km, wH cy ak kk, wT cy aT (mLt v) (mN v), wG cy ag tc al wi, wM cy ay k (uRf v (rfB (liB k (xs (i + 1)) (xs (i + 2))) (mRf v) (liA k (xs (i + 1)) (xs (i + 2)))))]) X (c_X4_line l D cy ay k v (xs (i + 1)) (xs (i + 2)) hw) vl_L_31 dL_law_250 [6] 6 0 rfl rfl rfl rfl rfl rfl (ads_c (ads_M _ _ _ _ _ _) rfl) rfl rfl rfl rfl rfl rfl ⟨Nat.le_of_ble_eq_true rfl, Nat.le_of_ble_eq_true rfl⟩ ?_
          refine g_icmp_eq (pc := 253) (tgt := 797) X dL_law_253 (by decide) (fun c253 => ?_) (fun c253 => by exact absurd rfl c253)
          have hw2 : KW (k) := hw
          have hk2 : KW (kk) := hwk
          have h802 : mN v ≤ 80 := h80
          have h122 : mIr v ≤ 12 := h12
          have hI2 : mIm v = true → ∀ j, j < 57 → (mIg v) j = imF (kk) j := hI
          refine g_iinc (v := nI (i + 3)) (lv' := [(3, .int (nI (i + 3))), (0, .ref (b_)), (1, .ref (ax 0)), (2, .ref (ay 0))]) (pc := 797) X dL_law_797 3 rfl (nI_add i 3) rfl rfl ?_
          refine g_goto (pc := 800) (tgt := 18) X dL_law_800 (by decide) ?_
          refine g_lv X (lv' := [(0, .ref (b_)), (1, .ref (ax 0)), (2, .ref (ay 0)), (3, .int (nI (i + 3)))]) [1, 2, 3, 0] rfl ?_
          exact ih18 k km kk (uRf v (rfB (liB k (xs (i + 1)) (xs (i + 2))) (mRf v) (liA k (xs (i + 1)) (xs (i + 2))))) od tc al wi (i + 3) hw2 hk2 h802 h122 hI2 (by omega) (by omega)
        by_cases e32_4 : (xs i) &&& 31 = (4 : Int32)
        · refine g_top X e32_4 ?_
          refine g_tableIn (pc := 32) (off := 226) (tgt := 258) X dL_law_32 (by decide) (by decide) (by decide) (by decide) ?_
          refine g_aload_n (pc := 258) X dL_law_258 1 rfl ?_
          refine g_aload_n (pc := 259) X dL_law_259 0 rfl ?_
          refine g_iload_n (pc := 260) X dL_law_260 3 rfl ?_
          refine g_iconst (v := 1) (pc := 261) X dL_law_261 (by decide) ?_
          refine g_iadd (v := nI (i + 1)) (pc := 262) X dL_law_262 (nI_add i 1) ?_
          refine g_sld (pc := 263) X hX hbl hbA hL (i + 1) rfl (by omega) dL_law_263 ?_
          refine g_callV (pc := 264) (rest := []) (ss' := [wX cy ax an am ak aT ag ((mIm v)) ((mIr v)) od ((mRw v)) (rfB (hasL k (xs (i + 1))) (mRf v) (ctA k (xs (i + 1)))), wH cy an (tgK k (xs (i + 1))), wH cy am km, wH cy ak kk, wT cy aT (mLt v) (mN v), wG cy ag tc al wi, wM cy ay k v]) X (c_X3_curtain l D cy ax an am ak aT ag (mIm v) (mIr v) od (mRw v) (mRf v) k (xs (i + 1)) hw) vl_L_32 dL_law_264 [0, 1] 0 0 rfl rfl rfl rfl rfl rfl (ads_c (ads_X _ _ _ _ _ _ _ _ _ _ _ _ _ _ _ _ _) (ads_c (ads_H _ _ _ _ _ _ _ _) rfl)) rfl rfl rfl rfl rfl rfl ⟨Nat.le_of_ble_eq_true rfl, Nat.le_of_ble_eq_true rfl⟩ ?_
          refine g_aload_n (pc := 267) X dL_law_267 2 rfl ?_
          refine g_aload_n (pc := 268) X dL_law_268 0 rfl ?_
          refine g_iload_n (pc := 269) X dL_law_269 3 rfl ?_
          refine g_iconst (v := 1) (pc := 270) X dL_law_270 (by decide) ?_
          refine g_iadd (v := nI (i + 1)) (pc := 271) X dL_law_271 (nI_add i 1) ?_
          refine g_sld (pc := 272) X hX hbl hbA hL (i + 1) rfl (by omega) dL_law_272 ?_
          refine g_callV (pc := 273) (rest := [.int (ctA k (xs (i + 1)))]) (ss' := [wX cy ax an am ak aT ag ((mIm v)) ((mIr v)) od ((mRw v)) (rfB (hasL k (xs (i + 1))) (mRf v) (ctA k (xs (i + 1)))), wH cy an (tgK k (xs (i + 1))), wH cy am km, wH cy ak kk, wT cy aT (mLt v) (mN v), wG cy ag tc al wi, wM cy ay (tgK k (xs (i + 1))) (uRf v (rfB (hasL k (xs (i + 1))) (mRf v) (ctA k (xs (i + 1)))))]) X (c_X4_curtain l D cy ay k v (xs (i + 1)) hw) vl_L_35 dL_law_273 [6] 6 0 rfl rfl rfl rfl rfl rfl (ads_c (ads_M _ _ _ _ _ _) rfl) rfl rfl rfl rfl rfl rfl ⟨Nat.le_of_ble_eq_true rfl, Nat.le_of_ble_eq_true rfl⟩ ?_
          refine g_icmp_eq (pc := 276) (tgt := 797) X dL_law_276 (by decide) (fun c276 => ?_) (fun c276 => by exact absurd rfl c276)
          have hw2 : KW (tgK k (xs (i + 1))) := KW_tg hw
          have hk2 : KW (kk) := hwk
          have h802 : mN v ≤ 80 := h80
          have h122 : mIr v ≤ 12 := h12
          have hI2 : mIm v = true → ∀ j, j < 57 → (mIg v) j = imF (kk) j := hI
          refine g_iinc (v := nI (i + 3)) (lv' := [(3, .int (nI (i + 3))), (0, .ref (b_)), (1, .ref (ax 0)), (2, .ref (ay 0))]) (pc := 797) X dL_law_797 3 rfl (nI_add i 3) rfl rfl ?_
          refine g_goto (pc := 800) (tgt := 18) X dL_law_800 (by decide) ?_
          refine g_lv X (lv' := [(0, .ref (b_)), (1, .ref (ax 0)), (2, .ref (ay 0)), (3, .int (nI (i + 3)))]) [1, 2, 3, 0] rfl ?_
          exact ih18 (tgK k (xs (i + 1))) km kk (uRf v (rfB (hasL k (xs (i + 1))) (mRf v) (ctA k (xs (i + 1))))) od tc al wi (i + 3) hw2 hk2 h802 h122 hI2 (by omega) (by omega)
        by_cases e32_5 : (xs i) &&& 31 = (5 : Int32)
        · refine g_top X e32_5 ?_
          refine g_tableIn (pc := 32) (off := 249) (tgt := 281) X dL_law_32 (by decide) (by decide) (by decide) (by decide) ?_
          refine g_aload_n (pc := 281) X dL_law_281 1 rfl ?_
          refine g_aload_n (pc := 282) X dL_law_282 0 rfl ?_
          refine g_iload_n (pc := 283) X dL_law_283 3 rfl ?_
          refine g_iconst (v := 1) (pc := 284) X dL_law_284 (by decide) ?_
          refine g_iadd (v := nI (i + 1)) (pc := 285) X dL_law_285 (nI_add i 1) ?_
          refine g_sld (pc := 286) X hX hbl hbA hL (i + 1) rfl (by omega) dL_law_286 ?_
          refine g_aload_n (pc := 287) X dL_law_287 0 rfl ?_
          refine g_iload_n (pc := 288) X dL_law_288 3 rfl ?_
          refine g_iconst (v := 2) (pc := 289) X dL_law_289 (by decide) ?_
          refine g_iadd (v := nI (i + 2)) (pc := 290) X dL_law_290 (nI_add i 2) ?_
          refine g_sld (pc := 291) X hX hbl hbA hL (i + 2) rfl (by omega) dL_law_291 ?_
          refine g_callV (pc := 292) (rest := []) (ss' := [wX cy ax an am ak aT ag ((mIm v)) ((mIr v)) od ((mRw v)) (rfB (brB k (xs (i + 1)) (xs (i + 2))) (mRf v) (mvA k (xs (i + 1)) (xs (i + 2)))), wH cy an (brK k (xs (i + 1)) (xs (i + 2))), wH cy am km, wH cy ak kk, wT cy aT (mLt v) (mN v), wG cy ag tc al wi, wM cy ay k v]) X (c_X3_move l D cy ax an am ak aT ag (mIm v) (mIr v) od (mRw v) (mRf v) k (xs (i + 1)) (xs (i + 2)) hw) vl_L_36 dL_law_292 [0, 1] 0 0 rfl rfl rfl rfl rfl rfl (ads_c (ads_X _ _ _ _ _ _ _ _ _ _ _ _ _ _ _ _ _) (ads_c (ads_H _ _ _ _ _ _ _ _) rfl)) rfl rfl rfl rfl rfl rfl ⟨Nat.le_of_ble_eq_true rfl, Nat.le_of_ble_eq_true rfl⟩ ?_
          refine g_aload_n (pc := 295) X dL_law_295 2 rfl ?_
          refine g_aload_n (pc := 296) X dL_law_296 0 rfl ?_
          refine g_iload_n (pc := 297) X dL_law_297 3 rfl ?_
          refine g_iconst (v := 1) (pc := 298) X dL_law_298 (by decide) ?_
          refine g_iadd (v := nI (i + 1)) (pc := 299) X dL_law_299 (nI_add i 1) ?_
          refine g_sld (pc := 300) X hX hbl hbA hL (i + 1) rfl (by omega) dL_law_300 ?_
          refine g_aload_n (pc := 301) X dL_law_301 0 rfl ?_
          refine g_iload_n (pc := 302) X dL_law_302 3 rfl ?_
          refine g_iconst (v := 2) (pc := 303) X dL_law_303 (by decide) ?_
          refine g_iadd (v := nI (i + 2)) (pc := 304) X dL_law_304 (nI_add i 2) ?_
          refine g_sld (pc := 305) X hX hbl hbA hL (i + 2) rfl (by omega) dL_law_305 ?_
          refine g_callV (pc := 306) (rest := [.int (mvA k (xs (i + 1)) (xs (i + 2)))]) (ss' := [wX cy ax an am ak aT ag ((mIm v)) ((mIr v)) od ((mRw v)) (rfB (brB k (xs (i + 1)) (xs (i + 2))) (mRf v) (mvA k (xs (i + 1)) (xs (i + 2)))), wH cy an (brK k (xs (i + 1)) (xs (i + 2))), wH cy am km, wH cy ak kk, wT cy aT (mLt v) (mN v), wG cy ag tc al wi, wM cy ay (brK k (xs (i + 1)) (xs (i + 2))) (uRf v (rfB (brB k (xs (i + 1)) (xs (i + 2))) (mRf v) (mvA k (xs (i + 1)) (xs (i + 2)))))]) X (c_X4_move l D cy ay k v (xs (i + 1)) (xs (i + 2)) hw) vl_L_39 dL_law_306 [6] 6 0 rfl rfl rfl rfl rfl rfl (ads_c (ads_M _ _ _ _ _ _) rfl) rfl rfl rfl rfl rfl rfl ⟨Nat.le_of_ble_eq_true rfl, Nat.le_of_ble_eq_true rfl⟩ ?_
          refine g_icmp_eq (pc := 309) (tgt := 797) X dL_law_309 (by decide) (fun c309 => ?_) (fun c309 => by exact absurd rfl c309)
          have hw2 : KW (brK k (xs (i + 1)) (xs (i + 2))) := KW_br hw
          have hk2 : KW (kk) := hwk
          have h802 : mN v ≤ 80 := h80
          have h122 : mIr v ≤ 12 := h12
          have hI2 : mIm v = true → ∀ j, j < 57 → (mIg v) j = imF (kk) j := hI
          refine g_iinc (v := nI (i + 3)) (lv' := [(3, .int (nI (i + 3))), (0, .ref (b_)), (1, .ref (ax 0)), (2, .ref (ay 0))]) (pc := 797) X dL_law_797 3 rfl (nI_add i 3) rfl rfl ?_
          refine g_goto (pc := 800) (tgt := 18) X dL_law_800 (by decide) ?_
          refine g_lv X (lv' := [(0, .ref (b_)), (1, .ref (ax 0)), (2, .ref (ay 0)), (3, .int (nI (i + 3)))]) [1, 2, 3, 0] rfl ?_
          exact ih18 (brK k (xs (i + 1)) (xs (i + 2))) km kk (uRf v (rfB (brB k (xs (i + 1)) (xs (i + 2))) (mRf v) (mvA k (xs (i + 1)) (xs (i + 2))))) od tc al wi (i + 3) hw2 hk2 h802 h122 hI2 (by omega) (by omega)
        by_cases e32_6 : (xs i) &&& 31 = (6 : Int32)
        · refine g_top X e32_6 ?_
          refine g_tableIn (pc := 32) (off := 282) (tgt := 314) X dL_law_32 (by decide) (by decide) (by decide) (by decide) ?_
          refine g_aload_n (pc := 314) X dL_law_314 1 rfl ?_
          refine g_aload_n (pc := 315) X dL_law_315 0 rfl ?_
          refine g_iload_n (pc := 316) X dL_law_316 3 rfl ?_
          refine g_iconst (v := 1) (pc := 317) X dL_law_317 (by decide) ?_
          refine g_iadd (v := nI (i + 1)) (pc := 318) X dL_law_318 (nI_add i 1) ?_
          refine g_sld (pc := 319) X hX hbl hbA hL (i + 1) rfl (by omega) dL_law_319 ?_
          refine g_aload_n (pc := 320) X dL_law_320 0 rfl ?_
          refine g_iload_n (pc := 321) X dL_law_321 3 rfl ?_
          refine g_iconst (v := 2) (pc := 322) X dL_law_322 (by decide) ?_
          refine g_iadd (v := nI (i + 2)) (pc := 323) X dL_law_323 (nI_add i 2) ?_
          refine g_sld (pc := 324) X hX hbl hbA hL (i + 2) rfl (by omega) dL_law_324 ?_
          refine g_callV (pc := 325) (rest := []) (ss' := [wX cy ax an am ak aT ag ((mIm v)) ((mIr v)) od ((mRw v)) (rfB (acB k (xs (i + 1)) (xs (i + 2))) (mRf v) (paA k (xs (i + 1)) (xs (i + 2)))), wH cy an (acK k (xs (i + 1)) (xs (i + 2))), wH cy am km, wH cy ak kk, wT cy aT (mLt v) (mN v), wG cy ag tc al wi, wM cy ay k v]) X (c_X3_pair l D cy ax an am ak aT ag (mIm v) (mIr v) od (mRw v) (mRf v) k (xs (i + 1)) (xs (i + 2)) hw) vl_L_40 dL_law_325 [0, 1] 0 0 rfl rfl rfl rfl rfl rfl (ads_c (ads_X _ _ _ _ _ _ _ _ _ _ _ _ _ _ _ _ _) (ads_c (ads_H _ _ _ _ _ _ _ _) rfl)) rfl rfl rfl rfl rfl rfl ⟨Nat.le_of_ble_eq_true rfl, Nat.le_of_ble_eq_true rfl⟩ ?_
          refine g_aload_n (pc := 328) X dL_law_328 2 rfl ?_
          refine g_aload_n (pc := 329) X dL_law_329 0 rfl ?_
          refine g_iload_n (pc := 330) X dL_law_330 3 rfl ?_
          refine g_iconst (v := 1) (pc := 331) X dL_law_331 (by decide) ?_
          refine g_iadd (v := nI (i + 1)) (pc := 332) X dL_law_332 (nI_add i 1) ?_
          refine g_sld (pc := 333) X hX hbl hbA hL (i + 1) rfl (by omega) dL_law_333 ?_
          refine g_aload_n (pc := 334) X dL_law_334 0 rfl ?_
          refine g_iload_n (pc := 335) X dL_law_335 3 rfl ?_
          refine g_iconst (v := 2) (pc := 336) X dL_law_336 (by decide) ?_
          refine g_iadd (v := nI (i + 2)) (pc := 337) X dL_law_337 (nI_add i 2) ?_
          refine g_sld (pc := 338) X hX hbl hbA hL (i + 2) rfl (by omega) dL_law_338 ?_
          refine g_callV (pc := 339) (rest := [.int (paA k (xs (i + 1)) (xs (i + 2)))]) (ss' := [wX cy ax an am ak aT ag ((mIm v)) ((mIr v)) od ((mRw v)) (rfB (acB k (xs (i + 1)) (xs (i + 2))) (mRf v) (paA k (xs (i + 1)) (xs (i + 2)))), wH cy an (acK k (xs (i + 1)) (xs (i + 2))), wH cy am km, wH cy ak kk, wT cy aT (mLt v) (mN v), wG cy ag tc al wi, wM cy ay (acK k (xs (i + 1)) (xs (i + 2))) (uRf v (rfB (acB k (xs (i + 1)) (xs (i + 2))) (mRf v) (paA k (xs (i + 1)) (xs (i + 2)))))]) X (c_X4_pair l D cy ay k v (xs (i + 1)) (xs (i + 2)) hw) vl_L_43 dL_law_339 [6] 6 0 rfl rfl rfl rfl rfl rfl (ads_c (ads_M _ _ _ _ _ _) rfl) rfl rfl rfl rfl rfl rfl ⟨Nat.le_of_ble_eq_true rfl, Nat.le_of_ble_eq_true rfl⟩ ?_
          refine g_icmp_eq (pc := 342) (tgt := 797) X dL_law_342 (by decide) (fun c342 => ?_) (fun c342 => by exact absurd rfl c342)
          have hw2 : KW (acK k (xs (i + 1)) (xs (i + 2))) := KW_ac hw
          have hk2 : KW (kk) := hwk
          have h802 : mN v ≤ 80 := h80
          have h122 : mIr v ≤ 12 := h12
          have hI2 : mIm v = true → ∀ j, j < 57 → (mIg v) j = imF (kk) j := hI
          refine g_iinc (v := nI (i + 3)) (lv' := [(3, .int (nI (i + 3))), (0, .ref (b_)), (1, .ref (ax 0)), (2, .ref (ay 0))]) (pc := 797) X dL_law_797 3 rfl (nI_add i 3) rfl rfl ?_
          refine g_goto (pc := 800) (tgt := 18) X dL_law_800 (by decide) ?_
          refine g_lv X (lv' := [(0, .ref (b_)), (1, .ref (ax 0)), (2, .ref (ay 0)), (3, .int (nI (i + 3)))]) [1, 2, 3, 0] rfl ?_
          exact ih18 (acK k (xs (i + 1)) (xs (i + 2))) km kk (uRf v (rfB (acB k (xs (i + 1)) (xs (i + 2))) (mRf v) (paA k (xs (i + 1)) (xs (i + 2))))) od tc al wi (i + 3) hw2 hk2 h802 h122 hI2 (by omega) (by omega)
        by_cases e32_7 : (xs i) &&& 31 = (7 : Int32)
        · refine g_top X e32_7 ?_
          refine g_tableIn (pc := 32) (off := 315) (tgt := 347) X dL_law_32 (by decide) (by decide) (by decide) (by decide) ?_
          refine g_aload_n (pc := 347) X dL_law_347 1 rfl ?_
          refine g_aload_n (pc := 348) X dL_law_348 0 rfl ?_
          refine g_iload_n (pc := 349) X dL_law_349 3 rfl ?_
          refine g_iconst (v := 1) (pc := 350) X dL_law_350 (by decide) ?_
          refine g_iadd (v := nI (i + 1)) (pc := 351) X dL_law_351 (nI_add i 1) ?_
          refine g_sld (pc := 352) X hX hbl hbA hL (i + 1) rfl (by omega) dL_law_352 ?_
          refine g_callV (pc := 353) (rest := []) (ss' := [wX cy ax an am ak aT ag ((mIm v)) ((mIr v)) od ((mRw v)) (rfB (decide (ooI (xs (i + 1)) 0 7 = 0)) (mRf v) (hrA k (xs (i + 1)))), wH cy an (hrK k (xs (i + 1))), wH cy am km, wH cy ak kk, wT cy aT (mLt v) (mN v), wG cy ag tc al wi, wM cy ay k v]) X (c_X3_hour l D cy ax an am ak aT ag (mIm v) (mIr v) od (mRw v) (mRf v) k (xs (i + 1)) hw) vl_L_44 dL_law_353 [0, 1] 0 0 rfl rfl rfl rfl rfl rfl (ads_c (ads_X _ _ _ _ _ _ _ _ _ _ _ _ _ _ _ _ _) (ads_c (ads_H _ _ _ _ _ _ _ _) rfl)) rfl rfl rfl rfl rfl rfl ⟨Nat.le_of_ble_eq_true rfl, Nat.le_of_ble_eq_true rfl⟩ ?_
          refine g_aload_n (pc := 356) X dL_law_356 2 rfl ?_
          refine g_aload_n (pc := 357) X dL_law_357 0 rfl ?_
          refine g_iload_n (pc := 358) X dL_law_358 3 rfl ?_
          refine g_iconst (v := 1) (pc := 359) X dL_law_359 (by decide) ?_
          refine g_iadd (v := nI (i + 1)) (pc := 360) X dL_law_360 (nI_add i 1) ?_
          refine g_sld (pc := 361) X hX hbl hbA hL (i + 1) rfl (by omega) dL_law_361 ?_
          refine g_callV (pc := 362) (rest := [.int (hrA k (xs (i + 1)))]) (ss' := [wX cy ax an am ak aT ag ((mIm v)) ((mIr v)) od ((mRw v)) (rfB (decide (ooI (xs (i + 1)) 0 7 = 0)) (mRf v) (hrA k (xs (i + 1)))), wH cy an (hrK k (xs (i + 1))), wH cy am km, wH cy ak kk, wT cy aT (mLt v) (mN v), wG cy ag tc al wi, wM cy ay (hrK k (xs (i + 1))) (uRf v (rfB (decide (ooI (xs (i + 1)) 0 7 = 0)) (mRf v) (hrA k (xs (i + 1)))))]) X (c_X4_hour l D cy ay k v (xs (i + 1)) hw) vl_L_47 dL_law_362 [6] 6 0 rfl rfl rfl rfl rfl rfl (ads_c (ads_M _ _ _ _ _ _) rfl) rfl rfl rfl rfl rfl rfl ⟨Nat.le_of_ble_eq_true rfl, Nat.le_of_ble_eq_true rfl⟩ ?_
          refine g_icmp_eq (pc := 365) (tgt := 797) X dL_law_365 (by decide) (fun c365 => ?_) (fun c365 => by exact absurd rfl c365)
          have hw2 : KW (hrK k (xs (i + 1))) := KW_hr hw
          have hk2 : KW (kk) := hwk
          have h802 : mN v ≤ 80 := h80
          have h122 : mIr v ≤ 12 := h12
          have hI2 : mIm v = true → ∀ j, j < 57 → (mIg v) j = imF (kk) j := hI
          refine g_iinc (v := nI (i + 3)) (lv' := [(3, .int (nI (i + 3))), (0, .ref (b_)), (1, .ref (ax 0)), (2, .ref (ay 0))]) (pc := 797) X dL_law_797 3 rfl (nI_add i 3) rfl rfl ?_
          refine g_goto (pc := 800) (tgt := 18) X dL_law_800 (by decide) ?_
          refine g_lv X (lv' := [(0, .ref (b_)), (1, .ref (ax 0)), (2, .ref (ay 0)), (3, .int (nI (i + 3)))]) [1, 2, 3, 0] rfl ?_
          exact ih18 (hrK k (xs (i + 1))) km kk (uRf v (rfB (decide (ooI (xs (i + 1)) 0 7 = 0)) (mRf v) (hrA k (xs (i + 1))))) od tc al wi (i + 3) hw2 hk2 h802 h122 hI2 (by omega) (by omega)
        by_cases e32_8 : (xs i) &&& 31 = (8 : Int32)
        · refine g_top X e32_8 ?_
          refine g_tableIn (pc := 32) (off := 338) (tgt := 370) X dL_law_32 (by decide) (by decide) (by decide) (by decide) ?_
          refine g_aload_n (pc := 370) X dL_law_370 1 rfl ?_
          refine g_aload_n (pc := 371) X dL_law_371 0 rfl ?_
          refine g_iload_n (pc := 372) X dL_law_372 3 rfl ?_
          refine g_iconst (v := 1) (pc := 373) X dL_law_373 (by decide) ?_
          refine g_iadd (v := nI (i + 1)) (pc := 374) X dL_law_374 (nI_add i 1) ?_
          refine g_sld (pc := 375) X hX hbl hbA hL (i + 1) rfl (by omega) dL_law_375 ?_
          refine g_aload_n (pc := 376) X dL_law_376 0 rfl ?_
          refine g_iload_n (pc := 377) X dL_law_377 3 rfl ?_
          refine g_iconst (v := 2) (pc := 378) X dL_law_378 (by decide) ?_
          refine g_iadd (v := nI (i + 2)) (pc := 379) X dL_law_379 (nI_add i 2) ?_
          refine g_sld (pc := 380) X hX hbl hbA hL (i + 2) rfl (by omega) dL_law_380 ?_
          refine g_callV (pc := 381) (rest := []) (ss' := [wX cy ax an am ak aT ag ((mIm v)) ((mIr v)) od ((mRw v)) (rfB (snB (xs (i + 1)) (xs (i + 2))) (mRf v) (snA k (xs (i + 1)) (xs (i + 2)))), wH cy an k, wH cy am km, wH cy ak kk, wT cy aT (mLt v) (mN v), wG cy ag tc al wi, wM cy ay k v]) X (c_X3_seen l D cy ax an am ak aT ag (mIm v) (mIr v) od (mRw v) (mRf v) k (xs (i + 1)) (xs (i + 2)) hw) vl_L_48 dL_law_381 [0, 1] 0 0 rfl rfl rfl rfl rfl rfl (ads_c (ads_X _ _ _ _ _ _ _ _ _ _ _ _ _ _ _ _ _) (ads_c (ads_H _ _ _ _ _ _ _ _) rfl)) rfl rfl rfl rfl rfl rfl ⟨Nat.le_of_ble_eq_true rfl, Nat.le_of_ble_eq_true rfl⟩ ?_
          refine g_aload_n (pc := 384) X dL_law_384 2 rfl ?_
          refine g_aload_n (pc := 385) X dL_law_385 0 rfl ?_
          refine g_iload_n (pc := 386) X dL_law_386 3 rfl ?_
          refine g_iconst (v := 1) (pc := 387) X dL_law_387 (by decide) ?_
          refine g_iadd (v := nI (i + 1)) (pc := 388) X dL_law_388 (nI_add i 1) ?_
          refine g_sld (pc := 389) X hX hbl hbA hL (i + 1) rfl (by omega) dL_law_389 ?_
          refine g_aload_n (pc := 390) X dL_law_390 0 rfl ?_
          refine g_iload_n (pc := 391) X dL_law_391 3 rfl ?_
          refine g_iconst (v := 2) (pc := 392) X dL_law_392 (by decide) ?_
          refine g_iadd (v := nI (i + 2)) (pc := 393) X dL_law_393 (nI_add i 2) ?_
          refine g_sld (pc := 394) X hX hbl hbA hL (i + 2) rfl (by omega) dL_law_394 ?_
          refine g_callV (pc := 395) (rest := [.int (snA k (xs (i + 1)) (xs (i + 2)))]) (ss' := [wX cy ax an am ak aT ag ((mIm v)) ((mIr v)) od ((mRw v)) (rfB (snB (xs (i + 1)) (xs (i + 2))) (mRf v) (snA k (xs (i + 1)) (xs (i + 2)))), wH cy an k, wH cy am km, wH cy ak kk, wT cy aT (mLt v) (mN v), wG cy ag tc al wi, wM cy ay k (uRf v (rfB (snB (xs (i + 1)) (xs (i + 2))) (mRf v) (snA k (xs (i + 1)) (xs (i + 2)))))]) X (c_X4_seen l D cy ay k v (xs (i + 1)) (xs (i + 2)) hw) vl_L_51 dL_law_395 [6] 6 0 rfl rfl rfl rfl rfl rfl (ads_c (ads_M _ _ _ _ _ _) rfl) rfl rfl rfl rfl rfl rfl ⟨Nat.le_of_ble_eq_true rfl, Nat.le_of_ble_eq_true rfl⟩ ?_
          refine g_icmp_eq (pc := 398) (tgt := 797) X dL_law_398 (by decide) (fun c398 => ?_) (fun c398 => by exact absurd rfl c398)
          have hw2 : KW (k) := hw
          have hk2 : KW (kk) := hwk
          have h802 : mN v ≤ 80 := h80
          have h122 : mIr v ≤ 12 := h12
          have hI2 : mIm v = true → ∀ j, j < 57 → (mIg v) j = imF (kk) j := hI
          refine g_iinc (v := nI (i + 3)) (lv' := [(3, .int (nI (i + 3))), (0, .ref (b_)), (1, .ref (ax 0)), (2, .ref (ay 0))]) (pc := 797) X dL_law_797 3 rfl (nI_add i 3) rfl rfl ?_
          refine g_goto (pc := 800) (tgt := 18) X dL_law_800 (by decide) ?_
          refine g_lv X (lv' := [(0, .ref (b_)), (1, .ref (ax 0)), (2, .ref (ay 0)), (3, .int (nI (i + 3)))]) [1, 2, 3, 0] rfl ?_
          exact ih18 k km kk (uRf v (rfB (snB (xs (i + 1)) (xs (i + 2))) (mRf v) (snA k (xs (i + 1)) (xs (i + 2))))) od tc al wi (i + 3) hw2 hk2 h802 h122 hI2 (by omega) (by omega)
        by_cases e32_9 : (xs i) &&& 31 = (9 : Int32)
        · refine g_top X e32_9 ?_
          refine g_tableIn (pc := 32) (off := 371) (tgt := 403) X dL_law_32 (by decide) (by decide) (by decide) (by decide) ?_
          refine g_aload_n (pc := 403) X dL_law_403 1 rfl ?_
          refine g_aload_n (pc := 404) X dL_law_404 0 rfl ?_
          refine g_iload_n (pc := 405) X dL_law_405 3 rfl ?_
          refine g_iconst (v := 1) (pc := 406) X dL_law_406 (by decide) ?_
          refine g_iadd (v := nI (i + 1)) (pc := 407) X dL_law_407 (nI_add i 1) ?_
          refine g_sld (pc := 408) X hX hbl hbA hL (i + 1) rfl (by omega) dL_law_408 ?_
          refine g_aload_n (pc := 409) X dL_law_409 0 rfl ?_
          refine g_iload_n (pc := 410) X dL_law_410 3 rfl ?_
          refine g_iconst (v := 2) (pc := 411) X dL_law_411 (by decide) ?_
          refine g_iadd (v := nI (i + 2)) (pc := 412) X dL_law_412 (nI_add i 2) ?_
          refine g_sld (pc := 413) X hX hbl hbA hL (i + 2) rfl (by omega) dL_law_413 ?_
          refine g_callV (pc := 414) (rest := []) (ss' := [wX cy ax an am ak aT ag ((mIm v)) ((mIr v)) od ((mRw v)) (rfB (frB k (xs (i + 1)) (xs (i + 2))) (mRf v) (frA k (xs (i + 1)) (xs (i + 2)))), wH cy an k, wH cy am km, wH cy ak kk, wT cy aT (mLt v) (mN v), wG cy ag tc al wi, wM cy ay k v]) X (c_X3_from l D cy ax an am ak aT ag (mIm v) (mIr v) od (mRw v) (mRf v) k (xs (i + 1)) (xs (i + 2)) hw) vl_L_52 dL_law_414 [0, 1] 0 0 rfl rfl rfl rfl rfl rfl (ads_c (ads_X _ _ _ _ _ _ _ _ _ _ _ _ _ _ _ _ _) (ads_c (ads_H _ _ _ _ _ _ _ _) rfl)) rfl rfl rfl rfl rfl rfl ⟨Nat.le_of_ble_eq_true rfl, Nat.le_of_ble_eq_true rfl⟩ ?_
          refine g_aload_n (pc := 417) X dL_law_417 2 rfl ?_
          refine g_aload_n (pc := 418) X dL_law_418 0 rfl ?_
          refine g_iload_n (pc := 419) X dL_law_419 3 rfl ?_
          refine g_iconst (v := 1) (pc := 420) X dL_law_420 (by decide) ?_
          refine g_iadd (v := nI (i + 1)) (pc := 421) X dL_law_421 (nI_add i 1) ?_
          refine g_sld (pc := 422) X hX hbl hbA hL (i + 1) rfl (by omega) dL_law_422 ?_
          refine g_aload_n (pc := 423) X dL_law_423 0 rfl ?_
          refine g_iload_n (pc := 424) X dL_law_424 3 rfl ?_
          refine g_iconst (v := 2) (pc := 425) X dL_law_425 (by decide) ?_
          refine g_iadd (v := nI (i + 2)) (pc := 426) X dL_law_426 (nI_add i 2) ?_
          refine g_sld (pc := 427) X hX hbl hbA hL (i + 2) rfl (by omega) dL_law_427 ?_
          refine g_callV (pc := 428) (rest := [.int (frA k (xs (i + 1)) (xs (i + 2)))]) (ss' := [wX cy ax an am ak aT ag ((mIm v)) ((mIr v)) od ((mRw v)) (rfB (frB k (xs (i + 1)) (xs (i + 2))) (mRf v) (frA k (xs (i + 1)) (xs (i + 2)))), wH cy an k, wH cy am km, wH cy ak kk, wT cy aT (mLt v) (mN v), wG cy ag tc al wi, wM cy ay k (uRf v (rfB (frB k (xs (i + 1)) (xs (i + 2))) (mRf v) (frA k (xs (i + 1)) (xs (i + 2)))))]) X (c_X4_from l D cy ay k v (xs (i + 1)) (xs (i + 2)) hw) vl_L_55 dL_law_428 [6] 6 0 rfl rfl rfl rfl rfl rfl (ads_c (ads_M _ _ _ _ _ _) rfl) rfl rfl rfl rfl rfl rfl ⟨Nat.le_of_ble_eq_true rfl, Nat.le_of_ble_eq_true rfl⟩ ?_
          refine g_icmp_eq (pc := 431) (tgt := 797) X dL_law_431 (by decide) (fun c431 => ?_) (fun c431 => by exact absurd rfl c431)
          have hw2 : KW (k) := hw
          have hk2 : KW (kk) := hwk
          have h802 : mN v ≤ 80 := h80
          have h122 : mIr v ≤ 12 := h12
          have hI2 : mIm v = true → ∀ j, j < 57 → (mIg v) j = imF (kk) j := hI
          refine g_iinc (v := nI (i + 3)) (lv' := [(3, .int (nI (i + 3))), (0, .ref (b_)), (1, .ref (ax 0)), (2, .ref (ay 0))]) (pc := 797) X dL_law_797 3 rfl (nI_add i 3) rfl rfl ?_
          refine g_goto (pc := 800) (tgt := 18) X dL_law_800 (by decide) ?_
          refine g_lv X (lv' := [(0, .ref (b_)), (1, .ref (ax 0)), (2, .ref (ay 0)), (3, .int (nI (i + 3)))]) [1, 2, 3, 0] rfl ?_
          exact ih18 k km kk (uRf v (rfB (frB k (xs (i + 1)) (xs (i + 2))) (mRf v) (frA k (xs (i + 1)) (xs (i + 2))))) od tc al wi (i + 3) hw2 hk2 h802 h122 hI2 (by omega) (by omega)
        by_cases e32_10 : (xs i) &&& 31 = (10 : Int32)
        · refine g_top X e32_10 ?_
          refine g_tableIn (pc := 32) (off := 404) (tgt := 436) X dL_law_32 (by decide) (by decide) (by decide) (by decide) ?_
          refine g_aload_n (pc := 436) X dL_law_436 1 rfl ?_
          refine g_aload_n (pc := 437) X dL_law_437 0 rfl ?_
          refine g_iload_n (pc := 438) X dL_law_438 3 rfl ?_
          refine g_iconst (v := 1) (pc := 439) X dL_law_439 (by decide) ?_
          refine g_iadd (v := nI (i + 1)) (pc := 440) X dL_law_440 (nI_add i 1) ?_
          refine g_sld (pc := 441) X hX hbl hbA hL (i + 1) rfl (by omega) dL_law_441 ?_
          refine g_aload_n (pc := 442) X dL_law_442 0 rfl ?_
          refine g_iload_n (pc := 443) X dL_law_443 3 rfl ?_
          refine g_iconst (v := 2) (pc := 444) X dL_law_444 (by decide) ?_
          refine g_iadd (v := nI (i + 2)) (pc := 445) X dL_law_445 (nI_add i 2) ?_
          refine g_sld (pc := 446) X hX hbl hbA hL (i + 2) rfl (by omega) dL_law_446 ?_
          refine g_callV (pc := 447) (rest := []) (ss' := [wX cy ax an am ak aT ag ((mIm v)) ((mIr v)) od ((mRw v)) (rfB (siB (xs (i + 1)) (xs (i + 2))) (mRf v) (siA k (xs (i + 1)) (xs (i + 2)))), wH cy an k, wH cy am km, wH cy ak kk, wT cy aT (mLt v) (mN v), wG cy ag tc al wi, wM cy ay k v]) X (c_X3_sins l D cy ax an am ak aT ag (mIm v) (mIr v) od (mRw v) (mRf v) k (xs (i + 1)) (xs (i + 2)) hw) vl_L_56 dL_law_447 [0, 1] 0 0 rfl rfl rfl rfl rfl rfl (ads_c (ads_X _ _ _ _ _ _ _ _ _ _ _ _ _ _ _ _ _) (ads_c (ads_H _ _ _ _ _ _ _ _) rfl)) rfl rfl rfl rfl rfl rfl ⟨Nat.le_of_ble_eq_true rfl, Nat.le_of_ble_eq_true rfl⟩ ?_
          refine g_aload_n (pc := 450) X dL_law_450 2 rfl ?_
          refine g_aload_n (pc := 451) X dL_law_451 0 rfl ?_
          refine g_iload_n (pc := 452) X dL_law_452 3 rfl ?_
          refine g_iconst (v := 1) (pc := 453) X dL_law_453 (by decide) ?_
          refine g_iadd (v := nI (i + 1)) (pc := 454) X dL_law_454 (nI_add i 1) ?_
          refine g_sld (pc := 455) X hX hbl hbA hL (i + 1) rfl (by omega) dL_law_455 ?_
          refine g_aload_n (pc := 456) X dL_law_456 0 rfl ?_
          refine g_iload_n (pc := 457) X dL_law_457 3 rfl ?_
          refine g_iconst (v := 2) (pc := 458) X dL_law_458 (by decide) ?_
          refine g_iadd (v := nI (i + 2)) (pc := 459) X dL_law_459 (nI_add i 2) ?_
          refine g_sld (pc := 460) X hX hbl hbA hL (i + 2) rfl (by omega) dL_law_460 ?_
          refine g_callVE (pc := 461) (rest := [.int (siA k (xs (i + 1)) (xs (i + 2)))]) (ss' := fun (u_ : (Nat → Int32)) => [wX cy ax an am ak aT ag ((mIm v)) ((mIr v)) od ((mRw v)) (rfB (siB (xs (i + 1)) (xs (i + 2))) (mRf v) (siA k (xs (i + 1)) (xs (i + 2)))), wH cy an k, wH cy am km, wH cy ak kk, wT cy aT (mLt v) (mN v), wG cy ag tc al wi, wM cy ay k (uSn (uRf v (rfB (siB (xs (i + 1)) (xs (i + 2))) (mRf v) (siA k (xs (i + 1)) (xs (i + 2))))) u_)]) X (c_X4_sins l D cy ay k v (xs (i + 1)) (xs (i + 2)) hw) vl_L_59 dL_law_461 [6] 6 0 rfl rfl rfl rfl rfl rfl (fun _ => (ads_c (ads_M _ _ _ _ _ _) rfl)) (fun _ => rfl) rfl rfl rfl rfl rfl ⟨Nat.le_of_ble_eq_true rfl, Nat.le_of_ble_eq_true rfl⟩ ?_
          rintro xs_461_3
          refine g_eq X (ss' := [wX cy ax an am ak aT ag ((mIm v)) ((mIr v)) od ((mRw v)) (rfB (siB (xs (i + 1)) (xs (i + 2))) (mRf v) (siA k (xs (i + 1)) (xs (i + 2)))), wH cy an k, wH cy am km, wH cy ak kk, wT cy aT (mLt v) (mN v), wG cy ag tc al wi, wM cy ay k (uSn (uRf v (rfB (siB (xs (i + 1)) (xs (i + 2))) (mRf v) (siA k (xs (i + 1)) (xs (i + 2))))) xs_461_3)]) rfl ?_
          refine g_icmp_eq (pc := 464) (tgt := 797) X dL_law_464 (by decide) (fun c464 => ?_) (fun c464 => by exact absurd rfl c464)
          have hw2 : KW (k) := hw
          have hk2 : KW (kk) := hwk
          have h802 : mN v ≤ 80 := h80
          have h122 : mIr v ≤ 12 := h12
          have hI2 : mIm v = true → ∀ j, j < 57 → (mIg v) j = imF (kk) j := hI
          refine g_iinc (v := nI (i + 3)) (lv' := [(3, .int (nI (i + 3))), (0, .ref (b_)), (1, .ref (ax 0)), (2, .ref (ay 0))]) (pc := 797) X dL_law_797 3 rfl (nI_add i 3) rfl rfl ?_
          refine g_goto (pc := 800) (tgt := 18) X dL_law_800 (by decide) ?_
          refine g_lv X (lv' := [(0, .ref (b_)), (1, .ref (ax 0)), (2, .ref (ay 0)), (3, .int (nI (i + 3)))]) [1, 2, 3, 0] rfl ?_
          exact ih18 k km kk (uSn (uRf v (rfB (siB (xs (i + 1)) (xs (i + 2))) (mRf v) (siA k (xs (i + 1)) (xs (i + 2))))) xs_461_3) od tc al wi (i + 3) hw2 hk2 h802 h122 hI2 (by omega) (by omega)
        by_cases e32_11 : (xs i) &&& 31 = (11 : Int32)
        · refine g_top X e32_11 ?_
          refine g_tableIn (pc := 32) (off := 437) (tgt := 469) X dL_law_32 (by decide) (by decide) (by decide) (by decide) ?_
          refine g_aload_n (pc := 469) X dL_law_469 1 rfl ?_
          refine g_callV (pc := 470) (rest := []) (ss' := [wX cy ax an am ak aT ag ((mIm v)) ((mIr v)) od ((mRw v)) ((mRf v)), wH cy an k, wH cy am km, wH cy ak kk, wT cy aT (mLt v) (mN v), wG cy ag tc al wi, wM cy ay k v]) X (c_X3_day l D cy ax an am ak aT ag (mIm v) (mIr v) od (mRw v) (mRf v) k hw) vl_L_60 dL_law_470 [0, 1] 0 0 rfl rfl rfl rfl rfl rfl (ads_c (ads_X _ _ _ _ _ _ _ _ _ _ _ _ _ _ _ _ _) (ads_c (ads_H _ _ _ _ _ _ _ _) rfl)) rfl rfl rfl rfl rfl rfl ⟨Nat.le_of_ble_eq_true rfl, Nat.le_of_ble_eq_true rfl⟩ ?_
          refine g_aload_n (pc := 473) X dL_law_473 2 rfl ?_
          refine g_callVE (pc := 474) (rest := [.int (fdK k)]) (ss' := fun (u_ : (Nat → Int32)) => [wX cy ax an am ak aT ag ((mIm v)) ((mIr v)) od ((mRw v)) ((mRf v)), wH cy an k, wH cy am km, wH cy ak kk, wT cy aT (mLt v) (mN v), wG cy ag tc al wi, wM cy ay k (uSn v u_)]) X (c_X4_day l D cy ay k v hw) vl_L_63 dL_law_474 [6] 6 0 rfl rfl rfl rfl rfl rfl (fun _ => (ads_c (ads_M _ _ _ _ _ _) rfl)) (fun _ => rfl) rfl rfl rfl rfl rfl ⟨Nat.le_of_ble_eq_true rfl, Nat.le_of_ble_eq_true rfl⟩ ?_
          rintro xs_474_4
          refine g_eq X (ss' := [wX cy ax an am ak aT ag ((mIm v)) ((mIr v)) od ((mRw v)) ((mRf v)), wH cy an k, wH cy am km, wH cy ak kk, wT cy aT (mLt v) (mN v), wG cy ag tc al wi, wM cy ay k (uSn v xs_474_4)]) rfl ?_
          refine g_icmp_eq (pc := 477) (tgt := 797) X dL_law_477 (by decide) (fun c477 => ?_) (fun c477 => by exact absurd rfl c477)
          have hw2 : KW (k) := hw
          have hk2 : KW (kk) := hwk
          have h802 : mN v ≤ 80 := h80
          have h122 : mIr v ≤ 12 := h12
          have hI2 : mIm v = true → ∀ j, j < 57 → (mIg v) j = imF (kk) j := hI
          refine g_iinc (v := nI (i + 3)) (lv' := [(3, .int (nI (i + 3))), (0, .ref (b_)), (1, .ref (ax 0)), (2, .ref (ay 0))]) (pc := 797) X dL_law_797 3 rfl (nI_add i 3) rfl rfl ?_
          refine g_goto (pc := 800) (tgt := 18) X dL_law_800 (by decide) ?_
          refine g_lv X (lv' := [(0, .ref (b_)), (1, .ref (ax 0)), (2, .ref (ay 0)), (3, .int (nI (i + 3)))]) [1, 2, 3, 0] rfl ?_
          exact ih18 k km kk (uSn v xs_474_4) od tc al wi (i + 3) hw2 hk2 h802 h122 hI2 (by omega) (by omega)
        by_cases e32_12 : (xs i) &&& 31 = (12 : Int32)
        · refine g_top X e32_12 ?_
          refine g_tableIn (pc := 32) (off := 450) (tgt := 482) X dL_law_32 (by decide) (by decide) (by decide) (by decide) ?_
          refine g_aload_n (pc := 482) X dL_law_482 1 rfl ?_
          refine g_callVE (pc := 483) (rest := []) (ss' := fun (u_ : (KV)) => [wX cy ax an am ak aT ag ((mIm v)) ((mIr v)) od ((mRw v)) ((mRf v)), wH cy an k, wH cy am u_, wH cy ak kk, wT cy aT (mLt v) (mN v), wG cy ag tc al wi, wM cy ay k v]) X (c_X3_curtains l D cy ax an am ak aT ag (mIm v) (mIr v) od (mRw v) (mRf v) k km hw) vl_L_64 dL_law_483 [0, 1, 2] 0 0 rfl rfl rfl rfl rfl rfl (fun _ => (ads_c (ads_X _ _ _ _ _ _ _ _ _ _ _ _ _ _ _ _ _) (ads_c (ads_H _ _ _ _ _ _ _ _) (ads_c (ads_H _ _ _ _ _ _ _ _) rfl)))) (fun _ => rfl) rfl rfl rfl rfl rfl ⟨Nat.le_of_ble_eq_true rfl, Nat.le_of_ble_eq_true rfl⟩ ?_
          rintro xm_483_5
          refine g_eq X (ss' := [wX cy ax an am ak aT ag ((mIm v)) ((mIr v)) od ((mRw v)) ((mRf v)), wH cy an k, wH cy am xm_483_5, wH cy ak kk, wT cy aT (mLt v) (mN v), wG cy ag tc al wi, wM cy ay k v]) rfl ?_
          refine g_aload_n (pc := 486) X dL_law_486 2 rfl ?_
          refine g_callVE (pc := 487) (rest := [.int (cuA k)]) (ss' := fun (u_ : (Nat → Int32)) => [wX cy ax an am ak aT ag ((mIm v)) ((mIr v)) od ((mRw v)) ((mRf v)), wH cy an k, wH cy am xm_483_5, wH cy ak kk, wT cy aT (mLt v) (mN v), wG cy ag tc al wi, wM cy ay k (uSn v u_)]) X (c_X4_curtains l D cy ay k v hw) vl_L_67 dL_law_487 [6] 6 0 rfl rfl rfl rfl rfl rfl (fun _ => (ads_c (ads_M _ _ _ _ _ _) rfl)) (fun _ => rfl) rfl rfl rfl rfl rfl ⟨Nat.le_of_ble_eq_true rfl, Nat.le_of_ble_eq_true rfl⟩ ?_
          rintro xs_487_6
          refine g_eq X (ss' := [wX cy ax an am ak aT ag ((mIm v)) ((mIr v)) od ((mRw v)) ((mRf v)), wH cy an k, wH cy am xm_483_5, wH cy ak kk, wT cy aT (mLt v) (mN v), wG cy ag tc al wi, wM cy ay k (uSn v xs_487_6)]) rfl ?_
          refine g_icmp_eq (pc := 490) (tgt := 797) X dL_law_490 (by decide) (fun c490 => ?_) (fun c490 => by exact absurd rfl c490)
          have hw2 : KW (k) := hw
          have hk2 : KW (kk) := hwk
          have h802 : mN v ≤ 80 := h80
          have h122 : mIr v ≤ 12 := h12
          have hI2 : mIm v = true → ∀ j, j < 57 → (mIg v) j = imF (kk) j := hI
          refine g_iinc (v := nI (i + 3)) (lv' := [(3, .int (nI (i + 3))), (0, .ref (b_)), (1, .ref (ax 0)), (2, .ref (ay 0))]) (pc := 797) X dL_law_797 3 rfl (nI_add i 3) rfl rfl ?_
          refine g_goto (pc := 800) (tgt := 18) X dL_law_800 (by decide) ?_
          refine g_lv X (lv' := [(0, .ref (b_)), (1, .ref (ax 0)), (2, .ref (ay 0)), (3, .int (nI (i + 3)))]) [1, 2, 3, 0] rfl ?_
          exact ih18 k xm_483_5 kk (uSn v xs_487_6) od tc al wi (i + 3) hw2 hk2 h802 h122 hI2 (by omega) (by omega)
        by_cases e32_13 : (xs i) &&& 31 = (13 : Int32)
        · refine g_top X e32_13 ?_
          refine g_tableIn (pc := 32) (off := 463) (tgt := 495) X dL_law_32 (by decide) (by decide) (by decide) (by decide) ?_
          refine g_aload_n (pc := 495) X dL_law_495 1 rfl ?_
          refine g_aload_n (pc := 496) X dL_law_496 0 rfl ?_
          refine g_iload_n (pc := 497) X dL_law_497 3 rfl ?_
          refine g_iconst (v := 1) (pc := 498) X dL_law_498 (by decide) ?_
          refine g_iadd (v := nI (i + 1)) (pc := 499) X dL_law_499 (nI_add i 1) ?_
          refine g_sld (pc := 500) X hX hbl hbA hL (i + 1) rfl (by omega) dL_law_500 ?_
          refine g_callVE (pc := 501) (rest := []) (ss' := fun (u_ : (KV)) => [wX cy ax an am ak aT ag ((mIm v)) ((mIr v)) od ((mRw v)) (rfB (moB (xs (i + 1))) (mRf v) (moA k (xs (i + 1)))), wH cy an k, wH cy am u_, wH cy ak kk, wT cy aT (mLt v) (mN v), wG cy ag tc al wi, wM cy ay k v]) X (c_X3_moved l D cy ax an am ak aT ag (mIm v) (mIr v) od (mRw v) (mRf v) k km (xs (i + 1)) hw) vl_L_68 dL_law_501 [0, 1, 2] 0 0 rfl rfl rfl rfl rfl rfl (fun _ => (ads_c (ads_X _ _ _ _ _ _ _ _ _ _ _ _ _ _ _ _ _) (ads_c (ads_H _ _ _ _ _ _ _ _) (ads_c (ads_H _ _ _ _ _ _ _ _) rfl)))) (fun _ => rfl) rfl rfl rfl rfl rfl ⟨Nat.le_of_ble_eq_true rfl, Nat.le_of_ble_eq_true rfl⟩ ?_
          rintro xm_501_7
          refine g_eq X (ss' := [wX cy ax an am ak aT ag ((mIm v)) ((mIr v)) od ((mRw v)) (rfB (moB (xs (i + 1))) (mRf v) (moA k (xs (i + 1)))), wH cy an k, wH cy am xm_501_7, wH cy ak kk, wT cy aT (mLt v) (mN v), wG cy ag tc al wi, wM cy ay k v]) rfl ?_
          refine g_aload_n (pc := 504) X dL_law_504 2 rfl ?_
          refine g_aload_n (pc := 505) X dL_law_505 0 rfl ?_
          refine g_iload_n (pc := 506) X dL_law_506 3 rfl ?_
          refine g_iconst (v := 1) (pc := 507) X dL_law_507 (by decide) ?_
          refine g_iadd (v := nI (i + 1)) (pc := 508) X dL_law_508 (nI_add i 1) ?_
          refine g_sld (pc := 509) X hX hbl hbA hL (i + 1) rfl (by omega) dL_law_509 ?_
          refine g_callVE (pc := 510) (rest := [.int (moA k (xs (i + 1)))]) (ss' := fun (u_ : (Nat → Int32)) => [wX cy ax an am ak aT ag ((mIm v)) ((mIr v)) od ((mRw v)) (rfB (moB (xs (i + 1))) (mRf v) (moA k (xs (i + 1)))), wH cy an k, wH cy am xm_501_7, wH cy ak kk, wT cy aT (mLt v) (mN v), wG cy ag tc al wi, wM cy ay k (uSn (uRf v (rfB (moB (xs (i + 1))) (mRf v) (moA k (xs (i + 1))))) u_)]) X (c_X4_moved l D cy ay k v (xs (i + 1)) hw) vl_L_71 dL_law_510 [6] 6 0 rfl rfl rfl rfl rfl rfl (fun _ => (ads_c (ads_M _ _ _ _ _ _) rfl)) (fun _ => rfl) rfl rfl rfl rfl rfl ⟨Nat.le_of_ble_eq_true rfl, Nat.le_of_ble_eq_true rfl⟩ ?_
          rintro xs_510_8
          refine g_eq X (ss' := [wX cy ax an am ak aT ag ((mIm v)) ((mIr v)) od ((mRw v)) (rfB (moB (xs (i + 1))) (mRf v) (moA k (xs (i + 1)))), wH cy an k, wH cy am xm_501_7, wH cy ak kk, wT cy aT (mLt v) (mN v), wG cy ag tc al wi, wM cy ay k (uSn (uRf v (rfB (moB (xs (i + 1))) (mRf v) (moA k (xs (i + 1))))) xs_510_8)]) rfl ?_
          refine g_icmp_eq (pc := 513) (tgt := 797) X dL_law_513 (by decide) (fun c513 => ?_) (fun c513 => by exact absurd rfl c513)
          have hw2 : KW (k) := hw
          have hk2 : KW (kk) := hwk
          have h802 : mN v ≤ 80 := h80
          have h122 : mIr v ≤ 12 := h12
          have hI2 : mIm v = true → ∀ j, j < 57 → (mIg v) j = imF (kk) j := hI
          refine g_iinc (v := nI (i + 3)) (lv' := [(3, .int (nI (i + 3))), (0, .ref (b_)), (1, .ref (ax 0)), (2, .ref (ay 0))]) (pc := 797) X dL_law_797 3 rfl (nI_add i 3) rfl rfl ?_
          refine g_goto (pc := 800) (tgt := 18) X dL_law_800 (by decide) ?_
          refine g_lv X (lv' := [(0, .ref (b_)), (1, .ref (ax 0)), (2, .ref (ay 0)), (3, .int (nI (i + 3)))]) [1, 2, 3, 0] rfl ?_
          exact ih18 k xm_501_7 kk (uSn (uRf v (rfB (moB (xs (i + 1))) (mRf v) (moA k (xs (i + 1))))) xs_510_8) od tc al wi (i + 3) hw2 hk2 h802 h122 hI2 (by omega) (by omega)
        by_cases e32_14 : (xs i) &&& 31 = (14 : Int32)
        · refine g_top X e32_14 ?_
          refine g_tableIn (pc := 32) (off := 486) (tgt := 518) X dL_law_32 (by decide) (by decide) (by decide) (by decide) ?_
          refine g_aload_n (pc := 518) X dL_law_518 1 rfl ?_
          refine g_aload_n (pc := 519) X dL_law_519 0 rfl ?_
          refine g_iload_n (pc := 520) X dL_law_520 3 rfl ?_
          refine g_iconst (v := 1) (pc := 521) X dL_law_521 (by decide) ?_
          refine g_iadd (v := nI (i + 1)) (pc := 522) X dL_law_522 (nI_add i 1) ?_
          refine g_sld (pc := 523) X hX hbl hbA hL (i + 1) rfl (by omega) dL_law_523 ?_
          refine g_callV (pc := 524) (rest := []) (ss' := [wX cy ax an am ak aT ag ((mIm v)) ((mIr v)) od ((mRw v)) (rfB (gvB k (xs (i + 1))) (mRf v) (gvA k (xs (i + 1)))), wH cy an k, wH cy am km, wH cy ak kk, wT cy aT (mLt v) (mN v), wG cy ag tc al wi, wM cy ay k v]) X (c_X3_given l D cy ax an am ak aT ag (mIm v) (mIr v) od (mRw v) (mRf v) k (xs (i + 1)) hw) vl_L_72 dL_law_524 [0, 1] 0 0 rfl rfl rfl rfl rfl rfl (ads_c (ads_X _ _ _ _ _ _ _ _ _ _ _ _ _ _ _ _ _) (ads_c (ads_H _ _ _ _ _ _ _ _) rfl)) rfl rfl rfl rfl rfl rfl ⟨Nat.le_of_ble_eq_true rfl, Nat.le_of_ble_eq_true rfl⟩ ?_
          refine g_aload_n (pc := 527) X dL_law_527 2 rfl ?_
          refine g_aload_n (pc := 528) X dL_law_528 0 rfl ?_
          refine g_iload_n (pc := 529) X dL_law_529 3 rfl ?_
          refine g_iconst (v := 1) (pc := 530) X dL_law_530 (by decide) ?_
          refine g_iadd (v := nI (i + 1)) (pc := 531) X dL_law_531 (nI_add i 1) ?_
          refine g_sld (pc := 532) X hX hbl hbA hL (i + 1) rfl (by omega) dL_law_532 ?_
          refine g_callVE (pc := 533) (rest := [.int (gvA k (xs (i + 1)))]) (ss' := fun (u_ : (Nat → Int32)) => [wX cy ax an am ak aT ag ((mIm v)) ((mIr v)) od ((mRw v)) (rfB (gvB k (xs (i + 1))) (mRf v) (gvA k (xs (i + 1)))), wH cy an k, wH cy am km, wH cy ak kk, wT cy aT (mLt v) (mN v), wG cy ag tc al wi, wM cy ay k (uSn (uRf v (rfB (gvB k (xs (i + 1))) (mRf v) (gvA k (xs (i + 1))))) u_)]) X (c_X4_given l D cy ay k v (xs (i + 1)) hw) vl_L_75 dL_law_533 [6] 6 0 rfl rfl rfl rfl rfl rfl (fun _ => (ads_c (ads_M _ _ _ _ _ _) rfl)) (fun _ => rfl) rfl rfl rfl rfl rfl ⟨Nat.le_of_ble_eq_true rfl, Nat.le_of_ble_eq_true rfl⟩ ?_
          rintro xs_533_9
          refine g_eq X (ss' := [wX cy ax an am ak aT ag ((mIm v)) ((mIr v)) od ((mRw v)) (rfB (gvB k (xs (i + 1))) (mRf v) (gvA k (xs (i + 1)))), wH cy an k, wH cy am km, wH cy ak kk, wT cy aT (mLt v) (mN v), wG cy ag tc al wi, wM cy ay k (uSn (uRf v (rfB (gvB k (xs (i + 1))) (mRf v) (gvA k (xs (i + 1))))) xs_533_9)]) rfl ?_
          refine g_icmp_eq (pc := 536) (tgt := 797) X dL_law_536 (by decide) (fun c536 => ?_) (fun c536 => by exact absurd rfl c536)
          have hw2 : KW (k) := hw
          have hk2 : KW (kk) := hwk
          have h802 : mN v ≤ 80 := h80
          have h122 : mIr v ≤ 12 := h12
          have hI2 : mIm v = true → ∀ j, j < 57 → (mIg v) j = imF (kk) j := hI
          refine g_iinc (v := nI (i + 3)) (lv' := [(3, .int (nI (i + 3))), (0, .ref (b_)), (1, .ref (ax 0)), (2, .ref (ay 0))]) (pc := 797) X dL_law_797 3 rfl (nI_add i 3) rfl rfl ?_
          refine g_goto (pc := 800) (tgt := 18) X dL_law_800 (by decide) ?_
          refine g_lv X (lv' := [(0, .ref (b_)), (1, .ref (ax 0)), (2, .ref (ay 0)), (3, .int (nI (i + 3)))]) [1, 2, 3, 0] rfl ?_
          exact ih18 k km kk (uSn (uRf v (rfB (gvB k (xs (i + 1))) (mRf v) (gvA k (xs (i + 1))))) xs_533_9) od tc al wi (i + 3) hw2 hk2 h802 h122 hI2 (by omega) (by omega)
        by_cases e32_15 : (xs i) &&& 31 = (15 : Int32)
        · refine g_top X e32_15 ?_
          refine g_tableIn (pc := 32) (off := 509) (tgt := 541) X dL_law_32 (by decide) (by decide) (by decide) (by decide) ?_
          refine g_aload_n (pc := 541) X dL_law_541 1 rfl ?_
          refine g_aload_n (pc := 542) X dL_law_542 0 rfl ?_
          refine g_iload_n (pc := 543) X dL_law_543 3 rfl ?_
          refine g_iconst (v := 1) (pc := 544) X dL_law_544 (by decide) ?_
          refine g_iadd (v := nI (i + 1)) (pc := 545) X dL_law_545 (nI_add i 1) ?_
          refine g_sld (pc := 546) X hX hbl hbA hL (i + 1) rfl (by omega) dL_law_546 ?_
          refine g_callVE (pc := 547) (rest := []) (ss' := fun (u_ : (Nat) × (Nat → Int32) × (Nat → Int32)) => [wX cy ax an am ak aT ag ((mIm v)) ((mIr v)) od ((mRw v)) (rfB (moB (xs (i + 1))) (mRf v) (prA k (xs (i + 1)))), wH cy an k, wH cy am km, wH cy ak kk, wT cy aT (mLt v) (mN v), wG cy ag u_.1 u_.2.1 u_.2.2, wM cy ay k v]) X (c_X3_pairings l D cy ax an am ak aT ag (mIm v) (mIr v) od (mRw v) (mRf v) k tc al wi (xs (i + 1)) hw) vl_L_76 dL_law_547 [0, 1, 5] 0 0 rfl rfl rfl rfl rfl rfl (fun _ => (ads_c (ads_X _ _ _ _ _ _ _ _ _ _ _ _ _ _ _ _ _) (ads_c (ads_H _ _ _ _ _ _ _ _) (ads_c (ads_G _ _ _ _ _ _ _ _) rfl)))) (fun _ => rfl) rfl rfl rfl rfl rfl ⟨Nat.le_of_ble_eq_true rfl, Nat.le_of_ble_eq_true rfl⟩ ?_
          rintro ⟨xt_547_10, xl_547_10, xw_547_10⟩
          refine g_eq X (ss' := [wX cy ax an am ak aT ag ((mIm v)) ((mIr v)) od ((mRw v)) (rfB (moB (xs (i + 1))) (mRf v) (prA k (xs (i + 1)))), wH cy an k, wH cy am km, wH cy ak kk, wT cy aT (mLt v) (mN v), wG cy ag xt_547_10 xl_547_10 xw_547_10, wM cy ay k v]) rfl ?_
          refine g_aload_n (pc := 550) X dL_law_550 2 rfl ?_
          refine g_aload_n (pc := 551) X dL_law_551 0 rfl ?_
          refine g_iload_n (pc := 552) X dL_law_552 3 rfl ?_
          refine g_iconst (v := 1) (pc := 553) X dL_law_553 (by decide) ?_
          refine g_iadd (v := nI (i + 1)) (pc := 554) X dL_law_554 (nI_add i 1) ?_
          refine g_sld (pc := 555) X hX hbl hbA hL (i + 1) rfl (by omega) dL_law_555 ?_
          refine g_callVE (pc := 556) (rest := [.int (prA k (xs (i + 1)))]) (ss' := fun (u_ : (Nat → Int32)) => [wX cy ax an am ak aT ag ((mIm v)) ((mIr v)) od ((mRw v)) (rfB (moB (xs (i + 1))) (mRf v) (prA k (xs (i + 1)))), wH cy an k, wH cy am km, wH cy ak kk, wT cy aT (mLt v) (mN v), wG cy ag xt_547_10 xl_547_10 xw_547_10, wM cy ay k (uSn (uRf v (rfB (moB (xs (i + 1))) (mRf v) (prA k (xs (i + 1))))) u_)]) X (c_X4_pairings l D cy ay k v (xs (i + 1)) hw) vl_L_79 dL_law_556 [6] 6 0 rfl rfl rfl rfl rfl rfl (fun _ => (ads_c (ads_M _ _ _ _ _ _) rfl)) (fun _ => rfl) rfl rfl rfl rfl rfl ⟨Nat.le_of_ble_eq_true rfl, Nat.le_of_ble_eq_true rfl⟩ ?_
          rintro xs_556_11
          refine g_eq X (ss' := [wX cy ax an am ak aT ag ((mIm v)) ((mIr v)) od ((mRw v)) (rfB (moB (xs (i + 1))) (mRf v) (prA k (xs (i + 1)))), wH cy an k, wH cy am km, wH cy ak kk, wT cy aT (mLt v) (mN v), wG cy ag xt_547_10 xl_547_10 xw_547_10, wM cy ay k (uSn (uRf v (rfB (moB (xs (i + 1))) (mRf v) (prA k (xs (i + 1))))) xs_556_11)]) rfl ?_
          refine g_icmp_eq (pc := 559) (tgt := 797) X dL_law_559 (by decide) (fun c559 => ?_) (fun c559 => by exact absurd rfl c559)
          have hw2 : KW (k) := hw
          have hk2 : KW (kk) := hwk
          have h802 : mN v ≤ 80 := h80
          have h122 : mIr v ≤ 12 := h12
          have hI2 : mIm v = true → ∀ j, j < 57 → (mIg v) j = imF (kk) j := hI
          refine g_iinc (v := nI (i + 3)) (lv' := [(3, .int (nI (i + 3))), (0, .ref (b_)), (1, .ref (ax 0)), (2, .ref (ay 0))]) (pc := 797) X dL_law_797 3 rfl (nI_add i 3) rfl rfl ?_
          refine g_goto (pc := 800) (tgt := 18) X dL_law_800 (by decide) ?_
          refine g_lv X (lv' := [(0, .ref (b_)), (1, .ref (ax 0)), (2, .ref (ay 0)), (3, .int (nI (i + 3)))]) [1, 2, 3, 0] rfl ?_
          exact ih18 k km kk (uSn (uRf v (rfB (moB (xs (i + 1))) (mRf v) (prA k (xs (i + 1))))) xs_556_11) od xt_547_10 xl_547_10 xw_547_10 (i + 3) hw2 hk2 h802 h122 hI2 (by omega) (by omega)
        by_cases e32_16 : (xs i) &&& 31 = (16 : Int32)
        · refine g_top X e32_16 ?_
          refine g_tableIn (pc := 32) (off := 532) (tgt := 564) X dL_law_32 (by decide) (by decide) (by decide) (by decide) ?_
          refine g_aload_n (pc := 564) X dL_law_564 1 rfl ?_
          refine g_aload_n (pc := 565) X dL_law_565 0 rfl ?_
          refine g_iload_n (pc := 566) X dL_law_566 3 rfl ?_
          refine g_iconst (v := 1) (pc := 567) X dL_law_567 (by decide) ?_
          refine g_iadd (v := nI (i + 1)) (pc := 568) X dL_law_568 (nI_add i 1) ?_
          refine g_sld (pc := 569) X hX hbl hbA hL (i + 1) rfl (by omega) dL_law_569 ?_
          refine g_callV (pc := 570) (rest := []) (ss' := [wX cy ax an am ak aT ag ((mIm v)) ((mIr v)) od ((mRw v)) (rfB (tgO k (xs (i + 1))) (mRf v) (tgA k (xs (i + 1)))), wH cy an (tgS k (xs (i + 1))), wH cy am km, wH cy ak kk, wT cy aT (mLt v) (mN v), wG cy ag tc al wi, wM cy ay k v]) X (c_X3_together l D cy ax an am ak aT ag (mIm v) (mIr v) od (mRw v) (mRf v) k (xs (i + 1)) hw) vl_L_80 dL_law_570 [0, 1] 0 0 rfl rfl rfl rfl rfl rfl (ads_c (ads_X _ _ _ _ _ _ _ _ _ _ _ _ _ _ _ _ _) (ads_c (ads_H _ _ _ _ _ _ _ _) rfl)) rfl rfl rfl rfl rfl rfl ⟨Nat.le_of_ble_eq_true rfl, Nat.le_of_ble_eq_true rfl⟩ ?_
          refine g_aload_n (pc := 573) X dL_law_573 2 rfl ?_
          refine g_aload_n (pc := 574) X dL_law_574 0 rfl ?_
          refine g_iload_n (pc := 575) X dL_law_575 3 rfl ?_
          refine g_iconst (v := 1) (pc := 576) X dL_law_576 (by decide) ?_
          refine g_iadd (v := nI (i + 1)) (pc := 577) X dL_law_577 (nI_add i 1) ?_
          refine g_sld (pc := 578) X hX hbl hbA hL (i + 1) rfl (by omega) dL_law_578 ?_
          refine g_callV (pc := 579) (rest := [.int (tgA k (xs (i + 1)))]) (ss' := [wX cy ax an am ak aT ag ((mIm v)) ((mIr v)) od ((mRw v)) (rfB (tgO k (xs (i + 1))) (mRf v) (tgA k (xs (i + 1)))), wH cy an (tgS k (xs (i + 1))), wH cy am km, wH cy ak kk, wT cy aT (mLt v) (mN v), wG cy ag tc al wi, wM cy ay (tgS k (xs (i + 1))) (uRf v (rfB (tgO k (xs (i + 1))) (mRf v) (tgA k (xs (i + 1)))))]) X (c_X4_together l D cy ay k v (xs (i + 1)) hw) vl_L_83 dL_law_579 [6] 6 0 rfl rfl rfl rfl rfl rfl (ads_c (ads_M _ _ _ _ _ _) rfl) rfl rfl rfl rfl rfl rfl ⟨Nat.le_of_ble_eq_true rfl, Nat.le_of_ble_eq_true rfl⟩ ?_
          refine g_icmp_eq (pc := 582) (tgt := 797) X dL_law_582 (by decide) (fun c582 => ?_) (fun c582 => by exact absurd rfl c582)
          have hw2 : KW (tgS k (xs (i + 1))) := KW_ts hw
          have hk2 : KW (kk) := hwk
          have h802 : mN v ≤ 80 := h80
          have h122 : mIr v ≤ 12 := h12
          have hI2 : mIm v = true → ∀ j, j < 57 → (mIg v) j = imF (kk) j := hI
          refine g_iinc (v := nI (i + 3)) (lv' := [(3, .int (nI (i + 3))), (0, .ref (b_)), (1, .ref (ax 0)), (2, .ref (ay 0))]) (pc := 797) X dL_law_797 3 rfl (nI_add i 3) rfl rfl ?_
          refine g_goto (pc := 800) (tgt := 18) X dL_law_800 (by decide) ?_
          refine g_lv X (lv' := [(0, .ref (b_)), (1, .ref (ax 0)), (2, .ref (ay 0)), (3, .int (nI (i + 3)))]) [1, 2, 3, 0] rfl ?_
          exact ih18 (tgS k (xs (i + 1))) km kk (uRf v (rfB (tgO k (xs (i + 1))) (mRf v) (tgA k (xs (i + 1))))) od tc al wi (i + 3) hw2 hk2 h802 h122 hI2 (by omega) (by omega)
        by_cases e32_17 : (xs i) &&& 31 = (17 : Int32)
        · refine g_top X e32_17 ?_
          refine g_tableIn (pc := 32) (off := 555) (tgt := 587) X dL_law_32 (by decide) (by decide) (by decide) (by decide) ?_
          refine g_aload_n (pc := 587) X dL_law_587 1 rfl ?_
          refine g_aload_n (pc := 588) X dL_law_588 0 rfl ?_
          refine g_iload_n (pc := 589) X dL_law_589 3 rfl ?_
          refine g_iconst (v := 1) (pc := 590) X dL_law_590 (by decide) ?_
          refine g_iadd (v := nI (i + 1)) (pc := 591) X dL_law_591 (nI_add i 1) ?_
          refine g_sld (pc := 592) X hX hbl hbA hL (i + 1) rfl (by omega) dL_law_592 ?_
          refine g_callVE (pc := 593) (rest := []) (ss' := fun (u_ : (Nat) × (Nat → Int32) × (Nat → Int32)) => [wX cy ax an am ak aT ag ((mIm v)) ((mIr v)) od ((mRw v)) (rfB (hasT k (xs (i + 1))) (mRf v) (myA k (xs (i + 1)))), wH cy an k, wH cy am km, wH cy ak kk, wT cy aT (mLt v) (mN v), wG cy ag u_.1 u_.2.1 u_.2.2, wM cy ay k v]) X (c_X3_may l D cy ax an am ak aT ag (mIm v) (mIr v) od (mRw v) (mRf v) k tc al wi (xs (i + 1)) hw) vl_L_84 dL_law_593 [0, 1, 5] 0 0 rfl rfl rfl rfl rfl rfl (fun _ => (ads_c (ads_X _ _ _ _ _ _ _ _ _ _ _ _ _ _ _ _ _) (ads_c (ads_H _ _ _ _ _ _ _ _) (ads_c (ads_G _ _ _ _ _ _ _ _) rfl)))) (fun _ => rfl) rfl rfl rfl rfl rfl ⟨Nat.le_of_ble_eq_true rfl, Nat.le_of_ble_eq_true rfl⟩ ?_
          rintro ⟨xt_593_12, xl_593_12, xw_593_12⟩
          refine g_eq X (ss' := [wX cy ax an am ak aT ag ((mIm v)) ((mIr v)) od ((mRw v)) (rfB (hasT k (xs (i + 1))) (mRf v) (myA k (xs (i + 1)))), wH cy an k, wH cy am km, wH cy ak kk, wT cy aT (mLt v) (mN v), wG cy ag xt_593_12 xl_593_12 xw_593_12, wM cy ay k v]) rfl ?_
          refine g_aload_n (pc := 596) X dL_law_596 2 rfl ?_
          refine g_aload_n (pc := 597) X dL_law_597 0 rfl ?_
          refine g_iload_n (pc := 598) X dL_law_598 3 rfl ?_
          refine g_iconst (v := 1) (pc := 599) X dL_law_599 (by decide) ?_
          refine g_iadd (v := nI (i + 1)) (pc := 600) X dL_law_600 (nI_add i 1) ?_
          refine g_sld (pc := 601) X hX hbl hbA hL (i + 1) rfl (by omega) dL_law_601 ?_
          refine g_callV (pc := 602) (rest := [.int (myA k (xs (i + 1)))]) (ss' := [wX cy ax an am ak aT ag ((mIm v)) ((mIr v)) od ((mRw v)) (rfB (hasT k (xs (i + 1))) (mRf v) (myA k (xs (i + 1)))), wH cy an k, wH cy am km, wH cy ak kk, wT cy aT (mLt v) (mN v), wG cy ag xt_593_12 xl_593_12 xw_593_12, wM cy ay k (uRf v (rfB (hasT k (xs (i + 1))) (mRf v) (myA k (xs (i + 1)))))]) X (c_X4_may l D cy ay k v (xs (i + 1)) hw) vl_L_87 dL_law_602 [6] 6 0 rfl rfl rfl rfl rfl rfl (ads_c (ads_M _ _ _ _ _ _) rfl) rfl rfl rfl rfl rfl rfl ⟨Nat.le_of_ble_eq_true rfl, Nat.le_of_ble_eq_true rfl⟩ ?_
          refine g_icmp_eq (pc := 605) (tgt := 797) X dL_law_605 (by decide) (fun c605 => ?_) (fun c605 => by exact absurd rfl c605)
          have hw2 : KW (k) := hw
          have hk2 : KW (kk) := hwk
          have h802 : mN v ≤ 80 := h80
          have h122 : mIr v ≤ 12 := h12
          have hI2 : mIm v = true → ∀ j, j < 57 → (mIg v) j = imF (kk) j := hI
          refine g_iinc (v := nI (i + 3)) (lv' := [(3, .int (nI (i + 3))), (0, .ref (b_)), (1, .ref (ax 0)), (2, .ref (ay 0))]) (pc := 797) X dL_law_797 3 rfl (nI_add i 3) rfl rfl ?_
          refine g_goto (pc := 800) (tgt := 18) X dL_law_800 (by decide) ?_
          refine g_lv X (lv' := [(0, .ref (b_)), (1, .ref (ax 0)), (2, .ref (ay 0)), (3, .int (nI (i + 3)))]) [1, 2, 3, 0] rfl ?_
          exact ih18 k km kk (uRf v (rfB (hasT k (xs (i + 1))) (mRf v) (myA k (xs (i + 1))))) od xt_593_12 xl_593_12 xw_593_12 (i + 3) hw2 hk2 h802 h122 hI2 (by omega) (by omega)
        by_cases e32_18 : (xs i) &&& 31 = (18 : Int32)
        · refine g_top X e32_18 ?_
          refine g_tableIn (pc := 32) (off := 578) (tgt := 610) X dL_law_32 (by decide) (by decide) (by decide) (by decide) ?_
          refine g_aload_n (pc := 610) X dL_law_610 1 rfl ?_
          refine g_callVE (pc := 611) (rest := []) (ss' := fun (u_ : (Nat) × (Nat → Int32) × (Nat → Int32)) => [wX cy ax an am ak aT ag ((mIm v)) ((mIr v)) od ((mRw v)) ((mRf v)), wH cy an k, wH cy am km, wH cy ak kk, wT cy aT (mLt v) (mN v), wG cy ag u_.1 u_.2.1 u_.2.2, wM cy ay k v]) X (c_X3_ways l D cy ax an am ak aT ag (mIm v) (mIr v) od (mRw v) (mRf v) k tc al wi hw) vl_L_88 dL_law_611 [0, 1, 5] 0 0 rfl rfl rfl rfl rfl rfl (fun _ => (ads_c (ads_X _ _ _ _ _ _ _ _ _ _ _ _ _ _ _ _ _) (ads_c (ads_H _ _ _ _ _ _ _ _) (ads_c (ads_G _ _ _ _ _ _ _ _) rfl)))) (fun _ => rfl) rfl rfl rfl rfl rfl ⟨Nat.le_of_ble_eq_true rfl, Nat.le_of_ble_eq_true rfl⟩ ?_
          rintro ⟨xt_611_13, xl_611_13, xw_611_13⟩
          refine g_eq X (ss' := [wX cy ax an am ak aT ag ((mIm v)) ((mIr v)) od ((mRw v)) ((mRf v)), wH cy an k, wH cy am km, wH cy ak kk, wT cy aT (mLt v) (mN v), wG cy ag xt_611_13 xl_611_13 xw_611_13, wM cy ay k v]) rfl ?_
          refine g_aload_n (pc := 614) X dL_law_614 2 rfl ?_
          refine g_callV (pc := 615) (rest := [.int (wyK k (apL k))]) (ss' := [wX cy ax an am ak aT ag ((mIm v)) ((mIr v)) od ((mRw v)) ((mRf v)), wH cy an k, wH cy am km, wH cy ak kk, wT cy aT (mLt v) (mN v), wG cy ag xt_611_13 xl_611_13 xw_611_13, wM cy ay k v]) X (c_X4_ways l D cy ay k v hw) vl_L_91 dL_law_615 [6] 6 0 rfl rfl rfl rfl rfl rfl rfl rfl rfl rfl rfl rfl rfl ⟨Nat.le_of_ble_eq_true rfl, Nat.le_of_ble_eq_true rfl⟩ ?_
          refine g_icmp_eq (pc := 618) (tgt := 797) X dL_law_618 (by decide) (fun c618 => ?_) (fun c618 => by exact absurd rfl c618)
          have hw2 : KW (k) := hw
          have hk2 : KW (kk) := hwk
          have h802 : mN v ≤ 80 := h80
          have h122 : mIr v ≤ 12 := h12
          have hI2 : mIm v = true → ∀ j, j < 57 → (mIg v) j = imF (kk) j := hI
          refine g_iinc (v := nI (i + 3)) (lv' := [(3, .int (nI (i + 3))), (0, .ref (b_)), (1, .ref (ax 0)), (2, .ref (ay 0))]) (pc := 797) X dL_law_797 3 rfl (nI_add i 3) rfl rfl ?_
          refine g_goto (pc := 800) (tgt := 18) X dL_law_800 (by decide) ?_
          refine g_lv X (lv' := [(0, .ref (b_)), (1, .ref (ax 0)), (2, .ref (ay 0)), (3, .int (nI (i + 3)))]) [1, 2, 3, 0] rfl ?_
          exact ih18 k km kk v od xt_611_13 xl_611_13 xw_611_13 (i + 3) hw2 hk2 h802 h122 hI2 (by omega) (by omega)
        by_cases e32_19 : (xs i) &&& 31 = (19 : Int32)
        · refine g_top X e32_19 ?_
          refine g_tableIn (pc := 32) (off := 591) (tgt := 623) X dL_law_32 (by decide) (by decide) (by decide) (by decide) ?_
          refine g_aload_n (pc := 623) X dL_law_623 1 rfl ?_
          refine g_aload_n (pc := 624) X dL_law_624 0 rfl ?_
          refine g_iload_n (pc := 625) X dL_law_625 3 rfl ?_
          refine g_iconst (v := 1) (pc := 626) X dL_law_626 (by decide) ?_
          refine g_iadd (v := nI (i + 1)) (pc := 627) X dL_law_627 (nI_add i 1) ?_
          refine g_sld (pc := 628) X hX hbl hbA hL (i + 1) rfl (by omega) dL_law_628 ?_
          refine g_aload_n (pc := 629) X dL_law_629 0 rfl ?_
          refine g_iload_n (pc := 630) X dL_law_630 3 rfl ?_
          refine g_iconst (v := 2) (pc := 631) X dL_law_631 (by decide) ?_
          refine g_iadd (v := nI (i + 2)) (pc := 632) X dL_law_632 (nI_add i 2) ?_
          refine g_sld (pc := 633) X hX hbl hbA hL (i + 2) rfl (by omega) dL_law_633 ?_
          refine g_callVE (pc := 634) (rest := []) (ss' := fun (u_ : (KV) × (Nat → Int32)) => [wX cy ax an am ak aT ag ((mIm v)) ((mIr v)) u_.2 ((mRw v)) (rfB (feO k (xs (i + 1)) (xs (i + 2))) (mRf v) (feA k (xs (i + 1)) (xs (i + 2)))), wH cy an k, wH cy am u_.1, wH cy ak kk, wT cy aT (mLt v) (mN v), wG cy ag tc al wi, wM cy ay k v]) X (c_X3_feast l D cy ax an am ak aT ag (mIm v) (mIr v) od (mRw v) (mRf v) k km (xs (i + 1)) (xs (i + 2)) hw) vl_L_92 dL_law_634 [0, 1, 2] 0 0 rfl rfl rfl rfl rfl rfl (fun _ => (ads_c (ads_X _ _ _ _ _ _ _ _ _ _ _ _ _ _ _ _ _) (ads_c (ads_H _ _ _ _ _ _ _ _) (ads_c (ads_H _ _ _ _ _ _ _ _) rfl)))) (fun _ => rfl) rfl rfl rfl rfl rfl ⟨Nat.le_of_ble_eq_true rfl, Nat.le_of_ble_eq_true rfl⟩ ?_
          rintro ⟨xm_634_14, xo_634_14⟩
          refine g_eq X (ss' := [wX cy ax an am ak aT ag ((mIm v)) ((mIr v)) xo_634_14 ((mRw v)) (rfB (feO k (xs (i + 1)) (xs (i + 2))) (mRf v) (feA k (xs (i + 1)) (xs (i + 2)))), wH cy an k, wH cy am xm_634_14, wH cy ak kk, wT cy aT (mLt v) (mN v), wG cy ag tc al wi, wM cy ay k v]) rfl ?_
          refine g_aload_n (pc := 637) X dL_law_637 2 rfl ?_
          refine g_aload_n (pc := 638) X dL_law_638 0 rfl ?_
          refine g_iload_n (pc := 639) X dL_law_639 3 rfl ?_
          refine g_iconst (v := 1) (pc := 640) X dL_law_640 (by decide) ?_
          refine g_iadd (v := nI (i + 1)) (pc := 641) X dL_law_641 (nI_add i 1) ?_
          refine g_sld (pc := 642) X hX hbl hbA hL (i + 1) rfl (by omega) dL_law_642 ?_
          refine g_aload_n (pc := 643) X dL_law_643 0 rfl ?_
          refine g_iload_n (pc := 644) X dL_law_644 3 rfl ?_
          refine g_iconst (v := 2) (pc := 645) X dL_law_645 (by decide) ?_
          refine g_iadd (v := nI (i + 2)) (pc := 646) X dL_law_646 (nI_add i 2) ?_
          refine g_sld (pc := 647) X hX hbl hbA hL (i + 2) rfl (by omega) dL_law_647 ?_
          refine g_callVE (pc := 648) (rest := [.int (feA k (xs (i + 1)) (xs (i + 2)))]) (ss' := fun (u_ : (Nat → Int32) × (Nat → Int32) × (Nat → Int32)) => [wX cy ax an am ak aT ag ((mIm v)) ((mIr v)) xo_634_14 ((mRw v)) (rfB (feO k (xs (i + 1)) (xs (i + 2))) (mRf v) (feA k (xs (i + 1)) (xs (i + 2)))), wH cy an k, wH cy am xm_634_14, wH cy ak kk, wT cy aT (mLt v) (mN v), wG cy ag tc al wi, wM cy ay k (uOd (uSn (uAh (uRf v (rfB (feO k (xs (i + 1)) (xs (i + 2))) (mRf v) (feA k (xs (i + 1)) (xs (i + 2))))) u_.2.1) u_.1) u_.2.2)]) X (c_X4_feast l D cy ay k v (xs (i + 1)) (xs (i + 2)) hw) vl_L_95 dL_law_648 [6] 6 0 rfl rfl rfl rfl rfl rfl (fun _ => (ads_c (ads_M _ _ _ _ _ _) rfl)) (fun _ => rfl) rfl rfl rfl rfl rfl ⟨Nat.le_of_ble_eq_true rfl, Nat.le_of_ble_eq_true rfl⟩ ?_
          rintro ⟨xs_648_15, xa_648_15, xo_648_15⟩
          refine g_eq X (ss' := [wX cy ax an am ak aT ag ((mIm v)) ((mIr v)) xo_634_14 ((mRw v)) (rfB (feO k (xs (i + 1)) (xs (i + 2))) (mRf v) (feA k (xs (i + 1)) (xs (i + 2)))), wH cy an k, wH cy am xm_634_14, wH cy ak kk, wT cy aT (mLt v) (mN v), wG cy ag tc al wi, wM cy ay k (uOd (uSn (uAh (uRf v (rfB (feO k (xs (i + 1)) (xs (i + 2))) (mRf v) (feA k (xs (i + 1)) (xs (i + 2))))) xa_648_15) xs_648_15) xo_648_15)]) rfl ?_
          refine g_icmp_eq (pc := 651) (tgt := 797) X dL_law_651 (by decide) (fun c651 => ?_) (fun c651 => by exact absurd rfl c651)
          have hw2 : KW (k) := hw
          have hk2 : KW (kk) := hwk
          have h802 : mN v ≤ 80 := h80
          have h122 : mIr v ≤ 12 := h12
          have hI2 : mIm v = true → ∀ j, j < 57 → (mIg v) j = imF (kk) j := hI
          refine g_iinc (v := nI (i + 3)) (lv' := [(3, .int (nI (i + 3))), (0, .ref (b_)), (1, .ref (ax 0)), (2, .ref (ay 0))]) (pc := 797) X dL_law_797 3 rfl (nI_add i 3) rfl rfl ?_
          refine g_goto (pc := 800) (tgt := 18) X dL_law_800 (by decide) ?_
          refine g_lv X (lv' := [(0, .ref (b_)), (1, .ref (ax 0)), (2, .ref (ay 0)), (3, .int (nI (i + 3)))]) [1, 2, 3, 0] rfl ?_
          exact ih18 k xm_634_14 kk (uOd (uSn (uAh (uRf v (rfB (feO k (xs (i + 1)) (xs (i + 2))) (mRf v) (feA k (xs (i + 1)) (xs (i + 2))))) xa_648_15) xs_648_15) xo_648_15) xo_634_14 tc al wi (i + 3) hw2 hk2 h802 h122 hI2 (by omega) (by omega)
        by_cases e32_20 : (xs i) &&& 31 = (20 : Int32)
        · refine g_top X e32_20 ?_
          refine g_tableIn (pc := 32) (off := 624) (tgt := 656) X dL_law_32 (by decide) (by decide) (by decide) (by decide) ?_
          refine g_aload_n (pc := 656) X dL_law_656 1 rfl ?_
          refine g_aload_n (pc := 657) X dL_law_657 0 rfl ?_
          refine g_iload_n (pc := 658) X dL_law_658 3 rfl ?_
          refine g_iconst (v := 1) (pc := 659) X dL_law_659 (by decide) ?_
          refine g_iadd (v := nI (i + 1)) (pc := 660) X dL_law_660 (nI_add i 1) ?_
          refine g_sld (pc := 661) X hX hbl hbA hL (i + 1) rfl (by omega) dL_law_661 ?_
          refine g_callVE (pc := 662) (rest := []) (ss' := fun (u_ : (KV)) => [wX cy ax an am ak aT ag ((mIm v)) ((mIr v)) od ((mRw v)) (rfB (hasT k (xs (i + 1))) (mRf v) (clA k (xs (i + 1)))), wH cy an k, wH cy am u_, wH cy ak kk, wT cy aT (mLt v) (mN v), wG cy ag tc al wi, wM cy ay k v]) X (c_X3_clean l D cy ax an am ak aT ag (mIm v) (mIr v) od (mRw v) (mRf v) k km (xs (i + 1)) hw) vl_L_96 dL_law_662 [0, 1, 2] 0 0 rfl rfl rfl rfl rfl rfl (fun _ => (ads_c (ads_X _ _ _ _ _ _ _ _ _ _ _ _ _ _ _ _ _) (ads_c (ads_H _ _ _ _ _ _ _ _) (ads_c (ads_H _ _ _ _ _ _ _ _) rfl)))) (fun _ => rfl) rfl rfl rfl rfl rfl ⟨Nat.le_of_ble_eq_true rfl, Nat.le_of_ble_eq_true rfl⟩ ?_
          rintro xm_662_16
          refine g_eq X (ss' := [wX cy ax an am ak aT ag ((mIm v)) ((mIr v)) od ((mRw v)) (rfB (hasT k (xs (i + 1))) (mRf v) (clA k (xs (i + 1)))), wH cy an k, wH cy am xm_662_16, wH cy ak kk, wT cy aT (mLt v) (mN v), wG cy ag tc al wi, wM cy ay k v]) rfl ?_
          refine g_aload_n (pc := 665) X dL_law_665 2 rfl ?_
          refine g_aload_n (pc := 666) X dL_law_666 0 rfl ?_
          refine g_iload_n (pc := 667) X dL_law_667 3 rfl ?_
          refine g_iconst (v := 1) (pc := 668) X dL_law_668 (by decide) ?_
          refine g_iadd (v := nI (i + 1)) (pc := 669) X dL_law_669 (nI_add i 1) ?_
          refine g_sld (pc := 670) X hX hbl hbA hL (i + 1) rfl (by omega) dL_law_670 ?_
          refine g_callVE (pc := 671) (rest := [.int (clA k (xs (i + 1)))]) (ss' := fun (u_ : (Nat → Int32)) => [wX cy ax an am ak aT ag ((mIm v)) ((mIr v)) od ((mRw v)) (rfB (hasT k (xs (i + 1))) (mRf v) (clA k (xs (i + 1)))), wH cy an k, wH cy am xm_662_16, wH cy ak kk, wT cy aT (mLt v) (mN v), wG cy ag tc al wi, wM cy ay k (uSn (uRf v (rfB (hasT k (xs (i + 1))) (mRf v) (clA k (xs (i + 1))))) u_)]) X (c_X4_clean l D cy ay k v (xs (i + 1)) hw) vl_L_99 dL_law_671 [6] 6 0 rfl rfl rfl rfl rfl rfl (fun _ => (ads_c (ads_M _ _ _ _ _ _) rfl)) (fun _ => rfl) rfl rfl rfl rfl rfl ⟨Nat.le_of_ble_eq_true rfl, Nat.le_of_ble_eq_true rfl⟩ ?_
          rintro xs_671_17
          refine g_eq X (ss' := [wX cy ax an am ak aT ag ((mIm v)) ((mIr v)) od ((mRw v)) (rfB (hasT k (xs (i + 1))) (mRf v) (clA k (xs (i + 1)))), wH cy an k, wH cy am xm_662_16, wH cy ak kk, wT cy aT (mLt v) (mN v), wG cy ag tc al wi, wM cy ay k (uSn (uRf v (rfB (hasT k (xs (i + 1))) (mRf v) (clA k (xs (i + 1))))) xs_671_17)]) rfl ?_
          refine g_icmp_eq (pc := 674) (tgt := 797) X dL_law_674 (by decide) (fun c674 => ?_) (fun c674 => by exact absurd rfl c674)
          have hw2 : KW (k) := hw
          have hk2 : KW (kk) := hwk
          have h802 : mN v ≤ 80 := h80
          have h122 : mIr v ≤ 12 := h12
          have hI2 : mIm v = true → ∀ j, j < 57 → (mIg v) j = imF (kk) j := hI
          refine g_iinc (v := nI (i + 3)) (lv' := [(3, .int (nI (i + 3))), (0, .ref (b_)), (1, .ref (ax 0)), (2, .ref (ay 0))]) (pc := 797) X dL_law_797 3 rfl (nI_add i 3) rfl rfl ?_
          refine g_goto (pc := 800) (tgt := 18) X dL_law_800 (by decide) ?_
          refine g_lv X (lv' := [(0, .ref (b_)), (1, .ref (ax 0)), (2, .ref (ay 0)), (3, .int (nI (i + 3)))]) [1, 2, 3, 0] rfl ?_
          exact ih18 k xm_662_16 kk (uSn (uRf v (rfB (hasT k (xs (i + 1))) (mRf v) (clA k (xs (i + 1))))) xs_671_17) od tc al wi (i + 3) hw2 hk2 h802 h122 hI2 (by omega) (by omega)
        by_cases e32_21 : (xs i) &&& 31 = (21 : Int32)
        · refine g_top X e32_21 ?_
          refine g_tableIn (pc := 32) (off := 647) (tgt := 679) X dL_law_32 (by decide) (by decide) (by decide) (by decide) ?_
          refine g_aload_n (pc := 679) X dL_law_679 1 rfl ?_
          refine g_aload_n (pc := 680) X dL_law_680 0 rfl ?_
          refine g_iload_n (pc := 681) X dL_law_681 3 rfl ?_
          refine g_iconst (v := 1) (pc := 682) X dL_law_682 (by decide) ?_
          refine g_iadd (v := nI (i + 1)) (pc := 683) X dL_law_683 (nI_add i 1) ?_
          refine g_sld (pc := 684) X hX hbl hbA hL (i + 1) rfl (by omega) dL_law_684 ?_
          refine g_callV (pc := 685) (rest := []) (ss' := [wX cy ax an am ak aT ag ((mIm v)) (roN (mIr v) (xs (i + 1))) od (roM (mRw v) (mIr v) (xs (i + 1))) (rfB (roB (mIr v) (xs (i + 1))) (mRf v) (roA (mIr v) (xs (i + 1)))), wH cy an k, wH cy am km, wH cy ak kk, wT cy aT (mLt v) (mN v), wG cy ag tc al wi, wM cy ay k v]) X (c_X3_row l D cy ax an am ak aT ag (mIm v) (mIr v) od (mRw v) (mRf v) (xs (i + 1)) h12) vl_L_100 dL_law_685 [0] 0 0 rfl rfl rfl rfl rfl rfl (ads_c (ads_X _ _ _ _ _ _ _ _ _ _ _ _ _ _ _ _ _) rfl) rfl rfl rfl rfl rfl rfl ⟨Nat.le_of_ble_eq_true rfl, Nat.le_of_ble_eq_true rfl⟩ ?_
          refine g_aload_n (pc := 688) X dL_law_688 2 rfl ?_
          refine g_aload_n (pc := 689) X dL_law_689 0 rfl ?_
          refine g_iload_n (pc := 690) X dL_law_690 3 rfl ?_
          refine g_iconst (v := 1) (pc := 691) X dL_law_691 (by decide) ?_
          refine g_iadd (v := nI (i + 1)) (pc := 692) X dL_law_692 (nI_add i 1) ?_
          refine g_sld (pc := 693) X hX hbl hbA hL (i + 1) rfl (by omega) dL_law_693 ?_
          refine g_callV (pc := 694) (rest := [.int (roA (mIr v) (xs (i + 1)))]) (ss' := [wX cy ax an am ak aT ag ((mIm v)) (roN (mIr v) (xs (i + 1))) od (roM (mRw v) (mIr v) (xs (i + 1))) (rfB (roB (mIr v) (xs (i + 1))) (mRf v) (roA (mIr v) (xs (i + 1)))), wH cy an k, wH cy am km, wH cy ak kk, wT cy aT (mLt v) (mN v), wG cy ag tc al wi, wM cy ay k (uRf (uRw (uIr v (roN (mIr v) (xs (i + 1)))) (roM (mRw v) (mIr v) (xs (i + 1)))) (rfB (roB (mIr v) (xs (i + 1))) (mRf v) (roA (mIr v) (xs (i + 1)))))]) X (c_X4_row l D cy ay k v (xs (i + 1)) h12) vl_L_103 dL_law_694 [6] 6 0 rfl rfl rfl rfl rfl rfl (ads_c (ads_M _ _ _ _ _ _) rfl) rfl rfl rfl rfl rfl rfl ⟨Nat.le_of_ble_eq_true rfl, Nat.le_of_ble_eq_true rfl⟩ ?_
          refine g_icmp_eq (pc := 697) (tgt := 797) X dL_law_697 (by decide) (fun c697 => ?_) (fun c697 => by exact absurd rfl c697)
          have hw2 : KW (k) := hw
          have hk2 : KW (kk) := hwk
          have h802 : mN v ≤ 80 := h80
          have h122 : roN (mIr v) (xs (i + 1)) ≤ 12 := ro_12 h12
          have hI2 : mIm v = true → ∀ j, j < 57 → (mIg v) j = imF (kk) j := hI
          refine g_iinc (v := nI (i + 3)) (lv' := [(3, .int (nI (i + 3))), (0, .ref (b_)), (1, .ref (ax 0)), (2, .ref (ay 0))]) (pc := 797) X dL_law_797 3 rfl (nI_add i 3) rfl rfl ?_
          refine g_goto (pc := 800) (tgt := 18) X dL_law_800 (by decide) ?_
          refine g_lv X (lv' := [(0, .ref (b_)), (1, .ref (ax 0)), (2, .ref (ay 0)), (3, .int (nI (i + 3)))]) [1, 2, 3, 0] rfl ?_
          exact ih18 k km kk (uRf (uRw (uIr v (roN (mIr v) (xs (i + 1)))) (roM (mRw v) (mIr v) (xs (i + 1)))) (rfB (roB (mIr v) (xs (i + 1))) (mRf v) (roA (mIr v) (xs (i + 1))))) od tc al wi (i + 3) hw2 hk2 h802 h122 hI2 (by omega) (by omega)
        by_cases e32_22 : (xs i) &&& 31 = (22 : Int32)
        · refine g_top X e32_22 ?_
          refine g_tableIn (pc := 32) (off := 670) (tgt := 702) X dL_law_32 (by decide) (by decide) (by decide) (by decide) ?_
          refine g_aload_n (pc := 702) X dL_law_702 1 rfl ?_
          refine g_callVE (pc := 703) (rest := []) (ss' := fun (u_ : (KV)) => [wX cy ax an am ak aT ag ((mIm v)) 0 od ((mRw v)) ((mRf v)), wH cy an k, wH cy am u_, wH cy ak kk, wT cy aT (mLt v) (mN v), wG cy ag tc al wi, wM cy ay k v]) X (c_X3_judge l D cy ax an am ak aT ag (mIm v) (mIr v) od (mRw v) (mRf v) k km hw h12) vl_L_104 dL_law_703 [0, 1, 2] 0 0 rfl rfl rfl rfl rfl rfl (fun _ => (ads_c (ads_X _ _ _ _ _ _ _ _ _ _ _ _ _ _ _ _ _) (ads_c (ads_H _ _ _ _ _ _ _ _) (ads_c (ads_H _ _ _ _ _ _ _ _) rfl)))) (fun _ => rfl) rfl rfl rfl rfl rfl ⟨Nat.le_of_ble_eq_true rfl, Nat.le_of_ble_eq_true rfl⟩ ?_
          rintro xm_703_18
          refine g_eq X (ss' := [wX cy ax an am ak aT ag ((mIm v)) 0 od ((mRw v)) ((mRf v)), wH cy an k, wH cy am xm_703_18, wH cy ak kk, wT cy aT (mLt v) (mN v), wG cy ag tc al wi, wM cy ay k v]) rfl ?_
          refine g_aload_n (pc := 706) X dL_law_706 2 rfl ?_
          refine g_callVE (pc := 707) (rest := [.int (jdA k (mRw v) (mIr v))]) (ss' := fun (u_ : (Nat → Int32) × (Nat → Int32)) => [wX cy ax an am ak aT ag ((mIm v)) 0 od ((mRw v)) ((mRf v)), wH cy an k, wH cy am xm_703_18, wH cy ak kk, wT cy aT (mLt v) (mN v), wG cy ag tc al wi, wM cy ay k (uSn (uAh (uIr v 0) u_.2) u_.1)]) X (c_X4_judge l D cy ay k v hw h12) vl_L_107 dL_law_707 [6] 6 0 rfl rfl rfl rfl rfl rfl (fun _ => (ads_c (ads_M _ _ _ _ _ _) rfl)) (fun _ => rfl) rfl rfl rfl rfl rfl ⟨Nat.le_of_ble_eq_true rfl, Nat.le_of_ble_eq_true rfl⟩ ?_
          rintro ⟨xs_707_19, xa_707_19⟩
          refine g_eq X (ss' := [wX cy ax an am ak aT ag ((mIm v)) 0 od ((mRw v)) ((mRf v)), wH cy an k, wH cy am xm_703_18, wH cy ak kk, wT cy aT (mLt v) (mN v), wG cy ag tc al wi, wM cy ay k (uSn (uAh (uIr v 0) xa_707_19) xs_707_19)]) rfl ?_
          refine g_icmp_eq (pc := 710) (tgt := 797) X dL_law_710 (by decide) (fun c710 => ?_) (fun c710 => by exact absurd rfl c710)
          have hw2 : KW (k) := hw
          have hk2 : KW (kk) := hwk
          have h802 : mN v ≤ 80 := h80
          have h122 : 0 ≤ 12 := Nat.zero_le _
          have hI2 : mIm v = true → ∀ j, j < 57 → (mIg v) j = imF (kk) j := hI
          refine g_iinc (v := nI (i + 3)) (lv' := [(3, .int (nI (i + 3))), (0, .ref (b_)), (1, .ref (ax 0)), (2, .ref (ay 0))]) (pc := 797) X dL_law_797 3 rfl (nI_add i 3) rfl rfl ?_
          refine g_goto (pc := 800) (tgt := 18) X dL_law_800 (by decide) ?_
          refine g_lv X (lv' := [(0, .ref (b_)), (1, .ref (ax 0)), (2, .ref (ay 0)), (3, .int (nI (i + 3)))]) [1, 2, 3, 0] rfl ?_
          exact ih18 k xm_703_18 kk (uSn (uAh (uIr v 0) xa_707_19) xs_707_19) od tc al wi (i + 3) hw2 hk2 h802 h122 hI2 (by omega) (by omega)
        by_cases e32_23 : (xs i) &&& 31 = (23 : Int32)
        · refine g_top X e32_23 ?_
          refine g_tableIn (pc := 32) (off := 683) (tgt := 715) X dL_law_32 (by decide) (by decide) (by decide) (by decide) ?_
          refine g_aload_n (pc := 715) X dL_law_715 1 rfl ?_
          refine g_aload_n (pc := 716) X dL_law_716 0 rfl ?_
          refine g_iload_n (pc := 717) X dL_law_717 3 rfl ?_
          refine g_iconst (v := 1) (pc := 718) X dL_law_718 (by decide) ?_
          refine g_iadd (v := nI (i + 1)) (pc := 719) X dL_law_719 (nI_add i 1) ?_
          refine g_sld (pc := 720) X hX hbl hbA hL (i + 1) rfl (by omega) dL_law_720 ?_
          refine g_aload_n (pc := 721) X dL_law_721 0 rfl ?_
          refine g_iload_n (pc := 722) X dL_law_722 3 rfl ?_
          refine g_iconst (v := 2) (pc := 723) X dL_law_723 (by decide) ?_
          refine g_iadd (v := nI (i + 2)) (pc := 724) X dL_law_724 (nI_add i 2) ?_
          refine g_sld (pc := 725) X hX hbl hbA hL (i + 2) rfl (by omega) dL_law_725 ?_
          refine g_callVE (pc := 726) (rest := []) (ss' := fun (u_ : (KV)) => [wX cy ax an am ak aT ag ((mIm v)) ((mIr v)) od ((mRw v)) (rfB (sdB k (xs (i + 1))) (mRf v) (sdA k (xs (i + 1)) (xs (i + 2)))), wH cy an k, wH cy am u_, wH cy ak kk, wT cy aT (mLt v) (mN v), wG cy ag tc al wi, wM cy ay k v]) X (c_X3_seeds l D cy ax an am ak aT ag (mIm v) (mIr v) od (mRw v) (mRf v) k km (xs (i + 1)) (xs (i + 2)) hw) vl_L_108 dL_law_726 [0, 1, 2] 0 0 rfl rfl rfl rfl rfl rfl (fun _ => (ads_c (ads_X _ _ _ _ _ _ _ _ _ _ _ _ _ _ _ _ _) (ads_c (ads_H _ _ _ _ _ _ _ _) (ads_c (ads_H _ _ _ _ _ _ _ _) rfl)))) (fun _ => rfl) rfl rfl rfl rfl rfl ⟨Nat.le_of_ble_eq_true rfl, Nat.le_of_ble_eq_true rfl⟩ ?_
          rintro xm_726_20
          refine g_eq X (ss' := [wX cy ax an am ak aT ag ((mIm v)) ((mIr v)) od ((mRw v)) (rfB (sdB k (xs (i + 1))) (mRf v) (sdA k (xs (i + 1)) (xs (i + 2)))), wH cy an k, wH cy am xm_726_20, wH cy ak kk, wT cy aT (mLt v) (mN v), wG cy ag tc al wi, wM cy ay k v]) rfl ?_
          refine g_aload_n (pc := 729) X dL_law_729 2 rfl ?_
          refine g_aload_n (pc := 730) X dL_law_730 0 rfl ?_
          refine g_iload_n (pc := 731) X dL_law_731 3 rfl ?_
          refine g_iconst (v := 1) (pc := 732) X dL_law_732 (by decide) ?_
          refine g_iadd (v := nI (i + 1)) (pc := 733) X dL_law_733 (nI_add i 1) ?_
          refine g_sld (pc := 734) X hX hbl hbA hL (i + 1) rfl (by omega) dL_law_734 ?_
          refine g_aload_n (pc := 735) X dL_law_735 0 rfl ?_
          refine g_iload_n (pc := 736) X dL_law_736 3 rfl ?_
          refine g_iconst (v := 2) (pc := 737) X dL_law_737 (by decide) ?_
          refine g_iadd (v := nI (i + 2)) (pc := 738) X dL_law_738 (nI_add i 2) ?_
          refine g_sld (pc := 739) X hX hbl hbA hL (i + 2) rfl (by omega) dL_law_739 ?_
          refine g_callVE (pc := 740) (rest := [.int (sdA k (xs (i + 1)) (xs (i + 2)))]) (ss' := fun (u_ : (Nat → Int32) × (Nat → Int32)) => [wX cy ax an am ak aT ag ((mIm v)) ((mIr v)) od ((mRw v)) (rfB (sdB k (xs (i + 1))) (mRf v) (sdA k (xs (i + 1)) (xs (i + 2)))), wH cy an k, wH cy am xm_726_20, wH cy ak kk, wT cy aT (mLt v) (mN v), wG cy ag tc al wi, wM cy ay k (uSn (uAh (uRf v (rfB (sdB k (xs (i + 1))) (mRf v) (sdA k (xs (i + 1)) (xs (i + 2))))) u_.2) u_.1)]) X (c_X4_seeds l D cy ay k v (xs (i + 1)) (xs (i + 2)) hw) vl_L_111 dL_law_740 [6] 6 0 rfl rfl rfl rfl rfl rfl (fun _ => (ads_c (ads_M _ _ _ _ _ _) rfl)) (fun _ => rfl) rfl rfl rfl rfl rfl ⟨Nat.le_of_ble_eq_true rfl, Nat.le_of_ble_eq_true rfl⟩ ?_
          rintro ⟨xs_740_21, xa_740_21⟩
          refine g_eq X (ss' := [wX cy ax an am ak aT ag ((mIm v)) ((mIr v)) od ((mRw v)) (rfB (sdB k (xs (i + 1))) (mRf v) (sdA k (xs (i + 1)) (xs (i + 2)))), wH cy an k, wH cy am xm_726_20, wH cy ak kk, wT cy aT (mLt v) (mN v), wG cy ag tc al wi, wM cy ay k (uSn (uAh (uRf v (rfB (sdB k (xs (i + 1))) (mRf v) (sdA k (xs (i + 1)) (xs (i + 2))))) xa_740_21) xs_740_21)]) rfl ?_
          refine g_icmp_eq (pc := 743) (tgt := 797) X dL_law_743 (by decide) (fun c743 => ?_) (fun c743 => by exact absurd rfl c743)
          have hw2 : KW (k) := hw
          have hk2 : KW (kk) := hwk
          have h802 : mN v ≤ 80 := h80
          have h122 : mIr v ≤ 12 := h12
          have hI2 : mIm v = true → ∀ j, j < 57 → (mIg v) j = imF (kk) j := hI
          refine g_iinc (v := nI (i + 3)) (lv' := [(3, .int (nI (i + 3))), (0, .ref (b_)), (1, .ref (ax 0)), (2, .ref (ay 0))]) (pc := 797) X dL_law_797 3 rfl (nI_add i 3) rfl rfl ?_
          refine g_goto (pc := 800) (tgt := 18) X dL_law_800 (by decide) ?_
          refine g_lv X (lv' := [(0, .ref (b_)), (1, .ref (ax 0)), (2, .ref (ay 0)), (3, .int (nI (i + 3)))]) [1, 2, 3, 0] rfl ?_
          exact ih18 k xm_726_20 kk (uSn (uAh (uRf v (rfB (sdB k (xs (i + 1))) (mRf v) (sdA k (xs (i + 1)) (xs (i + 2))))) xa_740_21) xs_740_21) od tc al wi (i + 3) hw2 hk2 h802 h122 hI2 (by omega) (by omega)
        by_cases e32_24 : (xs i) &&& 31 = (24 : Int32)
        · refine g_top X e32_24 ?_
          refine g_tableIn (pc := 32) (off := 716) (tgt := 748) X dL_law_32 (by decide) (by decide) (by decide) (by decide) ?_
          refine g_aload_n (pc := 748) X dL_law_748 1 rfl ?_
          refine g_callV (pc := 749) (rest := []) (ss' := [wX cy ax an am ak aT ag true ((mIr v)) od ((mRw v)) ((mRf v)), wH cy an k, wH cy am km, wH cy ak k, wT cy aT (mLt v) (mN v), wG cy ag tc al wi, wM cy ay k v]) X (c_X3_image l D cy ax an am ak aT ag (mIm v) (mIr v) od (mRw v) (mRf v) k kk ) vl_L_112 dL_law_749 [0, 1, 3] 0 0 rfl rfl rfl rfl rfl rfl (ads_c (ads_X _ _ _ _ _ _ _ _ _ _ _ _ _ _ _ _ _) (ads_c (ads_H _ _ _ _ _ _ _ _) (ads_c (ads_H _ _ _ _ _ _ _ _) rfl))) rfl rfl rfl rfl rfl rfl ⟨Nat.le_of_ble_eq_true rfl, Nat.le_of_ble_eq_true rfl⟩ ?_
          refine g_aload_n (pc := 752) X dL_law_752 2 rfl ?_
          refine g_callV (pc := 753) (rest := [.int (nI (kNt k))]) (ss' := [wX cy ax an am ak aT ag true ((mIr v)) od ((mRw v)) ((mRf v)), wH cy an k, wH cy am km, wH cy ak k, wT cy aT (mLt v) (mN v), wG cy ag tc al wi, wM cy ay k (uIg (uIm v true) (imF k))]) X (c_X4_image l D cy ay k v ) vl_L_115 dL_law_753 [6] 6 0 rfl rfl rfl rfl rfl rfl (ads_c (ads_M _ _ _ _ _ _) rfl) rfl rfl rfl rfl rfl rfl ⟨Nat.le_of_ble_eq_true rfl, Nat.le_of_ble_eq_true rfl⟩ ?_
          refine g_ncmp_eq (pc := 756) (tgt := 797) X dL_law_756 (by decide) (kNt k) (kNt k) rfl rfl (by have := hw.2.2.2.2.2.1; omega) (by have := hw.2.2.2.2.2.1; omega) (fun c756 => ?_) (fun c756 => by exact absurd rfl c756)
          have hw2 : KW (k) := hw
          have hk2 : KW (k) := hw
          have h802 : mN v ≤ 80 := h80
          have h122 : mIr v ≤ 12 := h12
          have hI2 : true = true → ∀ j, j < 57 → (imF k) j = imF (k) j := fun _ _ _ => rfl
          refine g_iinc (v := nI (i + 3)) (lv' := [(3, .int (nI (i + 3))), (0, .ref (b_)), (1, .ref (ax 0)), (2, .ref (ay 0))]) (pc := 797) X dL_law_797 3 rfl (nI_add i 3) rfl rfl ?_
          refine g_goto (pc := 800) (tgt := 18) X dL_law_800 (by decide) ?_
          refine g_lv X (lv' := [(0, .ref (b_)), (1, .ref (ax 0)), (2, .ref (ay 0)), (3, .int (nI (i + 3)))]) [1, 2, 3, 0] rfl ?_
          exact ih18 k km k (uIg (uIm v true) (imF k)) od tc al wi (i + 3) hw2 hk2 h802 h122 hI2 (by omega) (by omega)
        by_cases e32_25 : (xs i) &&& 31 = (25 : Int32)
        · refine g_top X e32_25 ?_
          refine g_tableIn (pc := 32) (off := 729) (tgt := 761) X dL_law_32 (by decide) (by decide) (by decide) (by decide) ?_
          refine g_aload_n (pc := 761) X dL_law_761 1 rfl ?_
          refine g_callV (pc := 762) (rest := []) (ss' := [wX cy ax an am ak aT ag ((mIm v)) ((mIr v)) od ((mRw v)) (rfB (mIm v) (mRf v) (onA kk (mIm v))), wH cy an (onK k kk (mIm v)), wH cy am km, wH cy ak kk, wT cy aT (mLt v) (mN v), wG cy ag tc al wi, wM cy ay k v]) X (c_X3_on l D cy ax an am ak aT ag (mIm v) (mIr v) od (mRw v) (mRf v) k kk ) vl_L_116 dL_law_762 [0, 1, 3] 0 0 rfl rfl rfl rfl rfl rfl (ads_c (ads_X _ _ _ _ _ _ _ _ _ _ _ _ _ _ _ _ _) (ads_c (ads_H _ _ _ _ _ _ _ _) (ads_c (ads_H _ _ _ _ _ _ _ _) rfl))) rfl rfl rfl rfl rfl rfl ⟨Nat.le_of_ble_eq_true rfl, Nat.le_of_ble_eq_true rfl⟩ ?_
          refine g_aload_n (pc := 765) X dL_law_765 2 rfl ?_
          refine g_callV (pc := 766) (rest := [.int (onA kk (mIm v))]) (ss' := [wX cy ax an am ak aT ag ((mIm v)) ((mIr v)) od ((mRw v)) (rfB (mIm v) (mRf v) (onA kk (mIm v))), wH cy an (onK k kk (mIm v)), wH cy am km, wH cy ak kk, wT cy aT (mLt v) (mN v), wG cy ag tc al wi, wM cy ay (onK k kk (mIm v)) (uRf v (rfB (mIm v) (mRf v) (onA kk (mIm v))))]) X (c_X4_on l D cy ay k v kk hI) vl_L_119 dL_law_766 [6] 6 0 rfl rfl rfl rfl rfl rfl (ads_c (ads_M _ _ _ _ _ _) rfl) rfl rfl rfl rfl rfl rfl ⟨Nat.le_of_ble_eq_true rfl, Nat.le_of_ble_eq_true rfl⟩ ?_
          refine g_icmp_eq (pc := 769) (tgt := 797) X dL_law_769 (by decide) (fun c769 => ?_) (fun c769 => by exact absurd rfl c769)
          have hw2 : KW (onK k kk (mIm v)) := KW_on hw hwk
          have hk2 : KW (kk) := hwk
          have h802 : mN v ≤ 80 := h80
          have h122 : mIr v ≤ 12 := h12
          have hI2 : mIm v = true → ∀ j, j < 57 → (mIg v) j = imF (kk) j := hI
          refine g_iinc (v := nI (i + 3)) (lv' := [(3, .int (nI (i + 3))), (0, .ref (b_)), (1, .ref (ax 0)), (2, .ref (ay 0))]) (pc := 797) X dL_law_797 3 rfl (nI_add i 3) rfl rfl ?_
          refine g_goto (pc := 800) (tgt := 18) X dL_law_800 (by decide) ?_
          refine g_lv X (lv' := [(0, .ref (b_)), (1, .ref (ax 0)), (2, .ref (ay 0)), (3, .int (nI (i + 3)))]) [1, 2, 3, 0] rfl ?_
          exact ih18 (onK k kk (mIm v)) km kk (uRf v (rfB (mIm v) (mRf v) (onA kk (mIm v)))) od tc al wi (i + 3) hw2 hk2 h802 h122 hI2 (by omega) (by omega)
        by_cases e32_26 : (xs i) &&& 31 = (26 : Int32)
        · refine g_top X e32_26 ?_
          refine g_tableIn (pc := 32) (off := 742) (tgt := 774) X dL_law_32 (by decide) (by decide) (by decide) (by decide) ?_
          refine g_aload_n (pc := 774) X dL_law_774 1 rfl ?_
          refine g_aload_n (pc := 775) X dL_law_775 0 rfl ?_
          refine g_iload_n (pc := 776) X dL_law_776 3 rfl ?_
          refine g_iconst (v := 1) (pc := 777) X dL_law_777 (by decide) ?_
          refine g_iadd (v := nI (i + 1)) (pc := 778) X dL_law_778 (nI_add i 1) ?_
          refine g_sld (pc := 779) X hX hbl hbA hL (i + 1) rfl (by omega) dL_law_779 ?_
          refine g_callV (pc := 780) (rest := []) (ss' := [wX cy ax an am ak aT ag ((mIm v)) ((mIr v)) od ((mRw v)) ((mRf v)), wH cy an k, wH cy am km, wH cy ak kk, wT cy aT ((mLt v)) ((mN v)), wG cy ag tc al wi, wM cy ay k v]) X (c_X3_count l D cy ax an am ak aT ag (mIm v) (mIr v) od (mRw v) (mRf v) k (mLt v) (mN v) (xs (i + 1)) hw) vl_L_120 dL_law_780 [0, 1, 4] 0 0 rfl rfl rfl rfl rfl rfl (ads_c (ads_X _ _ _ _ _ _ _ _ _ _ _ _ _ _ _ _ _) (ads_c (ads_H _ _ _ _ _ _ _ _) (ads_c (ads_T _ _ _ _ _ _) rfl))) rfl rfl rfl rfl rfl rfl ⟨Nat.le_of_ble_eq_true rfl, Nat.le_of_ble_eq_true rfl⟩ ?_
          refine g_aload_n (pc := 783) X dL_law_783 2 rfl ?_
          refine g_aload_n (pc := 784) X dL_law_784 0 rfl ?_
          refine g_iload_n (pc := 785) X dL_law_785 3 rfl ?_
          refine g_iconst (v := 1) (pc := 786) X dL_law_786 (by decide) ?_
          refine g_iadd (v := nI (i + 1)) (pc := 787) X dL_law_787 (nI_add i 1) ?_
          refine g_sld (pc := 788) X hX hbl hbA hL (i + 1) rfl (by omega) dL_law_788 ?_
          refine g_callV (pc := 789) (rest := [.int (cnA k (mN v) (mIr v) (mRf v) (xs (i + 1)))]) (ss' := [wX cy ax an am ak aT ag ((mIm v)) ((mIr v)) od ((mRw v)) ((mRf v)), wH cy an k, wH cy am km, wH cy ak kk, wT cy aT ((mLt v)) ((mN v)), wG cy ag tc al wi, wM cy ay k v]) X (c_X4_count l D cy ay k v (xs (i + 1)) hw) vl_L_123 dL_law_789 [6] 6 0 rfl rfl rfl rfl rfl rfl rfl rfl rfl rfl rfl rfl rfl ⟨Nat.le_of_ble_eq_true rfl, Nat.le_of_ble_eq_true rfl⟩ ?_
          refine g_icmp_eq (pc := 792) (tgt := 797) X dL_law_792 (by decide) (fun c792 => ?_) (fun c792 => by exact absurd rfl c792)
          have hw2 : KW (k) := hw
          have hk2 : KW (kk) := hwk
          have h802 : mN v ≤ 80 := h80
          have h122 : mIr v ≤ 12 := h12
          have hI2 : mIm v = true → ∀ j, j < 57 → (mIg v) j = imF (kk) j := hI
          refine g_iinc (v := nI (i + 3)) (lv' := [(3, .int (nI (i + 3))), (0, .ref (b_)), (1, .ref (ax 0)), (2, .ref (ay 0))]) (pc := 797) X dL_law_797 3 rfl (nI_add i 3) rfl rfl ?_
          refine g_goto (pc := 800) (tgt := 18) X dL_law_800 (by decide) ?_
          refine g_lv X (lv' := [(0, .ref (b_)), (1, .ref (ax 0)), (2, .ref (ay 0)), (3, .int (nI (i + 3)))]) [1, 2, 3, 0] rfl ?_
          exact ih18 k km kk v od tc al wi (i + 3) hw2 hk2 h802 h122 hI2 (by omega) (by omega)
        have f32_0 := lv_neT (a := 0) e32_0 (by decide)
        have f32_1 := lv_neT (a := 1) e32_1 (by decide)
        have f32_2 := lv_neT (a := 2) e32_2 (by decide)
        have f32_3 := lv_neT (a := 3) e32_3 (by decide)
        have f32_4 := lv_neT (a := 4) e32_4 (by decide)
        have f32_5 := lv_neT (a := 5) e32_5 (by decide)
        have f32_6 := lv_neT (a := 6) e32_6 (by decide)
        have f32_7 := lv_neT (a := 7) e32_7 (by decide)
        have f32_8 := lv_neT (a := 8) e32_8 (by decide)
        have f32_9 := lv_neT (a := 9) e32_9 (by decide)
        have f32_10 := lv_neT (a := 10) e32_10 (by decide)
        have f32_11 := lv_neT (a := 11) e32_11 (by decide)
        have f32_12 := lv_neT (a := 12) e32_12 (by decide)
        have f32_13 := lv_neT (a := 13) e32_13 (by decide)
        have f32_14 := lv_neT (a := 14) e32_14 (by decide)
        have f32_15 := lv_neT (a := 15) e32_15 (by decide)
        have f32_16 := lv_neT (a := 16) e32_16 (by decide)
        have f32_17 := lv_neT (a := 17) e32_17 (by decide)
        have f32_18 := lv_neT (a := 18) e32_18 (by decide)
        have f32_19 := lv_neT (a := 19) e32_19 (by decide)
        have f32_20 := lv_neT (a := 20) e32_20 (by decide)
        have f32_21 := lv_neT (a := 21) e32_21 (by decide)
        have f32_22 := lv_neT (a := 22) e32_22 (by decide)
        have f32_23 := lv_neT (a := 23) e32_23 (by decide)
        have f32_24 := lv_neT (a := 24) e32_24 (by decide)
        have f32_25 := lv_neT (a := 25) e32_25 (by decide)
        have f32_26 := lv_neT (a := 26) e32_26 (by decide)
        refine g_tableOut (pc := 32) (tgt := 797) X dL_law_32 (by omega) (by decide) ?_
        have hw2 := hw
        have hk2 := hwk
        have h802 := h80
        have h122 := h12
        have hI2 := hI
        refine g_iinc (v := nI (i + 3)) (lv' := [(3, .int (nI (i + 3))), (0, .ref (b_)), (1, .ref (ax 0)), (2, .ref (ay 0))]) (pc := 797) X dL_law_797 3 rfl (nI_add i 3) rfl rfl ?_
        refine g_goto (pc := 800) (tgt := 18) X dL_law_800 (by decide) ?_
        refine g_lv X (lv' := [(0, .ref (b_)), (1, .ref (ax 0)), (2, .ref (ay 0)), (3, .int (nI (i + 3)))]) [1, 2, 3, 0] rfl ?_
        exact ih18 k km kk v od tc al wi (i + 3) hw2 hk2 h802 h122 hI2 (by omega) (by omega)
  refine g_lv X (lv' := [(0, .ref (b_)), (1, .ref (ax 0)), (2, .ref (ay 0)), (3, .int (0))]) [3, 2, 1, 0] rfl ?_
  exact L18_1 (L - 0 + 1) k km kk v od tc al wi 0 hw hwk h80 h12 hI (Nat.zero_le _) (Nat.lt_succ_self _)
