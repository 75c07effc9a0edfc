/-! the law: its calls -/
section LWB
variable {g : am_G} {e nw ns room idle b L n0 m0 k : Nat} {xs : Nat → Int32} {Ac Am : Nat → Nat} {S : am_S} {post : Option Value → am_S → Prop}
/-- what holds between two calls of the law: class and reference say the same rows -/
def lw_I (e nw ns room idle b L : Nat) (xs : Nat → Int32) (Ac Am : Nat → Nat) (n0 m0 k : Nat) (S : am_S) : Prop := ∃ (c : cl_S) (r : fr_S) (own : Int32 → Int32 × Int32) (W : Nat), cl_P e nw ns room idle Ac c S ∧ fr_P (fm_U Am S.2.1 S.2.2) r S ∧ S.1 b = some (0, .inl (am_kI, fr_ls L xs)) ∧ fz_J own W ns room c.1 ∧ fc_iU ns c.1 ∧ fr_rel ns room idle c.1 r ∧ W ≤ 6 * k ∧ c.2.2.1 ≤ n0 + 80 * k ∧ c.2.2.2 ≤ m0 + 5460 * k
theorem lw_bnd {a b n c k q : Nat} (h : a ≤ b + q) (hq : q ≤ c) (hb : b ≤ n + c * k) : a ≤ n + c * (k + 1) := by
  rw [Nat.mul_succ]
  omega
theorem lw_x0 {t : Nat} (h : t = 0) : ¬ cl_X t := fun z => by have := z.1; omega
theorem lw_xr {t : Nat} (h : t = 0) : ¬ fr_X t := fun z => by unfold fr_X at z; omega
theorem lw_attach (he : am_gE g e) (hW : am_gW g nw) (hL : L ≤ 2563) (hk : 3 + 5 * k + 5 ≤ L) (I : lw_I e nw ns room idle b L xs Ac Am n0 m0 k S) (K : ∀ S', lw_I e nw ns room idle b L xs Ac Am n0 m0 (k + 1) S' → am_W g y_Lw_law 14 546 post 778 [some (.ref b), some (.ref (Ac 0)), some (.ref (Am 44)), some (.int (nI (3 + 5 * k)))] [] S') : am_W g y_Lw_law 14 546 post 148 [some (.ref b), some (.ref (Ac 0)), some (.ref (Am 44)), some (.int (nI (3 + 5 * k)))] [] S := by
  obtain ⟨c, r, own, W, hC, hM, hb, J, U, H, hW6, hn, hm⟩ := I
  have n5 := J.1.1.2.1
  have hW2 : W + 6 < 2 ^ 31 := by omega
  have hFF := (hC.2.2 0).1 rfl
  refine am_aload_n d_Lw_law_148 rfl (by first | exact am_rvR _ | exact am_rvN | assumption) ?_
  refine am_aload_n d_Lw_law_149 rfl (by first | exact am_rvR _ | exact am_rvN | assumption) ?_
  refine am_iload_n d_Lw_law_150 rfl ?_
  refine am_iconst (v := nI 1) d_Lw_law_151 (by decide) ?_
  first | refine am_iaddN d_Lw_law_152 ?_ | refine am_iadd d_Lw_law_152 ?_
  refine am_iald d_Lw_law_153 am_kI_ok hb rfl (fr_ls_get xs (show 3 + 5 * k + 1 < L by omega)) (by rw [fr_ls_len]; omega) ?_
  refine am_aload_n d_Lw_law_154 rfl (by first | exact am_rvR _ | exact am_rvN | assumption) ?_
  refine am_iload_n d_Lw_law_155 rfl ?_
  refine am_iconst (v := nI 2) d_Lw_law_156 (by decide) ?_
  first | refine am_iaddN d_Lw_law_157 ?_ | refine am_iadd d_Lw_law_157 ?_
  refine am_iald d_Lw_law_158 am_kI_ok hb rfl (fr_ls_get xs (show 3 + 5 * k + 2 < L by omega)) (by rw [fr_ls_len]; omega) ?_
  refine am_cV (b := Ac 0) d_Lw_law_159 v_Lw_21 (vs := [.int (xs (3 + 5 * k + 1)), .int (xs (3 + 5 * k + 2))]) (st := []) rfl rfl (by decide) (Nat.le_of_ble_eq_true rfl) hFF (ff_attach n5 hC J.1 (xs (3 + 5 * k + 1)) (xs (3 + 5 * k + 2))) ?_
  rintro v S1 ⟨rfl, c1, hc1, hb1, hC1, hf1⟩
  have hM1 := hM.kept hf1 hC1.1.1
  have hbb1 := hf1.1 b 0 _ hb (lw_x0 rfl)
  refine am_aload_n d_Lw_law_162 rfl (by first | exact am_rvR _ | exact am_rvN | assumption) ?_
  refine am_aload_n d_Lw_law_163 rfl (by first | exact am_rvR _ | exact am_rvN | assumption) ?_
  refine am_iload_n d_Lw_law_164 rfl ?_
  refine am_iconst (v := nI 1) d_Lw_law_165 (by decide) ?_
  first | refine am_iaddN d_Lw_law_166 ?_ | refine am_iadd d_Lw_law_166 ?_
  refine am_iald d_Lw_law_167 am_kI_ok hbb1 rfl (fr_ls_get xs (show 3 + 5 * k + 1 < L by omega)) (by rw [fr_ls_len]; omega) ?_
  refine am_aload_n d_Lw_law_168 rfl (by first | exact am_rvR _ | exact am_rvN | assumption) ?_
  refine am_iload_n d_Lw_law_169 rfl ?_
  refine am_iconst (v := nI 2) d_Lw_law_170 (by decide) ?_
  first | refine am_iaddN d_Lw_law_171 ?_ | refine am_iadd d_Lw_law_171 ?_
  refine am_iald d_Lw_law_172 am_kI_ok hbb1 rfl (fr_ls_get xs (show 3 + 5 * k + 2 < L by omega)) (by rw [fr_ls_len]; omega) ?_
  refine am_cV (b := Am 44) d_Lw_law_173 v_Lw_25 (vs := [.int (xs (3 + 5 * k + 1)), .int (xs (3 + 5 * k + 2))]) (st := [.int (fc_attach ns c.1 (xs (3 + 5 * k + 1)) (xs (3 + 5 * k + 2))).1]) rfl rfl (by decide) (Nat.le_of_ble_eq_true rfl) hM1.2.1 ((rf_attach (A := fm_U Am S1.2.1 S1.2.2) H J.1 (xs (3 + 5 * k + 1)) (xs (3 + 5 * k + 2))) S1 hM1) ?_
  rintro v S2 ⟨r2, hM2, hf2, rfl, H2⟩
  have hC2 := hC1.kept n5 hf2 hM2.2.2.2.1 hM2.2.2.2.2
  have e1 : S2.2.1 = S1.2.1 := hM2.2.2.2.1
  have e2 : S2.2.2 = S1.2.2 := hM2.2.2.2.2
  have hbb2 := hf2.1 b 0 _ hbb1 (lw_xr rfl)
  have hM3 : fr_P (fm_U Am S2.2.1 S2.2.2) r2 S2 := by rw [e1, e2]; exact hM2
  have fin : lw_I e nw ns room idle b L xs Ac Am n0 m0 (k + 1) S2 := ⟨c1, r2, own, W, hC2, hM3, hbb2, by rw [hc1]; exact (J.attach (xs (3 + 5 * k + 1)) (xs (3 + 5 * k + 2))), by rw [hc1]; exact (U.attach J.1 (xs (3 + 5 * k + 1)) (xs (3 + 5 * k + 2))), by rw [hc1]; exact H2, by omega, lw_bnd hb1.1 (by decide) hn, lw_bnd hb1.2 (by decide) hm⟩
  exact am_icmp_eq (tgt := 778) d_Lw_law_176 (by decide) (fun _ => K S2 fin) (fun q => absurd rfl q)
theorem lw_link (he : am_gE g e) (hW : am_gW g nw) (hL : L ≤ 2563) (hk : 3 + 5 * k + 5 ≤ L) (I : lw_I e nw ns room idle b L xs Ac Am n0 m0 k S) (K : ∀ S', lw_I e nw ns room idle b L xs Ac Am n0 m0 (k + 1) S' → am_W g y_Lw_law 14 546 post 778 [some (.ref b), some (.ref (Ac 0)), some (.ref (Am 44)), some (.int (nI (3 + 5 * k)))] [] S') : am_W g y_Lw_law 14 546 post 181 [some (.ref b), some (.ref (Ac 0)), some (.ref (Am 44)), some (.int (nI (3 + 5 * k)))] [] S := by
  obtain ⟨c, r, own, W, hC, hM, hb, J, U, H, hW6, hn, hm⟩ := I
  have n5 := J.1.1.2.1
  have hW2 : W + 6 < 2 ^ 31 := by omega
  have hFF := (hC.2.2 0).1 rfl
  refine am_aload_n d_Lw_law_181 rfl (by first | exact am_rvR _ | exact am_rvN | assumption) ?_
  refine am_aload_n d_Lw_law_182 rfl (by first | exact am_rvR _ | exact am_rvN | assumption) ?_
  refine am_iload_n d_Lw_law_183 rfl ?_
  refine am_iconst (v := nI 1) d_Lw_law_184 (by decide) ?_
  first | refine am_iaddN d_Lw_law_185 ?_ | refine am_iadd d_Lw_law_185 ?_
  refine am_iald d_Lw_law_186 am_kI_ok hb rfl (fr_ls_get xs (show 3 + 5 * k + 1 < L by omega)) (by rw [fr_ls_len]; omega) ?_
  refine am_aload_n d_Lw_law_187 rfl (by first | exact am_rvR _ | exact am_rvN | assumption) ?_
  refine am_iload_n d_Lw_law_188 rfl ?_
  refine am_iconst (v := nI 2) d_Lw_law_189 (by decide) ?_
  first | refine am_iaddN d_Lw_law_190 ?_ | refine am_iadd d_Lw_law_190 ?_
  refine am_iald d_Lw_law_191 am_kI_ok hb rfl (fr_ls_get xs (show 3 + 5 * k + 2 < L by omega)) (by rw [fr_ls_len]; omega) ?_
  refine am_aload_n d_Lw_law_192 rfl (by first | exact am_rvR _ | exact am_rvN | assumption) ?_
  refine am_iload_n d_Lw_law_193 rfl ?_
  refine am_iconst (v := nI 3) d_Lw_law_194 (by decide) ?_
  first | refine am_iaddN d_Lw_law_195 ?_ | refine am_iadd d_Lw_law_195 ?_
  refine am_iald d_Lw_law_196 am_kI_ok hb rfl (fr_ls_get xs (show 3 + 5 * k + 3 < L by omega)) (by rw [fr_ls_len]; omega) ?_
  refine am_aload_n d_Lw_law_197 rfl (by first | exact am_rvR _ | exact am_rvN | assumption) ?_
  refine am_iload_n d_Lw_law_198 rfl ?_
  refine am_iconst (v := nI 4) d_Lw_law_199 (by decide) ?_
  first | refine am_iaddN d_Lw_law_200 ?_ | refine am_iadd d_Lw_law_200 ?_
  refine am_iald d_Lw_law_201 am_kI_ok hb rfl (fr_ls_get xs (show 3 + 5 * k + 4 < L by omega)) (by rw [fr_ls_len]; omega) ?_
  refine am_cV (b := Ac 0) d_Lw_law_202 v_Lw_26 (vs := [.int (xs (3 + 5 * k + 1)), .int (xs (3 + 5 * k + 2)), .int (xs (3 + 5 * k + 3)), .int (xs (3 + 5 * k + 4))]) (st := []) rfl rfl (by decide) (Nat.le_of_ble_eq_true rfl) hFF (ff_link n5 hC J.1.2.2.1 (xs (3 + 5 * k + 1)) (xs (3 + 5 * k + 2)) (xs (3 + 5 * k + 3)) (xs (3 + 5 * k + 4))) ?_
  rintro v S1 ⟨rfl, c1, hc1, hb1, hC1, hf1⟩
  have hM1 := hM.kept hf1 hC1.1.1
  have hbb1 := hf1.1 b 0 _ hb (lw_x0 rfl)
  refine am_aload_n d_Lw_law_205 rfl (by first | exact am_rvR _ | exact am_rvN | assumption) ?_
  refine am_aload_n d_Lw_law_206 rfl (by first | exact am_rvR _ | exact am_rvN | assumption) ?_
  refine am_iload_n d_Lw_law_207 rfl ?_
  refine am_iconst (v := nI 1) d_Lw_law_208 (by decide) ?_
  first | refine am_iaddN d_Lw_law_209 ?_ | refine am_iadd d_Lw_law_209 ?_
  refine am_iald d_Lw_law_210 am_kI_ok hbb1 rfl (fr_ls_get xs (show 3 + 5 * k + 1 < L by omega)) (by rw [fr_ls_len]; omega) ?_
  refine am_aload_n d_Lw_law_211 rfl (by first | exact am_rvR _ | exact am_rvN | assumption) ?_
  refine am_iload_n d_Lw_law_212 rfl ?_
  refine am_iconst (v := nI 2) d_Lw_law_213 (by decide) ?_
  first | refine am_iaddN d_Lw_law_214 ?_ | refine am_iadd d_Lw_law_214 ?_
  refine am_iald d_Lw_law_215 am_kI_ok hbb1 rfl (fr_ls_get xs (show 3 + 5 * k + 2 < L by omega)) (by rw [fr_ls_len]; omega) ?_
  refine am_aload_n d_Lw_law_216 rfl (by first | exact am_rvR _ | exact am_rvN | assumption) ?_
  refine am_iload_n d_Lw_law_217 rfl ?_
  refine am_iconst (v := nI 3) d_Lw_law_218 (by decide) ?_
  first | refine am_iaddN d_Lw_law_219 ?_ | refine am_iadd d_Lw_law_219 ?_
  refine am_iald d_Lw_law_220 am_kI_ok hbb1 rfl (fr_ls_get xs (show 3 + 5 * k + 3 < L by omega)) (by rw [fr_ls_len]; omega) ?_
  refine am_aload_n d_Lw_law_221 rfl (by first | exact am_rvR _ | exact am_rvN | assumption) ?_
  refine am_iload_n d_Lw_law_222 rfl ?_
  refine am_iconst (v := nI 4) d_Lw_law_223 (by decide) ?_
  first | refine am_iaddN d_Lw_law_224 ?_ | refine am_iadd d_Lw_law_224 ?_
  refine am_iald d_Lw_law_225 am_kI_ok hbb1 rfl (fr_ls_get xs (show 3 + 5 * k + 4 < L by omega)) (by rw [fr_ls_len]; omega) ?_
  refine am_cV (b := Am 44) d_Lw_law_226 v_Lw_30 (vs := [.int (xs (3 + 5 * k + 1)), .int (xs (3 + 5 * k + 2)), .int (xs (3 + 5 * k + 3)), .int (xs (3 + 5 * k + 4))]) (st := [.int (am_b (fc_link ns c.1 (xs (3 + 5 * k + 1)) (xs (3 + 5 * k + 2)) (xs (3 + 5 * k + 3)) (xs (3 + 5 * k + 4))).1)]) rfl rfl (by decide) (Nat.le_of_ble_eq_true rfl) hM1.2.1 ((rf_link (A := fm_U Am S1.2.1 S1.2.2) H J.1 (xs (3 + 5 * k + 1)) (xs (3 + 5 * k + 2)) (xs (3 + 5 * k + 3)) (xs (3 + 5 * k + 4))) S1 hM1) ?_
  rintro v S2 ⟨r2, hM2, hf2, rfl, H2⟩
  have hC2 := hC1.kept n5 hf2 hM2.2.2.2.1 hM2.2.2.2.2
  have e1 : S2.2.1 = S1.2.1 := hM2.2.2.2.1
  have e2 : S2.2.2 = S1.2.2 := hM2.2.2.2.2
  have hbb2 := hf2.1 b 0 _ hbb1 (lw_xr rfl)
  have hM3 : fr_P (fm_U Am S2.2.1 S2.2.2) r2 S2 := by rw [e1, e2]; exact hM2
  have fin : lw_I e nw ns room idle b L xs Ac Am n0 m0 (k + 1) S2 := ⟨c1, r2, own, W, hC2, hM3, hbb2, by rw [hc1]; exact (J.link (xs (3 + 5 * k + 1)) (xs (3 + 5 * k + 2)) (xs (3 + 5 * k + 3)) (xs (3 + 5 * k + 4))), by rw [hc1]; exact (U.link J.1 (xs (3 + 5 * k + 1)) (xs (3 + 5 * k + 2)) (xs (3 + 5 * k + 3)) (xs (3 + 5 * k + 4))), by rw [hc1]; exact H2, by omega, lw_bnd hb1.1 (by decide) hn, lw_bnd hb1.2 (by decide) hm⟩
  exact am_icmp_eq (tgt := 778) d_Lw_law_229 (by decide) (fun _ => K S2 fin) (fun q => absurd rfl q)
theorem lw_turn (he : am_gE g e) (hW : am_gW g nw) (hL : L ≤ 2563) (hk : 3 + 5 * k + 5 ≤ L) (I : lw_I e nw ns room idle b L xs Ac Am n0 m0 k S) (K : ∀ S', lw_I e nw ns room idle b L xs Ac Am n0 m0 (k + 1) S' → am_W g y_Lw_law 14 546 post 778 [some (.ref b), some (.ref (Ac 0)), some (.ref (Am 44)), some (.int (nI (3 + 5 * k)))] [] S') : am_W g y_Lw_law 14 546 post 234 [some (.ref b), some (.ref (Ac 0)), some (.ref (Am 44)), some (.int (nI (3 + 5 * k)))] [] S := by
  obtain ⟨c, r, own, W, hC, hM, hb, J, U, H, hW6, hn, hm⟩ := I
  have n5 := J.1.1.2.1
  have hW2 : W + 6 < 2 ^ 31 := by omega
  have hFF := (hC.2.2 0).1 rfl
  by_cases hz : xs (3 + 5 * k + 3) = 0
  · refine am_aload_n d_Lw_law_234 rfl (by first | exact am_rvR _ | exact am_rvN | assumption) ?_
    refine am_aload_n d_Lw_law_235 rfl (by first | exact am_rvR _ | exact am_rvN | assumption) ?_
    refine am_iload_n d_Lw_law_236 rfl ?_
    refine am_iconst (v := nI 1) d_Lw_law_237 (by decide) ?_
    first | refine am_iaddN d_Lw_law_238 ?_ | refine am_iadd d_Lw_law_238 ?_
    refine am_iald d_Lw_law_239 am_kI_ok hb rfl (fr_ls_get xs (show 3 + 5 * k + 1 < L by omega)) (by rw [fr_ls_len]; omega) ?_
    refine am_aload_n d_Lw_law_240 rfl (by first | exact am_rvR _ | exact am_rvN | assumption) ?_
    refine am_iload_n d_Lw_law_241 rfl ?_
    refine am_iconst (v := nI 2) d_Lw_law_242 (by decide) ?_
    first | refine am_iaddN d_Lw_law_243 ?_ | refine am_iadd d_Lw_law_243 ?_
    refine am_iald d_Lw_law_244 am_kI_ok hb rfl (fr_ls_get xs (show 3 + 5 * k + 2 < L by omega)) (by rw [fr_ls_len]; omega) ?_
    refine am_aload_n d_Lw_law_245 rfl (by first | exact am_rvR _ | exact am_rvN | assumption) ?_
    refine am_iload_n d_Lw_law_246 rfl ?_
    refine am_iconst (v := nI 3) d_Lw_law_247 (by decide) ?_
    first | refine am_iaddN d_Lw_law_248 ?_ | refine am_iadd d_Lw_law_248 ?_
    refine am_iald d_Lw_law_249 am_kI_ok hb rfl (fr_ls_get xs (show 3 + 5 * k + 3 < L by omega)) (by rw [fr_ls_len]; omega) ?_
    refine am_if_eq (tgt := 257) d_Lw_law_250 (by decide) (fun _ => ?_) (fun q => absurd hz q)
    refine am_iconst (v := nI 0) d_Lw_law_257 (by decide) ?_
    refine am_cV (b := Ac 0) d_Lw_law_258 v_Lw_31 (vs := [.int (xs (3 + 5 * k + 1)), .int (xs (3 + 5 * k + 2)), .int (am_b false)]) (st := []) rfl rfl (by decide) (Nat.le_of_ble_eq_true rfl) hFF (ff_turn n5 hC he J.1 (xs (3 + 5 * k + 1)) (xs (3 + 5 * k + 2)) (am_b false) (by first | exact Or.inl rfl | exact Or.inr rfl)) ?_
    rintro v S1 ⟨rfl, c1, hc1, hb1, hC1, hf1⟩
    have hM1 := hM.kept hf1 hC1.1.1
    have hbb1 := hf1.1 b 0 _ hb (lw_x0 rfl)
    refine am_aload_n d_Lw_law_261 rfl (by first | exact am_rvR _ | exact am_rvN | assumption) ?_
    refine am_aload_n d_Lw_law_262 rfl (by first | exact am_rvR _ | exact am_rvN | assumption) ?_
    refine am_iload_n d_Lw_law_263 rfl ?_
    refine am_iconst (v := nI 1) d_Lw_law_264 (by decide) ?_
    first | refine am_iaddN d_Lw_law_265 ?_ | refine am_iadd d_Lw_law_265 ?_
    refine am_iald d_Lw_law_266 am_kI_ok hbb1 rfl (fr_ls_get xs (show 3 + 5 * k + 1 < L by omega)) (by rw [fr_ls_len]; omega) ?_
    refine am_aload_n d_Lw_law_267 rfl (by first | exact am_rvR _ | exact am_rvN | assumption) ?_
    refine am_iload_n d_Lw_law_268 rfl ?_
    refine am_iconst (v := nI 2) d_Lw_law_269 (by decide) ?_
    first | refine am_iaddN d_Lw_law_270 ?_ | refine am_iadd d_Lw_law_270 ?_
    refine am_iald d_Lw_law_271 am_kI_ok hbb1 rfl (fr_ls_get xs (show 3 + 5 * k + 2 < L by omega)) (by rw [fr_ls_len]; omega) ?_
    refine am_aload_n d_Lw_law_272 rfl (by first | exact am_rvR _ | exact am_rvN | assumption) ?_
    refine am_iload_n d_Lw_law_273 rfl ?_
    refine am_iconst (v := nI 3) d_Lw_law_274 (by decide) ?_
    first | refine am_iaddN d_Lw_law_275 ?_ | refine am_iadd d_Lw_law_275 ?_
    refine am_iald d_Lw_law_276 am_kI_ok hbb1 rfl (fr_ls_get xs (show 3 + 5 * k + 3 < L by omega)) (by rw [fr_ls_len]; omega) ?_
    refine am_if_eq (tgt := 284) d_Lw_law_277 (by decide) (fun _ => ?_) (fun q => absurd hz q)
    refine am_iconst (v := nI 0) d_Lw_law_284 (by decide) ?_
    refine am_cV (b := Am 44) d_Lw_law_285 v_Lw_35 (vs := [.int (xs (3 + 5 * k + 1)), .int (xs (3 + 5 * k + 2)), .int (am_b false)]) (st := [.int (am_b (fc_turn ns c.1 (xs (3 + 5 * k + 1)) (xs (3 + 5 * k + 2)) (am_b false)).1)]) rfl rfl (by decide) (Nat.le_of_ble_eq_true rfl) hM1.2.1 ((rf_turn (A := fm_U Am S1.2.1 S1.2.2) H J U (xs (3 + 5 * k + 1)) (xs (3 + 5 * k + 2)) false) S1 hM1) ?_
    rintro v S2 ⟨r2, hM2, hf2, rfl, H2⟩
    have hC2 := hC1.kept n5 hf2 hM2.2.2.2.1 hM2.2.2.2.2
    have e1 : S2.2.1 = S1.2.1 := hM2.2.2.2.1
    have e2 : S2.2.2 = S1.2.2 := hM2.2.2.2.2
    have hbb2 := hf2.1 b 0 _ hbb1 (lw_xr rfl)
    have hM3 : fr_P (fm_U Am S2.2.1 S2.2.2) r2 S2 := by rw [e1, e2]; exact hM2
    have fin : lw_I e nw ns room idle b L xs Ac Am n0 m0 (k + 1) S2 := ⟨c1, r2, own, W, hC2, hM3, hbb2, by rw [hc1]; exact (J.turn (xs (3 + 5 * k + 1)) (xs (3 + 5 * k + 2)) (am_b false) (by first | exact Or.inl rfl | exact Or.inr rfl)), by rw [hc1]; exact (U.turn J (xs (3 + 5 * k + 1)) (xs (3 + 5 * k + 2)) (am_b false) (by first | exact Or.inl rfl | exact Or.inr rfl)), by rw [hc1]; exact H2, by omega, lw_bnd hb1.1 (by decide) hn, lw_bnd hb1.2 (by decide) hm⟩
    exact am_icmp_eq (tgt := 778) d_Lw_law_288 (by decide) (fun _ => K S2 fin) (fun q => absurd rfl q)
  · refine am_aload_n d_Lw_law_234 rfl (by first | exact am_rvR _ | exact am_rvN | assumption) ?_
    refine am_aload_n d_Lw_law_235 rfl (by first | exact am_rvR _ | exact am_rvN | assumption) ?_
    refine am_iload_n d_Lw_law_236 rfl ?_
    refine am_iconst (v := nI 1) d_Lw_law_237 (by decide) ?_
    first | refine am_iaddN d_Lw_law_238 ?_ | refine am_iadd d_Lw_law_238 ?_
    refine am_iald d_Lw_law_239 am_kI_ok hb rfl (fr_ls_get xs (show 3 + 5 * k + 1 < L by omega)) (by rw [fr_ls_len]; omega) ?_
    refine am_aload_n d_Lw_law_240 rfl (by first | exact am_rvR _ | exact am_rvN | assumption) ?_
    refine am_iload_n d_Lw_law_241 rfl ?_
    refine am_iconst (v := nI 2) d_Lw_law_242 (by decide) ?_
    first | refine am_iaddN d_Lw_law_243 ?_ | refine am_iadd d_Lw_law_243 ?_
    refine am_iald d_Lw_law_244 am_kI_ok hb rfl (fr_ls_get xs (show 3 + 5 * k + 2 < L by omega)) (by rw [fr_ls_len]; omega) ?_
    refine am_aload_n d_Lw_law_245 rfl (by first | exact am_rvR _ | exact am_rvN | assumption) ?_
    refine am_iload_n d_Lw_law_246 rfl ?_
    refine am_iconst (v := nI 3) d_Lw_law_247 (by decide) ?_
    first | refine am_iaddN d_Lw_law_248 ?_ | refine am_iadd d_Lw_law_248 ?_
    refine am_iald d_Lw_law_249 am_kI_ok hb rfl (fr_ls_get xs (show 3 + 5 * k + 3 < L by omega)) (by rw [fr_ls_len]; omega) ?_
    refine am_if_eq (tgt := 257) d_Lw_law_250 (by decide) (fun q => absurd q hz) (fun _ => ?_)
    refine am_iconst (v := nI 1) d_Lw_law_253 (by decide) ?_
    refine am_goto (tgt := 258) d_Lw_law_254 (by decide) ?_
    refine am_cV (b := Ac 0) d_Lw_law_258 v_Lw_31 (vs := [.int (xs (3 + 5 * k + 1)), .int (xs (3 + 5 * k + 2)), .int (am_b true)]) (st := []) rfl rfl (by decide) (Nat.le_of_ble_eq_true rfl) hFF (ff_turn n5 hC he J.1 (xs (3 + 5 * k + 1)) (xs (3 + 5 * k + 2)) (am_b true) (by first | exact Or.inl rfl | exact Or.inr rfl)) ?_
    rintro v S1 ⟨rfl, c1, hc1, hb1, hC1, hf1⟩
    have hM1 := hM.kept hf1 hC1.1.1
    have hbb1 := hf1.1 b 0 _ hb (lw_x0 rfl)
    refine am_aload_n d_Lw_law_261 rfl (by first | exact am_rvR _ | exact am_rvN | assumption) ?_
    refine am_aload_n d_Lw_law_262 rfl (by first | exact am_rvR _ | exact am_rvN | assumption) ?_
    refine am_iload_n d_Lw_law_263 rfl ?_
    refine am_iconst (v := nI 1) d_Lw_law_264 (by decide) ?_
    first | refine am_iaddN d_Lw_law_265 ?_ | refine am_iadd d_Lw_law_265 ?_
    refine am_iald d_Lw_law_266 am_kI_ok hbb1 rfl (fr_ls_get xs (show 3 + 5 * k + 1 < L by omega)) (by rw [fr_ls_len]; omega) ?_
    refine am_aload_n d_Lw_law_267 rfl (by first | exact am_rvR _ | exact am_rvN | assumption) ?_
    refine am_iload_n d_Lw_law_268 rfl ?_
    refine am_iconst (v := nI 2) d_Lw_law_269 (by decide) ?_
    first | refine am_iaddN d_Lw_law_270 ?_ | refine am_iadd d_Lw_law_270 ?_
    refine am_iald d_Lw_law_271 am_kI_ok hbb1 rfl (fr_ls_get xs (show 3 + 5 * k + 2 < L by omega)) (by rw [fr_ls_len]; omega) ?_
    refine am_aload_n d_Lw_law_272 rfl (by first | exact am_rvR _ | exact am_rvN | assumption) ?_
    refine am_iload_n d_Lw_law_273 rfl ?_
    refine am_iconst (v := nI 3) d_Lw_law_274 (by decide) ?_
    first | refine am_iaddN d_Lw_law_275 ?_ | refine am_iadd d_Lw_law_275 ?_
    refine am_iald d_Lw_law_276 am_kI_ok hbb1 rfl (fr_ls_get xs (show 3 + 5 * k + 3 < L by omega)) (by rw [fr_ls_len]; omega) ?_
    refine am_if_eq (tgt := 284) d_Lw_law_277 (by decide) (fun q => absurd q hz) (fun _ => ?_)
    refine am_iconst (v := nI 1) d_Lw_law_280 (by decide) ?_
    refine am_goto (tgt := 285) d_Lw_law_281 (by decide) ?_
    refine am_cV (b := Am 44) d_Lw_law_285 v_Lw_35 (vs := [.int (xs (3 + 5 * k + 1)), .int (xs (3 + 5 * k + 2)), .int (am_b true)]) (st := [.int (am_b (fc_turn ns c.1 (xs (3 + 5 * k + 1)) (xs (3 + 5 * k + 2)) (am_b true)).1)]) rfl rfl (by decide) (Nat.le_of_ble_eq_true rfl) hM1.2.1 ((rf_turn (A := fm_U Am S1.2.1 S1.2.2) H J U (xs (3 + 5 * k + 1)) (xs (3 + 5 * k + 2)) true) S1 hM1) ?_
    rintro v S2 ⟨r2, hM2, hf2, rfl, H2⟩
    have hC2 := hC1.kept n5 hf2 hM2.2.2.2.1 hM2.2.2.2.2
    have e1 : S2.2.1 = S1.2.1 := hM2.2.2.2.1
    have e2 : S2.2.2 = S1.2.2 := hM2.2.2.2.2
    have hbb2 := hf2.1 b 0 _ hbb1 (lw_xr rfl)
    have hM3 : fr_P (fm_U Am S2.2.1 S2.2.2) r2 S2 := by rw [e1, e2]; exact hM2
    have fin : lw_I e nw ns room idle b L xs Ac Am n0 m0 (k + 1) S2 := ⟨c1, r2, own, W, hC2, hM3, hbb2, by rw [hc1]; exact (J.turn (xs (3 + 5 * k + 1)) (xs (3 + 5 * k + 2)) (am_b true) (by first | exact Or.inl rfl | exact Or.inr rfl)), by rw [hc1]; exact (U.turn J (xs (3 + 5 * k + 1)) (xs (3 + 5 * k + 2)) (am_b true) (by first | exact Or.inl rfl | exact Or.inr rfl)), by rw [hc1]; exact H2, by omega, lw_bnd hb1.1 (by decide) hn, lw_bnd hb1.2 (by decide) hm⟩
    exact am_icmp_eq (tgt := 778) d_Lw_law_288 (by decide) (fun _ => K S2 fin) (fun q => absurd rfl q)
theorem lw_guard (he : am_gE g e) (hW : am_gW g nw) (hL : L ≤ 2563) (hk : 3 + 5 * k + 5 ≤ L) (I : lw_I e nw ns room idle b L xs Ac Am n0 m0 k S) (K : ∀ S', lw_I e nw ns room idle b L xs Ac Am n0 m0 (k + 1) S' → am_W g y_Lw_law 14 546 post 778 [some (.ref b), some (.ref (Ac 0)), some (.ref (Am 44)), some (.int (nI (3 + 5 * k)))] [] S') : am_W g y_Lw_law 14 546 post 293 [some (.ref b), some (.ref (Ac 0)), some (.ref (Am 44)), some (.int (nI (3 + 5 * k)))] [] S := by
  obtain ⟨c, r, own, W, hC, hM, hb, J, U, H, hW6, hn, hm⟩ := I
  have n5 := J.1.1.2.1
  have hW2 : W + 6 < 2 ^ 31 := by omega
  have hFF := (hC.2.2 0).1 rfl
  refine am_aload_n d_Lw_law_293 rfl (by first | exact am_rvR _ | exact am_rvN | assumption) ?_
  refine am_aload_n d_Lw_law_294 rfl (by first | exact am_rvR _ | exact am_rvN | assumption) ?_
  refine am_iload_n d_Lw_law_295 rfl ?_
  refine am_iconst (v := nI 1) d_Lw_law_296 (by decide) ?_
  first | refine am_iaddN d_Lw_law_297 ?_ | refine am_iadd d_Lw_law_297 ?_
  refine am_iald d_Lw_law_298 am_kI_ok hb rfl (fr_ls_get xs (show 3 + 5 * k + 1 < L by omega)) (by rw [fr_ls_len]; omega) ?_
  refine am_aload_n d_Lw_law_299 rfl (by first | exact am_rvR _ | exact am_rvN | assumption) ?_
  refine am_iload_n d_Lw_law_300 rfl ?_
  refine am_iconst (v := nI 2) d_Lw_law_301 (by decide) ?_
  first | refine am_iaddN d_Lw_law_302 ?_ | refine am_iadd d_Lw_law_302 ?_
  refine am_iald d_Lw_law_303 am_kI_ok hb rfl (fr_ls_get xs (show 3 + 5 * k + 2 < L by omega)) (by rw [fr_ls_len]; omega) ?_
  refine am_aload_n d_Lw_law_304 rfl (by first | exact am_rvR _ | exact am_rvN | assumption) ?_
  refine am_iload_n d_Lw_law_305 rfl ?_
  refine am_iconst (v := nI 3) d_Lw_law_306 (by decide) ?_
  first | refine am_iaddN d_Lw_law_307 ?_ | refine am_iadd d_Lw_law_307 ?_
  refine am_iald d_Lw_law_308 am_kI_ok hb rfl (fr_ls_get xs (show 3 + 5 * k + 3 < L by omega)) (by rw [fr_ls_len]; omega) ?_
  refine am_aload_n d_Lw_law_309 rfl (by first | exact am_rvR _ | exact am_rvN | assumption) ?_
  refine am_iload_n d_Lw_law_310 rfl ?_
  refine am_iconst (v := nI 4) d_Lw_law_311 (by decide) ?_
  first | refine am_iaddN d_Lw_law_312 ?_ | refine am_iadd d_Lw_law_312 ?_
  refine am_iald d_Lw_law_313 am_kI_ok hb rfl (fr_ls_get xs (show 3 + 5 * k + 4 < L by omega)) (by rw [fr_ls_len]; omega) ?_
  refine am_cV (b := Ac 0) d_Lw_law_314 v_Lw_36 (vs := [.int (xs (3 + 5 * k + 1)), .int (xs (3 + 5 * k + 2)), .int (xs (3 + 5 * k + 3)), .int (xs (3 + 5 * k + 4))]) (st := []) rfl rfl (by decide) (Nat.le_of_ble_eq_true rfl) hFF (ff_guard n5 hC he J.1.2.2.2.2.1 (xs (3 + 5 * k + 1)) (xs (3 + 5 * k + 2)) (xs (3 + 5 * k + 3)) (xs (3 + 5 * k + 4))) ?_
  rintro v S1 ⟨rfl, c1, hc1, hb1, hC1, hf1⟩
  have hM1 := hM.kept hf1 hC1.1.1
  have hbb1 := hf1.1 b 0 _ hb (lw_x0 rfl)
  refine am_aload_n d_Lw_law_317 rfl (by first | exact am_rvR _ | exact am_rvN | assumption) ?_
  refine am_aload_n d_Lw_law_318 rfl (by first | exact am_rvR _ | exact am_rvN | assumption) ?_
  refine am_iload_n d_Lw_law_319 rfl ?_
  refine am_iconst (v := nI 1) d_Lw_law_320 (by decide) ?_
  first | refine am_iaddN d_Lw_law_321 ?_ | refine am_iadd d_Lw_law_321 ?_
  refine am_iald d_Lw_law_322 am_kI_ok hbb1 rfl (fr_ls_get xs (show 3 + 5 * k + 1 < L by omega)) (by rw [fr_ls_len]; omega) ?_
  refine am_aload_n d_Lw_law_323 rfl (by first | exact am_rvR _ | exact am_rvN | assumption) ?_
  refine am_iload_n d_Lw_law_324 rfl ?_
  refine am_iconst (v := nI 2) d_Lw_law_325 (by decide) ?_
  first | refine am_iaddN d_Lw_law_326 ?_ | refine am_iadd d_Lw_law_326 ?_
  refine am_iald d_Lw_law_327 am_kI_ok hbb1 rfl (fr_ls_get xs (show 3 + 5 * k + 2 < L by omega)) (by rw [fr_ls_len]; omega) ?_
  refine am_aload_n d_Lw_law_328 rfl (by first | exact am_rvR _ | exact am_rvN | assumption) ?_
  refine am_iload_n d_Lw_law_329 rfl ?_
  refine am_iconst (v := nI 3) d_Lw_law_330 (by decide) ?_
  first | refine am_iaddN d_Lw_law_331 ?_ | refine am_iadd d_Lw_law_331 ?_
  refine am_iald d_Lw_law_332 am_kI_ok hbb1 rfl (fr_ls_get xs (show 3 + 5 * k + 3 < L by omega)) (by rw [fr_ls_len]; omega) ?_
  refine am_aload_n d_Lw_law_333 rfl (by first | exact am_rvR _ | exact am_rvN | assumption) ?_
  refine am_iload_n d_Lw_law_334 rfl ?_
  refine am_iconst (v := nI 4) d_Lw_law_335 (by decide) ?_
  first | refine am_iaddN d_Lw_law_336 ?_ | refine am_iadd d_Lw_law_336 ?_
  refine am_iald d_Lw_law_337 am_kI_ok hbb1 rfl (fr_ls_get xs (show 3 + 5 * k + 4 < L by omega)) (by rw [fr_ls_len]; omega) ?_
  refine am_cV (b := Am 44) d_Lw_law_338 v_Lw_40 (vs := [.int (xs (3 + 5 * k + 1)), .int (xs (3 + 5 * k + 2)), .int (xs (3 + 5 * k + 3)), .int (xs (3 + 5 * k + 4))]) (st := [.int (fc_guard ns c.1 (xs (3 + 5 * k + 1)) (xs (3 + 5 * k + 2)) (xs (3 + 5 * k + 3)) (xs (3 + 5 * k + 4))).1]) rfl rfl (by decide) (Nat.le_of_ble_eq_true rfl) hM1.2.1 ((rf_guard (A := fm_U Am S1.2.1 S1.2.2) H J.1 (xs (3 + 5 * k + 1)) (xs (3 + 5 * k + 2)) (xs (3 + 5 * k + 3)) (xs (3 + 5 * k + 4))) S1 hM1) ?_
  rintro v S2 ⟨r2, hM2, hf2, rfl, H2⟩
  have hC2 := hC1.kept n5 hf2 hM2.2.2.2.1 hM2.2.2.2.2
  have e1 : S2.2.1 = S1.2.1 := hM2.2.2.2.1
  have e2 : S2.2.2 = S1.2.2 := hM2.2.2.2.2
  have hbb2 := hf2.1 b 0 _ hbb1 (lw_xr rfl)
  have hM3 : fr_P (fm_U Am S2.2.1 S2.2.2) r2 S2 := by rw [e1, e2]; exact hM2
  have fin : lw_I e nw ns room idle b L xs Ac Am n0 m0 (k + 1) S2 := ⟨c1, r2, own, W, hC2, hM3, hbb2, by rw [hc1]; exact (J.guard (xs (3 + 5 * k + 1)) (xs (3 + 5 * k + 2)) (xs (3 + 5 * k + 3)) (xs (3 + 5 * k + 4))), by rw [hc1]; exact (U.guard J.1 (xs (3 + 5 * k + 1)) (xs (3 + 5 * k + 2)) (xs (3 + 5 * k + 3)) (xs (3 + 5 * k + 4))), by rw [hc1]; exact H2, by omega, lw_bnd hb1.1 (by decide) hn, lw_bnd hb1.2 (by decide) hm⟩
  exact am_icmp_eq (tgt := 778) d_Lw_law_341 (by decide) (fun _ => K S2 fin) (fun q => absurd rfl q)
theorem lw_unguard (he : am_gE g e) (hW : am_gW g nw) (hL : L ≤ 2563) (hk : 3 + 5 * k + 5 ≤ L) (I : lw_I e nw ns room idle b L xs Ac Am n0 m0 k S) (K : ∀ S', lw_I e nw ns room idle b L xs Ac Am n0 m0 (k + 1) S' → am_W g y_Lw_law 14 546 post 778 [some (.ref b), some (.ref (Ac 0)), some (.ref (Am 44)), some (.int (nI (3 + 5 * k)))] [] S') : am_W g y_Lw_law 14 546 post 346 [some (.ref b), some (.ref (Ac 0)), some (.ref (Am 44)), some (.int (nI (3 + 5 * k)))] [] S := by
  obtain ⟨c, r, own, W, hC, hM, hb, J, U, H, hW6, hn, hm⟩ := I
  have n5 := J.1.1.2.1
  have hW2 : W + 6 < 2 ^ 31 := by omega
  have hFF := (hC.2.2 0).1 rfl
  refine am_aload_n d_Lw_law_346 rfl (by first | exact am_rvR _ | exact am_rvN | assumption) ?_
  refine am_aload_n d_Lw_law_347 rfl (by first | exact am_rvR _ | exact am_rvN | assumption) ?_
  refine am_iload_n d_Lw_law_348 rfl ?_
  refine am_iconst (v := nI 1) d_Lw_law_349 (by decide) ?_
  first | refine am_iaddN d_Lw_law_350 ?_ | refine am_iadd d_Lw_law_350 ?_
  refine am_iald d_Lw_law_351 am_kI_ok hb rfl (fr_ls_get xs (show 3 + 5 * k + 1 < L by omega)) (by rw [fr_ls_len]; omega) ?_
  refine am_aload_n d_Lw_law_352 rfl (by first | exact am_rvR _ | exact am_rvN | assumption) ?_
  refine am_iload_n d_Lw_law_353 rfl ?_
  refine am_iconst (v := nI 2) d_Lw_law_354 (by decide) ?_
  first | refine am_iaddN d_Lw_law_355 ?_ | refine am_iadd d_Lw_law_355 ?_
  refine am_iald d_Lw_law_356 am_kI_ok hb rfl (fr_ls_get xs (show 3 + 5 * k + 2 < L by omega)) (by rw [fr_ls_len]; omega) ?_
  refine am_cV (b := Ac 0) d_Lw_law_357 v_Lw_41 (vs := [.int (xs (3 + 5 * k + 1)), .int (xs (3 + 5 * k + 2))]) (st := []) rfl rfl (by decide) (Nat.le_of_ble_eq_true rfl) hFF (ff_unguard n5 hC J.1.2.2.2.2.1 (xs (3 + 5 * k + 1)) (xs (3 + 5 * k + 2))) ?_
  rintro v S1 ⟨rfl, c1, hc1, hb1, hC1, hf1⟩
  have hM1 := hM.kept hf1 hC1.1.1
  have hbb1 := hf1.1 b 0 _ hb (lw_x0 rfl)
  refine am_aload_n d_Lw_law_360 rfl (by first | exact am_rvR _ | exact am_rvN | assumption) ?_
  refine am_aload_n d_Lw_law_361 rfl (by first | exact am_rvR _ | exact am_rvN | assumption) ?_
  refine am_iload_n d_Lw_law_362 rfl ?_
  refine am_iconst (v := nI 1) d_Lw_law_363 (by decide) ?_
  first | refine am_iaddN d_Lw_law_364 ?_ | refine am_iadd d_Lw_law_364 ?_
  refine am_iald d_Lw_law_365 am_kI_ok hbb1 rfl (fr_ls_get xs (show 3 + 5 * k + 1 < L by omega)) (by rw [fr_ls_len]; omega) ?_
  refine am_aload_n d_Lw_law_366 rfl (by first | exact am_rvR _ | exact am_rvN | assumption) ?_
  refine am_iload_n d_Lw_law_367 rfl ?_
  refine am_iconst (v := nI 2) d_Lw_law_368 (by decide) ?_
  first | refine am_iaddN d_Lw_law_369 ?_ | refine am_iadd d_Lw_law_369 ?_
  refine am_iald d_Lw_law_370 am_kI_ok hbb1 rfl (fr_ls_get xs (show 3 + 5 * k + 2 < L by omega)) (by rw [fr_ls_len]; omega) ?_
  refine am_cV (b := Am 44) d_Lw_law_371 v_Lw_44 (vs := [.int (xs (3 + 5 * k + 1)), .int (xs (3 + 5 * k + 2))]) (st := [.int (fc_unguard ns c.1 (xs (3 + 5 * k + 1)) (xs (3 + 5 * k + 2))).1]) rfl rfl (by decide) (Nat.le_of_ble_eq_true rfl) hM1.2.1 ((rf_unguard (A := fm_U Am S1.2.1 S1.2.2) H J.1 (xs (3 + 5 * k + 1)) (xs (3 + 5 * k + 2))) S1 hM1) ?_
  rintro v S2 ⟨r2, hM2, hf2, rfl, H2⟩
  have hC2 := hC1.kept n5 hf2 hM2.2.2.2.1 hM2.2.2.2.2
  have e1 : S2.2.1 = S1.2.1 := hM2.2.2.2.1
  have e2 : S2.2.2 = S1.2.2 := hM2.2.2.2.2
  have hbb2 := hf2.1 b 0 _ hbb1 (lw_xr rfl)
  have hM3 : fr_P (fm_U Am S2.2.1 S2.2.2) r2 S2 := by rw [e1, e2]; exact hM2
  have fin : lw_I e nw ns room idle b L xs Ac Am n0 m0 (k + 1) S2 := ⟨c1, r2, own, W, hC2, hM3, hbb2, by rw [hc1]; exact (J.unguard (xs (3 + 5 * k + 1)) (xs (3 + 5 * k + 2))), by rw [hc1]; exact (U.unguard J.1 (xs (3 + 5 * k + 1)) (xs (3 + 5 * k + 2))), by rw [hc1]; exact H2, by omega, lw_bnd hb1.1 (by decide) hn, lw_bnd hb1.2 (by decide) hm⟩
  exact am_icmp_eq (tgt := 778) d_Lw_law_374 (by decide) (fun _ => K S2 fin) (fun q => absurd rfl q)
theorem lw_send (he : am_gE g e) (hW : am_gW g nw) (hL : L ≤ 2563) (hk : 3 + 5 * k + 5 ≤ L) (I : lw_I e nw ns room idle b L xs Ac Am n0 m0 k S) (K : ∀ S', lw_I e nw ns room idle b L xs Ac Am n0 m0 (k + 1) S' → am_W g y_Lw_law 14 546 post 778 [some (.ref b), some (.ref (Ac 0)), some (.ref (Am 44)), some (.int (nI (3 + 5 * k)))] [] S') : am_W g y_Lw_law 14 546 post 379 [some (.ref b), some (.ref (Ac 0)), some (.ref (Am 44)), some (.int (nI (3 + 5 * k)))] [] S := by
  obtain ⟨c, r, own, W, hC, hM, hb, J, U, H, hW6, hn, hm⟩ := I
  have n5 := J.1.1.2.1
  have hW2 : W + 6 < 2 ^ 31 := by omega
  have hFF := (hC.2.2 0).1 rfl
  refine am_aload_n d_Lw_law_379 rfl (by first | exact am_rvR _ | exact am_rvN | assumption) ?_
  refine am_aload_n d_Lw_law_380 rfl (by first | exact am_rvR _ | exact am_rvN | assumption) ?_
  refine am_iload_n d_Lw_law_381 rfl ?_
  refine am_iconst (v := nI 1) d_Lw_law_382 (by decide) ?_
  first | refine am_iaddN d_Lw_law_383 ?_ | refine am_iadd d_Lw_law_383 ?_
  refine am_iald d_Lw_law_384 am_kI_ok hb rfl (fr_ls_get xs (show 3 + 5 * k + 1 < L by omega)) (by rw [fr_ls_len]; omega) ?_
  refine am_aload_n d_Lw_law_385 rfl (by first | exact am_rvR _ | exact am_rvN | assumption) ?_
  refine am_iload_n d_Lw_law_386 rfl ?_
  refine am_iconst (v := nI 2) d_Lw_law_387 (by decide) ?_
  first | refine am_iaddN d_Lw_law_388 ?_ | refine am_iadd d_Lw_law_388 ?_
  refine am_iald d_Lw_law_389 am_kI_ok hb rfl (fr_ls_get xs (show 3 + 5 * k + 2 < L by omega)) (by rw [fr_ls_len]; omega) ?_
  refine am_aload_n d_Lw_law_390 rfl (by first | exact am_rvR _ | exact am_rvN | assumption) ?_
  refine am_iload_n d_Lw_law_391 rfl ?_
  refine am_iconst (v := nI 3) d_Lw_law_392 (by decide) ?_
  first | refine am_iaddN d_Lw_law_393 ?_ | refine am_iadd d_Lw_law_393 ?_
  refine am_iald d_Lw_law_394 am_kI_ok hb rfl (fr_ls_get xs (show 3 + 5 * k + 3 < L by omega)) (by rw [fr_ls_len]; omega) ?_
  refine am_cV (b := Ac 0) d_Lw_law_395 v_Lw_45 (vs := [.int (xs (3 + 5 * k + 1)), .int (xs (3 + 5 * k + 2)), .int (xs (3 + 5 * k + 3))]) (st := []) rfl rfl (by decide) (Nat.le_of_ble_eq_true rfl) hFF (ff_send n5 hC he J.1 (xs (3 + 5 * k + 1)) (xs (3 + 5 * k + 2)) (xs (3 + 5 * k + 3))) ?_
  rintro v S1 ⟨rfl, c1, hc1, hb1, hC1, hf1⟩
  have hM1 := hM.kept hf1 hC1.1.1
  have hbb1 := hf1.1 b 0 _ hb (lw_x0 rfl)
  refine am_aload_n d_Lw_law_398 rfl (by first | exact am_rvR _ | exact am_rvN | assumption) ?_
  refine am_aload_n d_Lw_law_399 rfl (by first | exact am_rvR _ | exact am_rvN | assumption) ?_
  refine am_iload_n d_Lw_law_400 rfl ?_
  refine am_iconst (v := nI 1) d_Lw_law_401 (by decide) ?_
  first | refine am_iaddN d_Lw_law_402 ?_ | refine am_iadd d_Lw_law_402 ?_
  refine am_iald d_Lw_law_403 am_kI_ok hbb1 rfl (fr_ls_get xs (show 3 + 5 * k + 1 < L by omega)) (by rw [fr_ls_len]; omega) ?_
  refine am_aload_n d_Lw_law_404 rfl (by first | exact am_rvR _ | exact am_rvN | assumption) ?_
  refine am_iload_n d_Lw_law_405 rfl ?_
  refine am_iconst (v := nI 2) d_Lw_law_406 (by decide) ?_
  first | refine am_iaddN d_Lw_law_407 ?_ | refine am_iadd d_Lw_law_407 ?_
  refine am_iald d_Lw_law_408 am_kI_ok hbb1 rfl (fr_ls_get xs (show 3 + 5 * k + 2 < L by omega)) (by rw [fr_ls_len]; omega) ?_
  refine am_aload_n d_Lw_law_409 rfl (by first | exact am_rvR _ | exact am_rvN | assumption) ?_
  refine am_iload_n d_Lw_law_410 rfl ?_
  refine am_iconst (v := nI 3) d_Lw_law_411 (by decide) ?_
  first | refine am_iaddN d_Lw_law_412 ?_ | refine am_iadd d_Lw_law_412 ?_
  refine am_iald d_Lw_law_413 am_kI_ok hbb1 rfl (fr_ls_get xs (show 3 + 5 * k + 3 < L by omega)) (by rw [fr_ls_len]; omega) ?_
  refine am_cV (b := Am 44) d_Lw_law_414 v_Lw_49 (vs := [.int (xs (3 + 5 * k + 1)), .int (xs (3 + 5 * k + 2)), .int (xs (3 + 5 * k + 3))]) (st := [.int (am_b (fc_send c.1 (xs (3 + 5 * k + 1)) (xs (3 + 5 * k + 2)) (xs (3 + 5 * k + 3))).1)]) rfl rfl (by decide) (Nat.le_of_ble_eq_true rfl) hM1.2.1 ((rf_send (A := fm_U Am S1.2.1 S1.2.2) H J U (xs (3 + 5 * k + 1)) (xs (3 + 5 * k + 2)) (xs (3 + 5 * k + 3))) S1 hM1) ?_
  rintro v S2 ⟨r2, hM2, hf2, rfl, H2⟩
  have hC2 := hC1.kept n5 hf2 hM2.2.2.2.1 hM2.2.2.2.2
  have e1 : S2.2.1 = S1.2.1 := hM2.2.2.2.1
  have e2 : S2.2.2 = S1.2.2 := hM2.2.2.2.2
  have hbb2 := hf2.1 b 0 _ hbb1 (lw_xr rfl)
  have hM3 : fr_P (fm_U Am S2.2.1 S2.2.2) r2 S2 := by rw [e1, e2]; exact hM2
  have fin : lw_I e nw ns room idle b L xs Ac Am n0 m0 (k + 1) S2 := ⟨c1, r2, own, W, hC2, hM3, hbb2, by rw [hc1]; exact (J.send (xs (3 + 5 * k + 1)) (xs (3 + 5 * k + 2)) (xs (3 + 5 * k + 3))), by rw [hc1]; exact (U.send J.1 (xs (3 + 5 * k + 1)) (xs (3 + 5 * k + 2)) (xs (3 + 5 * k + 3))), by rw [hc1]; exact H2, by omega, lw_bnd hb1.1 (by decide) hn, lw_bnd hb1.2 (by decide) hm⟩
  exact am_icmp_eq (tgt := 778) d_Lw_law_417 (by decide) (fun _ => K S2 fin) (fun q => absurd rfl q)
theorem lw_carry (he : am_gE g e) (hW : am_gW g nw) (hL : L ≤ 2563) (hk : 3 + 5 * k + 5 ≤ L) (I : lw_I e nw ns room idle b L xs Ac Am n0 m0 k S) (K : ∀ S', lw_I e nw ns room idle b L xs Ac Am n0 m0 (k + 1) S' → am_W g y_Lw_law 14 546 post 778 [some (.ref b), some (.ref (Ac 0)), some (.ref (Am 44)), some (.int (nI (3 + 5 * k)))] [] S') : am_W g y_Lw_law 14 546 post 422 [some (.ref b), some (.ref (Ac 0)), some (.ref (Am 44)), some (.int (nI (3 + 5 * k)))] [] S := by
  obtain ⟨c, r, own, W, hC, hM, hb, J, U, H, hW6, hn, hm⟩ := I
  have n5 := J.1.1.2.1
  have hW2 : W + 6 < 2 ^ 31 := by omega
  have hFF := (hC.2.2 0).1 rfl
  refine am_aload_n d_Lw_law_422 rfl (by first | exact am_rvR _ | exact am_rvN | assumption) ?_
  refine am_aload_n d_Lw_law_423 rfl (by first | exact am_rvR _ | exact am_rvN | assumption) ?_
  refine am_iload_n d_Lw_law_424 rfl ?_
  refine am_iconst (v := nI 1) d_Lw_law_425 (by decide) ?_
  first | refine am_iaddN d_Lw_law_426 ?_ | refine am_iadd d_Lw_law_426 ?_
  refine am_iald d_Lw_law_427 am_kI_ok hb rfl (fr_ls_get xs (show 3 + 5 * k + 1 < L by omega)) (by rw [fr_ls_len]; omega) ?_
  refine am_aload_n d_Lw_law_428 rfl (by first | exact am_rvR _ | exact am_rvN | assumption) ?_
  refine am_iload_n d_Lw_law_429 rfl ?_
  refine am_iconst (v := nI 2) d_Lw_law_430 (by decide) ?_
  first | refine am_iaddN d_Lw_law_431 ?_ | refine am_iadd d_Lw_law_431 ?_
  refine am_iald d_Lw_law_432 am_kI_ok hb rfl (fr_ls_get xs (show 3 + 5 * k + 2 < L by omega)) (by rw [fr_ls_len]; omega) ?_
  refine am_cV (b := Ac 0) d_Lw_law_433 v_Lw_50 (vs := [.int (xs (3 + 5 * k + 1)), .int (xs (3 + 5 * k + 2))]) (st := []) rfl rfl (by decide) (Nat.le_of_ble_eq_true rfl) hFF (ff_carry n5 hC he J.1 (xs (3 + 5 * k + 1)) (xs (3 + 5 * k + 2))) ?_
  rintro v S1 ⟨rfl, c1, hc1, hb1, hC1, hf1⟩
  have hM1 := hM.kept hf1 hC1.1.1
  have hbb1 := hf1.1 b 0 _ hb (lw_x0 rfl)
  refine am_aload_n d_Lw_law_436 rfl (by first | exact am_rvR _ | exact am_rvN | assumption) ?_
  refine am_aload_n d_Lw_law_437 rfl (by first | exact am_rvR _ | exact am_rvN | assumption) ?_
  refine am_iload_n d_Lw_law_438 rfl ?_
  refine am_iconst (v := nI 1) d_Lw_law_439 (by decide) ?_
  first | refine am_iaddN d_Lw_law_440 ?_ | refine am_iadd d_Lw_law_440 ?_
  refine am_iald d_Lw_law_441 am_kI_ok hbb1 rfl (fr_ls_get xs (show 3 + 5 * k + 1 < L by omega)) (by rw [fr_ls_len]; omega) ?_
  refine am_aload_n d_Lw_law_442 rfl (by first | exact am_rvR _ | exact am_rvN | assumption) ?_
  refine am_iload_n d_Lw_law_443 rfl ?_
  refine am_iconst (v := nI 2) d_Lw_law_444 (by decide) ?_
  first | refine am_iaddN d_Lw_law_445 ?_ | refine am_iadd d_Lw_law_445 ?_
  refine am_iald d_Lw_law_446 am_kI_ok hbb1 rfl (fr_ls_get xs (show 3 + 5 * k + 2 < L by omega)) (by rw [fr_ls_len]; omega) ?_
  refine am_cV (b := Am 44) d_Lw_law_447 v_Lw_54 (vs := [.int (xs (3 + 5 * k + 1)), .int (xs (3 + 5 * k + 2))]) (st := [.int (am_b (fc_carry ns c.1 (xs (3 + 5 * k + 1)) (xs (3 + 5 * k + 2))).1)]) rfl rfl (by decide) (Nat.le_of_ble_eq_true rfl) hM1.2.1 ((rf_carry (A := fm_U Am S1.2.1 S1.2.2) H J U (xs (3 + 5 * k + 1)) (xs (3 + 5 * k + 2))) S1 hM1) ?_
  rintro v S2 ⟨r2, hM2, hf2, rfl, H2⟩
  have hC2 := hC1.kept n5 hf2 hM2.2.2.2.1 hM2.2.2.2.2
  have e1 : S2.2.1 = S1.2.1 := hM2.2.2.2.1
  have e2 : S2.2.2 = S1.2.2 := hM2.2.2.2.2
  have hbb2 := hf2.1 b 0 _ hbb1 (lw_xr rfl)
  have hM3 : fr_P (fm_U Am S2.2.1 S2.2.2) r2 S2 := by rw [e1, e2]; exact hM2
  have fin : lw_I e nw ns room idle b L xs Ac Am n0 m0 (k + 1) S2 := ⟨c1, r2, own, W, hC2, hM3, hbb2, by rw [hc1]; exact (J.carry (xs (3 + 5 * k + 1)) (xs (3 + 5 * k + 2))), by rw [hc1]; exact (U.carry J.1 (xs (3 + 5 * k + 1)) (xs (3 + 5 * k + 2))), by rw [hc1]; exact H2, by omega, lw_bnd hb1.1 (by decide) hn, lw_bnd hb1.2 (by decide) hm⟩
  exact am_icmp_eq (tgt := 778) d_Lw_law_450 (by decide) (fun _ => K S2 fin) (fun q => absurd rfl q)
theorem lw_obey (he : am_gE g e) (hW : am_gW g nw) (hL : L ≤ 2563) (hk : 3 + 5 * k + 5 ≤ L) (I : lw_I e nw ns room idle b L xs Ac Am n0 m0 k S) (K : ∀ S', lw_I e nw ns room idle b L xs Ac Am n0 m0 (k + 1) S' → am_W g y_Lw_law 14 546 post 778 [some (.ref b), some (.ref (Ac 0)), some (.ref (Am 44)), some (.int (nI (3 + 5 * k)))] [] S') : am_W g y_Lw_law 14 546 post 455 [some (.ref b), some (.ref (Ac 0)), some (.ref (Am 44)), some (.int (nI (3 + 5 * k)))] [] S := by
  obtain ⟨c, r, own, W, hC, hM, hb, J, U, H, hW6, hn, hm⟩ := I
  have n5 := J.1.1.2.1
  have hW2 : W + 6 < 2 ^ 31 := by omega
  have hFF := (hC.2.2 0).1 rfl
  refine am_aload_n d_Lw_law_455 rfl (by first | exact am_rvR _ | exact am_rvN | assumption) ?_
  refine am_aload_n d_Lw_law_456 rfl (by first | exact am_rvR _ | exact am_rvN | assumption) ?_
  refine am_iload_n d_Lw_law_457 rfl ?_
  refine am_iconst (v := nI 1) d_Lw_law_458 (by decide) ?_
  first | refine am_iaddN d_Lw_law_459 ?_ | refine am_iadd d_Lw_law_459 ?_
  refine am_iald d_Lw_law_460 am_kI_ok hb rfl (fr_ls_get xs (show 3 + 5 * k + 1 < L by omega)) (by rw [fr_ls_len]; omega) ?_
  refine am_cV (b := Ac 0) d_Lw_law_461 v_Lw_55 (vs := [.int (xs (3 + 5 * k + 1))]) (st := []) rfl rfl (by decide) (Nat.le_of_ble_eq_true rfl) hFF (ff_obey n5 hC he J.1 (xs (3 + 5 * k + 1))) ?_
  rintro v S1 ⟨rfl, c1, hc1, hb1, hC1, hf1⟩
  have hM1 := hM.kept hf1 hC1.1.1
  have hbb1 := hf1.1 b 0 _ hb (lw_x0 rfl)
  refine am_aload_n d_Lw_law_464 rfl (by first | exact am_rvR _ | exact am_rvN | assumption) ?_
  refine am_aload_n d_Lw_law_465 rfl (by first | exact am_rvR _ | exact am_rvN | assumption) ?_
  refine am_iload_n d_Lw_law_466 rfl ?_
  refine am_iconst (v := nI 1) d_Lw_law_467 (by decide) ?_
  first | refine am_iaddN d_Lw_law_468 ?_ | refine am_iadd d_Lw_law_468 ?_
  refine am_iald d_Lw_law_469 am_kI_ok hbb1 rfl (fr_ls_get xs (show 3 + 5 * k + 1 < L by omega)) (by rw [fr_ls_len]; omega) ?_
  refine am_cV (b := Am 44) d_Lw_law_470 v_Lw_59 (vs := [.int (xs (3 + 5 * k + 1))]) (st := [.int (fc_obey ns room c.1 (xs (3 + 5 * k + 1))).1]) rfl rfl (by decide) (Nat.le_of_ble_eq_true rfl) hM1.2.1 ((rf_obey (A := fm_U Am S1.2.1 S1.2.2) H J U (xs (3 + 5 * k + 1))) S1 hM1) ?_
  rintro v S2 ⟨r2, hM2, hf2, rfl, H2⟩
  have hC2 := hC1.kept n5 hf2 hM2.2.2.2.1 hM2.2.2.2.2
  have e1 : S2.2.1 = S1.2.1 := hM2.2.2.2.1
  have e2 : S2.2.2 = S1.2.2 := hM2.2.2.2.2
  have hbb2 := hf2.1 b 0 _ hbb1 (lw_xr rfl)
  have hM3 : fr_P (fm_U Am S2.2.1 S2.2.2) r2 S2 := by rw [e1, e2]; exact hM2
  have fin : lw_I e nw ns room idle b L xs Ac Am n0 m0 (k + 1) S2 := ⟨c1, r2, own, W, hC2, hM3, hbb2, by rw [hc1]; exact (J.obey (xs (3 + 5 * k + 1))), by rw [hc1]; exact (U.obey J.1 (xs (3 + 5 * k + 1))), by rw [hc1]; exact H2, by omega, lw_bnd hb1.1 (by decide) hn, lw_bnd hb1.2 (by decide) hm⟩
  exact am_icmp_eq (tgt := 778) d_Lw_law_473 (by decide) (fun _ => K S2 fin) (fun q => absurd rfl q)
theorem lw_report (he : am_gE g e) (hW : am_gW g nw) (hL : L ≤ 2563) (hk : 3 + 5 * k + 5 ≤ L) (I : lw_I e nw ns room idle b L xs Ac Am n0 m0 k S) (K : ∀ S', lw_I e nw ns room idle b L xs Ac Am n0 m0 (k + 1) S' → am_W g y_Lw_law 14 546 post 778 [some (.ref b), some (.ref (Ac 0)), some (.ref (Am 44)), some (.int (nI (3 + 5 * k)))] [] S') : am_W g y_Lw_law 14 546 post 478 [some (.ref b), some (.ref (Ac 0)), some (.ref (Am 44)), some (.int (nI (3 + 5 * k)))] [] S := by
  obtain ⟨c, r, own, W, hC, hM, hb, J, U, H, hW6, hn, hm⟩ := I
  have n5 := J.1.1.2.1
  have hW2 : W + 6 < 2 ^ 31 := by omega
  have hFF := (hC.2.2 0).1 rfl
  refine am_aload_n d_Lw_law_478 rfl (by first | exact am_rvR _ | exact am_rvN | assumption) ?_
  refine am_aload_n d_Lw_law_479 rfl (by first | exact am_rvR _ | exact am_rvN | assumption) ?_
  refine am_iload_n d_Lw_law_480 rfl ?_
  refine am_iconst (v := nI 1) d_Lw_law_481 (by decide) ?_
  first | refine am_iaddN d_Lw_law_482 ?_ | refine am_iadd d_Lw_law_482 ?_
  refine am_iald d_Lw_law_483 am_kI_ok hb rfl (fr_ls_get xs (show 3 + 5 * k + 1 < L by omega)) (by rw [fr_ls_len]; omega) ?_
  refine am_cV (b := Ac 0) d_Lw_law_484 v_Lw_60 (vs := [.int (xs (3 + 5 * k + 1))]) (st := []) rfl rfl (by decide) (Nat.le_of_ble_eq_true rfl) hFF (ff_report n5 hC he hW J.1 (xs (3 + 5 * k + 1)) (fun u hu => by have := (J.short hu).1; omega) (fun u hu => by obtain ⟨o', w', -, Jn⟩ := J.report hW2 (xs (3 + 5 * k + 1)); have := (Jn.short hu).1; omega)) ?_
  rintro v S1 ⟨rfl, c1, hc1, hb1, hC1, hf1⟩
  have hM1 := hM.kept hf1 hC1.1.1
  have hbb1 := hf1.1 b 0 _ hb (lw_x0 rfl)
  refine am_aload_n d_Lw_law_487 rfl (by first | exact am_rvR _ | exact am_rvN | assumption) ?_
  refine am_aload_n d_Lw_law_488 rfl (by first | exact am_rvR _ | exact am_rvN | assumption) ?_
  refine am_iload_n d_Lw_law_489 rfl ?_
  refine am_iconst (v := nI 1) d_Lw_law_490 (by decide) ?_
  first | refine am_iaddN d_Lw_law_491 ?_ | refine am_iadd d_Lw_law_491 ?_
  refine am_iald d_Lw_law_492 am_kI_ok hbb1 rfl (fr_ls_get xs (show 3 + 5 * k + 1 < L by omega)) (by rw [fr_ls_len]; omega) ?_
  refine am_cV (b := Am 44) d_Lw_law_493 v_Lw_63 (vs := [.int (xs (3 + 5 * k + 1))]) (st := [.int (fc_report ns c.1 (xs (3 + 5 * k + 1))).1]) rfl rfl (by decide) (Nat.le_of_ble_eq_true rfl) hM1.2.1 ((rf_report (A := fm_U Am S1.2.1 S1.2.2) H J hW2 (xs (3 + 5 * k + 1))) S1 hM1) ?_
  rintro v S2 ⟨r2, hM2, hf2, rfl, H2⟩
  have hC2 := hC1.kept n5 hf2 hM2.2.2.2.1 hM2.2.2.2.2
  have e1 : S2.2.1 = S1.2.1 := hM2.2.2.2.1
  have e2 : S2.2.2 = S1.2.2 := hM2.2.2.2.2
  have hbb2 := hf2.1 b 0 _ hbb1 (lw_xr rfl)
  have hM3 : fr_P (fm_U Am S2.2.1 S2.2.2) r2 S2 := by rw [e1, e2]; exact hM2
  obtain ⟨own', W', hW', Jn⟩ := J.report hW2 (xs (3 + 5 * k + 1))
  have fin : lw_I e nw ns room idle b L xs Ac Am n0 m0 (k + 1) S2 := ⟨c1, r2, own', W', hC2, hM3, hbb2, by rw [hc1]; exact Jn, by rw [hc1]; exact (U.report J.1 (xs (3 + 5 * k + 1))), by rw [hc1]; exact H2, by omega, lw_bnd hb1.1 (by decide) hn, lw_bnd hb1.2 (by decide) hm⟩
  exact am_icmp_eq (tgt := 778) d_Lw_law_496 (by decide) (fun _ => K S2 fin) (fun q => absurd rfl q)
theorem lw_probe (he : am_gE g e) (hW : am_gW g nw) (hL : L ≤ 2563) (hk : 3 + 5 * k + 5 ≤ L) (I : lw_I e nw ns room idle b L xs Ac Am n0 m0 k S) (K : ∀ S', lw_I e nw ns room idle b L xs Ac Am n0 m0 (k + 1) S' → am_W g y_Lw_law 14 546 post 778 [some (.ref b), some (.ref (Ac 0)), some (.ref (Am 44)), some (.int (nI (3 + 5 * k)))] [] S') : am_W g y_Lw_law 14 546 post 501 [some (.ref b), some (.ref (Ac 0)), some (.ref (Am 44)), some (.int (nI (3 + 5 * k)))] [] S := by
  obtain ⟨c, r, own, W, hC, hM, hb, J, U, H, hW6, hn, hm⟩ := I
  have n5 := J.1.1.2.1
  have hW2 : W + 6 < 2 ^ 31 := by omega
  have hFF := (hC.2.2 0).1 rfl
  refine am_aload_n d_Lw_law_501 rfl (by first | exact am_rvR _ | exact am_rvN | assumption) ?_
  refine am_cV (b := Ac 0) d_Lw_law_502 v_Lw_64 (vs := []) (st := []) rfl rfl (by decide) (Nat.le_of_ble_eq_true rfl) hFF (ff_probe n5 hC he J.1 ) ?_
  rintro v S1 ⟨rfl, c1, hc1, hb1, hC1, hf1⟩
  have hM1 := hM.kept hf1 hC1.1.1
  have hbb1 := hf1.1 b 0 _ hb (lw_x0 rfl)
  refine am_aload_n d_Lw_law_505 rfl (by first | exact am_rvR _ | exact am_rvN | assumption) ?_
  refine am_cV (b := Am 44) d_Lw_law_506 v_Lw_68 (vs := []) (st := [.int (am_b (fc_probe ns c.1).1)]) rfl rfl (by decide) (Nat.le_of_ble_eq_true rfl) hM1.2.1 ((rf_probe (A := fm_U Am S1.2.1 S1.2.2) H J U) S1 hM1) ?_
  rintro v S2 ⟨r2, hM2, hf2, rfl, H2⟩
  have hC2 := hC1.kept n5 hf2 hM2.2.2.2.1 hM2.2.2.2.2
  have e1 : S2.2.1 = S1.2.1 := hM2.2.2.2.1
  have e2 : S2.2.2 = S1.2.2 := hM2.2.2.2.2
  have hbb2 := hf2.1 b 0 _ hbb1 (lw_xr rfl)
  have hM3 : fr_P (fm_U Am S2.2.1 S2.2.2) r2 S2 := by rw [e1, e2]; exact hM2
  have fin : lw_I e nw ns room idle b L xs Ac Am n0 m0 (k + 1) S2 := ⟨c1, r2, own, W, hC2, hM3, hbb2, by rw [hc1]; exact (J.probe), by rw [hc1]; exact (U.probe J.1), by rw [hc1]; exact H2, by omega, lw_bnd hb1.1 (by decide) hn, lw_bnd hb1.2 (by decide) hm⟩
  exact am_icmp_eq (tgt := 778) d_Lw_law_509 (by decide) (fun _ => K S2 fin) (fun q => absurd rfl q)
theorem lw_tick (he : am_gE g e) (hW : am_gW g nw) (hL : L ≤ 2563) (hk : 3 + 5 * k + 5 ≤ L) (I : lw_I e nw ns room idle b L xs Ac Am n0 m0 k S) (K : ∀ S', lw_I e nw ns room idle b L xs Ac Am n0 m0 (k + 1) S' → am_W g y_Lw_law 14 546 post 778 [some (.ref b), some (.ref (Ac 0)), some (.ref (Am 44)), some (.int (nI (3 + 5 * k)))] [] S') : am_W g y_Lw_law 14 546 post 514 [some (.ref b), some (.ref (Ac 0)), some (.ref (Am 44)), some (.int (nI (3 + 5 * k)))] [] S := by
  obtain ⟨c, r, own, W, hC, hM, hb, J, U, H, hW6, hn, hm⟩ := I
  have n5 := J.1.1.2.1
  have hW2 : W + 6 < 2 ^ 31 := by omega
  have hFF := (hC.2.2 0).1 rfl
  refine am_aload_n d_Lw_law_514 rfl (by first | exact am_rvR _ | exact am_rvN | assumption) ?_
  refine am_cV (b := Ac 0) d_Lw_law_515 v_Lw_69 (vs := []) (st := []) rfl rfl (by decide) (Nat.le_of_ble_eq_true rfl) hFF (ff_tick n5 hC he J.1 (fun i hi => by have h1 := (J.short hi).2; have h2 := J.1.r8 i hi; omega)) ?_
  rintro v S1 ⟨rfl, c1, hc1, hb1, hC1, hf1⟩
  have hM1 := hM.kept hf1 hC1.1.1
  have hbb1 := hf1.1 b 0 _ hb (lw_x0 rfl)
  refine am_aload_n d_Lw_law_518 rfl (by first | exact am_rvR _ | exact am_rvN | assumption) ?_
  refine am_cV (b := Am 44) d_Lw_law_519 v_Lw_73 (vs := []) (st := [.int (fc_tick ns idle c.1).1]) rfl rfl (by decide) (Nat.le_of_ble_eq_true rfl) hM1.2.1 ((rf_tick (A := fm_U Am S1.2.1 S1.2.2) H J U) S1 hM1) ?_
  rintro v S2 ⟨r2, hM2, hf2, rfl, H2⟩
  have hC2 := hC1.kept n5 hf2 hM2.2.2.2.1 hM2.2.2.2.2
  have e1 : S2.2.1 = S1.2.1 := hM2.2.2.2.1
  have e2 : S2.2.2 = S1.2.2 := hM2.2.2.2.2
  have hbb2 := hf2.1 b 0 _ hbb1 (lw_xr rfl)
  have hM3 : fr_P (fm_U Am S2.2.1 S2.2.2) r2 S2 := by rw [e1, e2]; exact hM2
  have fin : lw_I e nw ns room idle b L xs Ac Am n0 m0 (k + 1) S2 := ⟨c1, r2, own, W, hC2, hM3, hbb2, by rw [hc1]; exact (J.tick), by rw [hc1]; exact (U.tick J.1), by rw [hc1]; exact H2, by omega, lw_bnd hb1.1 (by decide) hn, lw_bnd hb1.2 (by decide) hm⟩
  exact am_icmp_eq (tgt := 778) d_Lw_law_522 (by decide) (fun _ => K S2 fin) (fun q => absurd rfl q)
theorem lw_waiting (he : am_gE g e) (hW : am_gW g nw) (hL : L ≤ 2563) (hk : 3 + 5 * k + 5 ≤ L) (I : lw_I e nw ns room idle b L xs Ac Am n0 m0 k S) (K : ∀ S', lw_I e nw ns room idle b L xs Ac Am n0 m0 (k + 1) S' → am_W g y_Lw_law 14 546 post 778 [some (.ref b), some (.ref (Ac 0)), some (.ref (Am 44)), some (.int (nI (3 + 5 * k)))] [] S') : am_W g y_Lw_law 14 546 post 527 [some (.ref b), some (.ref (Ac 0)), some (.ref (Am 44)), some (.int (nI (3 + 5 * k)))] [] S := by
  obtain ⟨c, r, own, W, hC, hM, hb, J, U, H, hW6, hn, hm⟩ := I
  have n5 := J.1.1.2.1
  have hW2 : W + 6 < 2 ^ 31 := by omega
  have hFF := (hC.2.2 0).1 rfl
  refine am_aload_n d_Lw_law_527 rfl (by first | exact am_rvR _ | exact am_rvN | assumption) ?_
  refine am_aload_n d_Lw_law_528 rfl (by first | exact am_rvR _ | exact am_rvN | assumption) ?_
  refine am_iload_n d_Lw_law_529 rfl ?_
  refine am_iconst (v := nI 1) d_Lw_law_530 (by decide) ?_
  first | refine am_iaddN d_Lw_law_531 ?_ | refine am_iadd d_Lw_law_531 ?_
  refine am_iald d_Lw_law_532 am_kI_ok hb rfl (fr_ls_get xs (show 3 + 5 * k + 1 < L by omega)) (by rw [fr_ls_len]; omega) ?_
  refine am_aload_n d_Lw_law_533 rfl (by first | exact am_rvR _ | exact am_rvN | assumption) ?_
  refine am_iload_n d_Lw_law_534 rfl ?_
  refine am_iconst (v := nI 2) d_Lw_law_535 (by decide) ?_
  first | refine am_iaddN d_Lw_law_536 ?_ | refine am_iadd d_Lw_law_536 ?_
  refine am_iald d_Lw_law_537 am_kI_ok hb rfl (fr_ls_get xs (show 3 + 5 * k + 2 < L by omega)) (by rw [fr_ls_len]; omega) ?_
  refine am_cV (b := Ac 0) d_Lw_law_538 v_Lw_74 (vs := [.int (xs (3 + 5 * k + 1)), .int (xs (3 + 5 * k + 2))]) (st := []) rfl rfl (by decide) (Nat.le_of_ble_eq_true rfl) hFF (ff_waiting n5 hC (xs (3 + 5 * k + 1)) (xs (3 + 5 * k + 2))) ?_
  rintro v S1 ⟨rfl, hS1⟩
  subst S1
  refine am_aload_n d_Lw_law_541 rfl (by first | exact am_rvR _ | exact am_rvN | assumption) ?_
  refine am_aload_n d_Lw_law_542 rfl (by first | exact am_rvR _ | exact am_rvN | assumption) ?_
  refine am_iload_n d_Lw_law_543 rfl ?_
  refine am_iconst (v := nI 1) d_Lw_law_544 (by decide) ?_
  first | refine am_iaddN d_Lw_law_545 ?_ | refine am_iadd d_Lw_law_545 ?_
  refine am_iald d_Lw_law_546 am_kI_ok hb rfl (fr_ls_get xs (show 3 + 5 * k + 1 < L by omega)) (by rw [fr_ls_len]; omega) ?_
  refine am_aload_n d_Lw_law_547 rfl (by first | exact am_rvR _ | exact am_rvN | assumption) ?_
  refine am_iload_n d_Lw_law_548 rfl ?_
  refine am_iconst (v := nI 2) d_Lw_law_549 (by decide) ?_
  first | refine am_iaddN d_Lw_law_550 ?_ | refine am_iadd d_Lw_law_550 ?_
  refine am_iald d_Lw_law_551 am_kI_ok hb rfl (fr_ls_get xs (show 3 + 5 * k + 2 < L by omega)) (by rw [fr_ls_len]; omega) ?_
  refine am_cV (b := Am 44) d_Lw_law_552 v_Lw_77 (vs := [.int (xs (3 + 5 * k + 1)), .int (xs (3 + 5 * k + 2))]) (st := [.int (fc_waiting ns c.1 (xs (3 + 5 * k + 1)) (xs (3 + 5 * k + 2)))]) rfl rfl (by decide) (Nat.le_of_ble_eq_true rfl) hM.2.1 ((rf_waiting (A := fm_U Am S.2.1 S.2.2) H J.1 (xs (3 + 5 * k + 1)) (xs (3 + 5 * k + 2))) S hM) ?_
  rintro v S2 ⟨r2, hM2, hf2, rfl, hr2⟩
  subst hr2
  have hC2 := hC.kept n5 hf2 hM2.2.2.2.1 hM2.2.2.2.2
  have e1 : S2.2.1 = S.2.1 := hM2.2.2.2.1
  have e2 : S2.2.2 = S.2.2 := hM2.2.2.2.2
  have hbb2 := hf2.1 b 0 _ hb (lw_xr rfl)
  have hM3 : fr_P (fm_U Am S2.2.1 S2.2.2) r2 S2 := by rw [e1, e2]; exact hM2
  have fin : lw_I e nw ns room idle b L xs Ac Am n0 m0 (k + 1) S2 := ⟨c, r2, own, W, hC2, hM3, hbb2, J, U, H, by omega, by omega, by omega⟩
  exact am_icmp_eq (tgt := 778) d_Lw_law_555 (by decide) (fun _ => K S2 fin) (fun q => absurd rfl q)
theorem lw_rule (he : am_gE g e) (hW : am_gW g nw) (hL : L ≤ 2563) (hk : 3 + 5 * k + 5 ≤ L) (I : lw_I e nw ns room idle b L xs Ac Am n0 m0 k S) (K : ∀ S', lw_I e nw ns room idle b L xs Ac Am n0 m0 (k + 1) S' → am_W g y_Lw_law 14 546 post 778 [some (.ref b), some (.ref (Ac 0)), some (.ref (Am 44)), some (.int (nI (3 + 5 * k)))] [] S') : am_W g y_Lw_law 14 546 post 560 [some (.ref b), some (.ref (Ac 0)), some (.ref (Am 44)), some (.int (nI (3 + 5 * k)))] [] S := by
  obtain ⟨c, r, own, W, hC, hM, hb, J, U, H, hW6, hn, hm⟩ := I
  have n5 := J.1.1.2.1
  have hW2 : W + 6 < 2 ^ 31 := by omega
  have hFF := (hC.2.2 0).1 rfl
  refine am_aload_n d_Lw_law_560 rfl (by first | exact am_rvR _ | exact am_rvN | assumption) ?_
  refine am_aload_n d_Lw_law_561 rfl (by first | exact am_rvR _ | exact am_rvN | assumption) ?_
  refine am_iload_n d_Lw_law_562 rfl ?_
  refine am_iconst (v := nI 1) d_Lw_law_563 (by decide) ?_
  first | refine am_iaddN d_Lw_law_564 ?_ | refine am_iadd d_Lw_law_564 ?_
  refine am_iald d_Lw_law_565 am_kI_ok hb rfl (fr_ls_get xs (show 3 + 5 * k + 1 < L by omega)) (by rw [fr_ls_len]; omega) ?_
  refine am_aload_n d_Lw_law_566 rfl (by first | exact am_rvR _ | exact am_rvN | assumption) ?_
  refine am_iload_n d_Lw_law_567 rfl ?_
  refine am_iconst (v := nI 2) d_Lw_law_568 (by decide) ?_
  first | refine am_iaddN d_Lw_law_569 ?_ | refine am_iadd d_Lw_law_569 ?_
  refine am_iald d_Lw_law_570 am_kI_ok hb rfl (fr_ls_get xs (show 3 + 5 * k + 2 < L by omega)) (by rw [fr_ls_len]; omega) ?_
  refine am_aload_n d_Lw_law_571 rfl (by first | exact am_rvR _ | exact am_rvN | assumption) ?_
  refine am_iload_n d_Lw_law_572 rfl ?_
  refine am_iconst (v := nI 3) d_Lw_law_573 (by decide) ?_
  first | refine am_iaddN d_Lw_law_574 ?_ | refine am_iadd d_Lw_law_574 ?_
  refine am_iald d_Lw_law_575 am_kI_ok hb rfl (fr_ls_get xs (show 3 + 5 * k + 3 < L by omega)) (by rw [fr_ls_len]; omega) ?_
  refine am_aload_n d_Lw_law_576 rfl (by first | exact am_rvR _ | exact am_rvN | assumption) ?_
  refine am_iload_n d_Lw_law_577 rfl ?_
  refine am_iconst (v := nI 4) d_Lw_law_578 (by decide) ?_
  first | refine am_iaddN d_Lw_law_579 ?_ | refine am_iadd d_Lw_law_579 ?_
  refine am_iald d_Lw_law_580 am_kI_ok hb rfl (fr_ls_get xs (show 3 + 5 * k + 4 < L by omega)) (by rw [fr_ls_len]; omega) ?_
  refine am_cV (b := Ac 0) d_Lw_law_581 v_Lw_78 (vs := [.int (xs (3 + 5 * k + 1)), .int (xs (3 + 5 * k + 2)), .int (xs (3 + 5 * k + 3)), .int (xs (3 + 5 * k + 4))]) (st := []) rfl rfl (by decide) (Nat.le_of_ble_eq_true rfl) hFF (ff_rule n5 hC J.1.2.2.2.2.2.1 J.1.1.2.2.2 (xs (3 + 5 * k + 1)) (xs (3 + 5 * k + 2)) (xs (3 + 5 * k + 3)) (xs (3 + 5 * k + 4))) ?_
  rintro v S1 ⟨rfl, hS1⟩
  subst S1
  refine am_aload_n d_Lw_law_584 rfl (by first | exact am_rvR _ | exact am_rvN | assumption) ?_
  refine am_aload_n d_Lw_law_585 rfl (by first | exact am_rvR _ | exact am_rvN | assumption) ?_
  refine am_iload_n d_Lw_law_586 rfl ?_
  refine am_iconst (v := nI 1) d_Lw_law_587 (by decide) ?_
  first | refine am_iaddN d_Lw_law_588 ?_ | refine am_iadd d_Lw_law_588 ?_
  refine am_iald d_Lw_law_589 am_kI_ok hb rfl (fr_ls_get xs (show 3 + 5 * k + 1 < L by omega)) (by rw [fr_ls_len]; omega) ?_
  refine am_aload_n d_Lw_law_590 rfl (by first | exact am_rvR _ | exact am_rvN | assumption) ?_
  refine am_iload_n d_Lw_law_591 rfl ?_
  refine am_iconst (v := nI 2) d_Lw_law_592 (by decide) ?_
  first | refine am_iaddN d_Lw_law_593 ?_ | refine am_iadd d_Lw_law_593 ?_
  refine am_iald d_Lw_law_594 am_kI_ok hb rfl (fr_ls_get xs (show 3 + 5 * k + 2 < L by omega)) (by rw [fr_ls_len]; omega) ?_
  refine am_aload_n d_Lw_law_595 rfl (by first | exact am_rvR _ | exact am_rvN | assumption) ?_
  refine am_iload_n d_Lw_law_596 rfl ?_
  refine am_iconst (v := nI 3) d_Lw_law_597 (by decide) ?_
  first | refine am_iaddN d_Lw_law_598 ?_ | refine am_iadd d_Lw_law_598 ?_
  refine am_iald d_Lw_law_599 am_kI_ok hb rfl (fr_ls_get xs (show 3 + 5 * k + 3 < L by omega)) (by rw [fr_ls_len]; omega) ?_
  refine am_aload_n d_Lw_law_600 rfl (by first | exact am_rvR _ | exact am_rvN | assumption) ?_
  refine am_iload_n d_Lw_law_601 rfl ?_
  refine am_iconst (v := nI 4) d_Lw_law_602 (by decide) ?_
  first | refine am_iaddN d_Lw_law_603 ?_ | refine am_iadd d_Lw_law_603 ?_
  refine am_iald d_Lw_law_604 am_kI_ok hb rfl (fr_ls_get xs (show 3 + 5 * k + 4 < L by omega)) (by rw [fr_ls_len]; omega) ?_
  refine am_cV (b := Am 44) d_Lw_law_605 v_Lw_81 (vs := [.int (xs (3 + 5 * k + 1)), .int (xs (3 + 5 * k + 2)), .int (xs (3 + 5 * k + 3)), .int (xs (3 + 5 * k + 4))]) (st := [.int (fc_rule ns c.1 (xs (3 + 5 * k + 1)) (xs (3 + 5 * k + 2)) (xs (3 + 5 * k + 3)) (xs (3 + 5 * k + 4)))]) rfl rfl (by decide) (Nat.le_of_ble_eq_true rfl) hM.2.1 ((rf_rule (A := fm_U Am S.2.1 S.2.2) H J.1 (xs (3 + 5 * k + 1)) (xs (3 + 5 * k + 2)) (xs (3 + 5 * k + 3)) (xs (3 + 5 * k + 4))) S hM) ?_
  rintro v S2 ⟨r2, hM2, hf2, rfl, hr2⟩
  subst hr2
  have hC2 := hC.kept n5 hf2 hM2.2.2.2.1 hM2.2.2.2.2
  have e1 : S2.2.1 = S.2.1 := hM2.2.2.2.1
  have e2 : S2.2.2 = S.2.2 := hM2.2.2.2.2
  have hbb2 := hf2.1 b 0 _ hb (lw_xr rfl)
  have hM3 : fr_P (fm_U Am S2.2.1 S2.2.2) r2 S2 := by rw [e1, e2]; exact hM2
  have fin : lw_I e nw ns room idle b L xs Ac Am n0 m0 (k + 1) S2 := ⟨c, r2, own, W, hC2, hM3, hbb2, J, U, H, by omega, by omega, by omega⟩
  exact am_icmp_eq (tgt := 778) d_Lw_law_608 (by decide) (fun _ => K S2 fin) (fun q => absurd rfl q)
theorem lw_hits (he : am_gE g e) (hW : am_gW g nw) (hL : L ≤ 2563) (hk : 3 + 5 * k + 5 ≤ L) (I : lw_I e nw ns room idle b L xs Ac Am n0 m0 k S) (K : ∀ S', lw_I e nw ns room idle b L xs Ac Am n0 m0 (k + 1) S' → am_W g y_Lw_law 14 546 post 778 [some (.ref b), some (.ref (Ac 0)), some (.ref (Am 44)), some (.int (nI (3 + 5 * k)))] [] S') : am_W g y_Lw_law 14 546 post 613 [some (.ref b), some (.ref (Ac 0)), some (.ref (Am 44)), some (.int (nI (3 + 5 * k)))] [] S := by
  obtain ⟨c, r, own, W, hC, hM, hb, J, U, H, hW6, hn, hm⟩ := I
  have n5 := J.1.1.2.1
  have hW2 : W + 6 < 2 ^ 31 := by omega
  have hFF := (hC.2.2 0).1 rfl
  refine am_aload_n d_Lw_law_613 rfl (by first | exact am_rvR _ | exact am_rvN | assumption) ?_
  refine am_aload_n d_Lw_law_614 rfl (by first | exact am_rvR _ | exact am_rvN | assumption) ?_
  refine am_iload_n d_Lw_law_615 rfl ?_
  refine am_iconst (v := nI 1) d_Lw_law_616 (by decide) ?_
  first | refine am_iaddN d_Lw_law_617 ?_ | refine am_iadd d_Lw_law_617 ?_
  refine am_iald d_Lw_law_618 am_kI_ok hb rfl (fr_ls_get xs (show 3 + 5 * k + 1 < L by omega)) (by rw [fr_ls_len]; omega) ?_
  refine am_aload_n d_Lw_law_619 rfl (by first | exact am_rvR _ | exact am_rvN | assumption) ?_
  refine am_iload_n d_Lw_law_620 rfl ?_
  refine am_iconst (v := nI 2) d_Lw_law_621 (by decide) ?_
  first | refine am_iaddN d_Lw_law_622 ?_ | refine am_iadd d_Lw_law_622 ?_
  refine am_iald d_Lw_law_623 am_kI_ok hb rfl (fr_ls_get xs (show 3 + 5 * k + 2 < L by omega)) (by rw [fr_ls_len]; omega) ?_
  refine am_cV (b := Ac 0) d_Lw_law_624 v_Lw_82 (vs := [.int (xs (3 + 5 * k + 1)), .int (xs (3 + 5 * k + 2))]) (st := []) rfl rfl (by decide) (Nat.le_of_ble_eq_true rfl) hFF (ff_hits n5 hC J.1.2.2.2.2.1 (xs (3 + 5 * k + 1)) (xs (3 + 5 * k + 2))) ?_
  rintro v S1 ⟨rfl, hS1⟩
  subst S1
  refine am_aload_n d_Lw_law_627 rfl (by first | exact am_rvR _ | exact am_rvN | assumption) ?_
  refine am_aload_n d_Lw_law_628 rfl (by first | exact am_rvR _ | exact am_rvN | assumption) ?_
  refine am_iload_n d_Lw_law_629 rfl ?_
  refine am_iconst (v := nI 1) d_Lw_law_630 (by decide) ?_
  first | refine am_iaddN d_Lw_law_631 ?_ | refine am_iadd d_Lw_law_631 ?_
  refine am_iald d_Lw_law_632 am_kI_ok hb rfl (fr_ls_get xs (show 3 + 5 * k + 1 < L by omega)) (by rw [fr_ls_len]; omega) ?_
  refine am_aload_n d_Lw_law_633 rfl (by first | exact am_rvR _ | exact am_rvN | assumption) ?_
  refine am_iload_n d_Lw_law_634 rfl ?_
  refine am_iconst (v := nI 2) d_Lw_law_635 (by decide) ?_
  first | refine am_iaddN d_Lw_law_636 ?_ | refine am_iadd d_Lw_law_636 ?_
  refine am_iald d_Lw_law_637 am_kI_ok hb rfl (fr_ls_get xs (show 3 + 5 * k + 2 < L by omega)) (by rw [fr_ls_len]; omega) ?_
  refine am_cV (b := Am 44) d_Lw_law_638 v_Lw_85 (vs := [.int (xs (3 + 5 * k + 1)), .int (xs (3 + 5 * k + 2))]) (st := [.int (fc_hits ns c.1 (xs (3 + 5 * k + 1)) (xs (3 + 5 * k + 2)))]) rfl rfl (by decide) (Nat.le_of_ble_eq_true rfl) hM.2.1 ((rf_hits (A := fm_U Am S.2.1 S.2.2) H J.1 (xs (3 + 5 * k + 1)) (xs (3 + 5 * k + 2))) S hM) ?_
  rintro v S2 ⟨r2, hM2, hf2, rfl, hr2⟩
  subst hr2
  have hC2 := hC.kept n5 hf2 hM2.2.2.2.1 hM2.2.2.2.2
  have e1 : S2.2.1 = S.2.1 := hM2.2.2.2.1
  have e2 : S2.2.2 = S.2.2 := hM2.2.2.2.2
  have hbb2 := hf2.1 b 0 _ hb (lw_xr rfl)
  have hM3 : fr_P (fm_U Am S2.2.1 S2.2.2) r2 S2 := by rw [e1, e2]; exact hM2
  have fin : lw_I e nw ns room idle b L xs Ac Am n0 m0 (k + 1) S2 := ⟨c, r2, own, W, hC2, hM3, hbb2, J, U, H, by omega, by omega, by omega⟩
  exact am_icmp_eq (tgt := 778) d_Lw_law_641 (by decide) (fun _ => K S2 fin) (fun q => absurd rfl q)
theorem lw_taken (he : am_gE g e) (hW : am_gW g nw) (hL : L ≤ 2563) (hk : 3 + 5 * k + 5 ≤ L) (I : lw_I e nw ns room idle b L xs Ac Am n0 m0 k S) (K : ∀ S', lw_I e nw ns room idle b L xs Ac Am n0 m0 (k + 1) S' → am_W g y_Lw_law 14 546 post 778 [some (.ref b), some (.ref (Ac 0)), some (.ref (Am 44)), some (.int (nI (3 + 5 * k)))] [] S') : am_W g y_Lw_law 14 546 post 646 [some (.ref b), some (.ref (Ac 0)), some (.ref (Am 44)), some (.int (nI (3 + 5 * k)))] [] S := by
  obtain ⟨c, r, own, W, hC, hM, hb, J, U, H, hW6, hn, hm⟩ := I
  have n5 := J.1.1.2.1
  have hW2 : W + 6 < 2 ^ 31 := by omega
  have hFF := (hC.2.2 0).1 rfl
  refine am_aload_n d_Lw_law_646 rfl (by first | exact am_rvR _ | exact am_rvN | assumption) ?_
  refine am_aload_n d_Lw_law_647 rfl (by first | exact am_rvR _ | exact am_rvN | assumption) ?_
  refine am_iload_n d_Lw_law_648 rfl ?_
  refine am_iconst (v := nI 1) d_Lw_law_649 (by decide) ?_
  first | refine am_iaddN d_Lw_law_650 ?_ | refine am_iadd d_Lw_law_650 ?_
  refine am_iald d_Lw_law_651 am_kI_ok hb rfl (fr_ls_get xs (show 3 + 5 * k + 1 < L by omega)) (by rw [fr_ls_len]; omega) ?_
  refine am_aload_n d_Lw_law_652 rfl (by first | exact am_rvR _ | exact am_rvN | assumption) ?_
  refine am_iload_n d_Lw_law_653 rfl ?_
  refine am_iconst (v := nI 2) d_Lw_law_654 (by decide) ?_
  first | refine am_iaddN d_Lw_law_655 ?_ | refine am_iadd d_Lw_law_655 ?_
  refine am_iald d_Lw_law_656 am_kI_ok hb rfl (fr_ls_get xs (show 3 + 5 * k + 2 < L by omega)) (by rw [fr_ls_len]; omega) ?_
  refine am_cV (b := Ac 0) d_Lw_law_657 v_Lw_86 (vs := [.int (xs (3 + 5 * k + 1)), .int (xs (3 + 5 * k + 2))]) (st := []) rfl rfl (by decide) (Nat.le_of_ble_eq_true rfl) hFF (ff_taken n5 hC J.1.2.1 (xs (3 + 5 * k + 1)) (xs (3 + 5 * k + 2))) ?_
  rintro v S1 ⟨rfl, hS1⟩
  subst S1
  refine am_aload_n d_Lw_law_660 rfl (by first | exact am_rvR _ | exact am_rvN | assumption) ?_
  refine am_aload_n d_Lw_law_661 rfl (by first | exact am_rvR _ | exact am_rvN | assumption) ?_
  refine am_iload_n d_Lw_law_662 rfl ?_
  refine am_iconst (v := nI 1) d_Lw_law_663 (by decide) ?_
  first | refine am_iaddN d_Lw_law_664 ?_ | refine am_iadd d_Lw_law_664 ?_
  refine am_iald d_Lw_law_665 am_kI_ok hb rfl (fr_ls_get xs (show 3 + 5 * k + 1 < L by omega)) (by rw [fr_ls_len]; omega) ?_
  refine am_aload_n d_Lw_law_666 rfl (by first | exact am_rvR _ | exact am_rvN | assumption) ?_
  refine am_iload_n d_Lw_law_667 rfl ?_
  refine am_iconst (v := nI 2) d_Lw_law_668 (by decide) ?_
  first | refine am_iaddN d_Lw_law_669 ?_ | refine am_iadd d_Lw_law_669 ?_
  refine am_iald d_Lw_law_670 am_kI_ok hb rfl (fr_ls_get xs (show 3 + 5 * k + 2 < L by omega)) (by rw [fr_ls_len]; omega) ?_
  refine am_cV (b := Am 44) d_Lw_law_671 v_Lw_89 (vs := [.int (xs (3 + 5 * k + 1)), .int (xs (3 + 5 * k + 2))]) (st := [.int (fc_taken c.1 (xs (3 + 5 * k + 1)) (xs (3 + 5 * k + 2)))]) rfl rfl (by decide) (Nat.le_of_ble_eq_true rfl) hM.2.1 ((rf_taken (A := fm_U Am S.2.1 S.2.2) H J.1 (xs (3 + 5 * k + 1)) (xs (3 + 5 * k + 2))) S hM) ?_
  rintro v S2 ⟨r2, hM2, hf2, rfl, hr2⟩
  subst hr2
  have hC2 := hC.kept n5 hf2 hM2.2.2.2.1 hM2.2.2.2.2
  have e1 : S2.2.1 = S.2.1 := hM2.2.2.2.1
  have e2 : S2.2.2 = S.2.2 := hM2.2.2.2.2
  have hbb2 := hf2.1 b 0 _ hb (lw_xr rfl)
  have hM3 : fr_P (fm_U Am S2.2.1 S2.2.2) r2 S2 := by rw [e1, e2]; exact hM2
  have fin : lw_I e nw ns room idle b L xs Ac Am n0 m0 (k + 1) S2 := ⟨c, r2, own, W, hC2, hM3, hbb2, J, U, H, by omega, by omega, by omega⟩
  exact am_icmp_eq (tgt := 778) d_Lw_law_674 (by decide) (fun _ => K S2 fin) (fun q => absurd rfl q)
theorem lw_known (he : am_gE g e) (hW : am_gW g nw) (hL : L ≤ 2563) (hk : 3 + 5 * k + 5 ≤ L) (I : lw_I e nw ns room idle b L xs Ac Am n0 m0 k S) (K : ∀ S', lw_I e nw ns room idle b L xs Ac Am n0 m0 (k + 1) S' → am_W g y_Lw_law 14 546 post 778 [some (.ref b), some (.ref (Ac 0)), some (.ref (Am 44)), some (.int (nI (3 + 5 * k)))] [] S') : am_W g y_Lw_law 14 546 post 679 [some (.ref b), some (.ref (Ac 0)), some (.ref (Am 44)), some (.int (nI (3 + 5 * k)))] [] S := by
  obtain ⟨c, r, own, W, hC, hM, hb, J, U, H, hW6, hn, hm⟩ := I
  have n5 := J.1.1.2.1
  have hW2 : W + 6 < 2 ^ 31 := by omega
  have hFF := (hC.2.2 0).1 rfl
  refine am_aload_n d_Lw_law_679 rfl (by first | exact am_rvR _ | exact am_rvN | assumption) ?_
  refine am_aload_n d_Lw_law_680 rfl (by first | exact am_rvR _ | exact am_rvN | assumption) ?_
  refine am_iload_n d_Lw_law_681 rfl ?_
  refine am_iconst (v := nI 1) d_Lw_law_682 (by decide) ?_
  first | refine am_iaddN d_Lw_law_683 ?_ | refine am_iadd d_Lw_law_683 ?_
  refine am_iald d_Lw_law_684 am_kI_ok hb rfl (fr_ls_get xs (show 3 + 5 * k + 1 < L by omega)) (by rw [fr_ls_len]; omega) ?_
  refine am_aload_n d_Lw_law_685 rfl (by first | exact am_rvR _ | exact am_rvN | assumption) ?_
  refine am_iload_n d_Lw_law_686 rfl ?_
  refine am_iconst (v := nI 2) d_Lw_law_687 (by decide) ?_
  first | refine am_iaddN d_Lw_law_688 ?_ | refine am_iadd d_Lw_law_688 ?_
  refine am_iald d_Lw_law_689 am_kI_ok hb rfl (fr_ls_get xs (show 3 + 5 * k + 2 < L by omega)) (by rw [fr_ls_len]; omega) ?_
  refine am_cV (b := Ac 0) d_Lw_law_690 v_Lw_90 (vs := [.int (xs (3 + 5 * k + 1)), .int (xs (3 + 5 * k + 2))]) (st := []) rfl rfl (by decide) (Nat.le_of_ble_eq_true rfl) hFF (ff_known n5 hC J.1.2.2.2.2.2.2.2.1 (xs (3 + 5 * k + 1)) (xs (3 + 5 * k + 2))) ?_
  rintro v S1 ⟨rfl, hS1⟩
  subst S1
  refine am_aload_n d_Lw_law_693 rfl (by first | exact am_rvR _ | exact am_rvN | assumption) ?_
  refine am_aload_n d_Lw_law_694 rfl (by first | exact am_rvR _ | exact am_rvN | assumption) ?_
  refine am_iload_n d_Lw_law_695 rfl ?_
  refine am_iconst (v := nI 1) d_Lw_law_696 (by decide) ?_
  first | refine am_iaddN d_Lw_law_697 ?_ | refine am_iadd d_Lw_law_697 ?_
  refine am_iald d_Lw_law_698 am_kI_ok hb rfl (fr_ls_get xs (show 3 + 5 * k + 1 < L by omega)) (by rw [fr_ls_len]; omega) ?_
  refine am_aload_n d_Lw_law_699 rfl (by first | exact am_rvR _ | exact am_rvN | assumption) ?_
  refine am_iload_n d_Lw_law_700 rfl ?_
  refine am_iconst (v := nI 2) d_Lw_law_701 (by decide) ?_
  first | refine am_iaddN d_Lw_law_702 ?_ | refine am_iadd d_Lw_law_702 ?_
  refine am_iald d_Lw_law_703 am_kI_ok hb rfl (fr_ls_get xs (show 3 + 5 * k + 2 < L by omega)) (by rw [fr_ls_len]; omega) ?_
  refine am_cV (b := Am 44) d_Lw_law_704 v_Lw_93 (vs := [.int (xs (3 + 5 * k + 1)), .int (xs (3 + 5 * k + 2))]) (st := [.int (fc_known ns c.1 (xs (3 + 5 * k + 1)) (xs (3 + 5 * k + 2)))]) rfl rfl (by decide) (Nat.le_of_ble_eq_true rfl) hM.2.1 ((rf_known (A := fm_U Am S.2.1 S.2.2) H J.1 (xs (3 + 5 * k + 1)) (xs (3 + 5 * k + 2))) S hM) ?_
  rintro v S2 ⟨r2, hM2, hf2, rfl, hr2⟩
  subst hr2
  have hC2 := hC.kept n5 hf2 hM2.2.2.2.1 hM2.2.2.2.2
  have e1 : S2.2.1 = S.2.1 := hM2.2.2.2.1
  have e2 : S2.2.2 = S.2.2 := hM2.2.2.2.2
  have hbb2 := hf2.1 b 0 _ hb (lw_xr rfl)
  have hM3 : fr_P (fm_U Am S2.2.1 S2.2.2) r2 S2 := by rw [e1, e2]; exact hM2
  have fin : lw_I e nw ns room idle b L xs Ac Am n0 m0 (k + 1) S2 := ⟨c, r2, own, W, hC2, hM3, hbb2, J, U, H, by omega, by omega, by omega⟩
  exact am_icmp_eq (tgt := 778) d_Lw_law_707 (by decide) (fun _ => K S2 fin) (fun q => absurd rfl q)
theorem lw_place (he : am_gE g e) (hW : am_gW g nw) (hL : L ≤ 2563) (hk : 3 + 5 * k + 5 ≤ L) (I : lw_I e nw ns room idle b L xs Ac Am n0 m0 k S) (K : ∀ S', lw_I e nw ns room idle b L xs Ac Am n0 m0 (k + 1) S' → am_W g y_Lw_law 14 546 post 778 [some (.ref b), some (.ref (Ac 0)), some (.ref (Am 44)), some (.int (nI (3 + 5 * k)))] [] S') : am_W g y_Lw_law 14 546 post 712 [some (.ref b), some (.ref (Ac 0)), some (.ref (Am 44)), some (.int (nI (3 + 5 * k)))] [] S := by
  obtain ⟨c, r, own, W, hC, hM, hb, J, U, H, hW6, hn, hm⟩ := I
  have n5 := J.1.1.2.1
  have hW2 : W + 6 < 2 ^ 31 := by omega
  have hFF := (hC.2.2 0).1 rfl
  refine am_aload_n d_Lw_law_712 rfl (by first | exact am_rvR _ | exact am_rvN | assumption) ?_
  refine am_aload_n d_Lw_law_713 rfl (by first | exact am_rvR _ | exact am_rvN | assumption) ?_
  refine am_iload_n d_Lw_law_714 rfl ?_
  refine am_iconst (v := nI 1) d_Lw_law_715 (by decide) ?_
  first | refine am_iaddN d_Lw_law_716 ?_ | refine am_iadd d_Lw_law_716 ?_
  refine am_iald d_Lw_law_717 am_kI_ok hb rfl (fr_ls_get xs (show 3 + 5 * k + 1 < L by omega)) (by rw [fr_ls_len]; omega) ?_
  refine am_cV (b := Ac 0) d_Lw_law_718 v_Lw_94 (vs := [.int (xs (3 + 5 * k + 1))]) (st := []) rfl rfl (by decide) (Nat.le_of_ble_eq_true rfl) hFF (ff_place n5 hC J.1.2.1 J.1.2.2.2.2.2.2.2.1 (xs (3 + 5 * k + 1))) ?_
  rintro v S1 ⟨rfl, hS1⟩
  subst S1
  refine am_aload_n d_Lw_law_721 rfl (by first | exact am_rvR _ | exact am_rvN | assumption) ?_
  refine am_aload_n d_Lw_law_722 rfl (by first | exact am_rvR _ | exact am_rvN | assumption) ?_
  refine am_iload_n d_Lw_law_723 rfl ?_
  refine am_iconst (v := nI 1) d_Lw_law_724 (by decide) ?_
  first | refine am_iaddN d_Lw_law_725 ?_ | refine am_iadd d_Lw_law_725 ?_
  refine am_iald d_Lw_law_726 am_kI_ok hb rfl (fr_ls_get xs (show 3 + 5 * k + 1 < L by omega)) (by rw [fr_ls_len]; omega) ?_
  refine am_cV (b := Am 44) d_Lw_law_727 v_Lw_97 (vs := [.int (xs (3 + 5 * k + 1))]) (st := [.int (fc_place c.1 (xs (3 + 5 * k + 1)))]) rfl rfl (by decide) (Nat.le_of_ble_eq_true rfl) hM.2.1 ((rf_place (A := fm_U Am S.2.1 S.2.2) H J.1 (xs (3 + 5 * k + 1))) S hM) ?_
  rintro v S2 ⟨r2, hM2, hf2, rfl, hr2⟩
  subst hr2
  have hC2 := hC.kept n5 hf2 hM2.2.2.2.1 hM2.2.2.2.2
  have e1 : S2.2.1 = S.2.1 := hM2.2.2.2.1
  have e2 : S2.2.2 = S.2.2 := hM2.2.2.2.2
  have hbb2 := hf2.1 b 0 _ hb (lw_xr rfl)
  have hM3 : fr_P (fm_U Am S2.2.1 S2.2.2) r2 S2 := by rw [e1, e2]; exact hM2
  have fin : lw_I e nw ns room idle b L xs Ac Am n0 m0 (k + 1) S2 := ⟨c, r2, own, W, hC2, hM3, hbb2, J, U, H, by omega, by omega, by omega⟩
  exact am_icmp_eq (tgt := 778) d_Lw_law_730 (by decide) (fun _ => K S2 fin) (fun q => absurd rfl q)
theorem lw_course (he : am_gE g e) (hW : am_gW g nw) (hL : L ≤ 2563) (hk : 3 + 5 * k + 5 ≤ L) (I : lw_I e nw ns room idle b L xs Ac Am n0 m0 k S) (K : ∀ S', lw_I e nw ns room idle b L xs Ac Am n0 m0 (k + 1) S' → am_W g y_Lw_law 14 546 post 778 [some (.ref b), some (.ref (Ac 0)), some (.ref (Am 44)), some (.int (nI (3 + 5 * k)))] [] S') : am_W g y_Lw_law 14 546 post 735 [some (.ref b), some (.ref (Ac 0)), some (.ref (Am 44)), some (.int (nI (3 + 5 * k)))] [] S := by
  obtain ⟨c, r, own, W, hC, hM, hb, J, U, H, hW6, hn, hm⟩ := I
  have n5 := J.1.1.2.1
  have hW2 : W + 6 < 2 ^ 31 := by omega
  have hFF := (hC.2.2 0).1 rfl
  refine am_aload_n d_Lw_law_735 rfl (by first | exact am_rvR _ | exact am_rvN | assumption) ?_
  refine am_aload_n d_Lw_law_736 rfl (by first | exact am_rvR _ | exact am_rvN | assumption) ?_
  refine am_iload_n d_Lw_law_737 rfl ?_
  refine am_iconst (v := nI 1) d_Lw_law_738 (by decide) ?_
  first | refine am_iaddN d_Lw_law_739 ?_ | refine am_iadd d_Lw_law_739 ?_
  refine am_iald d_Lw_law_740 am_kI_ok hb rfl (fr_ls_get xs (show 3 + 5 * k + 1 < L by omega)) (by rw [fr_ls_len]; omega) ?_
  refine am_aload_n d_Lw_law_741 rfl (by first | exact am_rvR _ | exact am_rvN | assumption) ?_
  refine am_iload_n d_Lw_law_742 rfl ?_
  refine am_iconst (v := nI 2) d_Lw_law_743 (by decide) ?_
  first | refine am_iaddN d_Lw_law_744 ?_ | refine am_iadd d_Lw_law_744 ?_
  refine am_iald d_Lw_law_745 am_kI_ok hb rfl (fr_ls_get xs (show 3 + 5 * k + 2 < L by omega)) (by rw [fr_ls_len]; omega) ?_
  refine am_aload_n d_Lw_law_746 rfl (by first | exact am_rvR _ | exact am_rvN | assumption) ?_
  refine am_iload_n d_Lw_law_747 rfl ?_
  refine am_iconst (v := nI 3) d_Lw_law_748 (by decide) ?_
  first | refine am_iaddN d_Lw_law_749 ?_ | refine am_iadd d_Lw_law_749 ?_
  refine am_iald d_Lw_law_750 am_kI_ok hb rfl (fr_ls_get xs (show 3 + 5 * k + 3 < L by omega)) (by rw [fr_ls_len]; omega) ?_
  refine am_cV (b := Ac 0) d_Lw_law_751 v_Lw_98 (vs := [.int (xs (3 + 5 * k + 1)), .int (xs (3 + 5 * k + 2)), .int (xs (3 + 5 * k + 3))]) (st := []) rfl rfl (by decide) (Nat.le_of_ble_eq_true rfl) hFF (ff_course hC n5 J.1.2.2.2.2.2.2.2.2 (xs (3 + 5 * k + 1)) (xs (3 + 5 * k + 2)) (xs (3 + 5 * k + 3))) ?_
  rintro v S1 ⟨rfl, hS1⟩
  subst S1
  refine am_aload_n d_Lw_law_754 rfl (by first | exact am_rvR _ | exact am_rvN | assumption) ?_
  refine am_aload_n d_Lw_law_755 rfl (by first | exact am_rvR _ | exact am_rvN | assumption) ?_
  refine am_iload_n d_Lw_law_756 rfl ?_
  refine am_iconst (v := nI 1) d_Lw_law_757 (by decide) ?_
  first | refine am_iaddN d_Lw_law_758 ?_ | refine am_iadd d_Lw_law_758 ?_
  refine am_iald d_Lw_law_759 am_kI_ok hb rfl (fr_ls_get xs (show 3 + 5 * k + 1 < L by omega)) (by rw [fr_ls_len]; omega) ?_
  refine am_aload_n d_Lw_law_760 rfl (by first | exact am_rvR _ | exact am_rvN | assumption) ?_
  refine am_iload_n d_Lw_law_761 rfl ?_
  refine am_iconst (v := nI 2) d_Lw_law_762 (by decide) ?_
  first | refine am_iaddN d_Lw_law_763 ?_ | refine am_iadd d_Lw_law_763 ?_
  refine am_iald d_Lw_law_764 am_kI_ok hb rfl (fr_ls_get xs (show 3 + 5 * k + 2 < L by omega)) (by rw [fr_ls_len]; omega) ?_
  refine am_aload_n d_Lw_law_765 rfl (by first | exact am_rvR _ | exact am_rvN | assumption) ?_
  refine am_iload_n d_Lw_law_766 rfl ?_
  refine am_iconst (v := nI 3) d_Lw_law_767 (by decide) ?_
  first | refine am_iaddN d_Lw_law_768 ?_ | refine am_iadd d_Lw_law_768 ?_
  refine am_iald d_Lw_law_769 am_kI_ok hb rfl (fr_ls_get xs (show 3 + 5 * k + 3 < L by omega)) (by rw [fr_ls_len]; omega) ?_
  refine am_cV (b := Am 44) d_Lw_law_770 v_Lw_102 (vs := [.int (xs (3 + 5 * k + 1)), .int (xs (3 + 5 * k + 2)), .int (xs (3 + 5 * k + 3))]) (st := [.int (fc_course c.1 (xs (3 + 5 * k + 1)) (xs (3 + 5 * k + 2)) (xs (3 + 5 * k + 3)))]) rfl rfl (by decide) (Nat.le_of_ble_eq_true rfl) hM.2.1 ((rf_course (A := fm_U Am S.2.1 S.2.2) H J.1 (xs (3 + 5 * k + 1)) (xs (3 + 5 * k + 2)) (xs (3 + 5 * k + 3))) S hM) ?_
  rintro v S2 ⟨r2, hM2, hf2, rfl, hr2⟩
  subst hr2
  have hC2 := hC.kept n5 hf2 hM2.2.2.2.1 hM2.2.2.2.2
  have e1 : S2.2.1 = S.2.1 := hM2.2.2.2.1
  have e2 : S2.2.2 = S.2.2 := hM2.2.2.2.2
  have hbb2 := hf2.1 b 0 _ hb (lw_xr rfl)
  have hM3 : fr_P (fm_U Am S2.2.1 S2.2.2) r2 S2 := by rw [e1, e2]; exact hM2
  have fin : lw_I e nw ns room idle b L xs Ac Am n0 m0 (k + 1) S2 := ⟨c, r2, own, W, hC2, hM3, hbb2, J, U, H, by omega, by omega, by omega⟩
  exact am_icmp_eq (tgt := 778) d_Lw_law_773 (by decide) (fun _ => K S2 fin) (fun q => absurd rfl q)
end LWB
