section FCT
theorem oTH {dg : Int32} {b : Nat} {e : PEnt} (h : ob (TH dg) b = some e) (hb : b ≠ 277) : ob (HH dg) b = some e := by
  unfold HH MH modH
  refine ob_app _ (ob_app _ ?_)
  rw [ob_ne hb.symm (by decide)]
  exact ob_app _ h
theorem o_277 (dg : Int32) : ob (HH dg) 277 = some (.inr (15, (((mL 246).set 1 (.int (dg &&& Int32.ofInt 3))).set 2 (.long (mU (dg &&& Int32.ofInt 3).toNatClampNeg))))) := by
  have h0 : ob (TH dg ++ [some (.inr (15, mD))]) 277 = some (.inr (15, mD)) := by
    have := @ob_new (TH dg) (.inr (15, mD))
    rw [TH_len] at this
    exact this
  have hl : (TH dg ++ [some (.inr (15, mD) : PEnt)]).length = 246 := by rw [List.length_append, TH_len]; rfl
  unfold HH MH modH
  rw [hl]
  exact ob_app _ (ob_app _ (ob_self h0))
theorem oMR {dg : Int32} {k : Nat} {e : PEnt} (h : (mR.set 7 (some (.inl (0, 7, .inl (fun j => if j < 7 then (Int32.ofInt (-1)) else 0)))))[k]? = some (some e)) : ob (HH dg) (278 + k) = some e := by
  have h0 : ob (TH dg ++ [some (.inr (15, mD))]) 277 = some (.inr (15, mD)) := by
    have := @ob_new (TH dg) (.inr (15, mD))
    rw [TH_len] at this
    exact this
  have hl : (TH dg ++ [some (.inr (15, mD) : PEnt)]).length = 246 := by rw [List.length_append, TH_len]; rfl
  unfold HH MH modH
  exact ob_app _ (ob_mid2 (k := k) (by rw [hl]; omega) h)
theorem o_359 (dg : Int32) : ob (HH dg) 359 = some (.inl (1, 1, .inr (.inl (fun _ => 0)))) := by
  have := @ob_new (MH dg) (.inl (1, 1, .inr (.inl (fun _ => 0))))
  rw [MH_len] at this
  exact this
theorem o_32 (dg : Int32) : ob (HH dg) 32 = some (.inr (14, [.ref 33, .ref 162, .ref 166, .int 0, .int 0, .int 0, .ref 167, .ref 170, .ref 173, .ref 177, .ref 193, .ref 208, .ref 222, .ref 238, .ref 252, .ref 274, .ref 275, .ref 276, .int 0])) := oTH (ob_app _ (ob_self (e := .inr (14, en_df tyX11 19)) rfl)) (by decide)
theorem o_33 (dg : Int32) : ob (HH dg) 33 = some (.inl (4, 32, .inr (.inr (.inr (.inr (shf 1 32)))))) := oTH (ob_mid2 (k := 0) rfl rfl) (by decide)
theorem shs_at (L : Nat) : ∀ n i, i < n → (shs L n)[4 * i]? = some (some (.inr (9, [.ref (32 + (L + (2 + 4 * i))), .ref (32 + (L + (3 + 4 * i))), .ref (32 + (L + (4 + 4 * i))), .int 0, .int 0]))) := by
  intro n
  induction n with
  | zero => intro i h; omega
  | succ n ih =>
    intro i h
    by_cases q : i < n
    · show (shs L n ++ _)[4 * i]? = _
      rw [List.getElem?_append_left (by rw [shs_len]; omega)]
      exact ih i q
    · have : i = n := by omega
      subst this
      show (shs L i ++ _)[4 * i]? = _
      rw [List.getElem?_append_right (by rw [shs_len]; omega), shs_len, Nat.sub_self]
      rfl
theorem o_sh (dg : Int32) (i : Nat) (hi : i < 32) : ob (HH dg) (34 + 4 * i) = some (.inr (9, [.ref (35 + 4 * i), .ref (36 + 4 * i), .ref (37 + 4 * i), .int 0, .int 0])) := by
  refine oTH (ob_mid2 (k := 1 + 4 * i) (by show 34 + 4 * i = 32 + (1 + (1 + 4 * i)); omega) ?_) (by omega)
  rw [List.getElem?_append_left (by rw [sh0_len]; omega)]
  show (_ :: shs 1 32)[1 + 4 * i]? = _
  rw [Nat.add_comm 1, List.getElem?_cons_succ, shs_at 1 32 i hi]
  rw [show 32 + (1 + (2 + 4 * i)) = 35 + 4 * i by omega, show 32 + (1 + (3 + 4 * i)) = 36 + 4 * i by omega, show 32 + (1 + (4 + 4 * i)) = 37 + 4 * i by omega]
theorem shf_at {i : Nat} (hi : i < 32) : shf 1 32 i = some (34 + 4 * i) := by
  unfold shf
  rw [if_pos hi, show 32 + (1 + (1 + 4 * i)) = 34 + 4 * i by omega]
theorem o_162 (dg : Int32) : ob (HH dg) 162 = some (.inr (9, [.ref 163, .ref 164, .ref 165, .int 0, .int 0])) := oTH (ob_mid3 (p := 129) (j := 0) (sh0_len9 _) rfl rfl) (by decide)
theorem o_163 (dg : Int32) : ob (HH dg) 163 = some (.inl (0, 2048, .inl (fun _ => 0))) := oTH (ob_mid3 (p := 129) (j := 1) (sh0_len9 _) rfl rfl) (by decide)
theorem o_164 (dg : Int32) : ob (HH dg) 164 = some (.inl (0, 2048, .inl (fun _ => 0))) := oTH (ob_mid3 (p := 129) (j := 2) (sh0_len9 _) rfl rfl) (by decide)
theorem o_165 (dg : Int32) : ob (HH dg) 165 = some (.inl (0, 2048, .inl (fun _ => 0))) := oTH (ob_mid3 (p := 129) (j := 3) (sh0_len9 _) rfl rfl) (by decide)
theorem o_166 (dg : Int32) : ob (HH dg) 166 = some (.inl (2, 65536, .inl (fun _ => 0))) := oTH (ob_mid3 (p := 129) (j := 4) (sh0_len9 _) rfl rfl) (by decide)
theorem o_167 (dg : Int32) : ob (HH dg) 167 = some (.inr (12, [.int (dg &&& Int32.ofInt 3), .ref 166, .ref 168, .ref 169, .ref 162, .int 0, .int 0, .int 0, .int 0, .int 0, .int 0, .int 0])) := oTH (ob_mid3 (p := 129) (j := 5) (sh0_len9 _) rfl rfl) (by decide)
theorem o_168 (dg : Int32) : ob (HH dg) 168 = some (.inl (0, 64, .inl (fun _ => 0))) := oTH (ob_mid3 (p := 129) (j := 6) (sh0_len9 _) rfl rfl) (by decide)
theorem o_169 (dg : Int32) : ob (HH dg) 169 = some (.inl (0, 64, .inl (fun _ => 0))) := oTH (ob_mid3 (p := 129) (j := 7) (sh0_len9 _) rfl rfl) (by decide)
theorem o_170 (dg : Int32) : ob (HH dg) 170 = some (.inr (3, [.int (dg &&& Int32.ofInt 3), .ref 166, .ref 171, .ref 172, .ref 162, .int 0, .int 0, .int 0, .int 0, .int 0, .int 0, .int 0, .int 0])) := oTH (ob_mid3 (p := 129) (j := 8) (sh0_len9 _) rfl rfl) (by decide)
theorem o_171 (dg : Int32) : ob (HH dg) 171 = some (.inl (1, 64, .inr (.inl (fun _ => 0)))) := oTH (ob_mid3 (p := 129) (j := 9) (sh0_len9 _) rfl rfl) (by decide)
theorem o_172 (dg : Int32) : ob (HH dg) 172 = some (.inl (0, 64, .inl (fun _ => 0))) := oTH (ob_mid3 (p := 129) (j := 10) (sh0_len9 _) rfl rfl) (by decide)
theorem o_173 (dg : Int32) : ob (HH dg) 173 = some (.inr (13, [.int (dg &&& Int32.ofInt 3), .ref 174, .ref 175, .int 0, .ref 176, .int 0])) := oTH (ob_mid3 (p := 129) (j := 11) (sh0_len9 _) rfl rfl) (by decide)
theorem o_174 (dg : Int32) : ob (HH dg) 174 = some (.inl (0, 64, .inl (fun _ => 0))) := oTH (ob_mid3 (p := 129) (j := 12) (sh0_len9 _) rfl rfl) (by decide)
theorem o_175 (dg : Int32) : ob (HH dg) 175 = some (.inl (0, 64, .inl (fun _ => 0))) := oTH (ob_mid3 (p := 129) (j := 13) (sh0_len9 _) rfl rfl) (by decide)
theorem o_176 (dg : Int32) : ob (HH dg) 176 = some (.inl (2, 80000, .inl (fun _ => 0))) := oTH (ob_mid3 (p := 129) (j := 14) (sh0_len9 _) rfl rfl) (by decide)
theorem o_177 (dg : Int32) : ob (HH dg) 177 = some (.inr (4, [.ref 178, .ref 179, .ref 185, .ref 186, .ref 187, .ref 188, .ref 189, .int 0, .ref 190, .ref 191, .ref 192])) := oTH (ob_mid3 (p := 129) (j := 15) (sh0_len9 _) rfl rfl) (by decide)
theorem o_178 (dg : Int32) : ob (HH dg) 178 = some (.inl (0, 7, .inl (fun j => if j < 7 then (Int32.ofInt (-1)) else 0))) := oTH (ob_mid3 (p := 129) (j := 16) (sh0_len9 _) rfl rfl) (by decide)
theorem o_179 (dg : Int32) : ob (HH dg) 179 = some (.inr (8, [.ref 180, .ref 181, .ref 182, .ref 183, .ref 184, .int 0, .int 0, .int 0])) := oTH (ob_mid3 (p := 129) (j := 17) (sh0_len9 _) rfl rfl) (by decide)
theorem o_180 (dg : Int32) : ob (HH dg) 180 = some (.inl (0, 2048, .inl (fun _ => 0))) := oTH (ob_mid3 (p := 129) (j := 18) (sh0_len9 _) rfl rfl) (by decide)
theorem o_181 (dg : Int32) : ob (HH dg) 181 = some (.inl (0, 2048, .inl (fun _ => 0))) := oTH (ob_mid3 (p := 129) (j := 19) (sh0_len9 _) rfl rfl) (by decide)
theorem o_182 (dg : Int32) : ob (HH dg) 182 = some (.inl (0, 2048, .inl (fun _ => 0))) := oTH (ob_mid3 (p := 129) (j := 20) (sh0_len9 _) rfl rfl) (by decide)
theorem o_183 (dg : Int32) : ob (HH dg) 183 = some (.inl (0, 2048, .inl (fun _ => 0))) := oTH (ob_mid3 (p := 129) (j := 21) (sh0_len9 _) rfl rfl) (by decide)
theorem o_184 (dg : Int32) : ob (HH dg) 184 = some (.inl (0, 2048, .inl (fun _ => 0))) := oTH (ob_mid3 (p := 129) (j := 22) (sh0_len9 _) rfl rfl) (by decide)
theorem o_185 (dg : Int32) : ob (HH dg) 185 = some (.inl (0, 2048, .inl (fun _ => 0))) := oTH (ob_mid3 (p := 129) (j := 23) (sh0_len9 _) rfl rfl) (by decide)
theorem o_186 (dg : Int32) : ob (HH dg) 186 = some (.inl (0, 2048, .inl (fun _ => 0))) := oTH (ob_mid3 (p := 129) (j := 24) (sh0_len9 _) rfl rfl) (by decide)
theorem o_187 (dg : Int32) : ob (HH dg) 187 = some (.inl (0, 2048, .inl (fun _ => 0))) := oTH (ob_mid3 (p := 129) (j := 25) (sh0_len9 _) rfl rfl) (by decide)
theorem o_188 (dg : Int32) : ob (HH dg) 188 = some (.inl (0, 2048, .inl (fun _ => 0))) := oTH (ob_mid3 (p := 129) (j := 26) (sh0_len9 _) rfl rfl) (by decide)
theorem o_189 (dg : Int32) : ob (HH dg) 189 = some (.inl (0, 2048, .inl (fun _ => 0))) := oTH (ob_mid3 (p := 129) (j := 27) (sh0_len9 _) rfl rfl) (by decide)
theorem o_190 (dg : Int32) : ob (HH dg) 190 = some (.inl (0, 2048, .inl (fun _ => 0))) := oTH (ob_mid3 (p := 129) (j := 28) (sh0_len9 _) rfl rfl) (by decide)
theorem o_191 (dg : Int32) : ob (HH dg) 191 = some (.inl (0, 2048, .inl (fun _ => 0))) := oTH (ob_mid3 (p := 129) (j := 29) (sh0_len9 _) rfl rfl) (by decide)
theorem o_192 (dg : Int32) : ob (HH dg) 192 = some (.inl (0, 2048, .inl (fun _ => 0))) := oTH (ob_mid3 (p := 129) (j := 30) (sh0_len9 _) rfl rfl) (by decide)
theorem o_193 (dg : Int32) : ob (HH dg) 193 = some (.inr (11, [.ref 194, .int 0, .ref 200, .int 0, .ref 201, .ref 202, .ref 203, .ref 204, .int 0, .ref 205, .ref 206, .ref 207, .int 0])) := oTH (ob_mid3 (p := 129) (j := 31) (sh0_len9 _) rfl rfl) (by decide)
theorem o_194 (dg : Int32) : ob (HH dg) 194 = some (.inr (8, [.ref 195, .ref 196, .ref 197, .ref 198, .ref 199, .int 0, .int 0, .int 0])) := oTH (ob_mid3 (p := 129) (j := 32) (sh0_len9 _) rfl rfl) (by decide)
theorem o_195 (dg : Int32) : ob (HH dg) 195 = some (.inl (0, 2048, .inl (fun _ => 0))) := oTH (ob_mid3 (p := 129) (j := 33) (sh0_len9 _) rfl rfl) (by decide)
theorem o_196 (dg : Int32) : ob (HH dg) 196 = some (.inl (0, 2048, .inl (fun _ => 0))) := oTH (ob_mid3 (p := 129) (j := 34) (sh0_len9 _) rfl rfl) (by decide)
theorem o_197 (dg : Int32) : ob (HH dg) 197 = some (.inl (0, 2048, .inl (fun _ => 0))) := oTH (ob_mid3 (p := 129) (j := 35) (sh0_len9 _) rfl rfl) (by decide)
theorem o_198 (dg : Int32) : ob (HH dg) 198 = some (.inl (0, 2048, .inl (fun _ => 0))) := oTH (ob_mid3 (p := 129) (j := 36) (sh0_len9 _) rfl rfl) (by decide)
theorem o_199 (dg : Int32) : ob (HH dg) 199 = some (.inl (0, 2048, .inl (fun _ => 0))) := oTH (ob_mid3 (p := 129) (j := 37) (sh0_len9 _) rfl rfl) (by decide)
theorem o_200 (dg : Int32) : ob (HH dg) 200 = some (.inl (1, 16384, .inr (.inl (fun _ => 0)))) := oTH (ob_mid3 (p := 129) (j := 38) (sh0_len9 _) rfl rfl) (by decide)
theorem o_201 (dg : Int32) : ob (HH dg) 201 = some (.inl (1, 16384, .inr (.inl (fun _ => 0)))) := oTH (ob_mid3 (p := 129) (j := 39) (sh0_len9 _) rfl rfl) (by decide)
theorem o_202 (dg : Int32) : ob (HH dg) 202 = some (.inl (0, 8192, .inl (fun _ => 0))) := oTH (ob_mid3 (p := 129) (j := 40) (sh0_len9 _) rfl rfl) (by decide)
theorem o_203 (dg : Int32) : ob (HH dg) 203 = some (.inl (0, 8192, .inl (fun _ => 0))) := oTH (ob_mid3 (p := 129) (j := 41) (sh0_len9 _) rfl rfl) (by decide)
theorem o_204 (dg : Int32) : ob (HH dg) 204 = some (.inl (0, 8192, .inl (fun _ => 0))) := oTH (ob_mid3 (p := 129) (j := 42) (sh0_len9 _) rfl rfl) (by decide)
theorem o_205 (dg : Int32) : ob (HH dg) 205 = some (.inl (0, 16384, .inl (fun _ => 0))) := oTH (ob_mid3 (p := 129) (j := 43) (sh0_len9 _) rfl rfl) (by decide)
theorem o_206 (dg : Int32) : ob (HH dg) 206 = some (.inl (0, 16384, .inl (fun _ => 0))) := oTH (ob_mid3 (p := 129) (j := 44) (sh0_len9 _) rfl rfl) (by decide)
theorem o_207 (dg : Int32) : ob (HH dg) 207 = some (.inl (0, 16384, .inl (fun _ => 0))) := oTH (ob_mid3 (p := 129) (j := 45) (sh0_len9 _) rfl rfl) (by decide)
theorem o_208 (dg : Int32) : ob (HH dg) 208 = some (.inr (7, [.ref 193, .ref 209, .ref 210, .int 0, .ref 211, .ref 212, .ref 213, .ref 214, .ref 215, .ref 216, .ref 217, .int 0, .ref 218, .ref 219, .ref 220, .ref 221, .int 0])) := oTH (ob_mid3 (p := 129) (j := 46) (sh0_len9 _) rfl rfl) (by decide)
theorem o_209 (dg : Int32) : ob (HH dg) 209 = some (.inl (0, 16384, .inl (fun _ => 0))) := oTH (ob_mid3 (p := 129) (j := 47) (sh0_len9 _) rfl rfl) (by decide)
theorem o_210 (dg : Int32) : ob (HH dg) 210 = some (.inl (0, 16384, .inl (fun _ => 0))) := oTH (ob_mid3 (p := 129) (j := 48) (sh0_len9 _) rfl rfl) (by decide)
theorem o_211 (dg : Int32) : ob (HH dg) 211 = some (.inl (3, 16384, .inl (fun _ => 0))) := oTH (ob_mid3 (p := 129) (j := 49) (sh0_len9 _) rfl rfl) (by decide)
theorem o_212 (dg : Int32) : ob (HH dg) 212 = some (.inl (3, 16384, .inl (fun _ => 0))) := oTH (ob_mid3 (p := 129) (j := 50) (sh0_len9 _) rfl rfl) (by decide)
theorem o_213 (dg : Int32) : ob (HH dg) 213 = some (.inl (0, 8194, .inl (fun _ => 0))) := oTH (ob_mid3 (p := 129) (j := 51) (sh0_len9 _) rfl rfl) (by decide)
theorem o_214 (dg : Int32) : ob (HH dg) 214 = some (.inl (0, 32768, .inl (fun _ => 0))) := oTH (ob_mid3 (p := 129) (j := 52) (sh0_len9 _) rfl rfl) (by decide)
theorem o_215 (dg : Int32) : ob (HH dg) 215 = some (.inl (0, 8193, .inl (fun _ => 0))) := oTH (ob_mid3 (p := 129) (j := 53) (sh0_len9 _) rfl rfl) (by decide)
theorem o_216 (dg : Int32) : ob (HH dg) 216 = some (.inl (0, 8192, .inl (fun _ => 0))) := oTH (ob_mid3 (p := 129) (j := 54) (sh0_len9 _) rfl rfl) (by decide)
theorem o_217 (dg : Int32) : ob (HH dg) 217 = some (.inl (0, 2048, .inl (fun _ => 0))) := oTH (ob_mid3 (p := 129) (j := 55) (sh0_len9 _) rfl rfl) (by decide)
theorem o_218 (dg : Int32) : ob (HH dg) 218 = some (.inl (0, 513, .inl (fun _ => 0))) := oTH (ob_mid3 (p := 129) (j := 56) (sh0_len9 _) rfl rfl) (by decide)
theorem o_219 (dg : Int32) : ob (HH dg) 219 = some (.inl (1, 512, .inr (.inl (fun _ => 0)))) := oTH (ob_mid3 (p := 129) (j := 57) (sh0_len9 _) rfl rfl) (by decide)
theorem o_220 (dg : Int32) : ob (HH dg) 220 = some (.inl (0, 512, .inl (fun _ => 0))) := oTH (ob_mid3 (p := 129) (j := 58) (sh0_len9 _) rfl rfl) (by decide)
theorem o_221 (dg : Int32) : ob (HH dg) 221 = some (.inl (1, 512, .inr (.inl (fun _ => 0)))) := oTH (ob_mid3 (p := 129) (j := 59) (sh0_len9 _) rfl rfl) (by decide)
theorem o_222 (dg : Int32) : ob (HH dg) 222 = some (.inr (6, [.ref 223, .ref 229, .ref 230, .ref 231, .ref 232, .ref 233, .int 0, .ref 234, .ref 235, .int 0, .ref 236, .ref 237])) := oTH (ob_mid3 (p := 129) (j := 60) (sh0_len9 _) rfl rfl) (by decide)
theorem o_223 (dg : Int32) : ob (HH dg) 223 = some (.inr (8, [.ref 224, .ref 225, .ref 226, .ref 227, .ref 228, .int 0, .int 0, .int 0])) := oTH (ob_mid3 (p := 129) (j := 61) (sh0_len9 _) rfl rfl) (by decide)
theorem o_224 (dg : Int32) : ob (HH dg) 224 = some (.inl (0, 256, .inl (fun _ => 0))) := oTH (ob_mid3 (p := 129) (j := 62) (sh0_len9 _) rfl rfl) (by decide)
theorem o_225 (dg : Int32) : ob (HH dg) 225 = some (.inl (0, 256, .inl (fun _ => 0))) := oTH (ob_mid3 (p := 129) (j := 63) (sh0_len9 _) rfl rfl) (by decide)
theorem o_226 (dg : Int32) : ob (HH dg) 226 = some (.inl (0, 256, .inl (fun _ => 0))) := oTH (ob_mid3 (p := 129) (j := 64) (sh0_len9 _) rfl rfl) (by decide)
theorem o_227 (dg : Int32) : ob (HH dg) 227 = some (.inl (0, 256, .inl (fun _ => 0))) := oTH (ob_mid3 (p := 129) (j := 65) (sh0_len9 _) rfl rfl) (by decide)
theorem o_228 (dg : Int32) : ob (HH dg) 228 = some (.inl (0, 256, .inl (fun _ => 0))) := oTH (ob_mid3 (p := 129) (j := 66) (sh0_len9 _) rfl rfl) (by decide)
theorem o_229 (dg : Int32) : ob (HH dg) 229 = some (.inl (0, 9, .inl (fun _ => 0))) := oTH (ob_mid3 (p := 129) (j := 67) (sh0_len9 _) rfl rfl) (by decide)
theorem o_230 (dg : Int32) : ob (HH dg) 230 = some (.inl (1, 512, .inr (.inl (fun _ => 0)))) := oTH (ob_mid3 (p := 129) (j := 68) (sh0_len9 _) rfl rfl) (by decide)
theorem o_231 (dg : Int32) : ob (HH dg) 231 = some (.inl (0, 512, .inl (fun _ => 0))) := oTH (ob_mid3 (p := 129) (j := 69) (sh0_len9 _) rfl rfl) (by decide)
theorem o_232 (dg : Int32) : ob (HH dg) 232 = some (.inl (0, 512, .inl (fun _ => 0))) := oTH (ob_mid3 (p := 129) (j := 70) (sh0_len9 _) rfl rfl) (by decide)
theorem o_233 (dg : Int32) : ob (HH dg) 233 = some (.inl (0, 512, .inl (fun _ => 0))) := oTH (ob_mid3 (p := 129) (j := 71) (sh0_len9 _) rfl rfl) (by decide)
theorem o_234 (dg : Int32) : ob (HH dg) 234 = some (.inl (1, 512, .inr (.inl (fun _ => 0)))) := oTH (ob_mid3 (p := 129) (j := 72) (sh0_len9 _) rfl rfl) (by decide)
theorem o_235 (dg : Int32) : ob (HH dg) 235 = some (.inl (1, 512, .inr (.inl (fun _ => 0)))) := oTH (ob_mid3 (p := 129) (j := 73) (sh0_len9 _) rfl rfl) (by decide)
theorem o_236 (dg : Int32) : ob (HH dg) 236 = some (.inl (0, 2, .inl (fun _ => 0))) := oTH (ob_mid3 (p := 129) (j := 74) (sh0_len9 _) rfl rfl) (by decide)
theorem o_237 (dg : Int32) : ob (HH dg) 237 = some (.inl (0, 2, .inl (fun _ => 0))) := oTH (ob_mid3 (p := 129) (j := 75) (sh0_len9 _) rfl rfl) (by decide)
theorem o_238 (dg : Int32) : ob (HH dg) 238 = some (.inr (5, [.ref 239, .ref 240, .ref 241, .int 0, .ref 242, .ref 243, .ref 244, .ref 245, .ref 246, .ref 247, .int 0, .ref 248, .int 0, .ref 249, .int 0, .ref 250, .ref 251])) := oTH (ob_mid3 (p := 129) (j := 76) (sh0_len9 _) rfl rfl) (by decide)
theorem o_239 (dg : Int32) : ob (HH dg) 239 = some (.inl (1, 2048, .inr (.inl (fun _ => 0)))) := oTH (ob_mid3 (p := 129) (j := 77) (sh0_len9 _) rfl rfl) (by decide)
theorem o_240 (dg : Int32) : ob (HH dg) 240 = some (.inl (0, 1024, .inl (fun _ => 0))) := oTH (ob_mid3 (p := 129) (j := 78) (sh0_len9 _) rfl rfl) (by decide)
theorem o_241 (dg : Int32) : ob (HH dg) 241 = some (.inl (0, 1024, .inl (fun _ => 0))) := oTH (ob_mid3 (p := 129) (j := 79) (sh0_len9 _) rfl rfl) (by decide)
theorem o_242 (dg : Int32) : ob (HH dg) 242 = some (.inl (0, 1024, .inl (fun _ => 0))) := oTH (ob_mid3 (p := 129) (j := 80) (sh0_len9 _) rfl rfl) (by decide)
theorem o_243 (dg : Int32) : ob (HH dg) 243 = some (.inl (0, 1024, .inl (fun _ => 0))) := oTH (ob_mid3 (p := 129) (j := 81) (sh0_len9 _) rfl rfl) (by decide)
theorem o_244 (dg : Int32) : ob (HH dg) 244 = some (.inl (0, 2050, .inl (fun _ => 0))) := oTH (ob_mid3 (p := 129) (j := 82) (sh0_len9 _) rfl rfl) (by decide)
theorem o_245 (dg : Int32) : ob (HH dg) 245 = some (.inl (1, 4129, .inr (.inl (fun _ => 0)))) := oTH (ob_mid3 (p := 129) (j := 83) (sh0_len9 _) rfl rfl) (by decide)
theorem o_246 (dg : Int32) : ob (HH dg) 246 = some (.inl (0, 3084, .inl (fun _ => 0))) := oTH (ob_mid3 (p := 129) (j := 84) (sh0_len9 _) rfl rfl) (by decide)
theorem o_247 (dg : Int32) : ob (HH dg) 247 = some (.inl (0, 3084, .inl (fun _ => 0))) := oTH (ob_mid3 (p := 129) (j := 85) (sh0_len9 _) rfl rfl) (by decide)
theorem o_248 (dg : Int32) : ob (HH dg) 248 = some (.inl (0, 514, .inl (fun _ => 0))) := oTH (ob_mid3 (p := 129) (j := 86) (sh0_len9 _) rfl rfl) (by decide)
theorem o_249 (dg : Int32) : ob (HH dg) 249 = some (.inl (1, 512, .inr (.inl (fun _ => 0)))) := oTH (ob_mid3 (p := 129) (j := 87) (sh0_len9 _) rfl rfl) (by decide)
theorem o_250 (dg : Int32) : ob (HH dg) 250 = some (.inl (3, 2048, .inl (fun _ => 0))) := oTH (ob_mid3 (p := 129) (j := 88) (sh0_len9 _) rfl rfl) (by decide)
theorem o_251 (dg : Int32) : ob (HH dg) 251 = some (.inl (0, 2048, .inl (fun _ => 0))) := oTH (ob_mid3 (p := 129) (j := 89) (sh0_len9 _) rfl rfl) (by decide)
theorem o_252 (dg : Int32) : ob (HH dg) 252 = some (.inr (10, [.ref 253, .ref 254, .ref 255, .ref 272, .ref 273])) := oTH (ob_mid3 (p := 129) (j := 90) (sh0_len9 _) rfl rfl) (by decide)
theorem o_253 (dg : Int32) : ob (HH dg) 253 = some (.inl (1, 32, .inr (.inl (fun _ => 0)))) := oTH (ob_mid3 (p := 129) (j := 91) (sh0_len9 _) rfl rfl) (by decide)
theorem o_254 (dg : Int32) : ob (HH dg) 254 = some (.inl (1, 32, .inr (.inl (fun _ => 0)))) := oTH (ob_mid3 (p := 129) (j := 92) (sh0_len9 _) rfl rfl) (by decide)
theorem o_255 (dg : Int32) : ob (HH dg) 255 = some (.inl (5, 16, .inr (.inr (.inr (.inr (fun i => if i < 16 then some (255 + 1 + i) else none)))))) := oTH (ob_mid3 (p := 129) (j := 93) (sh0_len9 _) rfl rfl) (by decide)
theorem o_256 (dg : Int32) : ob (HH dg) 256 = some (.inl (0, 280, .inl (fun _ => 0))) := oTH (ob_mid3 (p := 129) (j := 94) (sh0_len9 _) rfl rfl) (by decide)
theorem o_257 (dg : Int32) : ob (HH dg) 257 = some (.inl (0, 280, .inl (fun _ => 0))) := oTH (ob_mid3 (p := 129) (j := 95) (sh0_len9 _) rfl rfl) (by decide)
theorem o_258 (dg : Int32) : ob (HH dg) 258 = some (.inl (0, 280, .inl (fun _ => 0))) := oTH (ob_mid3 (p := 129) (j := 96) (sh0_len9 _) rfl rfl) (by decide)
theorem o_259 (dg : Int32) : ob (HH dg) 259 = some (.inl (0, 280, .inl (fun _ => 0))) := oTH (ob_mid3 (p := 129) (j := 97) (sh0_len9 _) rfl rfl) (by decide)
theorem o_260 (dg : Int32) : ob (HH dg) 260 = some (.inl (0, 280, .inl (fun _ => 0))) := oTH (ob_mid3 (p := 129) (j := 98) (sh0_len9 _) rfl rfl) (by decide)
theorem o_261 (dg : Int32) : ob (HH dg) 261 = some (.inl (0, 280, .inl (fun _ => 0))) := oTH (ob_mid3 (p := 129) (j := 99) (sh0_len9 _) rfl rfl) (by decide)
theorem o_262 (dg : Int32) : ob (HH dg) 262 = some (.inl (0, 280, .inl (fun _ => 0))) := oTH (ob_mid3 (p := 129) (j := 100) (sh0_len9 _) rfl rfl) (by decide)
theorem o_263 (dg : Int32) : ob (HH dg) 263 = some (.inl (0, 280, .inl (fun _ => 0))) := oTH (ob_mid3 (p := 129) (j := 101) (sh0_len9 _) rfl rfl) (by decide)
theorem o_264 (dg : Int32) : ob (HH dg) 264 = some (.inl (0, 280, .inl (fun _ => 0))) := oTH (ob_mid3 (p := 129) (j := 102) (sh0_len9 _) rfl rfl) (by decide)
theorem o_265 (dg : Int32) : ob (HH dg) 265 = some (.inl (0, 280, .inl (fun _ => 0))) := oTH (ob_mid3 (p := 129) (j := 103) (sh0_len9 _) rfl rfl) (by decide)
theorem o_266 (dg : Int32) : ob (HH dg) 266 = some (.inl (0, 280, .inl (fun _ => 0))) := oTH (ob_mid3 (p := 129) (j := 104) (sh0_len9 _) rfl rfl) (by decide)
theorem o_267 (dg : Int32) : ob (HH dg) 267 = some (.inl (0, 280, .inl (fun _ => 0))) := oTH (ob_mid3 (p := 129) (j := 105) (sh0_len9 _) rfl rfl) (by decide)
theorem o_268 (dg : Int32) : ob (HH dg) 268 = some (.inl (0, 280, .inl (fun _ => 0))) := oTH (ob_mid3 (p := 129) (j := 106) (sh0_len9 _) rfl rfl) (by decide)
theorem o_269 (dg : Int32) : ob (HH dg) 269 = some (.inl (0, 280, .inl (fun _ => 0))) := oTH (ob_mid3 (p := 129) (j := 107) (sh0_len9 _) rfl rfl) (by decide)
theorem o_270 (dg : Int32) : ob (HH dg) 270 = some (.inl (0, 280, .inl (fun _ => 0))) := oTH (ob_mid3 (p := 129) (j := 108) (sh0_len9 _) rfl rfl) (by decide)
theorem o_271 (dg : Int32) : ob (HH dg) 271 = some (.inl (0, 280, .inl (fun _ => 0))) := oTH (ob_mid3 (p := 129) (j := 109) (sh0_len9 _) rfl rfl) (by decide)
theorem o_272 (dg : Int32) : ob (HH dg) 272 = some (.inl (0, 16, .inl (fun _ => 0))) := oTH (ob_mid3 (p := 129) (j := 110) (sh0_len9 _) rfl rfl) (by decide)
theorem o_273 (dg : Int32) : ob (HH dg) 273 = some (.inl (0, 16, .inl (fun _ => 0))) := oTH (ob_mid3 (p := 129) (j := 111) (sh0_len9 _) rfl rfl) (by decide)
theorem o_274 (dg : Int32) : ob (HH dg) 274 = some (.inl (0, 4, .inl (fun _ => 0))) := oTH (ob_mid3 (p := 129) (j := 112) (sh0_len9 _) rfl rfl) (by decide)
theorem o_275 (dg : Int32) : ob (HH dg) 275 = some (.inl (0, 32, .inl (fun _ => 0))) := oTH (ob_mid3 (p := 129) (j := 113) (sh0_len9 _) rfl rfl) (by decide)
theorem o_276 (dg : Int32) : ob (HH dg) 276 = some (.inl (1, 32, .inr (.inl (fun _ => 0)))) := oTH (ob_mid3 (p := 129) (j := 114) (sh0_len9 _) rfl rfl) (by decide)
end FCT
