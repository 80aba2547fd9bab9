section ST0
/-- the state at the loop's head for the first time; dg: the digits asked for -/
def sg0 (dg : Int32) : SG := fun c i => if c = kW_digits ∨ c = kB_digits ∨ c = kO_digits ∨ c = kR_digits then (dg &&& Int32.ofInt 3).toInt else if c = kR_unit then (mU (dg &&& Int32.ofInt 3).toNatClampNeg).toInt else if (c = kJ_place ∨ c = kR_place) ∧ 0 ≤ i ∧ i < 7 then -1 else if c = kW_shape ∨ c = kB_shape then 162 else 0
theorem sg0_z (dg : Int32) {c : Nat} (h : ¬ (c = kW_digits ∨ c = kB_digits ∨ c = kO_digits ∨ c = kR_digits)) (h2 : ¬ c = kR_unit) (h3 : ¬ (c = kJ_place ∨ c = kR_place ∨ c = kW_shape ∨ c = kB_shape)) : sg0 dg c = fun _ => 0 := by
  funext i; unfold sg0; rw [if_neg h, if_neg h2, if_neg (fun q => h3 (q.1.elim .inl (fun q => .inr (.inl q)))), if_neg (fun q => h3 (.inr (.inr q)))]
theorem sg0_s (dg : Int32) {c : Nat} (h : c = kW_shape ∨ c = kB_shape) : sg0 dg c 0 = 162 := by
  rcases h with rfl | rfl <;> rfl
theorem lcons {α : Type} {a b : α} {l m : List α} (h1 : a = b) (h2 : l = m) : a :: l = b :: m := by rw [h1, h2]
theorem sg0_d (dg : Int32) {c : Nat} (h : c = kW_digits ∨ c = kB_digits ∨ c = kO_digits ∨ c = kR_digits) : sg0 dg c = fun _ => (dg &&& Int32.ofInt 3).toInt := by
  funext i; unfold sg0; rw [if_pos h]
theorem sg0_u (dg : Int32) : sg0 dg kR_unit = fun _ => (mU (dg &&& Int32.ofInt 3).toNatClampNeg).toInt := by
  funext i; unfold sg0; rw [if_neg (by decide), if_pos rfl]
theorem sg0_p (dg : Int32) {c : Nat} (h : c = kJ_place ∨ c = kR_place) : ar_i (sg0 dg) c = fun j => if j < 7 then (Int32.ofInt (-1)) else 0 := by
  funext j
  show Int32.ofInt (sg0 dg c j) = _
  unfold sg0
  rw [if_neg (by rcases h with rfl | rfl <;> decide), if_neg (by rcases h with rfl | rfl <;> decide)]
  by_cases q : j < 7
  · rw [if_pos q, if_pos ⟨h, by omega, by omega⟩]
  · rw [if_neg q, if_neg (fun w => q (by omega)), if_neg (by rcases h with rfl | rfl <;> decide)]; rfl
theorem hz_i (dg : Int32) {a n b s : Nat} (h : sg0 dg (a * 256) = fun _ => 0) : en_t (sg0 dg) a (.inr (0, n, b, s)) = .inl (0, n, .inl (fun _ => 0)) := by
  show (Sum.inl (0, n, .inl (ar_i (sg0 dg) (a * 256))) : PEnt) = _; unfold ar_i; rw [h]; rfl
theorem hz_l (dg : Int32) {a n b s : Nat} (h : sg0 dg (a * 256) = fun _ => 0) : en_t (sg0 dg) a (.inr (1, n, b, s)) = .inl (1, n, .inr (.inl (fun _ => 0))) := by
  show (Sum.inl (1, n, .inr (.inl (ar_l (sg0 dg) (a * 256)))) : PEnt) = _; unfold ar_l; rw [h]; rfl
theorem hz_b (dg : Int32) {a n b s : Nat} (h : sg0 dg (a * 256) = fun _ => 0) : en_t (sg0 dg) a (.inr (2, n, b, s)) = .inl (2, n, .inl (fun _ => 0)) := by
  show (Sum.inl (2, n, .inl (ar_b (sg0 dg) (a * 256))) : PEnt) = _; unfold ar_b; rw [h]; rfl
theorem hz_z (dg : Int32) {a n b s : Nat} (h : sg0 dg (a * 256) = fun _ => 0) : en_t (sg0 dg) a (.inr (3, n, b, s)) = .inl (3, n, .inl (fun _ => 0)) := by
  show (Sum.inl (3, n, .inl (ar_z (sg0 dg) (a * 256))) : PEnt) = _; unfold ar_z; rw [h]; rfl
theorem fl_z {σ : SG} : ∀ {ks : List (Nat × Nat)} {c : Nat}, (∀ j, c ≤ j → j < c + ks.length → σ j = fun _ => 0) → fl σ c ks = ks.map (fun k => fv k (fun _ _ => 0) 0) := by
  intro ks
  induction ks with
  | nil => intro c _; rfl
  | cons k t ih =>
    intro c h
    show fv k σ c :: fl σ (c + 1) t = fv k (fun _ _ => 0) 0 :: t.map _
    rw [ih (fun j h1 h2 => h j (by omega) (by simp only [List.length_cons]; omega))]
    congr 1
    unfold fv
    rw [h c (Nat.le_refl c) (by simp)]
theorem hs_32 (dg : Int32) : ob (HH dg) 32 = some (en_t (sg0 dg) 32 (.inl (14, ky_32))) := by
  refine (o_32 dg).trans (congrArg some (congrArg (fun l => (Sum.inr (14, l) : PEnt)) ?_))
  show _ = fl (sg0 dg) 8192 ky_32
  rw [fl_z (fun j h1 h2 => sg0_z dg (by have : j < 8192 + 256 := Nat.lt_of_lt_of_le h2 (by decide); unfold kW_digits kB_digits kO_digits kR_digits; omega) (by have : j < 8192 + 256 := Nat.lt_of_lt_of_le h2 (by decide); unfold kR_unit; omega) (by have : j < 8192 + 256 := Nat.lt_of_lt_of_le h2 (by decide); unfold kJ_place kR_place kW_shape kB_shape; omega))]
  rfl
theorem hs_33 (dg : Int32) : ob (HH dg) 33 = some (en_t (sg0 dg) 33 (.inr (4, 32, 34, 4))) := (o_33 dg).trans (congrArg some (by first | rfl | (show (Sum.inl _ : PEnt) = Sum.inl _; refine congrArg (fun f : Nat → Option Nat => (Sum.inl (_, _, .inr (.inr (.inr (.inr f)))) : PEnt)) (funext fun j => ?_); first | (show shf 1 32 j = ar_r 32 34 4 j; unfold shf ar_r; by_cases z : j < 32 <;> simp [z] <;> omega) | (show (if j < 16 then some (255 + 1 + j) else none) = ar_r 16 256 1 j; unfold ar_r; by_cases z : j < 16 <;> simp [z] <;> omega))))
theorem hs_162 (dg : Int32) : ob (HH dg) 162 = some (en_t (sg0 dg) 162 (.inl (9, [(3, 163), (3, 164), (3, 165), (0, 0), (0, 0)]))) := by
  refine (o_162 dg).trans (congrArg some (congrArg (fun l => (Sum.inr (9, l) : PEnt)) ?_))
  show _ = fl (sg0 dg) 41472 [(3, 163), (3, 164), (3, 165), (0, 0), (0, 0)]
  rw [fl_z (fun j h1 h2 => sg0_z dg (by have : j < 41472 + 256 := Nat.lt_of_lt_of_le h2 (by decide); unfold kW_digits kB_digits kO_digits kR_digits; omega) (by have : j < 41472 + 256 := Nat.lt_of_lt_of_le h2 (by decide); unfold kR_unit; omega) (by have : j < 41472 + 256 := Nat.lt_of_lt_of_le h2 (by decide); unfold kJ_place kR_place kW_shape kB_shape; omega))]
  rfl
theorem hs_163 (dg : Int32) : ob (HH dg) 163 = some (en_t (sg0 dg) 163 (.inr (0, 2048, 0, 0))) := (o_163 dg).trans (congrArg some (hz_i dg (sg0_z dg (by decide) (by decide) (by decide))).symm)
theorem hs_164 (dg : Int32) : ob (HH dg) 164 = some (en_t (sg0 dg) 164 (.inr (0, 2048, 0, 0))) := (o_164 dg).trans (congrArg some (hz_i dg (sg0_z dg (by decide) (by decide) (by decide))).symm)
theorem hs_165 (dg : Int32) : ob (HH dg) 165 = some (en_t (sg0 dg) 165 (.inr (0, 2048, 0, 0))) := (o_165 dg).trans (congrArg some (hz_i dg (sg0_z dg (by decide) (by decide) (by decide))).symm)
theorem hs_166 (dg : Int32) : ob (HH dg) 166 = some (en_t (sg0 dg) 166 (.inr (2, 65536, 0, 0))) := (o_166 dg).trans (congrArg some (hz_b dg (sg0_z dg (by decide) (by decide) (by decide))).symm)
theorem hs_167 (dg : Int32) : ob (HH dg) 167 = some (en_t (sg0 dg) 167 (.inl (12, ky_167))) := by
  refine (o_167 dg).trans (congrArg some (congrArg (fun l => (Sum.inr (12, l) : PEnt)) ?_))
  exact (lcons (show Value.int (dg &&& Int32.ofInt 3) = vi (sg0 dg 42752 0) by rw [sg0_d dg (by decide)]; exact congrArg Value.int (Int32.ofInt_toInt _).symm) (lcons rfl (lcons rfl (lcons rfl (lcons (show Value.ref 162 = vr (sg0 dg 42756 0).toNat by rw [sg0_s dg (by decide)]; rfl) (lcons (show Value.int 0 = vi (sg0 dg 42757 0) by rw [sg0_z dg (c := 42757) (by decide) (by decide) (by decide)]; rfl) (lcons (show Value.int 0 = vi (sg0 dg 42758 0) by rw [sg0_z dg (c := 42758) (by decide) (by decide) (by decide)]; rfl) (lcons (show Value.int 0 = vi (sg0 dg 42759 0) by rw [sg0_z dg (c := 42759) (by decide) (by decide) (by decide)]; rfl) (lcons (show Value.int 0 = vi (sg0 dg 42760 0) by rw [sg0_z dg (c := 42760) (by decide) (by decide) (by decide)]; rfl) (lcons (show Value.int 0 = vi (sg0 dg 42761 0) by rw [sg0_z dg (c := 42761) (by decide) (by decide) (by decide)]; rfl) (lcons (show Value.int 0 = vi (sg0 dg 42762 0) by rw [sg0_z dg (c := 42762) (by decide) (by decide) (by decide)]; rfl) (lcons (show Value.int 0 = vi (sg0 dg 42763 0) by rw [sg0_z dg (c := 42763) (by decide) (by decide) (by decide)]; rfl) rfl))))))))))))
theorem hs_168 (dg : Int32) : ob (HH dg) 168 = some (en_t (sg0 dg) 168 (.inr (0, 64, 0, 0))) := (o_168 dg).trans (congrArg some (hz_i dg (sg0_z dg (by decide) (by decide) (by decide))).symm)
theorem hs_169 (dg : Int32) : ob (HH dg) 169 = some (en_t (sg0 dg) 169 (.inr (0, 64, 0, 0))) := (o_169 dg).trans (congrArg some (hz_i dg (sg0_z dg (by decide) (by decide) (by decide))).symm)
theorem hs_170 (dg : Int32) : ob (HH dg) 170 = some (en_t (sg0 dg) 170 (.inl (3, ky_170))) := by
  refine (o_170 dg).trans (congrArg some (congrArg (fun l => (Sum.inr (3, l) : PEnt)) ?_))
  exact (lcons (show Value.int (dg &&& Int32.ofInt 3) = vi (sg0 dg 43520 0) by rw [sg0_d dg (by decide)]; exact congrArg Value.int (Int32.ofInt_toInt _).symm) (lcons rfl (lcons rfl (lcons rfl (lcons (show Value.ref 162 = vr (sg0 dg 43524 0).toNat by rw [sg0_s dg (by decide)]; rfl) (lcons (show Value.int 0 = vi (sg0 dg 43525 0) by rw [sg0_z dg (c := 43525) (by decide) (by decide) (by decide)]; rfl) (lcons (show Value.int 0 = vi (sg0 dg 43526 0) by rw [sg0_z dg (c := 43526) (by decide) (by decide) (by decide)]; rfl) (lcons (show Value.int 0 = vi (sg0 dg 43527 0) by rw [sg0_z dg (c := 43527) (by decide) (by decide) (by decide)]; rfl) (lcons (show Value.int 0 = vi (sg0 dg 43528 0) by rw [sg0_z dg (c := 43528) (by decide) (by decide) (by decide)]; rfl) (lcons (show Value.int 0 = zv (nz (sg0 dg 43529 0)) by rw [sg0_z dg (c := 43529) (by decide) (by decide) (by decide)]; rfl) (lcons (show Value.int 0 = vi (sg0 dg 43530 0) by rw [sg0_z dg (c := 43530) (by decide) (by decide) (by decide)]; rfl) (lcons (show Value.int 0 = vi (sg0 dg 43531 0) by rw [sg0_z dg (c := 43531) (by decide) (by decide) (by decide)]; rfl) (lcons (show Value.int 0 = vi (sg0 dg 43532 0) by rw [sg0_z dg (c := 43532) (by decide) (by decide) (by decide)]; rfl) rfl)))))))))))))
theorem hs_171 (dg : Int32) : ob (HH dg) 171 = some (en_t (sg0 dg) 171 (.inr (1, 64, 0, 0))) := (o_171 dg).trans (congrArg some (hz_l dg (sg0_z dg (by decide) (by decide) (by decide))).symm)
theorem hs_172 (dg : Int32) : ob (HH dg) 172 = some (en_t (sg0 dg) 172 (.inr (0, 64, 0, 0))) := (o_172 dg).trans (congrArg some (hz_i dg (sg0_z dg (by decide) (by decide) (by decide))).symm)
theorem hs_173 (dg : Int32) : ob (HH dg) 173 = some (en_t (sg0 dg) 173 (.inl (13, ky_173))) := by
  refine (o_173 dg).trans (congrArg some (congrArg (fun l => (Sum.inr (13, l) : PEnt)) ?_))
  show _ = fv (0, 0) (sg0 dg) 44288 :: fl (sg0 dg) (44288 + 1) (ky_173.drop 1)
  rw [fl_z (fun j h1 h2 => sg0_z dg (by have : j < 44288 + 256 := Nat.lt_of_lt_of_le h2 (by decide); unfold kW_digits kB_digits kO_digits kR_digits; omega) (by have : j < 44288 + 256 := Nat.lt_of_lt_of_le h2 (by decide); unfold kR_unit; omega) (by have : j < 44288 + 256 := Nat.lt_of_lt_of_le h2 (by decide); unfold kJ_place kR_place kW_shape kB_shape; omega))]
  show _ = vi (sg0 dg 44288 0) :: _
  rw [sg0_d dg (by decide)]
  show _ = Value.int (Int32.ofInt (Int32.toInt _)) :: _
  rw [Int32.ofInt_toInt]
  rfl
theorem hs_174 (dg : Int32) : ob (HH dg) 174 = some (en_t (sg0 dg) 174 (.inr (0, 64, 0, 0))) := (o_174 dg).trans (congrArg some (hz_i dg (sg0_z dg (by decide) (by decide) (by decide))).symm)
theorem hs_175 (dg : Int32) : ob (HH dg) 175 = some (en_t (sg0 dg) 175 (.inr (0, 64, 0, 0))) := (o_175 dg).trans (congrArg some (hz_i dg (sg0_z dg (by decide) (by decide) (by decide))).symm)
theorem hs_176 (dg : Int32) : ob (HH dg) 176 = some (en_t (sg0 dg) 176 (.inr (2, 80000, 0, 0))) := (o_176 dg).trans (congrArg some (hz_b dg (sg0_z dg (by decide) (by decide) (by decide))).symm)
theorem hs_177 (dg : Int32) : ob (HH dg) 177 = some (en_t (sg0 dg) 177 (.inl (4, ky_177))) := by
  refine (o_177 dg).trans (congrArg some (congrArg (fun l => (Sum.inr (4, l) : PEnt)) ?_))
  show _ = fl (sg0 dg) 45312 ky_177
  rw [fl_z (fun j h1 h2 => sg0_z dg (by have : j < 45312 + 256 := Nat.lt_of_lt_of_le h2 (by decide); unfold kW_digits kB_digits kO_digits kR_digits; omega) (by have : j < 45312 + 256 := Nat.lt_of_lt_of_le h2 (by decide); unfold kR_unit; omega) (by have : j < 45312 + 256 := Nat.lt_of_lt_of_le h2 (by decide); unfold kJ_place kR_place kW_shape kB_shape; omega))]
  rfl
theorem hs_178 (dg : Int32) : ob (HH dg) 178 = some (en_t (sg0 dg) 178 (.inr (0, 7, 0, 0))) := (o_178 dg).trans (congrArg some (by show _ = (Sum.inl (0, 7, .inl (ar_i (sg0 dg) _)) : PEnt); rw [sg0_p dg (by decide)]))
theorem hs_179 (dg : Int32) : ob (HH dg) 179 = some (en_t (sg0 dg) 179 (.inl (8, ky_179))) := by
  refine (o_179 dg).trans (congrArg some (congrArg (fun l => (Sum.inr (8, l) : PEnt)) ?_))
  show _ = fl (sg0 dg) 45824 ky_179
  rw [fl_z (fun j h1 h2 => sg0_z dg (by have : j < 45824 + 256 := Nat.lt_of_lt_of_le h2 (by decide); unfold kW_digits kB_digits kO_digits kR_digits; omega) (by have : j < 45824 + 256 := Nat.lt_of_lt_of_le h2 (by decide); unfold kR_unit; omega) (by have : j < 45824 + 256 := Nat.lt_of_lt_of_le h2 (by decide); unfold kJ_place kR_place kW_shape kB_shape; omega))]
  rfl
theorem hs_180 (dg : Int32) : ob (HH dg) 180 = some (en_t (sg0 dg) 180 (.inr (0, 2048, 0, 0))) := (o_180 dg).trans (congrArg some (hz_i dg (sg0_z dg (by decide) (by decide) (by decide))).symm)
theorem hs_181 (dg : Int32) : ob (HH dg) 181 = some (en_t (sg0 dg) 181 (.inr (0, 2048, 0, 0))) := (o_181 dg).trans (congrArg some (hz_i dg (sg0_z dg (by decide) (by decide) (by decide))).symm)
theorem hs_182 (dg : Int32) : ob (HH dg) 182 = some (en_t (sg0 dg) 182 (.inr (0, 2048, 0, 0))) := (o_182 dg).trans (congrArg some (hz_i dg (sg0_z dg (by decide) (by decide) (by decide))).symm)
theorem hs_183 (dg : Int32) : ob (HH dg) 183 = some (en_t (sg0 dg) 183 (.inr (0, 2048, 0, 0))) := (o_183 dg).trans (congrArg some (hz_i dg (sg0_z dg (by decide) (by decide) (by decide))).symm)
theorem hs_184 (dg : Int32) : ob (HH dg) 184 = some (en_t (sg0 dg) 184 (.inr (0, 2048, 0, 0))) := (o_184 dg).trans (congrArg some (hz_i dg (sg0_z dg (by decide) (by decide) (by decide))).symm)
theorem hs_185 (dg : Int32) : ob (HH dg) 185 = some (en_t (sg0 dg) 185 (.inr (0, 2048, 0, 0))) := (o_185 dg).trans (congrArg some (hz_i dg (sg0_z dg (by decide) (by decide) (by decide))).symm)
theorem hs_186 (dg : Int32) : ob (HH dg) 186 = some (en_t (sg0 dg) 186 (.inr (0, 2048, 0, 0))) := (o_186 dg).trans (congrArg some (hz_i dg (sg0_z dg (by decide) (by decide) (by decide))).symm)
theorem hs_187 (dg : Int32) : ob (HH dg) 187 = some (en_t (sg0 dg) 187 (.inr (0, 2048, 0, 0))) := (o_187 dg).trans (congrArg some (hz_i dg (sg0_z dg (by decide) (by decide) (by decide))).symm)
theorem hs_188 (dg : Int32) : ob (HH dg) 188 = some (en_t (sg0 dg) 188 (.inr (0, 2048, 0, 0))) := (o_188 dg).trans (congrArg some (hz_i dg (sg0_z dg (by decide) (by decide) (by decide))).symm)
theorem hs_189 (dg : Int32) : ob (HH dg) 189 = some (en_t (sg0 dg) 189 (.inr (0, 2048, 0, 0))) := (o_189 dg).trans (congrArg some (hz_i dg (sg0_z dg (by decide) (by decide) (by decide))).symm)
theorem hs_190 (dg : Int32) : ob (HH dg) 190 = some (en_t (sg0 dg) 190 (.inr (0, 2048, 0, 0))) := (o_190 dg).trans (congrArg some (hz_i dg (sg0_z dg (by decide) (by decide) (by decide))).symm)
theorem hs_191 (dg : Int32) : ob (HH dg) 191 = some (en_t (sg0 dg) 191 (.inr (0, 2048, 0, 0))) := (o_191 dg).trans (congrArg some (hz_i dg (sg0_z dg (by decide) (by decide) (by decide))).symm)
theorem hs_192 (dg : Int32) : ob (HH dg) 192 = some (en_t (sg0 dg) 192 (.inr (0, 2048, 0, 0))) := (o_192 dg).trans (congrArg some (hz_i dg (sg0_z dg (by decide) (by decide) (by decide))).symm)
theorem hs_193 (dg : Int32) : ob (HH dg) 193 = some (en_t (sg0 dg) 193 (.inl (11, ky_193))) := by
  refine (o_193 dg).trans (congrArg some (congrArg (fun l => (Sum.inr (11, l) : PEnt)) ?_))
  show _ = fl (sg0 dg) 49408 ky_193
  rw [fl_z (fun j h1 h2 => sg0_z dg (by have : j < 49408 + 256 := Nat.lt_of_lt_of_le h2 (by decide); unfold kW_digits kB_digits kO_digits kR_digits; omega) (by have : j < 49408 + 256 := Nat.lt_of_lt_of_le h2 (by decide); unfold kR_unit; omega) (by have : j < 49408 + 256 := Nat.lt_of_lt_of_le h2 (by decide); unfold kJ_place kR_place kW_shape kB_shape; omega))]
  rfl
theorem hs_194 (dg : Int32) : ob (HH dg) 194 = some (en_t (sg0 dg) 194 (.inl (8, ky_194))) := by
  refine (o_194 dg).trans (congrArg some (congrArg (fun l => (Sum.inr (8, l) : PEnt)) ?_))
  show _ = fl (sg0 dg) 49664 ky_194
  rw [fl_z (fun j h1 h2 => sg0_z dg (by have : j < 49664 + 256 := Nat.lt_of_lt_of_le h2 (by decide); unfold kW_digits kB_digits kO_digits kR_digits; omega) (by have : j < 49664 + 256 := Nat.lt_of_lt_of_le h2 (by decide); unfold kR_unit; omega) (by have : j < 49664 + 256 := Nat.lt_of_lt_of_le h2 (by decide); unfold kJ_place kR_place kW_shape kB_shape; omega))]
  rfl
theorem hs_195 (dg : Int32) : ob (HH dg) 195 = some (en_t (sg0 dg) 195 (.inr (0, 2048, 0, 0))) := (o_195 dg).trans (congrArg some (hz_i dg (sg0_z dg (by decide) (by decide) (by decide))).symm)
theorem hs_196 (dg : Int32) : ob (HH dg) 196 = some (en_t (sg0 dg) 196 (.inr (0, 2048, 0, 0))) := (o_196 dg).trans (congrArg some (hz_i dg (sg0_z dg (by decide) (by decide) (by decide))).symm)
theorem hs_197 (dg : Int32) : ob (HH dg) 197 = some (en_t (sg0 dg) 197 (.inr (0, 2048, 0, 0))) := (o_197 dg).trans (congrArg some (hz_i dg (sg0_z dg (by decide) (by decide) (by decide))).symm)
theorem hs_198 (dg : Int32) : ob (HH dg) 198 = some (en_t (sg0 dg) 198 (.inr (0, 2048, 0, 0))) := (o_198 dg).trans (congrArg some (hz_i dg (sg0_z dg (by decide) (by decide) (by decide))).symm)
theorem hs_199 (dg : Int32) : ob (HH dg) 199 = some (en_t (sg0 dg) 199 (.inr (0, 2048, 0, 0))) := (o_199 dg).trans (congrArg some (hz_i dg (sg0_z dg (by decide) (by decide) (by decide))).symm)
theorem hs_200 (dg : Int32) : ob (HH dg) 200 = some (en_t (sg0 dg) 200 (.inr (1, 16384, 0, 0))) := (o_200 dg).trans (congrArg some (hz_l dg (sg0_z dg (by decide) (by decide) (by decide))).symm)
theorem hs_201 (dg : Int32) : ob (HH dg) 201 = some (en_t (sg0 dg) 201 (.inr (1, 16384, 0, 0))) := (o_201 dg).trans (congrArg some (hz_l dg (sg0_z dg (by decide) (by decide) (by decide))).symm)
theorem hs_202 (dg : Int32) : ob (HH dg) 202 = some (en_t (sg0 dg) 202 (.inr (0, 8192, 0, 0))) := (o_202 dg).trans (congrArg some (hz_i dg (sg0_z dg (by decide) (by decide) (by decide))).symm)
theorem hs_203 (dg : Int32) : ob (HH dg) 203 = some (en_t (sg0 dg) 203 (.inr (0, 8192, 0, 0))) := (o_203 dg).trans (congrArg some (hz_i dg (sg0_z dg (by decide) (by decide) (by decide))).symm)
theorem hs_204 (dg : Int32) : ob (HH dg) 204 = some (en_t (sg0 dg) 204 (.inr (0, 8192, 0, 0))) := (o_204 dg).trans (congrArg some (hz_i dg (sg0_z dg (by decide) (by decide) (by decide))).symm)
theorem hs_205 (dg : Int32) : ob (HH dg) 205 = some (en_t (sg0 dg) 205 (.inr (0, 16384, 0, 0))) := (o_205 dg).trans (congrArg some (hz_i dg (sg0_z dg (by decide) (by decide) (by decide))).symm)
theorem hs_206 (dg : Int32) : ob (HH dg) 206 = some (en_t (sg0 dg) 206 (.inr (0, 16384, 0, 0))) := (o_206 dg).trans (congrArg some (hz_i dg (sg0_z dg (by decide) (by decide) (by decide))).symm)
theorem hs_207 (dg : Int32) : ob (HH dg) 207 = some (en_t (sg0 dg) 207 (.inr (0, 16384, 0, 0))) := (o_207 dg).trans (congrArg some (hz_i dg (sg0_z dg (by decide) (by decide) (by decide))).symm)
theorem hs_208 (dg : Int32) : ob (HH dg) 208 = some (en_t (sg0 dg) 208 (.inl (7, ky_208))) := by
  refine (o_208 dg).trans (congrArg some (congrArg (fun l => (Sum.inr (7, l) : PEnt)) ?_))
  show _ = fl (sg0 dg) 53248 ky_208
  rw [fl_z (fun j h1 h2 => sg0_z dg (by have : j < 53248 + 256 := Nat.lt_of_lt_of_le h2 (by decide); unfold kW_digits kB_digits kO_digits kR_digits; omega) (by have : j < 53248 + 256 := Nat.lt_of_lt_of_le h2 (by decide); unfold kR_unit; omega) (by have : j < 53248 + 256 := Nat.lt_of_lt_of_le h2 (by decide); unfold kJ_place kR_place kW_shape kB_shape; omega))]
  rfl
theorem hs_209 (dg : Int32) : ob (HH dg) 209 = some (en_t (sg0 dg) 209 (.inr (0, 16384, 0, 0))) := (o_209 dg).trans (congrArg some (hz_i dg (sg0_z dg (by decide) (by decide) (by decide))).symm)
theorem hs_210 (dg : Int32) : ob (HH dg) 210 = some (en_t (sg0 dg) 210 (.inr (0, 16384, 0, 0))) := (o_210 dg).trans (congrArg some (hz_i dg (sg0_z dg (by decide) (by decide) (by decide))).symm)
theorem hs_211 (dg : Int32) : ob (HH dg) 211 = some (en_t (sg0 dg) 211 (.inr (3, 16384, 0, 0))) := (o_211 dg).trans (congrArg some (hz_z dg (sg0_z dg (by decide) (by decide) (by decide))).symm)
theorem hs_212 (dg : Int32) : ob (HH dg) 212 = some (en_t (sg0 dg) 212 (.inr (3, 16384, 0, 0))) := (o_212 dg).trans (congrArg some (hz_z dg (sg0_z dg (by decide) (by decide) (by decide))).symm)
theorem hs_213 (dg : Int32) : ob (HH dg) 213 = some (en_t (sg0 dg) 213 (.inr (0, 8194, 0, 0))) := (o_213 dg).trans (congrArg some (hz_i dg (sg0_z dg (by decide) (by decide) (by decide))).symm)
theorem hs_214 (dg : Int32) : ob (HH dg) 214 = some (en_t (sg0 dg) 214 (.inr (0, 32768, 0, 0))) := (o_214 dg).trans (congrArg some (hz_i dg (sg0_z dg (by decide) (by decide) (by decide))).symm)
theorem hs_215 (dg : Int32) : ob (HH dg) 215 = some (en_t (sg0 dg) 215 (.inr (0, 8193, 0, 0))) := (o_215 dg).trans (congrArg some (hz_i dg (sg0_z dg (by decide) (by decide) (by decide))).symm)
theorem hs_216 (dg : Int32) : ob (HH dg) 216 = some (en_t (sg0 dg) 216 (.inr (0, 8192, 0, 0))) := (o_216 dg).trans (congrArg some (hz_i dg (sg0_z dg (by decide) (by decide) (by decide))).symm)
theorem hs_217 (dg : Int32) : ob (HH dg) 217 = some (en_t (sg0 dg) 217 (.inr (0, 2048, 0, 0))) := (o_217 dg).trans (congrArg some (hz_i dg (sg0_z dg (by decide) (by decide) (by decide))).symm)
theorem hs_218 (dg : Int32) : ob (HH dg) 218 = some (en_t (sg0 dg) 218 (.inr (0, 513, 0, 0))) := (o_218 dg).trans (congrArg some (hz_i dg (sg0_z dg (by decide) (by decide) (by decide))).symm)
theorem hs_219 (dg : Int32) : ob (HH dg) 219 = some (en_t (sg0 dg) 219 (.inr (1, 512, 0, 0))) := (o_219 dg).trans (congrArg some (hz_l dg (sg0_z dg (by decide) (by decide) (by decide))).symm)
theorem hs_220 (dg : Int32) : ob (HH dg) 220 = some (en_t (sg0 dg) 220 (.inr (0, 512, 0, 0))) := (o_220 dg).trans (congrArg some (hz_i dg (sg0_z dg (by decide) (by decide) (by decide))).symm)
theorem hs_221 (dg : Int32) : ob (HH dg) 221 = some (en_t (sg0 dg) 221 (.inr (1, 512, 0, 0))) := (o_221 dg).trans (congrArg some (hz_l dg (sg0_z dg (by decide) (by decide) (by decide))).symm)
theorem hs_222 (dg : Int32) : ob (HH dg) 222 = some (en_t (sg0 dg) 222 (.inl (6, ky_222))) := by
  refine (o_222 dg).trans (congrArg some (congrArg (fun l => (Sum.inr (6, l) : PEnt)) ?_))
  show _ = fl (sg0 dg) 56832 ky_222
  rw [fl_z (fun j h1 h2 => sg0_z dg (by have : j < 56832 + 256 := Nat.lt_of_lt_of_le h2 (by decide); unfold kW_digits kB_digits kO_digits kR_digits; omega) (by have : j < 56832 + 256 := Nat.lt_of_lt_of_le h2 (by decide); unfold kR_unit; omega) (by have : j < 56832 + 256 := Nat.lt_of_lt_of_le h2 (by decide); unfold kJ_place kR_place kW_shape kB_shape; omega))]
  rfl
theorem hs_223 (dg : Int32) : ob (HH dg) 223 = some (en_t (sg0 dg) 223 (.inl (8, ky_223))) := by
  refine (o_223 dg).trans (congrArg some (congrArg (fun l => (Sum.inr (8, l) : PEnt)) ?_))
  show _ = fl (sg0 dg) 57088 ky_223
  rw [fl_z (fun j h1 h2 => sg0_z dg (by have : j < 57088 + 256 := Nat.lt_of_lt_of_le h2 (by decide); unfold kW_digits kB_digits kO_digits kR_digits; omega) (by have : j < 57088 + 256 := Nat.lt_of_lt_of_le h2 (by decide); unfold kR_unit; omega) (by have : j < 57088 + 256 := Nat.lt_of_lt_of_le h2 (by decide); unfold kJ_place kR_place kW_shape kB_shape; omega))]
  rfl
theorem hs_224 (dg : Int32) : ob (HH dg) 224 = some (en_t (sg0 dg) 224 (.inr (0, 256, 0, 0))) := (o_224 dg).trans (congrArg some (hz_i dg (sg0_z dg (by decide) (by decide) (by decide))).symm)
theorem hs_225 (dg : Int32) : ob (HH dg) 225 = some (en_t (sg0 dg) 225 (.inr (0, 256, 0, 0))) := (o_225 dg).trans (congrArg some (hz_i dg (sg0_z dg (by decide) (by decide) (by decide))).symm)
theorem hs_226 (dg : Int32) : ob (HH dg) 226 = some (en_t (sg0 dg) 226 (.inr (0, 256, 0, 0))) := (o_226 dg).trans (congrArg some (hz_i dg (sg0_z dg (by decide) (by decide) (by decide))).symm)
theorem hs_227 (dg : Int32) : ob (HH dg) 227 = some (en_t (sg0 dg) 227 (.inr (0, 256, 0, 0))) := (o_227 dg).trans (congrArg some (hz_i dg (sg0_z dg (by decide) (by decide) (by decide))).symm)
theorem hs_228 (dg : Int32) : ob (HH dg) 228 = some (en_t (sg0 dg) 228 (.inr (0, 256, 0, 0))) := (o_228 dg).trans (congrArg some (hz_i dg (sg0_z dg (by decide) (by decide) (by decide))).symm)
theorem hs_229 (dg : Int32) : ob (HH dg) 229 = some (en_t (sg0 dg) 229 (.inr (0, 9, 0, 0))) := (o_229 dg).trans (congrArg some (hz_i dg (sg0_z dg (by decide) (by decide) (by decide))).symm)
theorem hs_230 (dg : Int32) : ob (HH dg) 230 = some (en_t (sg0 dg) 230 (.inr (1, 512, 0, 0))) := (o_230 dg).trans (congrArg some (hz_l dg (sg0_z dg (by decide) (by decide) (by decide))).symm)
theorem hs_231 (dg : Int32) : ob (HH dg) 231 = some (en_t (sg0 dg) 231 (.inr (0, 512, 0, 0))) := (o_231 dg).trans (congrArg some (hz_i dg (sg0_z dg (by decide) (by decide) (by decide))).symm)
theorem hs_232 (dg : Int32) : ob (HH dg) 232 = some (en_t (sg0 dg) 232 (.inr (0, 512, 0, 0))) := (o_232 dg).trans (congrArg some (hz_i dg (sg0_z dg (by decide) (by decide) (by decide))).symm)
theorem hs_233 (dg : Int32) : ob (HH dg) 233 = some (en_t (sg0 dg) 233 (.inr (0, 512, 0, 0))) := (o_233 dg).trans (congrArg some (hz_i dg (sg0_z dg (by decide) (by decide) (by decide))).symm)
theorem hs_234 (dg : Int32) : ob (HH dg) 234 = some (en_t (sg0 dg) 234 (.inr (1, 512, 0, 0))) := (o_234 dg).trans (congrArg some (hz_l dg (sg0_z dg (by decide) (by decide) (by decide))).symm)
theorem hs_235 (dg : Int32) : ob (HH dg) 235 = some (en_t (sg0 dg) 235 (.inr (1, 512, 0, 0))) := (o_235 dg).trans (congrArg some (hz_l dg (sg0_z dg (by decide) (by decide) (by decide))).symm)
theorem hs_236 (dg : Int32) : ob (HH dg) 236 = some (en_t (sg0 dg) 236 (.inr (0, 2, 0, 0))) := (o_236 dg).trans (congrArg some (hz_i dg (sg0_z dg (by decide) (by decide) (by decide))).symm)
theorem hs_237 (dg : Int32) : ob (HH dg) 237 = some (en_t (sg0 dg) 237 (.inr (0, 2, 0, 0))) := (o_237 dg).trans (congrArg some (hz_i dg (sg0_z dg (by decide) (by decide) (by decide))).symm)
theorem hs_238 (dg : Int32) : ob (HH dg) 238 = some (en_t (sg0 dg) 238 (.inl (5, ky_238))) := by
  refine (o_238 dg).trans (congrArg some (congrArg (fun l => (Sum.inr (5, l) : PEnt)) ?_))
  show _ = fl (sg0 dg) 60928 ky_238
  rw [fl_z (fun j h1 h2 => sg0_z dg (by have : j < 60928 + 256 := Nat.lt_of_lt_of_le h2 (by decide); unfold kW_digits kB_digits kO_digits kR_digits; omega) (by have : j < 60928 + 256 := Nat.lt_of_lt_of_le h2 (by decide); unfold kR_unit; omega) (by have : j < 60928 + 256 := Nat.lt_of_lt_of_le h2 (by decide); unfold kJ_place kR_place kW_shape kB_shape; omega))]
  rfl
theorem hs_239 (dg : Int32) : ob (HH dg) 239 = some (en_t (sg0 dg) 239 (.inr (1, 2048, 0, 0))) := (o_239 dg).trans (congrArg some (hz_l dg (sg0_z dg (by decide) (by decide) (by decide))).symm)
theorem hs_240 (dg : Int32) : ob (HH dg) 240 = some (en_t (sg0 dg) 240 (.inr (0, 1024, 0, 0))) := (o_240 dg).trans (congrArg some (hz_i dg (sg0_z dg (by decide) (by decide) (by decide))).symm)
theorem hs_241 (dg : Int32) : ob (HH dg) 241 = some (en_t (sg0 dg) 241 (.inr (0, 1024, 0, 0))) := (o_241 dg).trans (congrArg some (hz_i dg (sg0_z dg (by decide) (by decide) (by decide))).symm)
theorem hs_242 (dg : Int32) : ob (HH dg) 242 = some (en_t (sg0 dg) 242 (.inr (0, 1024, 0, 0))) := (o_242 dg).trans (congrArg some (hz_i dg (sg0_z dg (by decide) (by decide) (by decide))).symm)
theorem hs_243 (dg : Int32) : ob (HH dg) 243 = some (en_t (sg0 dg) 243 (.inr (0, 1024, 0, 0))) := (o_243 dg).trans (congrArg some (hz_i dg (sg0_z dg (by decide) (by decide) (by decide))).symm)
theorem hs_244 (dg : Int32) : ob (HH dg) 244 = some (en_t (sg0 dg) 244 (.inr (0, 2050, 0, 0))) := (o_244 dg).trans (congrArg some (hz_i dg (sg0_z dg (by decide) (by decide) (by decide))).symm)
theorem hs_245 (dg : Int32) : ob (HH dg) 245 = some (en_t (sg0 dg) 245 (.inr (1, 4129, 0, 0))) := (o_245 dg).trans (congrArg some (hz_l dg (sg0_z dg (by decide) (by decide) (by decide))).symm)
theorem hs_246 (dg : Int32) : ob (HH dg) 246 = some (en_t (sg0 dg) 246 (.inr (0, 3084, 0, 0))) := (o_246 dg).trans (congrArg some (hz_i dg (sg0_z dg (by decide) (by decide) (by decide))).symm)
theorem hs_247 (dg : Int32) : ob (HH dg) 247 = some (en_t (sg0 dg) 247 (.inr (0, 3084, 0, 0))) := (o_247 dg).trans (congrArg some (hz_i dg (sg0_z dg (by decide) (by decide) (by decide))).symm)
theorem hs_248 (dg : Int32) : ob (HH dg) 248 = some (en_t (sg0 dg) 248 (.inr (0, 514, 0, 0))) := (o_248 dg).trans (congrArg some (hz_i dg (sg0_z dg (by decide) (by decide) (by decide))).symm)
theorem hs_249 (dg : Int32) : ob (HH dg) 249 = some (en_t (sg0 dg) 249 (.inr (1, 512, 0, 0))) := (o_249 dg).trans (congrArg some (hz_l dg (sg0_z dg (by decide) (by decide) (by decide))).symm)
theorem hs_250 (dg : Int32) : ob (HH dg) 250 = some (en_t (sg0 dg) 250 (.inr (3, 2048, 0, 0))) := (o_250 dg).trans (congrArg some (hz_z dg (sg0_z dg (by decide) (by decide) (by decide))).symm)
theorem hs_251 (dg : Int32) : ob (HH dg) 251 = some (en_t (sg0 dg) 251 (.inr (0, 2048, 0, 0))) := (o_251 dg).trans (congrArg some (hz_i dg (sg0_z dg (by decide) (by decide) (by decide))).symm)
theorem hs_252 (dg : Int32) : ob (HH dg) 252 = some (en_t (sg0 dg) 252 (.inl (10, ky_252))) := by
  refine (o_252 dg).trans (congrArg some (congrArg (fun l => (Sum.inr (10, l) : PEnt)) ?_))
  show _ = fl (sg0 dg) 64512 ky_252
  rw [fl_z (fun j h1 h2 => sg0_z dg (by have : j < 64512 + 256 := Nat.lt_of_lt_of_le h2 (by decide); unfold kW_digits kB_digits kO_digits kR_digits; omega) (by have : j < 64512 + 256 := Nat.lt_of_lt_of_le h2 (by decide); unfold kR_unit; omega) (by have : j < 64512 + 256 := Nat.lt_of_lt_of_le h2 (by decide); unfold kJ_place kR_place kW_shape kB_shape; omega))]
  rfl
theorem hs_253 (dg : Int32) : ob (HH dg) 253 = some (en_t (sg0 dg) 253 (.inr (1, 32, 0, 0))) := (o_253 dg).trans (congrArg some (hz_l dg (sg0_z dg (by decide) (by decide) (by decide))).symm)
theorem hs_254 (dg : Int32) : ob (HH dg) 254 = some (en_t (sg0 dg) 254 (.inr (1, 32, 0, 0))) := (o_254 dg).trans (congrArg some (hz_l dg (sg0_z dg (by decide) (by decide) (by decide))).symm)
theorem hs_255 (dg : Int32) : ob (HH dg) 255 = some (en_t (sg0 dg) 255 (.inr (5, 16, 256, 1))) := (o_255 dg).trans (congrArg some (by first | rfl | (show (Sum.inl _ : PEnt) = Sum.inl _; refine congrArg (fun f : Nat → Option Nat => (Sum.inl (_, _, .inr (.inr (.inr (.inr f)))) : PEnt)) (funext fun j => ?_); first | (show shf 1 32 j = ar_r 32 34 4 j; unfold shf ar_r; by_cases z : j < 32 <;> simp [z] <;> omega) | (show (if j < 16 then some (255 + 1 + j) else none) = ar_r 16 256 1 j; unfold ar_r; by_cases z : j < 16 <;> simp [z] <;> omega))))
theorem hs_256 (dg : Int32) : ob (HH dg) 256 = some (en_t (sg0 dg) 256 (.inr (0, 280, 0, 0))) := (o_256 dg).trans (congrArg some (hz_i dg (sg0_z dg (by decide) (by decide) (by decide))).symm)
theorem hs_257 (dg : Int32) : ob (HH dg) 257 = some (en_t (sg0 dg) 257 (.inr (0, 280, 0, 0))) := (o_257 dg).trans (congrArg some (hz_i dg (sg0_z dg (by decide) (by decide) (by decide))).symm)
theorem hs_258 (dg : Int32) : ob (HH dg) 258 = some (en_t (sg0 dg) 258 (.inr (0, 280, 0, 0))) := (o_258 dg).trans (congrArg some (hz_i dg (sg0_z dg (by decide) (by decide) (by decide))).symm)
theorem hs_259 (dg : Int32) : ob (HH dg) 259 = some (en_t (sg0 dg) 259 (.inr (0, 280, 0, 0))) := (o_259 dg).trans (congrArg some (hz_i dg (sg0_z dg (by decide) (by decide) (by decide))).symm)
theorem hs_260 (dg : Int32) : ob (HH dg) 260 = some (en_t (sg0 dg) 260 (.inr (0, 280, 0, 0))) := (o_260 dg).trans (congrArg some (hz_i dg (sg0_z dg (by decide) (by decide) (by decide))).symm)
theorem hs_261 (dg : Int32) : ob (HH dg) 261 = some (en_t (sg0 dg) 261 (.inr (0, 280, 0, 0))) := (o_261 dg).trans (congrArg some (hz_i dg (sg0_z dg (by decide) (by decide) (by decide))).symm)
theorem hs_262 (dg : Int32) : ob (HH dg) 262 = some (en_t (sg0 dg) 262 (.inr (0, 280, 0, 0))) := (o_262 dg).trans (congrArg some (hz_i dg (sg0_z dg (by decide) (by decide) (by decide))).symm)
theorem hs_263 (dg : Int32) : ob (HH dg) 263 = some (en_t (sg0 dg) 263 (.inr (0, 280, 0, 0))) := (o_263 dg).trans (congrArg some (hz_i dg (sg0_z dg (by decide) (by decide) (by decide))).symm)
theorem hs_264 (dg : Int32) : ob (HH dg) 264 = some (en_t (sg0 dg) 264 (.inr (0, 280, 0, 0))) := (o_264 dg).trans (congrArg some (hz_i dg (sg0_z dg (by decide) (by decide) (by decide))).symm)
theorem hs_265 (dg : Int32) : ob (HH dg) 265 = some (en_t (sg0 dg) 265 (.inr (0, 280, 0, 0))) := (o_265 dg).trans (congrArg some (hz_i dg (sg0_z dg (by decide) (by decide) (by decide))).symm)
theorem hs_266 (dg : Int32) : ob (HH dg) 266 = some (en_t (sg0 dg) 266 (.inr (0, 280, 0, 0))) := (o_266 dg).trans (congrArg some (hz_i dg (sg0_z dg (by decide) (by decide) (by decide))).symm)
theorem hs_267 (dg : Int32) : ob (HH dg) 267 = some (en_t (sg0 dg) 267 (.inr (0, 280, 0, 0))) := (o_267 dg).trans (congrArg some (hz_i dg (sg0_z dg (by decide) (by decide) (by decide))).symm)
theorem hs_268 (dg : Int32) : ob (HH dg) 268 = some (en_t (sg0 dg) 268 (.inr (0, 280, 0, 0))) := (o_268 dg).trans (congrArg some (hz_i dg (sg0_z dg (by decide) (by decide) (by decide))).symm)
theorem hs_269 (dg : Int32) : ob (HH dg) 269 = some (en_t (sg0 dg) 269 (.inr (0, 280, 0, 0))) := (o_269 dg).trans (congrArg some (hz_i dg (sg0_z dg (by decide) (by decide) (by decide))).symm)
theorem hs_270 (dg : Int32) : ob (HH dg) 270 = some (en_t (sg0 dg) 270 (.inr (0, 280, 0, 0))) := (o_270 dg).trans (congrArg some (hz_i dg (sg0_z dg (by decide) (by decide) (by decide))).symm)
theorem hs_271 (dg : Int32) : ob (HH dg) 271 = some (en_t (sg0 dg) 271 (.inr (0, 280, 0, 0))) := (o_271 dg).trans (congrArg some (hz_i dg (sg0_z dg (by decide) (by decide) (by decide))).symm)
theorem hs_272 (dg : Int32) : ob (HH dg) 272 = some (en_t (sg0 dg) 272 (.inr (0, 16, 0, 0))) := (o_272 dg).trans (congrArg some (hz_i dg (sg0_z dg (by decide) (by decide) (by decide))).symm)
theorem hs_273 (dg : Int32) : ob (HH dg) 273 = some (en_t (sg0 dg) 273 (.inr (0, 16, 0, 0))) := (o_273 dg).trans (congrArg some (hz_i dg (sg0_z dg (by decide) (by decide) (by decide))).symm)
theorem hs_274 (dg : Int32) : ob (HH dg) 274 = some (en_t (sg0 dg) 274 (.inr (0, 4, 0, 0))) := (o_274 dg).trans (congrArg some (hz_i dg (sg0_z dg (by decide) (by decide) (by decide))).symm)
theorem hs_275 (dg : Int32) : ob (HH dg) 275 = some (en_t (sg0 dg) 275 (.inr (0, 32, 0, 0))) := (o_275 dg).trans (congrArg some (hz_i dg (sg0_z dg (by decide) (by decide) (by decide))).symm)
theorem hs_276 (dg : Int32) : ob (HH dg) 276 = some (en_t (sg0 dg) 276 (.inr (1, 32, 0, 0))) := (o_276 dg).trans (congrArg some (hz_l dg (sg0_z dg (by decide) (by decide) (by decide))).symm)
set_option maxRecDepth 20000 in
theorem h277 (dg : Int32) : (((mL 246).set 1 (.int (dg &&& Int32.ofInt 3))).set 2 (.long (mU (dg &&& Int32.ofInt 3).toNatClampNeg))) = fl (sg0 dg) 70912 ky_277 := by
  show _ = fv (0, 0) (sg0 dg) 70912 :: fv (0, 0) (sg0 dg) 70913 :: fv (1, 0) (sg0 dg) 70914 :: fl (sg0 dg) 70915 (ky_277.drop 3)
  rw [fl_z (fun j h1 h2 => sg0_z dg (by have : j < 70912 + 256 := Nat.lt_of_lt_of_le h2 (by decide); unfold kW_digits kB_digits kO_digits kR_digits; omega) (by have : j < 70912 + 256 := Nat.lt_of_lt_of_le h2 (by decide); unfold kR_unit; omega) (by have : j < 70912 + 256 := Nat.lt_of_lt_of_le h2 (by decide); unfold kJ_place kR_place kW_shape kB_shape; omega))]
  show _ = vi (sg0 dg 70912 0) :: vi (sg0 dg kR_digits 0) :: vl (sg0 dg kR_unit 0) :: _
  rw [sg0_d dg (c := kR_digits) (by decide), sg0_u dg, sg0_z dg (c := 70912) (by decide) (by decide) (by decide)]
  show _ = _ :: Value.int (Int32.ofInt (Int32.toInt _)) :: Value.long (Int64.ofInt (Int64.toInt _)) :: _
  rw [Int32.ofInt_toInt, Int64.ofInt_toInt]
  rfl
set_option maxRecDepth 20000 in
theorem hs_277 (dg : Int32) : ob (HH dg) 277 = some (en_t (sg0 dg) 277 (.inl (15, ky_277))) := (o_277 dg).trans (congrArg some (congrArg (fun l => (Sum.inr (15, l) : PEnt)) (h277 dg)))
theorem hs_278 (dg : Int32) : ob (HH dg) 278 = some (en_t (sg0 dg) 278 (.inr (2, 65536, 0, 0))) := (oMR (dg := dg) (k := 0) rfl).trans (congrArg some (hz_b dg (sg0_z dg (by decide) (by decide) (by decide))).symm)
theorem hs_279 (dg : Int32) : ob (HH dg) 279 = some (en_t (sg0 dg) 279 (.inr (2, 131072, 0, 0))) := (oMR (dg := dg) (k := 1) rfl).trans (congrArg some (hz_b dg (sg0_z dg (by decide) (by decide) (by decide))).symm)
theorem hs_280 (dg : Int32) : ob (HH dg) 280 = some (en_t (sg0 dg) 280 (.inr (0, 33, 0, 0))) := (oMR (dg := dg) (k := 2) rfl).trans (congrArg some (hz_i dg (sg0_z dg (by decide) (by decide) (by decide))).symm)
theorem hs_281 (dg : Int32) : ob (HH dg) 281 = some (en_t (sg0 dg) 281 (.inr (0, 67584, 0, 0))) := (oMR (dg := dg) (k := 3) rfl).trans (congrArg some (hz_i dg (sg0_z dg (by decide) (by decide) (by decide))).symm)
theorem hs_282 (dg : Int32) : ob (HH dg) 282 = some (en_t (sg0 dg) 282 (.inr (0, 33, 0, 0))) := (oMR (dg := dg) (k := 4) rfl).trans (congrArg some (hz_i dg (sg0_z dg (by decide) (by decide) (by decide))).symm)
theorem hs_283 (dg : Int32) : ob (HH dg) 283 = some (en_t (sg0 dg) 283 (.inr (0, 67584, 0, 0))) := (oMR (dg := dg) (k := 5) rfl).trans (congrArg some (hz_i dg (sg0_z dg (by decide) (by decide) (by decide))).symm)
theorem hs_284 (dg : Int32) : ob (HH dg) 284 = some (en_t (sg0 dg) 284 (.inr (0, 67584, 0, 0))) := (oMR (dg := dg) (k := 6) rfl).trans (congrArg some (hz_i dg (sg0_z dg (by decide) (by decide) (by decide))).symm)
theorem hs_285 (dg : Int32) : ob (HH dg) 285 = some (en_t (sg0 dg) 285 (.inr (0, 7, 0, 0))) := (oMR (dg := dg) (k := 7) rfl).trans (congrArg some (by show _ = (Sum.inl (0, 7, .inl (ar_i (sg0 dg) _)) : PEnt); rw [sg0_p dg (by decide)]))
theorem hs_286 (dg : Int32) : ob (HH dg) 286 = some (en_t (sg0 dg) 286 (.inr (0, 32, 0, 0))) := (oMR (dg := dg) (k := 8) rfl).trans (congrArg some (hz_i dg (sg0_z dg (by decide) (by decide) (by decide))).symm)
theorem hs_287 (dg : Int32) : ob (HH dg) 287 = some (en_t (sg0 dg) 287 (.inr (0, 60, 0, 0))) := (oMR (dg := dg) (k := 9) rfl).trans (congrArg some (hz_i dg (sg0_z dg (by decide) (by decide) (by decide))).symm)
theorem hs_288 (dg : Int32) : ob (HH dg) 288 = some (en_t (sg0 dg) 288 (.inr (1, 60, 0, 0))) := (oMR (dg := dg) (k := 10) rfl).trans (congrArg some (hz_l dg (sg0_z dg (by decide) (by decide) (by decide))).symm)
theorem hs_289 (dg : Int32) : ob (HH dg) 289 = some (en_t (sg0 dg) 289 (.inr (0, 60, 0, 0))) := (oMR (dg := dg) (k := 11) rfl).trans (congrArg some (hz_i dg (sg0_z dg (by decide) (by decide) (by decide))).symm)
theorem hs_290 (dg : Int32) : ob (HH dg) 290 = some (en_t (sg0 dg) 290 (.inr (1, 32, 0, 0))) := (oMR (dg := dg) (k := 12) rfl).trans (congrArg some (hz_l dg (sg0_z dg (by decide) (by decide) (by decide))).symm)
theorem hs_291 (dg : Int32) : ob (HH dg) 291 = some (en_t (sg0 dg) 291 (.inr (1, 32, 0, 0))) := (oMR (dg := dg) (k := 13) rfl).trans (congrArg some (hz_l dg (sg0_z dg (by decide) (by decide) (by decide))).symm)
theorem hs_292 (dg : Int32) : ob (HH dg) 292 = some (en_t (sg0 dg) 292 (.inr (1, 32, 0, 0))) := (oMR (dg := dg) (k := 14) rfl).trans (congrArg some (hz_l dg (sg0_z dg (by decide) (by decide) (by decide))).symm)
theorem hs_293 (dg : Int32) : ob (HH dg) 293 = some (en_t (sg0 dg) 293 (.inr (1, 32, 0, 0))) := (oMR (dg := dg) (k := 15) rfl).trans (congrArg some (hz_l dg (sg0_z dg (by decide) (by decide) (by decide))).symm)
theorem hs_294 (dg : Int32) : ob (HH dg) 294 = some (en_t (sg0 dg) 294 (.inr (1, 6000, 0, 0))) := (oMR (dg := dg) (k := 16) rfl).trans (congrArg some (hz_l dg (sg0_z dg (by decide) (by decide) (by decide))).symm)
theorem hs_295 (dg : Int32) : ob (HH dg) 295 = some (en_t (sg0 dg) 295 (.inr (0, 20, 0, 0))) := (oMR (dg := dg) (k := 17) rfl).trans (congrArg some (hz_i dg (sg0_z dg (by decide) (by decide) (by decide))).symm)
theorem hs_296 (dg : Int32) : ob (HH dg) 296 = some (en_t (sg0 dg) 296 (.inr (0, 20, 0, 0))) := (oMR (dg := dg) (k := 18) rfl).trans (congrArg some (hz_i dg (sg0_z dg (by decide) (by decide) (by decide))).symm)
theorem hs_297 (dg : Int32) : ob (HH dg) 297 = some (en_t (sg0 dg) 297 (.inr (1, 32, 0, 0))) := (oMR (dg := dg) (k := 19) rfl).trans (congrArg some (hz_l dg (sg0_z dg (by decide) (by decide) (by decide))).symm)
theorem hs_298 (dg : Int32) : ob (HH dg) 298 = some (en_t (sg0 dg) 298 (.inr (1, 32, 0, 0))) := (oMR (dg := dg) (k := 20) rfl).trans (congrArg some (hz_l dg (sg0_z dg (by decide) (by decide) (by decide))).symm)
theorem hs_299 (dg : Int32) : ob (HH dg) 299 = some (en_t (sg0 dg) 299 (.inr (1, 4200, 0, 0))) := (oMR (dg := dg) (k := 21) rfl).trans (congrArg some (hz_l dg (sg0_z dg (by decide) (by decide) (by decide))).symm)
theorem hs_300 (dg : Int32) : ob (HH dg) 300 = some (en_t (sg0 dg) 300 (.inr (1, 4200, 0, 0))) := (oMR (dg := dg) (k := 22) rfl).trans (congrArg some (hz_l dg (sg0_z dg (by decide) (by decide) (by decide))).symm)
theorem hs_301 (dg : Int32) : ob (HH dg) 301 = some (en_t (sg0 dg) 301 (.inr (1, 4200, 0, 0))) := (oMR (dg := dg) (k := 23) rfl).trans (congrArg some (hz_l dg (sg0_z dg (by decide) (by decide) (by decide))).symm)
theorem hs_302 (dg : Int32) : ob (HH dg) 302 = some (en_t (sg0 dg) 302 (.inr (1, 4200, 0, 0))) := (oMR (dg := dg) (k := 24) rfl).trans (congrArg some (hz_l dg (sg0_z dg (by decide) (by decide) (by decide))).symm)
theorem hs_303 (dg : Int32) : ob (HH dg) 303 = some (en_t (sg0 dg) 303 (.inr (0, 4200, 0, 0))) := (oMR (dg := dg) (k := 25) rfl).trans (congrArg some (hz_i dg (sg0_z dg (by decide) (by decide) (by decide))).symm)
theorem hs_304 (dg : Int32) : ob (HH dg) 304 = some (en_t (sg0 dg) 304 (.inr (0, 4200, 0, 0))) := (oMR (dg := dg) (k := 26) rfl).trans (congrArg some (hz_i dg (sg0_z dg (by decide) (by decide) (by decide))).symm)
theorem hs_305 (dg : Int32) : ob (HH dg) 305 = some (en_t (sg0 dg) 305 (.inr (0, 4200, 0, 0))) := (oMR (dg := dg) (k := 27) rfl).trans (congrArg some (hz_i dg (sg0_z dg (by decide) (by decide) (by decide))).symm)
theorem hs_306 (dg : Int32) : ob (HH dg) 306 = some (en_t (sg0 dg) 306 (.inr (0, 2048, 0, 0))) := (oMR (dg := dg) (k := 28) rfl).trans (congrArg some (hz_i dg (sg0_z dg (by decide) (by decide) (by decide))).symm)
theorem hs_307 (dg : Int32) : ob (HH dg) 307 = some (en_t (sg0 dg) 307 (.inr (0, 2048, 0, 0))) := (oMR (dg := dg) (k := 29) rfl).trans (congrArg some (hz_i dg (sg0_z dg (by decide) (by decide) (by decide))).symm)
theorem hs_308 (dg : Int32) : ob (HH dg) 308 = some (en_t (sg0 dg) 308 (.inr (0, 2048, 0, 0))) := (oMR (dg := dg) (k := 30) rfl).trans (congrArg some (hz_i dg (sg0_z dg (by decide) (by decide) (by decide))).symm)
theorem hs_309 (dg : Int32) : ob (HH dg) 309 = some (en_t (sg0 dg) 309 (.inr (0, 2048, 0, 0))) := (oMR (dg := dg) (k := 31) rfl).trans (congrArg some (hz_i dg (sg0_z dg (by decide) (by decide) (by decide))).symm)
theorem hs_310 (dg : Int32) : ob (HH dg) 310 = some (en_t (sg0 dg) 310 (.inr (0, 2049, 0, 0))) := (oMR (dg := dg) (k := 32) rfl).trans (congrArg some (hz_i dg (sg0_z dg (by decide) (by decide) (by decide))).symm)
theorem hs_311 (dg : Int32) : ob (HH dg) 311 = some (en_t (sg0 dg) 311 (.inr (0, 1026, 0, 0))) := (oMR (dg := dg) (k := 33) rfl).trans (congrArg some (hz_i dg (sg0_z dg (by decide) (by decide) (by decide))).symm)
theorem hs_312 (dg : Int32) : ob (HH dg) 312 = some (en_t (sg0 dg) 312 (.inr (1, 4200, 0, 0))) := (oMR (dg := dg) (k := 34) rfl).trans (congrArg some (hz_l dg (sg0_z dg (by decide) (by decide) (by decide))).symm)
theorem hs_313 (dg : Int32) : ob (HH dg) 313 = some (en_t (sg0 dg) 313 (.inr (1, 4200, 0, 0))) := (oMR (dg := dg) (k := 35) rfl).trans (congrArg some (hz_l dg (sg0_z dg (by decide) (by decide) (by decide))).symm)
theorem hs_314 (dg : Int32) : ob (HH dg) 314 = some (en_t (sg0 dg) 314 (.inr (0, 8400, 0, 0))) := (oMR (dg := dg) (k := 36) rfl).trans (congrArg some (hz_i dg (sg0_z dg (by decide) (by decide) (by decide))).symm)
theorem hs_315 (dg : Int32) : ob (HH dg) 315 = some (en_t (sg0 dg) 315 (.inr (0, 8400, 0, 0))) := (oMR (dg := dg) (k := 37) rfl).trans (congrArg some (hz_i dg (sg0_z dg (by decide) (by decide) (by decide))).symm)
theorem hs_316 (dg : Int32) : ob (HH dg) 316 = some (en_t (sg0 dg) 316 (.inr (0, 6300, 0, 0))) := (oMR (dg := dg) (k := 38) rfl).trans (congrArg some (hz_i dg (sg0_z dg (by decide) (by decide) (by decide))).symm)
theorem hs_317 (dg : Int32) : ob (HH dg) 317 = some (en_t (sg0 dg) 317 (.inr (1, 8193, 0, 0))) := (oMR (dg := dg) (k := 39) rfl).trans (congrArg some (hz_l dg (sg0_z dg (by decide) (by decide) (by decide))).symm)
theorem hs_318 (dg : Int32) : ob (HH dg) 318 = some (en_t (sg0 dg) 318 (.inr (1, 8193, 0, 0))) := (oMR (dg := dg) (k := 40) rfl).trans (congrArg some (hz_l dg (sg0_z dg (by decide) (by decide) (by decide))).symm)
theorem hs_319 (dg : Int32) : ob (HH dg) 319 = some (en_t (sg0 dg) 319 (.inr (0, 8193, 0, 0))) := (oMR (dg := dg) (k := 41) rfl).trans (congrArg some (hz_i dg (sg0_z dg (by decide) (by decide) (by decide))).symm)
theorem hs_320 (dg : Int32) : ob (HH dg) 320 = some (en_t (sg0 dg) 320 (.inr (1, 8193, 0, 0))) := (oMR (dg := dg) (k := 42) rfl).trans (congrArg some (hz_l dg (sg0_z dg (by decide) (by decide) (by decide))).symm)
theorem hs_321 (dg : Int32) : ob (HH dg) 321 = some (en_t (sg0 dg) 321 (.inr (1, 8193, 0, 0))) := (oMR (dg := dg) (k := 43) rfl).trans (congrArg some (hz_l dg (sg0_z dg (by decide) (by decide) (by decide))).symm)
theorem hs_322 (dg : Int32) : ob (HH dg) 322 = some (en_t (sg0 dg) 322 (.inr (3, 8193, 0, 0))) := (oMR (dg := dg) (k := 44) rfl).trans (congrArg some (hz_z dg (sg0_z dg (by decide) (by decide) (by decide))).symm)
theorem hs_323 (dg : Int32) : ob (HH dg) 323 = some (en_t (sg0 dg) 323 (.inr (0, 16385, 0, 0))) := (oMR (dg := dg) (k := 45) rfl).trans (congrArg some (hz_i dg (sg0_z dg (by decide) (by decide) (by decide))).symm)
theorem hs_324 (dg : Int32) : ob (HH dg) 324 = some (en_t (sg0 dg) 324 (.inr (0, 16385, 0, 0))) := (oMR (dg := dg) (k := 46) rfl).trans (congrArg some (hz_i dg (sg0_z dg (by decide) (by decide) (by decide))).symm)
theorem hs_325 (dg : Int32) : ob (HH dg) 325 = some (en_t (sg0 dg) 325 (.inr (0, 16385, 0, 0))) := (oMR (dg := dg) (k := 47) rfl).trans (congrArg some (hz_i dg (sg0_z dg (by decide) (by decide) (by decide))).symm)
theorem hs_326 (dg : Int32) : ob (HH dg) 326 = some (en_t (sg0 dg) 326 (.inr (0, 16385, 0, 0))) := (oMR (dg := dg) (k := 48) rfl).trans (congrArg some (hz_i dg (sg0_z dg (by decide) (by decide) (by decide))).symm)
theorem hs_327 (dg : Int32) : ob (HH dg) 327 = some (en_t (sg0 dg) 327 (.inr (0, 16385, 0, 0))) := (oMR (dg := dg) (k := 49) rfl).trans (congrArg some (hz_i dg (sg0_z dg (by decide) (by decide) (by decide))).symm)
theorem hs_328 (dg : Int32) : ob (HH dg) 328 = some (en_t (sg0 dg) 328 (.inr (3, 16385, 0, 0))) := (oMR (dg := dg) (k := 50) rfl).trans (congrArg some (hz_z dg (sg0_z dg (by decide) (by decide) (by decide))).symm)
theorem hs_329 (dg : Int32) : ob (HH dg) 329 = some (en_t (sg0 dg) 329 (.inr (0, 16386, 0, 0))) := (oMR (dg := dg) (k := 51) rfl).trans (congrArg some (hz_i dg (sg0_z dg (by decide) (by decide) (by decide))).symm)
theorem hs_330 (dg : Int32) : ob (HH dg) 330 = some (en_t (sg0 dg) 330 (.inr (0, 8193, 0, 0))) := (oMR (dg := dg) (k := 52) rfl).trans (congrArg some (hz_i dg (sg0_z dg (by decide) (by decide) (by decide))).symm)
theorem hs_331 (dg : Int32) : ob (HH dg) 331 = some (en_t (sg0 dg) 331 (.inr (0, 33000, 0, 0))) := (oMR (dg := dg) (k := 53) rfl).trans (congrArg some (hz_i dg (sg0_z dg (by decide) (by decide) (by decide))).symm)
theorem hs_332 (dg : Int32) : ob (HH dg) 332 = some (en_t (sg0 dg) 332 (.inr (0, 8193, 0, 0))) := (oMR (dg := dg) (k := 54) rfl).trans (congrArg some (hz_i dg (sg0_z dg (by decide) (by decide) (by decide))).symm)
theorem hs_333 (dg : Int32) : ob (HH dg) 333 = some (en_t (sg0 dg) 333 (.inr (0, 8193, 0, 0))) := (oMR (dg := dg) (k := 55) rfl).trans (congrArg some (hz_i dg (sg0_z dg (by decide) (by decide) (by decide))).symm)
theorem hs_334 (dg : Int32) : ob (HH dg) 334 = some (en_t (sg0 dg) 334 (.inr (1, 8193, 0, 0))) := (oMR (dg := dg) (k := 56) rfl).trans (congrArg some (hz_l dg (sg0_z dg (by decide) (by decide) (by decide))).symm)
theorem hs_335 (dg : Int32) : ob (HH dg) 335 = some (en_t (sg0 dg) 335 (.inr (0, 8193, 0, 0))) := (oMR (dg := dg) (k := 57) rfl).trans (congrArg some (hz_i dg (sg0_z dg (by decide) (by decide) (by decide))).symm)
theorem hs_336 (dg : Int32) : ob (HH dg) 336 = some (en_t (sg0 dg) 336 (.inr (0, 2, 0, 0))) := (oMR (dg := dg) (k := 58) rfl).trans (congrArg some (hz_i dg (sg0_z dg (by decide) (by decide) (by decide))).symm)
theorem hs_337 (dg : Int32) : ob (HH dg) 337 = some (en_t (sg0 dg) 337 (.inr (0, 2, 0, 0))) := (oMR (dg := dg) (k := 59) rfl).trans (congrArg some (hz_i dg (sg0_z dg (by decide) (by decide) (by decide))).symm)
theorem hs_338 (dg : Int32) : ob (HH dg) 338 = some (en_t (sg0 dg) 338 (.inr (0, 2, 0, 0))) := (oMR (dg := dg) (k := 60) rfl).trans (congrArg some (hz_i dg (sg0_z dg (by decide) (by decide) (by decide))).symm)
theorem hs_339 (dg : Int32) : ob (HH dg) 339 = some (en_t (sg0 dg) 339 (.inr (0, 2, 0, 0))) := (oMR (dg := dg) (k := 61) rfl).trans (congrArg some (hz_i dg (sg0_z dg (by decide) (by decide) (by decide))).symm)
theorem hs_340 (dg : Int32) : ob (HH dg) 340 = some (en_t (sg0 dg) 340 (.inr (3, 2, 0, 0))) := (oMR (dg := dg) (k := 62) rfl).trans (congrArg some (hz_z dg (sg0_z dg (by decide) (by decide) (by decide))).symm)
theorem hs_341 (dg : Int32) : ob (HH dg) 341 = some (en_t (sg0 dg) 341 (.inr (0, 4200, 0, 0))) := (oMR (dg := dg) (k := 63) rfl).trans (congrArg some (hz_i dg (sg0_z dg (by decide) (by decide) (by decide))).symm)
theorem hs_342 (dg : Int32) : ob (HH dg) 342 = some (en_t (sg0 dg) 342 (.inr (0, 2, 0, 0))) := (oMR (dg := dg) (k := 64) rfl).trans (congrArg some (hz_i dg (sg0_z dg (by decide) (by decide) (by decide))).symm)
theorem hs_343 (dg : Int32) : ob (HH dg) 343 = some (en_t (sg0 dg) 343 (.inr (0, 9, 0, 0))) := (oMR (dg := dg) (k := 65) rfl).trans (congrArg some (hz_i dg (sg0_z dg (by decide) (by decide) (by decide))).symm)
theorem hs_344 (dg : Int32) : ob (HH dg) 344 = some (en_t (sg0 dg) 344 (.inr (1, 5000, 0, 0))) := (oMR (dg := dg) (k := 66) rfl).trans (congrArg some (hz_l dg (sg0_z dg (by decide) (by decide) (by decide))).symm)
theorem hs_345 (dg : Int32) : ob (HH dg) 345 = some (en_t (sg0 dg) 345 (.inr (1, 5000, 0, 0))) := (oMR (dg := dg) (k := 67) rfl).trans (congrArg some (hz_l dg (sg0_z dg (by decide) (by decide) (by decide))).symm)
theorem hs_346 (dg : Int32) : ob (HH dg) 346 = some (en_t (sg0 dg) 346 (.inr (1, 1025, 0, 0))) := (oMR (dg := dg) (k := 68) rfl).trans (congrArg some (hz_l dg (sg0_z dg (by decide) (by decide) (by decide))).symm)
theorem hs_347 (dg : Int32) : ob (HH dg) 347 = some (en_t (sg0 dg) 347 (.inr (1, 1025, 0, 0))) := (oMR (dg := dg) (k := 69) rfl).trans (congrArg some (hz_l dg (sg0_z dg (by decide) (by decide) (by decide))).symm)
theorem hs_348 (dg : Int32) : ob (HH dg) 348 = some (en_t (sg0 dg) 348 (.inr (0, 1025, 0, 0))) := (oMR (dg := dg) (k := 70) rfl).trans (congrArg some (hz_i dg (sg0_z dg (by decide) (by decide) (by decide))).symm)
theorem hs_349 (dg : Int32) : ob (HH dg) 349 = some (en_t (sg0 dg) 349 (.inr (3, 1048576, 0, 0))) := (oMR (dg := dg) (k := 71) rfl).trans (congrArg some (hz_z dg (sg0_z dg (by decide) (by decide) (by decide))).symm)
theorem hs_350 (dg : Int32) : ob (HH dg) 350 = some (en_t (sg0 dg) 350 (.inr (0, 8200, 0, 0))) := (oMR (dg := dg) (k := 72) rfl).trans (congrArg some (hz_i dg (sg0_z dg (by decide) (by decide) (by decide))).symm)
theorem hs_351 (dg : Int32) : ob (HH dg) 351 = some (en_t (sg0 dg) 351 (.inr (0, 8200, 0, 0))) := (oMR (dg := dg) (k := 73) rfl).trans (congrArg some (hz_i dg (sg0_z dg (by decide) (by decide) (by decide))).symm)
theorem hs_352 (dg : Int32) : ob (HH dg) 352 = some (en_t (sg0 dg) 352 (.inr (0, 1025, 0, 0))) := (oMR (dg := dg) (k := 74) rfl).trans (congrArg some (hz_i dg (sg0_z dg (by decide) (by decide) (by decide))).symm)
theorem hs_353 (dg : Int32) : ob (HH dg) 353 = some (en_t (sg0 dg) 353 (.inr (0, 2100, 0, 0))) := (oMR (dg := dg) (k := 75) rfl).trans (congrArg some (hz_i dg (sg0_z dg (by decide) (by decide) (by decide))).symm)
theorem hs_354 (dg : Int32) : ob (HH dg) 354 = some (en_t (sg0 dg) 354 (.inr (0, 2100, 0, 0))) := (oMR (dg := dg) (k := 76) rfl).trans (congrArg some (hz_i dg (sg0_z dg (by decide) (by decide) (by decide))).symm)
theorem hs_355 (dg : Int32) : ob (HH dg) 355 = some (en_t (sg0 dg) 355 (.inr (0, 2100, 0, 0))) := (oMR (dg := dg) (k := 77) rfl).trans (congrArg some (hz_i dg (sg0_z dg (by decide) (by decide) (by decide))).symm)
theorem hs_356 (dg : Int32) : ob (HH dg) 356 = some (en_t (sg0 dg) 356 (.inr (3, 2048, 0, 0))) := (oMR (dg := dg) (k := 78) rfl).trans (congrArg some (hz_z dg (sg0_z dg (by decide) (by decide) (by decide))).symm)
theorem hs_357 (dg : Int32) : ob (HH dg) 357 = some (en_t (sg0 dg) 357 (.inr (0, 2050, 0, 0))) := (oMR (dg := dg) (k := 79) rfl).trans (congrArg some (hz_i dg (sg0_z dg (by decide) (by decide) (by decide))).symm)
theorem hs_358 (dg : Int32) : ob (HH dg) 358 = some (en_t (sg0 dg) 358 (.inr (0, 2050, 0, 0))) := (oMR (dg := dg) (k := 80) rfl).trans (congrArg some (hz_i dg (sg0_z dg (by decide) (by decide) (by decide))).symm)
theorem hs_359 (dg : Int32) : ob (HH dg) 359 = some (en_t (sg0 dg) 359 (.inr (1, 1, 0, 0))) := (o_359 dg).trans (congrArg some (hz_l dg (sg0_z dg (by decide) (by decide) (by decide))).symm)
theorem shs_ak (L : Nat) : ∀ n i k, i < n → 1 ≤ k → k ≤ 3 → (shs L n)[4 * i + k]? = some (some (.inl (0, 2048, .inl (fun _ => 0)))) := by
  intro n
  induction n with
  | zero => intro i k h; omega
  | succ n ih =>
    intro i k h h1 h3
    by_cases q : i < n
    · show (shs L n ++ _)[4 * i + k]? = _
      rw [List.getElem?_append_left (by rw [shs_len]; omega)]
      exact ih i k q h1 h3
    · have : i = n := by omega
      subst this
      show (shs L i ++ _)[4 * i + k]? = _
      rw [List.getElem?_append_right (by rw [shs_len]; omega), shs_len, show 4 * i + k - 4 * i = k by omega]
      rcases (show k = 1 ∨ k = 2 ∨ k = 3 by omega) with rfl | rfl | rfl <;> rfl
theorem o_shk (dg : Int32) (i k : Nat) (hi : i < 32) (h1 : 1 ≤ k) (h3 : k ≤ 3) : ob (HH dg) (34 + 4 * i + k) = some (.inl (0, 2048, .inl (fun _ => 0))) := by
  refine oTH (ob_mid2 (k := 1 + (4 * i + k)) (by show 34 + 4 * i + k = 32 + (1 + (1 + (4 * i + k))); omega) ?_) (by omega)
  rw [List.getElem?_append_left (by rw [sh0_len]; omega)]
  show (_ :: shs 1 32)[1 + (4 * i + k)]? = _
  rw [Nat.add_comm 1, List.getElem?_cons_succ, shs_ak 1 32 i k hi h1 h3]
theorem hs_sh (dg : Int32) (i : Nat) (hi : i < 32) : ob (HH dg) (34 + 4 * i) = some (en_t (sg0 dg) (34 + 4 * i) (.inl (9, [(3, 34 + 4 * i + 1), (3, 34 + 4 * i + 2), (3, 34 + 4 * i + 3), (0, 0), (0, 0)]))) := by
  refine (o_sh dg i hi).trans (congrArg some (congrArg (fun l => (Sum.inr (9, l) : PEnt)) ?_))
  show _ = fl (sg0 dg) ((34 + 4 * i) * 256) _
  rw [fl_z (fun j h1 h2 => sg0_z dg (by have : j < (34 + 4 * i) * 256 + 5 := h2; unfold kW_digits kB_digits kO_digits kR_digits; omega) (by have : j < (34 + 4 * i) * 256 + 5 := h2; unfold kR_unit; omega) (by have : j < (34 + 4 * i) * 256 + 5 := h2; unfold kJ_place kR_place kW_shape kB_shape; omega))]
  show [Value.ref (35 + 4 * i), .ref (36 + 4 * i), .ref (37 + 4 * i), .int 0, .int 0] = [Value.ref (34 + 4 * i + 1), .ref (34 + 4 * i + 2), .ref (34 + 4 * i + 3), .int 0, .int 0]
  rw [show 35 + 4 * i = 34 + 4 * i + 1 by omega, show 36 + 4 * i = 34 + 4 * i + 2 by omega, show 37 + 4 * i = 34 + 4 * i + 3 by omega]
theorem hs_sa (dg : Int32) (i k : Nat) (hi : i < 32) (h1 : 1 ≤ k) (h3 : k ≤ 3) : ob (HH dg) (34 + 4 * i + k) = some (en_t (sg0 dg) (34 + 4 * i + k) (.inr (0, 2048, 0, 0))) := by
  have hz : en_t (sg0 dg) (34 + 4 * i + k) (.inr (0, 2048, 0, 0)) = .inl (0, 2048, .inl (fun _ => 0)) := hz_i dg (sg0_z dg (by unfold kW_digits kB_digits kO_digits kR_digits; omega) (by unfold kR_unit; omega) (by unfold kJ_place kR_place kW_shape kB_shape; omega))
  rw [hz]
  exact o_shk dg i k hi h1 h3
theorem HS_0 (dg : Int32) : HS (sg0 dg) (HH dg) := by
  intro a L hL
  have h32 := lay_ge hL
  have hlt : a < 360 := by
    unfold lay at hL
    rw [if_neg (by omega)] at hL
    have h1 := (List.getElem?_eq_some_iff.mp hL).1
    have h2 : lyL.length = 328 := by decide +kernel
    omega
  by_cases hs : 34 ≤ a ∧ a < 162
  · obtain ⟨i, k, hi, hk, rfl⟩ : ∃ i k, i < 32 ∧ k < 4 ∧ a = 34 + 4 * i + k := ⟨(a - 34) / 4, (a - 34) % 4, by omega, by omega, by omega⟩
    rcases (show k = 0 ∨ k = 1 ∨ k = 2 ∨ k = 3 by omega) with rfl | rfl | rfl | rfl
    · rw [show 34 + 4 * i + 0 = 34 + 4 * i from rfl] at hL ⊢
      rw [ly_S0 i (by omega)] at hL
      cases hL
      exact hs_sh dg i hi
    · rw [ly_A1 i (by omega)] at hL; cases hL; exact hs_sa dg i 1 hi (by decide) (by decide)
    · rw [ly_A2 i (by omega)] at hL; cases hL; exact hs_sa dg i 2 hi (by decide) (by decide)
    · rw [ly_A3 i (by omega)] at hL; cases hL; exact hs_sa dg i 3 hi (by decide) (by decide)
  · by_cases q260 : a < 260
    · by_cases q210 : a < 210
      · by_cases q185 : a < 185
        · by_cases q172 : a < 172
          · by_cases q166 : a < 166
            · by_cases q163 : a < 163
              · by_cases q33 : a < 33
                · obtain rfl : a = 32 := by omega
                  rw [ly_32] at hL; cases hL; exact hs_32 dg
                · by_cases q162 : a < 162
                  · obtain rfl : a = 33 := by omega
                    rw [ly_33] at hL; cases hL; exact hs_33 dg
                  · obtain rfl : a = 162 := by omega
                    rw [(ly_S (s := 162) (by decide))] at hL; cases hL; exact hs_162 dg
              · by_cases q164 : a < 164
                · obtain rfl : a = 163 := by omega
                  rw [ly_163] at hL; cases hL; exact hs_163 dg
                · by_cases q165 : a < 165
                  · obtain rfl : a = 164 := by omega
                    rw [ly_164] at hL; cases hL; exact hs_164 dg
                  · obtain rfl : a = 165 := by omega
                    rw [ly_165] at hL; cases hL; exact hs_165 dg
            · by_cases q169 : a < 169
              · by_cases q167 : a < 167
                · obtain rfl : a = 166 := by omega
                  rw [ly_166] at hL; cases hL; exact hs_166 dg
                · by_cases q168 : a < 168
                  · obtain rfl : a = 167 := by omega
                    rw [ly_167] at hL; cases hL; exact hs_167 dg
                  · obtain rfl : a = 168 := by omega
                    rw [ly_168] at hL; cases hL; exact hs_168 dg
              · by_cases q170 : a < 170
                · obtain rfl : a = 169 := by omega
                  rw [ly_169] at hL; cases hL; exact hs_169 dg
                · by_cases q171 : a < 171
                  · obtain rfl : a = 170 := by omega
                    rw [ly_170] at hL; cases hL; exact hs_170 dg
                  · obtain rfl : a = 171 := by omega
                    rw [ly_171] at hL; cases hL; exact hs_171 dg
          · by_cases q178 : a < 178
            · by_cases q175 : a < 175
              · by_cases q173 : a < 173
                · obtain rfl : a = 172 := by omega
                  rw [ly_172] at hL; cases hL; exact hs_172 dg
                · by_cases q174 : a < 174
                  · obtain rfl : a = 173 := by omega
                    rw [ly_173] at hL; cases hL; exact hs_173 dg
                  · obtain rfl : a = 174 := by omega
                    rw [ly_174] at hL; cases hL; exact hs_174 dg
              · by_cases q176 : a < 176
                · obtain rfl : a = 175 := by omega
                  rw [ly_175] at hL; cases hL; exact hs_175 dg
                · by_cases q177 : a < 177
                  · obtain rfl : a = 176 := by omega
                    rw [ly_176] at hL; cases hL; exact hs_176 dg
                  · obtain rfl : a = 177 := by omega
                    rw [ly_177] at hL; cases hL; exact hs_177 dg
            · by_cases q181 : a < 181
              · by_cases q179 : a < 179
                · obtain rfl : a = 178 := by omega
                  rw [ly_178] at hL; cases hL; exact hs_178 dg
                · by_cases q180 : a < 180
                  · obtain rfl : a = 179 := by omega
                    rw [ly_179] at hL; cases hL; exact hs_179 dg
                  · obtain rfl : a = 180 := by omega
                    rw [ly_180] at hL; cases hL; exact hs_180 dg
              · by_cases q183 : a < 183
                · by_cases q182 : a < 182
                  · obtain rfl : a = 181 := by omega
                    rw [ly_181] at hL; cases hL; exact hs_181 dg
                  · obtain rfl : a = 182 := by omega
                    rw [ly_182] at hL; cases hL; exact hs_182 dg
                · by_cases q184 : a < 184
                  · obtain rfl : a = 183 := by omega
                    rw [ly_183] at hL; cases hL; exact hs_183 dg
                  · obtain rfl : a = 184 := by omega
                    rw [ly_184] at hL; cases hL; exact hs_184 dg
        · by_cases q197 : a < 197
          · by_cases q191 : a < 191
            · by_cases q188 : a < 188
              · by_cases q186 : a < 186
                · obtain rfl : a = 185 := by omega
                  rw [ly_185] at hL; cases hL; exact hs_185 dg
                · by_cases q187 : a < 187
                  · obtain rfl : a = 186 := by omega
                    rw [ly_186] at hL; cases hL; exact hs_186 dg
                  · obtain rfl : a = 187 := by omega
                    rw [ly_187] at hL; cases hL; exact hs_187 dg
              · by_cases q189 : a < 189
                · obtain rfl : a = 188 := by omega
                  rw [ly_188] at hL; cases hL; exact hs_188 dg
                · by_cases q190 : a < 190
                  · obtain rfl : a = 189 := by omega
                    rw [ly_189] at hL; cases hL; exact hs_189 dg
                  · obtain rfl : a = 190 := by omega
                    rw [ly_190] at hL; cases hL; exact hs_190 dg
            · by_cases q194 : a < 194
              · by_cases q192 : a < 192
                · obtain rfl : a = 191 := by omega
                  rw [ly_191] at hL; cases hL; exact hs_191 dg
                · by_cases q193 : a < 193
                  · obtain rfl : a = 192 := by omega
                    rw [ly_192] at hL; cases hL; exact hs_192 dg
                  · obtain rfl : a = 193 := by omega
                    rw [ly_193] at hL; cases hL; exact hs_193 dg
              · by_cases q195 : a < 195
                · obtain rfl : a = 194 := by omega
                  rw [ly_194] at hL; cases hL; exact hs_194 dg
                · by_cases q196 : a < 196
                  · obtain rfl : a = 195 := by omega
                    rw [ly_195] at hL; cases hL; exact hs_195 dg
                  · obtain rfl : a = 196 := by omega
                    rw [ly_196] at hL; cases hL; exact hs_196 dg
          · by_cases q203 : a < 203
            · by_cases q200 : a < 200
              · by_cases q198 : a < 198
                · obtain rfl : a = 197 := by omega
                  rw [ly_197] at hL; cases hL; exact hs_197 dg
                · by_cases q199 : a < 199
                  · obtain rfl : a = 198 := by omega
                    rw [ly_198] at hL; cases hL; exact hs_198 dg
                  · obtain rfl : a = 199 := by omega
                    rw [ly_199] at hL; cases hL; exact hs_199 dg
              · by_cases q201 : a < 201
                · obtain rfl : a = 200 := by omega
                  rw [ly_200] at hL; cases hL; exact hs_200 dg
                · by_cases q202 : a < 202
                  · obtain rfl : a = 201 := by omega
                    rw [ly_201] at hL; cases hL; exact hs_201 dg
                  · obtain rfl : a = 202 := by omega
                    rw [ly_202] at hL; cases hL; exact hs_202 dg
            · by_cases q206 : a < 206
              · by_cases q204 : a < 204
                · obtain rfl : a = 203 := by omega
                  rw [ly_203] at hL; cases hL; exact hs_203 dg
                · by_cases q205 : a < 205
                  · obtain rfl : a = 204 := by omega
                    rw [ly_204] at hL; cases hL; exact hs_204 dg
                  · obtain rfl : a = 205 := by omega
                    rw [ly_205] at hL; cases hL; exact hs_205 dg
              · by_cases q208 : a < 208
                · by_cases q207 : a < 207
                  · obtain rfl : a = 206 := by omega
                    rw [ly_206] at hL; cases hL; exact hs_206 dg
                  · obtain rfl : a = 207 := by omega
                    rw [ly_207] at hL; cases hL; exact hs_207 dg
                · by_cases q209 : a < 209
                  · obtain rfl : a = 208 := by omega
                    rw [ly_208] at hL; cases hL; exact hs_208 dg
                  · obtain rfl : a = 209 := by omega
                    rw [ly_209] at hL; cases hL; exact hs_209 dg
      · by_cases q235 : a < 235
        · by_cases q222 : a < 222
          · by_cases q216 : a < 216
            · by_cases q213 : a < 213
              · by_cases q211 : a < 211
                · obtain rfl : a = 210 := by omega
                  rw [ly_210] at hL; cases hL; exact hs_210 dg
                · by_cases q212 : a < 212
                  · obtain rfl : a = 211 := by omega
                    rw [ly_211] at hL; cases hL; exact hs_211 dg
                  · obtain rfl : a = 212 := by omega
                    rw [ly_212] at hL; cases hL; exact hs_212 dg
              · by_cases q214 : a < 214
                · obtain rfl : a = 213 := by omega
                  rw [ly_213] at hL; cases hL; exact hs_213 dg
                · by_cases q215 : a < 215
                  · obtain rfl : a = 214 := by omega
                    rw [ly_214] at hL; cases hL; exact hs_214 dg
                  · obtain rfl : a = 215 := by omega
                    rw [ly_215] at hL; cases hL; exact hs_215 dg
            · by_cases q219 : a < 219
              · by_cases q217 : a < 217
                · obtain rfl : a = 216 := by omega
                  rw [ly_216] at hL; cases hL; exact hs_216 dg
                · by_cases q218 : a < 218
                  · obtain rfl : a = 217 := by omega
                    rw [ly_217] at hL; cases hL; exact hs_217 dg
                  · obtain rfl : a = 218 := by omega
                    rw [ly_218] at hL; cases hL; exact hs_218 dg
              · by_cases q220 : a < 220
                · obtain rfl : a = 219 := by omega
                  rw [ly_219] at hL; cases hL; exact hs_219 dg
                · by_cases q221 : a < 221
                  · obtain rfl : a = 220 := by omega
                    rw [ly_220] at hL; cases hL; exact hs_220 dg
                  · obtain rfl : a = 221 := by omega
                    rw [ly_221] at hL; cases hL; exact hs_221 dg
          · by_cases q228 : a < 228
            · by_cases q225 : a < 225
              · by_cases q223 : a < 223
                · obtain rfl : a = 222 := by omega
                  rw [ly_222] at hL; cases hL; exact hs_222 dg
                · by_cases q224 : a < 224
                  · obtain rfl : a = 223 := by omega
                    rw [ly_223] at hL; cases hL; exact hs_223 dg
                  · obtain rfl : a = 224 := by omega
                    rw [ly_224] at hL; cases hL; exact hs_224 dg
              · by_cases q226 : a < 226
                · obtain rfl : a = 225 := by omega
                  rw [ly_225] at hL; cases hL; exact hs_225 dg
                · by_cases q227 : a < 227
                  · obtain rfl : a = 226 := by omega
                    rw [ly_226] at hL; cases hL; exact hs_226 dg
                  · obtain rfl : a = 227 := by omega
                    rw [ly_227] at hL; cases hL; exact hs_227 dg
            · by_cases q231 : a < 231
              · by_cases q229 : a < 229
                · obtain rfl : a = 228 := by omega
                  rw [ly_228] at hL; cases hL; exact hs_228 dg
                · by_cases q230 : a < 230
                  · obtain rfl : a = 229 := by omega
                    rw [ly_229] at hL; cases hL; exact hs_229 dg
                  · obtain rfl : a = 230 := by omega
                    rw [ly_230] at hL; cases hL; exact hs_230 dg
              · by_cases q233 : a < 233
                · by_cases q232 : a < 232
                  · obtain rfl : a = 231 := by omega
                    rw [ly_231] at hL; cases hL; exact hs_231 dg
                  · obtain rfl : a = 232 := by omega
                    rw [ly_232] at hL; cases hL; exact hs_232 dg
                · by_cases q234 : a < 234
                  · obtain rfl : a = 233 := by omega
                    rw [ly_233] at hL; cases hL; exact hs_233 dg
                  · obtain rfl : a = 234 := by omega
                    rw [ly_234] at hL; cases hL; exact hs_234 dg
        · by_cases q247 : a < 247
          · by_cases q241 : a < 241
            · by_cases q238 : a < 238
              · by_cases q236 : a < 236
                · obtain rfl : a = 235 := by omega
                  rw [ly_235] at hL; cases hL; exact hs_235 dg
                · by_cases q237 : a < 237
                  · obtain rfl : a = 236 := by omega
                    rw [ly_236] at hL; cases hL; exact hs_236 dg
                  · obtain rfl : a = 237 := by omega
                    rw [ly_237] at hL; cases hL; exact hs_237 dg
              · by_cases q239 : a < 239
                · obtain rfl : a = 238 := by omega
                  rw [ly_238] at hL; cases hL; exact hs_238 dg
                · by_cases q240 : a < 240
                  · obtain rfl : a = 239 := by omega
                    rw [ly_239] at hL; cases hL; exact hs_239 dg
                  · obtain rfl : a = 240 := by omega
                    rw [ly_240] at hL; cases hL; exact hs_240 dg
            · by_cases q244 : a < 244
              · by_cases q242 : a < 242
                · obtain rfl : a = 241 := by omega
                  rw [ly_241] at hL; cases hL; exact hs_241 dg
                · by_cases q243 : a < 243
                  · obtain rfl : a = 242 := by omega
                    rw [ly_242] at hL; cases hL; exact hs_242 dg
                  · obtain rfl : a = 243 := by omega
                    rw [ly_243] at hL; cases hL; exact hs_243 dg
              · by_cases q245 : a < 245
                · obtain rfl : a = 244 := by omega
                  rw [ly_244] at hL; cases hL; exact hs_244 dg
                · by_cases q246 : a < 246
                  · obtain rfl : a = 245 := by omega
                    rw [ly_245] at hL; cases hL; exact hs_245 dg
                  · obtain rfl : a = 246 := by omega
                    rw [ly_246] at hL; cases hL; exact hs_246 dg
          · by_cases q253 : a < 253
            · by_cases q250 : a < 250
              · by_cases q248 : a < 248
                · obtain rfl : a = 247 := by omega
                  rw [ly_247] at hL; cases hL; exact hs_247 dg
                · by_cases q249 : a < 249
                  · obtain rfl : a = 248 := by omega
                    rw [ly_248] at hL; cases hL; exact hs_248 dg
                  · obtain rfl : a = 249 := by omega
                    rw [ly_249] at hL; cases hL; exact hs_249 dg
              · by_cases q251 : a < 251
                · obtain rfl : a = 250 := by omega
                  rw [ly_250] at hL; cases hL; exact hs_250 dg
                · by_cases q252 : a < 252
                  · obtain rfl : a = 251 := by omega
                    rw [ly_251] at hL; cases hL; exact hs_251 dg
                  · obtain rfl : a = 252 := by omega
                    rw [ly_252] at hL; cases hL; exact hs_252 dg
            · by_cases q256 : a < 256
              · by_cases q254 : a < 254
                · obtain rfl : a = 253 := by omega
                  rw [ly_253] at hL; cases hL; exact hs_253 dg
                · by_cases q255 : a < 255
                  · obtain rfl : a = 254 := by omega
                    rw [ly_254] at hL; cases hL; exact hs_254 dg
                  · obtain rfl : a = 255 := by omega
                    rw [ly_255] at hL; cases hL; exact hs_255 dg
              · by_cases q258 : a < 258
                · by_cases q257 : a < 257
                  · obtain rfl : a = 256 := by omega
                    rw [ly_256] at hL; cases hL; exact hs_256 dg
                  · obtain rfl : a = 257 := by omega
                    rw [ly_257] at hL; cases hL; exact hs_257 dg
                · by_cases q259 : a < 259
                  · obtain rfl : a = 258 := by omega
                    rw [ly_258] at hL; cases hL; exact hs_258 dg
                  · obtain rfl : a = 259 := by omega
                    rw [ly_259] at hL; cases hL; exact hs_259 dg
    · by_cases q310 : a < 310
      · by_cases q285 : a < 285
        · by_cases q272 : a < 272
          · by_cases q266 : a < 266
            · by_cases q263 : a < 263
              · by_cases q261 : a < 261
                · obtain rfl : a = 260 := by omega
                  rw [ly_260] at hL; cases hL; exact hs_260 dg
                · by_cases q262 : a < 262
                  · obtain rfl : a = 261 := by omega
                    rw [ly_261] at hL; cases hL; exact hs_261 dg
                  · obtain rfl : a = 262 := by omega
                    rw [ly_262] at hL; cases hL; exact hs_262 dg
              · by_cases q264 : a < 264
                · obtain rfl : a = 263 := by omega
                  rw [ly_263] at hL; cases hL; exact hs_263 dg
                · by_cases q265 : a < 265
                  · obtain rfl : a = 264 := by omega
                    rw [ly_264] at hL; cases hL; exact hs_264 dg
                  · obtain rfl : a = 265 := by omega
                    rw [ly_265] at hL; cases hL; exact hs_265 dg
            · by_cases q269 : a < 269
              · by_cases q267 : a < 267
                · obtain rfl : a = 266 := by omega
                  rw [ly_266] at hL; cases hL; exact hs_266 dg
                · by_cases q268 : a < 268
                  · obtain rfl : a = 267 := by omega
                    rw [ly_267] at hL; cases hL; exact hs_267 dg
                  · obtain rfl : a = 268 := by omega
                    rw [ly_268] at hL; cases hL; exact hs_268 dg
              · by_cases q270 : a < 270
                · obtain rfl : a = 269 := by omega
                  rw [ly_269] at hL; cases hL; exact hs_269 dg
                · by_cases q271 : a < 271
                  · obtain rfl : a = 270 := by omega
                    rw [ly_270] at hL; cases hL; exact hs_270 dg
                  · obtain rfl : a = 271 := by omega
                    rw [ly_271] at hL; cases hL; exact hs_271 dg
          · by_cases q278 : a < 278
            · by_cases q275 : a < 275
              · by_cases q273 : a < 273
                · obtain rfl : a = 272 := by omega
                  rw [ly_272] at hL; cases hL; exact hs_272 dg
                · by_cases q274 : a < 274
                  · obtain rfl : a = 273 := by omega
                    rw [ly_273] at hL; cases hL; exact hs_273 dg
                  · obtain rfl : a = 274 := by omega
                    rw [ly_274] at hL; cases hL; exact hs_274 dg
              · by_cases q276 : a < 276
                · obtain rfl : a = 275 := by omega
                  rw [ly_275] at hL; cases hL; exact hs_275 dg
                · by_cases q277 : a < 277
                  · obtain rfl : a = 276 := by omega
                    rw [ly_276] at hL; cases hL; exact hs_276 dg
                  · obtain rfl : a = 277 := by omega
                    rw [ly_277] at hL; cases hL; exact hs_277 dg
            · by_cases q281 : a < 281
              · by_cases q279 : a < 279
                · obtain rfl : a = 278 := by omega
                  rw [ly_278] at hL; cases hL; exact hs_278 dg
                · by_cases q280 : a < 280
                  · obtain rfl : a = 279 := by omega
                    rw [ly_279] at hL; cases hL; exact hs_279 dg
                  · obtain rfl : a = 280 := by omega
                    rw [ly_280] at hL; cases hL; exact hs_280 dg
              · by_cases q283 : a < 283
                · by_cases q282 : a < 282
                  · obtain rfl : a = 281 := by omega
                    rw [ly_281] at hL; cases hL; exact hs_281 dg
                  · obtain rfl : a = 282 := by omega
                    rw [ly_282] at hL; cases hL; exact hs_282 dg
                · by_cases q284 : a < 284
                  · obtain rfl : a = 283 := by omega
                    rw [ly_283] at hL; cases hL; exact hs_283 dg
                  · obtain rfl : a = 284 := by omega
                    rw [ly_284] at hL; cases hL; exact hs_284 dg
        · by_cases q297 : a < 297
          · by_cases q291 : a < 291
            · by_cases q288 : a < 288
              · by_cases q286 : a < 286
                · obtain rfl : a = 285 := by omega
                  rw [ly_285] at hL; cases hL; exact hs_285 dg
                · by_cases q287 : a < 287
                  · obtain rfl : a = 286 := by omega
                    rw [ly_286] at hL; cases hL; exact hs_286 dg
                  · obtain rfl : a = 287 := by omega
                    rw [ly_287] at hL; cases hL; exact hs_287 dg
              · by_cases q289 : a < 289
                · obtain rfl : a = 288 := by omega
                  rw [ly_288] at hL; cases hL; exact hs_288 dg
                · by_cases q290 : a < 290
                  · obtain rfl : a = 289 := by omega
                    rw [ly_289] at hL; cases hL; exact hs_289 dg
                  · obtain rfl : a = 290 := by omega
                    rw [ly_290] at hL; cases hL; exact hs_290 dg
            · by_cases q294 : a < 294
              · by_cases q292 : a < 292
                · obtain rfl : a = 291 := by omega
                  rw [ly_291] at hL; cases hL; exact hs_291 dg
                · by_cases q293 : a < 293
                  · obtain rfl : a = 292 := by omega
                    rw [ly_292] at hL; cases hL; exact hs_292 dg
                  · obtain rfl : a = 293 := by omega
                    rw [ly_293] at hL; cases hL; exact hs_293 dg
              · by_cases q295 : a < 295
                · obtain rfl : a = 294 := by omega
                  rw [ly_294] at hL; cases hL; exact hs_294 dg
                · by_cases q296 : a < 296
                  · obtain rfl : a = 295 := by omega
                    rw [ly_295] at hL; cases hL; exact hs_295 dg
                  · obtain rfl : a = 296 := by omega
                    rw [ly_296] at hL; cases hL; exact hs_296 dg
          · by_cases q303 : a < 303
            · by_cases q300 : a < 300
              · by_cases q298 : a < 298
                · obtain rfl : a = 297 := by omega
                  rw [ly_297] at hL; cases hL; exact hs_297 dg
                · by_cases q299 : a < 299
                  · obtain rfl : a = 298 := by omega
                    rw [ly_298] at hL; cases hL; exact hs_298 dg
                  · obtain rfl : a = 299 := by omega
                    rw [ly_299] at hL; cases hL; exact hs_299 dg
              · by_cases q301 : a < 301
                · obtain rfl : a = 300 := by omega
                  rw [ly_300] at hL; cases hL; exact hs_300 dg
                · by_cases q302 : a < 302
                  · obtain rfl : a = 301 := by omega
                    rw [ly_301] at hL; cases hL; exact hs_301 dg
                  · obtain rfl : a = 302 := by omega
                    rw [ly_302] at hL; cases hL; exact hs_302 dg
            · by_cases q306 : a < 306
              · by_cases q304 : a < 304
                · obtain rfl : a = 303 := by omega
                  rw [ly_303] at hL; cases hL; exact hs_303 dg
                · by_cases q305 : a < 305
                  · obtain rfl : a = 304 := by omega
                    rw [ly_304] at hL; cases hL; exact hs_304 dg
                  · obtain rfl : a = 305 := by omega
                    rw [ly_305] at hL; cases hL; exact hs_305 dg
              · by_cases q308 : a < 308
                · by_cases q307 : a < 307
                  · obtain rfl : a = 306 := by omega
                    rw [ly_306] at hL; cases hL; exact hs_306 dg
                  · obtain rfl : a = 307 := by omega
                    rw [ly_307] at hL; cases hL; exact hs_307 dg
                · by_cases q309 : a < 309
                  · obtain rfl : a = 308 := by omega
                    rw [ly_308] at hL; cases hL; exact hs_308 dg
                  · obtain rfl : a = 309 := by omega
                    rw [ly_309] at hL; cases hL; exact hs_309 dg
      · by_cases q335 : a < 335
        · by_cases q322 : a < 322
          · by_cases q316 : a < 316
            · by_cases q313 : a < 313
              · by_cases q311 : a < 311
                · obtain rfl : a = 310 := by omega
                  rw [ly_310] at hL; cases hL; exact hs_310 dg
                · by_cases q312 : a < 312
                  · obtain rfl : a = 311 := by omega
                    rw [ly_311] at hL; cases hL; exact hs_311 dg
                  · obtain rfl : a = 312 := by omega
                    rw [ly_312] at hL; cases hL; exact hs_312 dg
              · by_cases q314 : a < 314
                · obtain rfl : a = 313 := by omega
                  rw [ly_313] at hL; cases hL; exact hs_313 dg
                · by_cases q315 : a < 315
                  · obtain rfl : a = 314 := by omega
                    rw [ly_314] at hL; cases hL; exact hs_314 dg
                  · obtain rfl : a = 315 := by omega
                    rw [ly_315] at hL; cases hL; exact hs_315 dg
            · by_cases q319 : a < 319
              · by_cases q317 : a < 317
                · obtain rfl : a = 316 := by omega
                  rw [ly_316] at hL; cases hL; exact hs_316 dg
                · by_cases q318 : a < 318
                  · obtain rfl : a = 317 := by omega
                    rw [ly_317] at hL; cases hL; exact hs_317 dg
                  · obtain rfl : a = 318 := by omega
                    rw [ly_318] at hL; cases hL; exact hs_318 dg
              · by_cases q320 : a < 320
                · obtain rfl : a = 319 := by omega
                  rw [ly_319] at hL; cases hL; exact hs_319 dg
                · by_cases q321 : a < 321
                  · obtain rfl : a = 320 := by omega
                    rw [ly_320] at hL; cases hL; exact hs_320 dg
                  · obtain rfl : a = 321 := by omega
                    rw [ly_321] at hL; cases hL; exact hs_321 dg
          · by_cases q328 : a < 328
            · by_cases q325 : a < 325
              · by_cases q323 : a < 323
                · obtain rfl : a = 322 := by omega
                  rw [ly_322] at hL; cases hL; exact hs_322 dg
                · by_cases q324 : a < 324
                  · obtain rfl : a = 323 := by omega
                    rw [ly_323] at hL; cases hL; exact hs_323 dg
                  · obtain rfl : a = 324 := by omega
                    rw [ly_324] at hL; cases hL; exact hs_324 dg
              · by_cases q326 : a < 326
                · obtain rfl : a = 325 := by omega
                  rw [ly_325] at hL; cases hL; exact hs_325 dg
                · by_cases q327 : a < 327
                  · obtain rfl : a = 326 := by omega
                    rw [ly_326] at hL; cases hL; exact hs_326 dg
                  · obtain rfl : a = 327 := by omega
                    rw [ly_327] at hL; cases hL; exact hs_327 dg
            · by_cases q331 : a < 331
              · by_cases q329 : a < 329
                · obtain rfl : a = 328 := by omega
                  rw [ly_328] at hL; cases hL; exact hs_328 dg
                · by_cases q330 : a < 330
                  · obtain rfl : a = 329 := by omega
                    rw [ly_329] at hL; cases hL; exact hs_329 dg
                  · obtain rfl : a = 330 := by omega
                    rw [ly_330] at hL; cases hL; exact hs_330 dg
              · by_cases q333 : a < 333
                · by_cases q332 : a < 332
                  · obtain rfl : a = 331 := by omega
                    rw [ly_331] at hL; cases hL; exact hs_331 dg
                  · obtain rfl : a = 332 := by omega
                    rw [ly_332] at hL; cases hL; exact hs_332 dg
                · by_cases q334 : a < 334
                  · obtain rfl : a = 333 := by omega
                    rw [ly_333] at hL; cases hL; exact hs_333 dg
                  · obtain rfl : a = 334 := by omega
                    rw [ly_334] at hL; cases hL; exact hs_334 dg
        · by_cases q347 : a < 347
          · by_cases q341 : a < 341
            · by_cases q338 : a < 338
              · by_cases q336 : a < 336
                · obtain rfl : a = 335 := by omega
                  rw [ly_335] at hL; cases hL; exact hs_335 dg
                · by_cases q337 : a < 337
                  · obtain rfl : a = 336 := by omega
                    rw [ly_336] at hL; cases hL; exact hs_336 dg
                  · obtain rfl : a = 337 := by omega
                    rw [ly_337] at hL; cases hL; exact hs_337 dg
              · by_cases q339 : a < 339
                · obtain rfl : a = 338 := by omega
                  rw [ly_338] at hL; cases hL; exact hs_338 dg
                · by_cases q340 : a < 340
                  · obtain rfl : a = 339 := by omega
                    rw [ly_339] at hL; cases hL; exact hs_339 dg
                  · obtain rfl : a = 340 := by omega
                    rw [ly_340] at hL; cases hL; exact hs_340 dg
            · by_cases q344 : a < 344
              · by_cases q342 : a < 342
                · obtain rfl : a = 341 := by omega
                  rw [ly_341] at hL; cases hL; exact hs_341 dg
                · by_cases q343 : a < 343
                  · obtain rfl : a = 342 := by omega
                    rw [ly_342] at hL; cases hL; exact hs_342 dg
                  · obtain rfl : a = 343 := by omega
                    rw [ly_343] at hL; cases hL; exact hs_343 dg
              · by_cases q345 : a < 345
                · obtain rfl : a = 344 := by omega
                  rw [ly_344] at hL; cases hL; exact hs_344 dg
                · by_cases q346 : a < 346
                  · obtain rfl : a = 345 := by omega
                    rw [ly_345] at hL; cases hL; exact hs_345 dg
                  · obtain rfl : a = 346 := by omega
                    rw [ly_346] at hL; cases hL; exact hs_346 dg
          · by_cases q353 : a < 353
            · by_cases q350 : a < 350
              · by_cases q348 : a < 348
                · obtain rfl : a = 347 := by omega
                  rw [ly_347] at hL; cases hL; exact hs_347 dg
                · by_cases q349 : a < 349
                  · obtain rfl : a = 348 := by omega
                    rw [ly_348] at hL; cases hL; exact hs_348 dg
                  · obtain rfl : a = 349 := by omega
                    rw [ly_349] at hL; cases hL; exact hs_349 dg
              · by_cases q351 : a < 351
                · obtain rfl : a = 350 := by omega
                  rw [ly_350] at hL; cases hL; exact hs_350 dg
                · by_cases q352 : a < 352
                  · obtain rfl : a = 351 := by omega
                    rw [ly_351] at hL; cases hL; exact hs_351 dg
                  · obtain rfl : a = 352 := by omega
                    rw [ly_352] at hL; cases hL; exact hs_352 dg
            · by_cases q356 : a < 356
              · by_cases q354 : a < 354
                · obtain rfl : a = 353 := by omega
                  rw [ly_353] at hL; cases hL; exact hs_353 dg
                · by_cases q355 : a < 355
                  · obtain rfl : a = 354 := by omega
                    rw [ly_354] at hL; cases hL; exact hs_354 dg
                  · obtain rfl : a = 355 := by omega
                    rw [ly_355] at hL; cases hL; exact hs_355 dg
              · by_cases q358 : a < 358
                · by_cases q357 : a < 357
                  · obtain rfl : a = 356 := by omega
                    rw [ly_356] at hL; cases hL; exact hs_356 dg
                  · obtain rfl : a = 357 := by omega
                    rw [ly_357] at hL; cases hL; exact hs_357 dg
                · by_cases q359 : a < 359
                  · obtain rfl : a = 358 := by omega
                    rw [ly_358] at hL; cases hL; exact hs_358 dg
                  · obtain rfl : a = 359 := by omega
                    rw [ly_359] at hL; cases hL; exact hs_359 dg
end ST0
