section INVZ
theorem BD_ite {p : Prop} [Decidable p] {a b : Option (Int × Int)} {v : Int} (ha : p → BD a v) (hb : ¬ p → BD b v) : BD (if p then a else b) v := by
  by_cases h : p
  · rw [if_pos h]; exact ha h
  · rw [if_neg h]; exact hb h
theorem bnd_z {c : Nat} (h1 : c ≠ kW_shape) (h2 : c ≠ kB_shape) (h3 : c ≠ kR_unit) : BD (bnd c) 0 := by
  unfold bnd
  repeat' (refine BD_ite (fun hc => ?_) (fun hc => ?_))
  all_goals first | exact True.intro | exact ⟨by decide, by decide⟩ | exact absurd hc h1 | exact absurd hc h2 | exact absurd hc h3
theorem dg_k (dg : Int32) : ∃ k : Fin 4, dg &&& Int32.ofInt 3 = Int32.ofInt ((k : Nat) : Int) := by
  have hk : dg.toBitVec.toNat % 4 < 4 := Nat.mod_lt _ (by decide)
  refine ⟨⟨dg.toBitVec.toNat % 4, hk⟩, ?_⟩
  apply Int32.toBitVec_inj.mp
  apply BitVec.eq_of_toNat_eq
  show (dg.toBitVec &&& 3#32).toNat = (BitVec.ofInt 32 ((dg.toBitVec.toNat % 4 : Nat) : Int)).toNat
  rw [BitVec.toNat_and, BitVec.toNat_ofInt]
  have : dg.toBitVec.toNat &&& 3 = dg.toBitVec.toNat % 2 ^ 2 := Nat.and_two_pow_sub_one_eq_mod _ 2
  show dg.toBitVec.toNat &&& 3 = _
  rw [this]
  omega
theorem dg_b : ∀ k : Fin 4, (0 ≤ (Int32.ofInt ((k : Nat) : Int)).toInt ∧ (Int32.ofInt ((k : Nat) : Int)).toInt ≤ 3) ∧ ((mU (Int32.ofInt ((k : Nat) : Int)).toNatClampNeg).toInt = 1 ∨ (mU (Int32.ofInt ((k : Nat) : Int)).toNatClampNeg).toInt = 10 ∨ (mU (Int32.ofInt ((k : Nat) : Int)).toNatClampNeg).toInt = 100 ∨ (mU (Int32.ofInt ((k : Nat) : Int)).toNatClampNeg).toInt = 1000) := by decide +kernel
theorem II_sg0 (dg : Int32) : II (sg0 dg) := by
  obtain ⟨k, hk⟩ := dg_k dg
  have hb := dg_b k
  intro c i
  unfold sg0
  rw [hk]
  by_cases h1 : c = kW_digits ∨ c = kB_digits ∨ c = kO_digits ∨ c = kR_digits
  · rw [if_pos h1]
    rcases h1 with rfl | rfl | rfl | rfl
    · rw [b_kW_digits]; exact hb.1
    · rw [b_kB_digits]; exact hb.1
    · rw [b_kO_digits]; exact hb.1
    · rw [b_kR_digits]; exact hb.1
  · rw [if_neg h1]
    by_cases h2 : c = kR_unit
    · rw [if_pos h2, h2, b_kR_unit]
      show 1 ≤ _ ∧ _ ≤ (1000 : Int)
      rcases hb.2 with e | e | e | e <;> rw [e] <;> exact ⟨by decide, by decide⟩
    · rw [if_neg h2]
      by_cases h3 : (c = kJ_place ∨ c = kR_place) ∧ 0 ≤ i ∧ i < 7
      · rw [if_pos h3]
        rcases h3.1 with rfl | rfl
        · rw [b_kJ_place]; exact ⟨by decide, by decide⟩
        · rw [b_kR_place]; exact ⟨by decide, by decide⟩
      · rw [if_neg h3]
        by_cases h4 : c = kW_shape ∨ c = kB_shape
        · rw [if_pos h4]
          rcases h4 with rfl | rfl
          · rw [b_kW_shape]; exact ⟨by decide, by decide⟩
          · rw [b_kB_shape]; exact ⟨by decide, by decide⟩
        · rw [if_neg h4]
          exact bnd_z (fun z => h4 (Or.inl z)) (fun z => h4 (Or.inr z)) h2
theorem sg0_sh (dg : Int32) {s k : Nat} (hs : isS s) (hk : k < 1024) (i : Int) : sg0 dg (s * 256 + k) i = 0 := by
  obtain ⟨a, b, c⟩ := hs
  have e : ∀ n, 42496 ≤ n → ¬ s * 256 + k = n := fun n hn => by omega
  unfold sg0
  rw [if_neg (fun q => by rcases q with q | q | q | q <;> exact e _ (by decide) q), if_neg (e _ (by decide)), if_neg (fun q => by rcases q.1 with q | q <;> exact e _ (by decide) q), if_neg (fun q => by rcases q with q | q <;> exact e _ (by decide) q)]
theorem INV_0 (dg : Int32) : INV (sg0 dg) := by
  refine ⟨II_sg0 dg, fun s a b => Or.inl ⟨?_, ?_⟩, fun s hs _ => Or.inl ⟨?_, ?_⟩, ?_⟩
  · rw [sg0_z dg (c := kR_planMany) (by decide) (by decide) (by decide)]
  · rw [sg0_z dg (c := kR_pointMany) (by decide) (by decide) (by decide)]
  · have := sg0_sh dg hs (k := 3) (by decide) 0
    rw [show s * 256 + 3 = kA_plans s by unfold kA_plans; omega] at this
    exact this
  · have := sg0_sh dg hs (k := 4) (by decide) 0
    rw [show s * 256 + 4 = kA_points s by unfold kA_points; omega] at this
    exact this
  · unfold UNt
    rw [sg0_u]
    obtain ⟨k, hk⟩ := dg_k dg
    rw [hk]
    exact (dg_b k).2
end INVZ
