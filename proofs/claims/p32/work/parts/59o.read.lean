section RDB
theorem lus_k {x : Int} {k : Nat} (h0 : 0 ≤ x) (h1 : x < 9223372036854775808) (hk : k < 64) : q_lus x k = x / 2 ^ k := by
  have e : ((Int32.ofInt (k : Int)).toInt64.toUInt64 &&& Int64.toUInt64 63) = UInt64.ofNat k := by
    have : ∀ m : Fin 64, ((Int32.ofInt ((m : Nat) : Int)).toInt64.toUInt64 &&& Int64.toUInt64 63) = UInt64.ofNat (m : Nat) := by decide +kernel
    exact this ⟨k, hk⟩
  unfold q_lus
  rw [e]
  show ((Int64.ofInt x).toUInt64 >>> UInt64.ofNat k).toBitVec.toInt = _
  have h9 : ((Int64.ofInt x).toUInt64 >>> UInt64.ofNat k).toNat = x.toNat / 2 ^ k := by
    rw [UInt64.toNat_shiftRight]
    have hx : (Int64.ofInt x).toUInt64.toNat = x.toNat := by
      show (BitVec.ofInt 64 x).toNat = _
      rw [BitVec.toNat_ofInt]; omega
    rw [hx, UInt64.toNat_ofNat', Nat.shiftRight_eq_div_pow]
    congr 2
    omega
  have hb : ((Int64.ofInt x).toUInt64 >>> UInt64.ofNat k).toBitVec.toNat = x.toNat / 2 ^ k := h9
  have hle : x.toNat / 2 ^ k ≤ x.toNat := Nat.div_le_self _ _
  rw [BitVec.toInt_eq_toNat_of_lt (by omega), hb]
  rw [Int.natCast_ediv, Int.toNat_of_nonneg h0]
  push_cast; rfl
theorem lus_b {x k : Int} (h0 : 0 ≤ x) (h1 : x < 9223372036854775808) (k1 : 1 ≤ k) (k2 : k ≤ 63) : 0 ≤ q_lus x k ∧ q_lus x k ≤ 4611686018427387904 := by
  obtain ⟨n, rfl⟩ := Int.eq_ofNat_of_zero_le (show 0 ≤ k by omega)
  rw [lus_k h0 h1 (by omega)]
  obtain ⟨m, rfl⟩ : ∃ m, n = m + 1 := ⟨n - 1, by omega⟩
  have hp : (0 : Int) < 2 ^ m := Int.pow_pos (by decide)
  have hq : (2 : Int) ^ (m + 1) = 2 ^ m * 2 := Int.pow_succ 2 m
  rw [hq]
  refine ⟨Int.ediv_nonneg h0 (by omega), ?_⟩
  refine Int.ediv_le_of_le_mul (by omega) ?_
  omega
theorem FL_one {pl : Int → Int} {p : Int} (h : eO pl p) : FL pl 1 p (p + eL pl p) (eP pl p) := ⟨h, rfl, by omega⟩
/-- unshut levels of bytes: each with what is left, in which so many parts are done; d more are taken of the last -/
def OP (pl lf : Int → Int) : Nat → Int → Int → Int → Prop
  | 0, q, T, _ => ∃ m, FL pl m 0 q T
  | l + 1, q, T, d => ∃ (p T0 done : Int) (m : Nat), OP pl lf l p T0 1 ∧ (4 ≤ pl p ∧ pl p ≤ 7) ∧ (0 ≤ lf l ∧ lf l ≤ 4294967295) ∧ 0 ≤ done ∧ pl (p + 1) = lf l + done + d ∧ 2 * done ≤ q - (p + 2) ∧ FL pl m (p + 2) q (T - T0)
theorem OP_le {pl lf : Int → Int} : ∀ {l : Nat} {q T d : Int}, OP pl lf l q T d → 2 * l ≤ q ∧ 0 ≤ T
  | 0, q, T, d, ⟨m, h⟩ => by have := FL_le h; omega
  | l + 1, q, T, d, ⟨p, T0, dn, m, h, _, _, _, _, _, g⟩ => by
    have a := OP_le h
    have b := FL_le g
    omega
theorem OP_cg {pl pm lf lg : Int → Int} : ∀ {l : Nat} {q T d : Int}, OP pl lf l q T d → (∀ i, i < q → pm i = pl i) → (∀ j : Int, 0 ≤ j → j < l → lg j = lf j) → OP pm lg l q T d
  | 0, q, T, d, ⟨m, h⟩, hp, _ => ⟨m, FL_cg h (fun i _ b => hp i b)⟩
  | l + 1, q, T, d, ⟨p, T0, dn, m, h, h1, h2, h3, h4, h5, g⟩, hp, hl => by
    have b := FL_le g
    refine ⟨p, T0, dn, m, OP_cg h (fun i a => hp i (by omega)) (fun j a c => hl j a (by omega)), ?_, ?_, h3, ?_, h5, FL_cg g (fun i _ c => hp i c)⟩
    · rw [hp p (by omega)]; exact h1
    · rw [hl l (by omega) (by omega)]; exact h2
    · rw [hp _ (by omega), hl l (by omega) (by omega)]; exact h4
theorem OP_seg {pl lf : Int → Int} {l : Nat} {p q T t : Int} {m : Nat} (h : OP pl lf l p T 1) (g : FL pl m p q t) (hq : p + 2 ≤ q) : OP pl lf l q (T + t) 0 := by
  cases l with
  | zero => obtain ⟨k, hk⟩ := h; exact ⟨k + m, FL_add hk g⟩
  | succ l =>
    obtain ⟨p', T0, dn, k, h0, h1, h2, h3, h4, h5, g'⟩ := h
    exact ⟨p', T0, dn + 1, k + m, h0, h1, h2, by omega, by omega, by omega, by rw [show T + t - T0 = T - T0 + t by omega]; exact FL_add g' g⟩
/-- a level is opened -/
theorem OP_push {pl lf : Int → Int} {l : Nat} {p T : Int} (h : OP pl lf l p T 1) (h1 : 4 ≤ pl p ∧ pl p ≤ 7) (h2 : 0 ≤ lf l ∧ lf l ≤ 4294967295) (h3 : pl (p + 1) = lf l) : OP pl lf (l + 1) (p + 2) T 0 :=
  ⟨p, T, 0, 0, h, h1, h2, Int.le_refl _, by omega, by omega, rfl, by omega⟩
/-- a level without parts left is closed -/
theorem OP_pop {pl lf : Int → Int} {l : Nat} {q T : Int} (h : OP pl lf (l + 1) q T 0) (h0 : lf l ≤ 0) (hq : q ≤ 2048) : OP pl lf l q T 0 := by
  obtain ⟨p, T0, dn, m, h1, h2, h3, h4, h5, h6, g⟩ := h
  have b := FL_le g
  have c := OP_le h1
  have ho : eO pl p := ⟨by omega, by omega, ⟨by omega, by omega⟩, fun z => by omega, fun z => by omega⟩
  have hl : eL pl p = 2 := by unfold eL; rw [if_neg (by omega)]
  have hp : eP pl p = 0 := by unfold eP; rw [if_neg (by omega), if_neg (by omega)]
  have g1 := FL_one ho
  rw [hl, hp] at g1
  have g2 := FL_add g1 g
  have := OP_seg h1 g2 (by omega)
  rw [show T0 + (0 + (T - T0)) = T by omega] at this
  exact this
/-- one more is taken -/
theorem OP_take {pl lf lg : Int → Int} {l : Nat} {q T : Int} (h : OP pl lf (l + 1) q T 0) (h0 : 1 ≤ lf l) (e : lg l = lf l - 1) (e1 : ∀ j : Int, j ≠ l → lg j = lf j) : OP pl lg (l + 1) q T 1 := by
  obtain ⟨p, T0, dn, m, h1, h2, h3, h4, h5, h6, g⟩ := h
  exact ⟨p, T0, dn, m, OP_cg h1 (fun _ _ => rfl) (fun j a b => e1 j (by omega)), h2, by omega, h4, by omega, h6, g⟩
/-- the levels of the reader of bytes, before q -/
def OBq (σ : SG) (s : Nat) (q T d : Int) : Prop := OP (σ (kA_plan s)) (σ kB_levelLeft) (σ kB_depth 0).toNat q T d
def OB (σ : SG) (s : Nat) (d : Int) : Prop := OBq σ s (σ (kA_plans s) 0) (σ (kA_points s) 0) d
theorem OBq_cg {σ τ : SG} {s : Nat} {q T d : Int} (h : OBq σ s q T d) (h1 : ∀ i, i < q → τ (kA_plan s) i = σ (kA_plan s) i) (h2 : τ kB_levelLeft = σ kB_levelLeft) (h3 : τ kB_depth 0 = σ kB_depth 0) : OBq τ s q T d := by
  unfold OBq
  rw [h3]
  exact OP_cg h h1 (fun j _ _ => by rw [h2])
theorem OB_cg {σ τ : SG} {s : Nat} {d : Int} (h : OB σ s d) (h1 : τ (kA_plan s) = σ (kA_plan s)) (h2 : τ (kA_plans s) = σ (kA_plans s)) (h3 : τ (kA_points s) = σ (kA_points s)) (h4 : τ kB_levelLeft = σ kB_levelLeft) (h5 : τ kB_depth 0 = σ kB_depth 0) : OB τ s d := by
  unfold OB
  rw [h2, h3]
  exact OBq_cg h (fun i _ => by rw [h1]) h4 h5
theorem OB_f {ms : List Nat} {σ τ : SG} {s : Nat} {d : Int} (f : FC ms [] σ τ) (hs : isS s) (h : (!(ms.contains kB_levelLeft) && !(ms.contains kB_depth)) = true) (g : OB σ s d) : OB τ s d := by
  rw [Bool.and_eq_true] at h
  exact OB_cg g (FC_plan f hs (NS_0 _)) (FC_plans f hs (NS_0 _)) (FC_points f hs (NS_0 _)) (funext fun i => FC_at f (c := kB_levelLeft) (by rw [h.1]; decide) i) (FC_at f (c := kB_depth) (by rw [h.2]; decide) 0)
theorem OB_0 {σ : SG} {s : Nat} (h1 : σ kB_depth 0 = 0) (h2 : σ (kA_plans s) 0 = 0) (h3 : σ (kA_points s) 0 = 0) (d : Int) : OB σ s d := by
  unfold OB OBq
  rw [h1, h2, h3]
  exact ⟨0, rfl, rfl⟩
theorem OB_pop {ms : List Nat} {σ τ : SG} {s : Nat} (hσ : II σ) (f : FC ms [] σ τ) (hs : isS s) (hm : (!(ms.contains kB_levelLeft)) = true) (h : OB σ s 0) (h0 : 0 < σ kB_depth 0) (hl : σ kB_levelLeft (σ kB_depth 0 - 1) ≤ 0) (e : τ kB_depth 0 = σ kB_depth 0 - 1) : OB τ s 0 := by
  have hq := iiA_plans hσ hs 0
  unfold OB OBq at *
  rw [FC_plan f hs (NS_0 _), FC_plans f hs (NS_0 _), FC_points f hs (NS_0 _), show τ kB_levelLeft = σ kB_levelLeft from funext fun i => FC_at f (c := kB_levelLeft) (by rw [hm]; decide) i, e]
  rw [show (σ kB_depth 0).toNat = (σ kB_depth 0 - 1).toNat + 1 by omega] at h
  refine OP_pop h ?_ hq.2
  rw [Int.toNat_of_nonneg (by omega)]; exact hl
theorem OB_take {σ τ : SG} {s : Nat} (hs : isS s) (h : OB σ s 0) (h0 : 0 < σ kB_depth 0) (hl : 1 ≤ σ kB_levelLeft (σ kB_depth 0 - 1)) (e : τ = sg σ kB_levelLeft (σ kB_depth 0 - 1) (σ kB_levelLeft (σ kB_depth 0 - 1) - 1)) : OB τ s 1 := by
  have f : FC [kB_levelLeft] [] σ τ := FC_sg e (by decide)
  unfold OB OBq at *
  rw [FC_plan f hs (NS_0 _), FC_plans f hs (NS_0 _), FC_points f hs (NS_0 _), FC_at f (c := kB_depth) (by decide) 0]
  rw [show (σ kB_depth 0).toNat = (σ kB_depth 0 - 1).toNat + 1 by omega] at h ⊢
  have z : (((σ kB_depth 0 - 1).toNat : Nat) : Int) = σ kB_depth 0 - 1 := Int.toNat_of_nonneg (by omega)
  refine OP_take h (by rw [z]; exact hl) (by rw [z, e, sg_at]) (fun j hj => by rw [e, sg_ni (by omega)])
theorem OB_left {σ : SG} {s : Nat} (h : OB σ s 0) (h0 : 0 < σ kB_depth 0) : 0 ≤ σ kB_levelLeft (σ kB_depth 0 - 1) ∧ σ kB_levelLeft (σ kB_depth 0 - 1) ≤ 4294967295 := by
  unfold OB OBq at h
  rw [show (σ kB_depth 0).toNat = (σ kB_depth 0 - 1).toNat + 1 by omega] at h
  obtain ⟨p, T0, dn, m, h1, h2, h3, h4, h5, h6, g⟩ := h
  rw [Int.toNat_of_nonneg (by omega)] at h3
  exact h3
/-- an item is read to its end -/
theorem OB_seg {σ τ : SG} {s : Nat} {q T : Int} (h : OBq σ s q T 1) (h1 : ∀ i, i < q → τ (kA_plan s) i = σ (kA_plan s) i) (h2 : τ kB_levelLeft = σ kB_levelLeft) (h3 : τ kB_depth 0 = σ kB_depth 0) (ho : eO (τ (kA_plan s)) q) (e1 : τ (kA_plans s) 0 = q + eL (τ (kA_plan s)) q) (e2 : τ (kA_points s) 0 = T + eP (τ (kA_plan s)) q) : OB τ s 0 := by
  have h' := OBq_cg h h1 h2 h3
  unfold OB
  rw [e1, e2]
  exact OP_seg h' (FL_one ho) (by have := eL_2 ho; omega)
/-- a level is opened -/
theorem OB_open {σ τ : SG} {s : Nat} {q T k parts : Int} (h : OBq σ s q T 1) (h1 : τ (kA_plan s) = σ (kA_plan s)) (hd : 0 ≤ σ kB_depth 0) (h2 : τ kB_levelLeft (σ kB_depth 0) = parts) (h3 : ∀ i, i < σ kB_depth 0 → τ kB_levelLeft i = σ kB_levelLeft i) (h4 : τ kB_depth 0 = σ kB_depth 0 + 1) (hk : σ (kA_plan s) q = k) (hk4 : 4 ≤ k ∧ k ≤ 7) (hp : σ (kA_plan s) (q + 1) = parts) (hp1 : 0 ≤ parts ∧ parts ≤ 4294967295) (e1 : τ (kA_plans s) 0 = q + 2) (e2 : τ (kA_points s) 0 = T) : OB τ s 0 := by
  unfold OB OBq at *
  rw [e1, e2, h4, h1, show (σ kB_depth 0 + 1).toNat = (σ kB_depth 0).toNat + 1 by omega]
  have z : (((σ kB_depth 0).toNat : Nat) : Int) = σ kB_depth 0 := Int.toNat_of_nonneg hd
  refine OP_push (OP_cg h (fun _ _ => rfl) (fun j a b => h3 j (by omega))) (by omega) (by rw [z, h2]; exact hp1) (by rw [z, h2]; exact hp)
theorem OB_end {σ : SG} {s : Nat} (h : OB σ s 0) (hd : σ kB_depth 0 = 0) (h2 : 2 ≤ σ (kA_plans s) 0) : SHa σ s := by
  unfold OB OBq at h
  rw [hd] at h
  exact Or.inr ⟨h2, h⟩
end RDB
section RDC
/-- n ring sizes were added, and their places -/
def RNg (σ τ : SG) (s : Nat) (n : Int) : Prop := τ (kA_plans s) 0 = σ (kA_plans s) 0 + n ∧ (∀ i, i < σ (kA_plans s) 0 → τ (kA_plan s) i = σ (kA_plan s) i) ∧ (∀ k, 0 ≤ k → k < n → 0 ≤ τ (kA_plan s) (σ (kA_plans s) 0 + k)) ∧ τ (kA_points s) 0 = σ (kA_points s) 0 + su_ (τ (kA_plan s)) (σ (kA_plans s) 0) n.toNat ∧ 0 ≤ n
theorem RNg_0 (σ : SG) (s : Nat) : RNg σ σ s 0 := ⟨by omega, fun _ _ => rfl, fun k a b => by omega, by show _ = _ + (0 : Int); omega, Int.le_refl _⟩
theorem RNg_le {σ τ : SG} {s : Nat} {n : Int} (hτ : II τ) (hσ : II σ) (hs : isS s) (h : RNg σ τ s n) : n ≤ 2048 ∧ τ (kA_plans s) 0 = σ (kA_plans s) 0 + n := by
  have := iiA_plans hτ hs 0
  have := iiA_plans hσ hs 0
  obtain ⟨h1, h2, h3, h4, h5⟩ := h
  omega
theorem RNg_go {σ τ α β γ δ : SG} {s : Nat} {n x : Int} (hs : isS s) (h : RNg σ τ s n) (h1 : α (kA_plans s) 0 = τ (kA_plans s) 0 + 1 ∧ α (kA_plan s) (τ (kA_plans s) 0) = 0 ∧ (∀ i, i ≠ τ (kA_plans s) 0 → α (kA_plan s) i = τ (kA_plan s) i)) (h2 : α (kA_points s) = τ (kA_points s)) (f : FC [kB_at] [] α β) (e : γ = sg β (kA_plan s) (β (kA_plans s) 0 - 1) x) (hx : 0 ≤ x) (h3 : δ (kA_plans s) = γ (kA_plans s) ∧ δ (kA_plan s) = γ (kA_plan s)) (h4 : δ (kA_points s) 0 = γ (kA_points s) 0 + x) : RNg σ δ s (n + 1) := by
  obtain ⟨a1, a2, a3, a4, a5⟩ := h
  obtain ⟨b1, b2, b3⟩ := h1
  have f1 := FC_plan f hs (NS_0 _)
  have f2 := FC_plans f hs (NS_0 _)
  have f3 := FC_points f hs (NS_0 _)
  have p1 : γ (kA_plans s) = α (kA_plans s) := by rw [e]; funext i; rw [sg_nc (ncA_plans_plan _), f2]
  have p3 : γ (kA_points s) = τ (kA_points s) := by rw [e]; funext i; rw [sg_nc (ncA_points_plan _), f3, h2]
  have p2 : ∀ i, δ (kA_plan s) i = if i = τ (kA_plans s) 0 then x else τ (kA_plan s) i := fun i => by
    rw [h3.2, e, f2, b1, show τ (kA_plans s) 0 + 1 - 1 = τ (kA_plans s) 0 by omega]
    by_cases z : i = τ (kA_plans s) 0
    · rw [if_pos z, z, sg_at]
    · rw [if_neg z, sg_ni z, f1, b3 i z]
  refine ⟨by rw [h3.1, p1, b1, a1]; omega, fun i hi => by rw [p2, if_neg (by omega), a2 i hi], fun k c d => ?_, ?_, by omega⟩
  · rw [p2]
    by_cases z : σ (kA_plans s) 0 + k = τ (kA_plans s) 0
    · rw [if_pos z]; exact hx
    · rw [if_neg z]; exact a3 k c (by omega)
  · rw [h4, p3, a4, su_i a5, p2, if_pos (by omega)]
    have : su_ (δ (kA_plan s)) (σ (kA_plans s) 0) n.toNat = su_ (τ (kA_plan s)) (σ (kA_plans s) 0) n.toNat := su_cg (fun i c d => by rw [p2, if_neg (by omega)])
    rw [this]; omega
/-- a point's item is read -/
def PTd (σ τ : SG) (s : Nat) (c : Int) : Prop := ∃ v, (0 ≤ v ∧ v ≤ 1) ∧ τ (kA_plan s) c = v ∧ τ (kA_points s) 0 = σ (kA_points s) 0 + v ∧ τ (kA_plans s) 0 = σ (kA_plans s) 0 ∧ ∀ i, i ≠ c → τ (kA_plan s) i = σ (kA_plan s) i
theorem PTd_0 {ms : List Nat} {σ τ : SG} {s : Nat} {c : Int} (f : FC ms [] σ τ) (hs : isS s) (h : σ (kA_plan s) c = 0) : PTd σ τ s c :=
  ⟨0, by omega, by rw [FC_plan f hs (NS_0 _), h], by rw [FC_points f hs (NS_0 _)]; omega, by rw [FC_plans f hs (NS_0 _)], fun i _ => by rw [FC_plan f hs (NS_0 _)]⟩
theorem PTd_1 {σ τ υ : SG} {s : Nat} {c : Int} (e : τ = sg σ (kA_plan s) c 1) (h1 : υ (kA_points s) 0 = τ (kA_points s) 0 + 1) (h2 : υ (kA_plans s) = τ (kA_plans s) ∧ υ (kA_plan s) = τ (kA_plan s)) : PTd σ υ s c :=
  ⟨1, by omega, by rw [h2.2, e, sg_at], by rw [h1, e, sg_nc (ncA_points_plan _)], by rw [h2.1, e, sg_nc (ncA_plans_plan _)], fun i hi => by rw [h2.2, e, sg_ni hi]⟩
/-- the levels stay -/
def LV (σ τ : SG) : Prop := τ kB_levelLeft = σ kB_levelLeft ∧ τ kB_depth 0 = σ kB_depth 0
theorem LV_f {ms ss : List Nat} {σ τ : SG} (f : FC ms ss σ τ) (h : (!(ms.contains kB_levelLeft) && !(ms.contains kB_depth)) = true) : LV σ τ := by
  rw [Bool.and_eq_true] at h
  exact ⟨funext fun i => FC_at f (c := kB_levelLeft) (by rw [h.1]; decide) i, FC_at f (c := kB_depth) (by rw [h.2]; decide) 0⟩
theorem LV_tr {σ τ υ : SG} (a : LV σ τ) (b : LV τ υ) : LV σ υ := ⟨b.1.trans a.1, b.2.trans a.2⟩
theorem OB_pt {σ τ : SG} {s : Nat} {q T : Int} (hL : LV σ τ) (h : OBq σ s q T 1) (hq : σ (kA_plans s) 0 = q + 2) (hT : σ (kA_points s) 0 = T) (hk : σ (kA_plan s) q = 1) (hp : PTd σ τ s (q + 1)) : OB τ s 0 ∧ σ (kA_plans s) 0 ≤ τ (kA_plans s) 0 := by
  obtain ⟨v, h1, h2, h3, h4, h5⟩ := hp
  have k1 : τ (kA_plan s) q = 1 := by rw [h5 q (by omega), hk]
  have ho : eO (τ (kA_plan s)) q := ⟨by omega, by omega, ⟨by omega, by omega⟩, fun _ => by omega, fun z => by omega⟩
  refine ⟨OB_seg h (fun i hi => h5 i (by omega)) hL.1 hL.2 ho ?_ ?_, by omega⟩
  · unfold eL; rw [if_neg (by omega), h4]; exact hq
  · unfold eP; rw [if_pos (by omega), h3, h2, hT]
theorem BW {ms : List Nat} {σ τ β : SG} {s : Nat} {c x : Int} (hs : isS s) (f : FC ms [] σ τ) (e : β = sg τ (kA_plan s) c x) : (∀ i, β (kA_plan s) i = if i = c then x else σ (kA_plan s) i) ∧ β (kA_plans s) 0 = σ (kA_plans s) 0 ∧ β (kA_points s) 0 = σ (kA_points s) 0 := by
  refine ⟨fun i => ?_, by rw [e, sg_nc (ncA_plans_plan _), FC_plans f hs (NS_0 _)], by rw [e, sg_nc (ncA_points_plan _), FC_points f hs (NS_0 _)]⟩
  by_cases z : i = c
  · rw [if_pos z, z, e, sg_at]
  · rw [if_neg z, e, sg_ni z, FC_plan f hs (NS_0 _)]
theorem OB_ln {σ β τ : SG} {s : Nat} {q T x : Int} (hτ : II τ) (hs : isS s) (hL : LV σ τ) (h : OBq σ s q T 1) (hq : σ (kA_plans s) 0 = q + 2) (hT : σ (kA_points s) 0 = T) (hk : σ (kA_plan s) q = 2) (e : (∀ i, β (kA_plan s) i = if i = q + 1 then x else σ (kA_plan s) i) ∧ β (kA_plans s) 0 = σ (kA_plans s) 0 ∧ β (kA_points s) 0 = σ (kA_points s) 0) (hx : 0 ≤ x) (h3 : τ (kA_plans s) = β (kA_plans s) ∧ τ (kA_plan s) = β (kA_plan s)) (h4 : τ (kA_points s) 0 = β (kA_points s) 0 + x) (hT0 : 0 ≤ T) : OB τ s 0 ∧ σ (kA_plans s) 0 ≤ τ (kA_plans s) 0 := by
  have hb := iiA_points hτ hs 0
  obtain ⟨e1, e2, e3⟩ := e
  have p1 : ∀ i, τ (kA_plan s) i = if i = q + 1 then x else σ (kA_plan s) i := fun i => by rw [h3.2, e1]
  have p2 : τ (kA_plans s) 0 = q + 2 := by rw [h3.1, e2, hq]
  have k1 : τ (kA_plan s) q = 2 := by rw [p1, if_neg (by omega), hk]
  have k2 : τ (kA_plan s) (q + 1) = x := by rw [p1, if_pos rfl]
  have ho : eO (τ (kA_plan s)) q := ⟨by omega, by omega, ⟨by omega, by omega⟩, fun _ => by omega, fun z => by omega⟩
  refine ⟨OB_seg h (fun i hi => by rw [p1, if_neg (by omega)]) hL.1 hL.2 ho ?_ ?_, by omega⟩
  · unfold eL; rw [if_neg (by omega)]; exact p2
  · unfold eP; rw [if_pos (by omega), h4, e3, hT, k2]
theorem OB_rg {σ β τ : SG} {s : Nat} {q T x : Int} (hτ : II τ) (hs : isS s) (hL : LV σ τ) (h : OBq σ s q T 1) (hq : σ (kA_plans s) 0 = q + 2) (hT : σ (kA_points s) 0 = T) (hk : σ (kA_plan s) q = 3) (e : (∀ i, β (kA_plan s) i = if i = q + 1 then x else σ (kA_plan s) i) ∧ β (kA_plans s) 0 = σ (kA_plans s) 0 ∧ β (kA_points s) 0 = σ (kA_points s) 0) (hr : RNg β τ s x) (hq0 : 0 ≤ q) : OB τ s 0 ∧ σ (kA_plans s) 0 ≤ τ (kA_plans s) 0 := by
  have hb := iiA_plans hτ hs 0
  obtain ⟨e1, e2, e3⟩ := e
  obtain ⟨r1, r2, r3, r4, r5⟩ := hr
  rw [e2, hq] at r1 r2 r3 r4
  have k1 : τ (kA_plan s) q = 3 := by rw [r2 q (by omega), e1, if_neg (by omega), hk]
  have k2 : τ (kA_plan s) (q + 1) = x := by rw [r2 (q + 1) (by omega), e1, if_pos rfl]
  have ho : eO (τ (kA_plan s)) q := ⟨by omega, by omega, ⟨by omega, by omega⟩, fun _ => by omega, fun _ k a b => r3 k a (by omega)⟩
  refine ⟨OB_seg h (fun i hi => by rw [r2 i (by omega), e1, if_neg (by omega)]) hL.1 hL.2 ho ?_ ?_, by omega⟩
  · unfold eL; rw [if_pos k1, k2, r1]; exact Int.add_assoc q 2 x
  · unfold eP; rw [if_neg (by omega), if_pos k1, k2, r4, e3, hT]
theorem OB_add {σ τ : SG} {s : Nat} {k p : Int} (h : OB σ s 1) (f : FC [] [s] σ τ) (h1 : τ (kA_plans s) 0 = σ (kA_plans s) 0 + 2 ∧ τ (kA_plan s) (σ (kA_plans s) 0) = k ∧ τ (kA_plan s) (σ (kA_plans s) 0 + 1) = p ∧ (∀ i, i ≠ σ (kA_plans s) 0 → i ≠ σ (kA_plans s) 0 + 1 → τ (kA_plan s) i = σ (kA_plan s) i)) (h2 : τ (kA_points s) = σ (kA_points s)) : OBq τ s (τ (kA_plans s) 0 - 2) (τ (kA_points s) 0) 1 ∧ τ (kA_plan s) (τ (kA_plans s) 0 - 2) = k ∧ τ (kA_plan s) (τ (kA_plans s) 0 - 1) = p := by
  have hL := LV_f f (by decide)
  obtain ⟨a1, a2, a3, a4⟩ := h1
  rw [show τ (kA_plans s) 0 - 2 = σ (kA_plans s) 0 by omega, show τ (kA_plans s) 0 - 1 = σ (kA_plans s) 0 + 1 by omega, h2]
  exact ⟨OBq_cg h (fun i hi => a4 i (by omega) (by omega)) hL.1 hL.2, a2, a3⟩
end RDC
