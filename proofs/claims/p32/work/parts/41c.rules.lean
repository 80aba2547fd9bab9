section SL2
def fv (k : Nat × Nat) (σ : SG) (c : Nat) : Value := match k.1 with
  | 0 => vi (σ c 0)
  | 1 => vl (σ c 0)
  | 2 => zv (nz (σ c 0))
  | 3 => vr k.2
  | _ => vr (σ c 0).toNat
def fl (σ : SG) (c : Nat) (ks : List (Nat × Nat)) : List Value := match ks with
  | [] => []
  | k :: t => fv k σ c :: fl σ (c + 1) t
def ar_i (σ : SG) (c : Nat) : Nat → Int32 := fun j => Int32.ofInt (σ c (j : Int))
def ar_b (σ : SG) (c : Nat) : Nat → Int32 := fun j => Int32.ofInt (w8 (σ c (j : Int)))
def ar_l (σ : SG) (c : Nat) : Nat → Int64 := fun j => Int64.ofInt (σ c (j : Int))
def ar_z (σ : SG) (c : Nat) : Nat → Int32 := fun j => if nz (σ c (j : Int)) = true then 1 else 0
def ar_r (n b s : Nat) : Nat → Option Nat := fun j => if j < n then some (b + s * j) else none
def en_t (σ : SG) (a : Nat) (L : LY) : PEnt := match L with
  | .inl q => .inr (q.1, fl σ (a * 256) q.2)
  | .inr q => match q.1 with
    | 0 => .inl (0, q.2.1, .inl (ar_i σ (a * 256)))
    | 1 => .inl (1, q.2.1, .inr (.inl (ar_l σ (a * 256))))
    | 2 => .inl (2, q.2.1, .inl (ar_b σ (a * 256)))
    | 3 => .inl (3, q.2.1, .inl (ar_z σ (a * 256)))
    | t + 4 => .inl (t + 4, q.2.1, .inr (.inr (.inr (.inr (ar_r q.2.1 q.2.2.1 q.2.2.2)))))
theorem fl_at {σ : SG} : ∀ {ks : List (Nat × Nat)} {c k : Nat} {kd : Nat × Nat}, ks[k]? = some kd → (fl σ c ks)[k]? = some (fv kd σ (c + k)) := by
  intro ks
  induction ks with
  | nil => intro c k kd h; simp at h
  | cons x t ih =>
    intro c k kd h
    cases k with
    | zero => simp only [List.getElem?_cons_zero, Option.some.injEq] at h; subst h; rfl
    | succ k =>
      rw [List.getElem?_cons_succ] at h
      show (fl σ (c + 1) t)[k]? = _
      rw [ih h, show c + 1 + k = c + (k + 1) by omega]
theorem fl_len {σ : SG} : ∀ {ks : List (Nat × Nat)} {c : Nat}, (fl σ c ks).length = ks.length := by
  intro ks
  induction ks with
  | nil => intro c; rfl
  | cons x t ih => intro c; show (fl σ (c + 1) t).length + 1 = _; rw [ih]; rfl
theorem fv_eq {σ τ : SG} {c : Nat} (h : τ c = σ c) (kd : Nat × Nat) : fv kd τ c = fv kd σ c := by
  unfold fv; rw [h]
theorem fl_eq {σ τ : SG} : ∀ {ks : List (Nat × Nat)} {c : Nat}, (∀ j, c ≤ j → j < c + ks.length → τ j = σ j) → fl τ c ks = fl σ c ks := by
  intro ks
  induction ks with
  | nil => intro c _; rfl
  | cons x t ih =>
    intro c h
    show fv x τ c :: fl τ (c + 1) t = fv x σ c :: fl σ (c + 1) t
    rw [fv_eq (h c (Nat.le_refl c) (by simp)), ih (fun j h1 h2 => h j (by omega) (by simp only [List.length_cons]; omega))]
theorem fl_set {σ τ : SG} : ∀ {ks : List (Nat × Nat)} {c k : Nat} {kd : Nat × Nat}, ks[k]? = some kd → (∀ j, c ≤ j → j < c + ks.length → j ≠ c + k → τ j = σ j) → (fl σ c ks).set k (fv kd τ (c + k)) = fl τ c ks := by
  intro ks
  induction ks with
  | nil => intro c k kd h; simp at h
  | cons x t ih =>
    intro c k kd h hh
    cases k with
    | zero =>
      simp only [List.getElem?_cons_zero, Option.some.injEq] at h
      subst h
      show fv x τ c :: fl σ (c + 1) t = fv x τ c :: fl τ (c + 1) t
      rw [fl_eq (σ := σ) (τ := τ) (fun j h1 h2 => hh j (by omega) (by simp only [List.length_cons]; omega) (by omega))]
    | succ k =>
      rw [List.getElem?_cons_succ] at h
      show fv x σ c :: (fl σ (c + 1) t).set k _ = fv x τ c :: fl τ (c + 1) t
      rw [show c + (k + 1) = c + 1 + k by omega, ih h (fun j h1 h2 h3 => hh j (by omega) (by simp only [List.length_cons]; omega) (by omega)), fv_eq (hh c (Nat.le_refl c) (by simp) (by omega))]
/-- the heap holds a state -/
def HS (σ : SG) (h : HP) : Prop := ∀ a L, lay a = some L → ob h a = some (en_t σ a L)
theorem en_t_eq {σ τ : SG} {a : Nat} {L : LY} (hL : lay a = some L) (h : ∀ j, a * 256 ≤ j → j < a * 256 + 256 → τ j = σ j) : en_t τ a L = en_t σ a L := by
  have h0 : τ (a * 256) = σ (a * 256) := h _ (Nat.le_refl _) (by omega)
  rcases L with q | ⟨t, q⟩
  · have := lay_len hL
    show (Sum.inr (q.1, fl τ (a * 256) q.2) : PEnt) = .inr (q.1, fl σ (a * 256) q.2)
    rw [fl_eq (σ := σ) (τ := τ) (fun j h1 h2 => h j h1 (by omega))]
  · rcases t with _ | _ | _ | _ | t
    · show (Sum.inl (0, q.1, .inl (ar_i τ (a * 256))) : PEnt) = .inl (0, q.1, .inl (ar_i σ (a * 256)))
      unfold ar_i; rw [h0]
    · show (Sum.inl (1, q.1, .inr (.inl (ar_l τ (a * 256)))) : PEnt) = .inl (1, q.1, .inr (.inl (ar_l σ (a * 256))))
      unfold ar_l; rw [h0]
    · show (Sum.inl (2, q.1, .inl (ar_b τ (a * 256))) : PEnt) = .inl (2, q.1, .inl (ar_b σ (a * 256)))
      unfold ar_b; rw [h0]
    · show (Sum.inl (3, q.1, .inl (ar_z τ (a * 256))) : PEnt) = .inl (3, q.1, .inl (ar_z σ (a * 256)))
      unfold ar_z; rw [h0]
    · rfl
theorem HS_set {σ τ : SG} {h : HP} {a : Nat} {L : LY} {e : PEnt} (hs : HS σ h) (hL : lay a = some L) (hτ : ∀ j, ¬ (a * 256 ≤ j ∧ j < a * 256 + 256) → τ j = σ j) (he : e = en_t τ a L) : HS τ (stt h a e) := by
  subst he
  intro b L' hb
  by_cases q : b = a
  · subst q
    rw [hL] at hb
    cases hb
    exact ob_self (hs b L hL)
  · rw [ob_ne (Ne.symm q) (ob_at (hs a L hL)).1, hs b L' hb]
    congr 1
    exact (en_t_eq hb (fun j h1 h2 => hτ j (by omega))).symm
theorem HS_app {σ : SG} {h : HP} (t : HP) (hs : HS σ h) : HS σ (h ++ t) := fun a L hL => ob_app t (hs a L hL)
theorem HS_fld {σ : SG} {h : HP} {a ci k : Nat} {ks : List (Nat × Nat)} {kd : Nat × Nat} {x : Int} (hs : HS σ h) (hL : lay a = some (.inl (ci, ks))) (hk : ks[k]? = some kd) {v : Value} (hv : v = fv kd (sg σ (a * 256 + k) 0 x) (a * 256 + k)) : HS (sg σ (a * 256 + k) 0 x) (stt h a (.inr (ci, (fl σ (a * 256) ks).set k v))) := by
  have hlen := lay_len hL
  have hk2 : k < ks.length := (List.getElem?_eq_some_iff.mp hk).1
  subst hv
  refine HS_set hs hL (fun j hj => ?_) ?_
  · funext i; exact sg_nc (by intro e; have : ks.length ≤ 256 := hlen; omega)
  · rw [fl_set (σ := σ) hk (fun j h1 h2 h3 => by funext i; exact sg_nc h3)]; rfl
theorem ar_i_up {σ : SG} {c : Nat} {i x : Int} (hi : 0 ≤ i) : ar_i (sg σ c i x) c = upd (ar_i σ c) i.toNat (Int32.ofInt x) := by
  funext j
  unfold ar_i upd
  by_cases q : j = i.toNat
  · rw [if_pos q, show (j : Int) = i by omega, sg_at]
  · rw [if_neg q, sg_ni (by omega)]
theorem ar_b_up {σ : SG} {c : Nat} {i x : Int} (hi : 0 ≤ i) : ar_b (sg σ c i x) c = upd (ar_b σ c) i.toNat (Int32.ofInt (w8 x)) := by
  funext j
  unfold ar_b upd
  by_cases q : j = i.toNat
  · rw [if_pos q, show (j : Int) = i by omega, sg_at]
  · rw [if_neg q, sg_ni (by omega)]
theorem ar_z_up {σ : SG} {c : Nat} {i : Int} {b : Bool} (hi : 0 ≤ i) : ar_z (sg σ c i (bz b)) c = upd (ar_z σ c) i.toNat (if b = true then 1 else 0) := by
  funext j
  unfold ar_z upd
  by_cases q : j = i.toNat
  · rw [if_pos q, show (j : Int) = i by omega, sg_at, nz_bz]
  · rw [if_neg q, sg_ni (by omega)]
theorem ar_l_up {σ : SG} {c : Nat} {i x : Int} (hi : 0 ≤ i) : ar_l (sg σ c i x) c = vp_updL (ar_l σ c) i.toNat (Int64.ofInt x) := by
  funext j
  unfold ar_l vp_updL
  by_cases q : j = i.toNat
  · rw [if_pos q, show (j : Int) = i by omega, sg_at]
  · rw [if_neg q, sg_ni (by omega)]
theorem HS_arr {σ : SG} {h : HP} {a t : Nat} {q : Nat × Nat × Nat} {i x : Int} (hs : HS σ h) (hL : lay a = some (.inr (t, q))) {e : PEnt} (he : e = en_t (sg σ (a * 256) i x) a (.inr (t, q))) : HS (sg σ (a * 256) i x) (stt h a e) :=
  HS_set hs hL (fun j hj => by funext i'; exact sg_nc (by omega)) he
def pY (post : Outc → SG → Prop) : Outc → HP → Prop := fun o h' => ∃ σ', HS σ' h' ∧ post o σ'
def YY (l : Launch) (E : EE) (M : MRec) (d mc ms : Nat) (post : Outc → SG → Prop) (pc : Nat) (lv : LVs) (st : List Value) (σ : SG) (cu su : Nat) : Prop := ∀ h, HS σ h → XX l E M d mc ms (pY post) pc lv st h cu su
def en_S (l : Launch) (E : EE) (M : MRec) (d mc ms : Nat) (as : List Value) (σ : SG) (post : Outc → SG → Prop) : Prop := ∀ h, HS σ h → en_C l E M d mc ms as h (pY post)
def pS (v : Option Value) (τ : SG) : Outc → SG → Prop := fun o s => o = .inl v ∧ s = τ
/-- exceptions: 0 IndexOutOfBounds, 1 IllegalState, 2 IllegalArgument, 3 UnsupportedOperation -/
def exn (k : Nat) : String := match k with
  | 0 => "java/lang/IndexOutOfBoundsException"
  | 1 => "java/lang/IllegalStateException"
  | 2 => "java/lang/IllegalArgumentException"
  | _ => "java/lang/UnsupportedOperationException"
def pT (v : Option Value ⊕ Nat) (τ : SG) : Outc → SG → Prop := fun o s => o = (match v with
  | .inl x => .inl x
  | .inr k => .inr (exn k)) ∧ s = τ
variable {l : Launch} {E : EE} {M : MRec} {d mc ms : Nat} {post : Outc → SG → Prop} {pc : Nat} {lv lv' : LVs} {st : List Value} {σ τ : SG} {cu su : Nat} {X Y x y : Int} {a n c i : Nat} {N : Int}
theorem cs1 {post : Outc → HP → Prop} {h : HP} {v v' : Value} (e : v = v') (k : XX l E M d mc ms post pc lv (v :: st) h cu su) : XX l E M d mc ms post pc lv (v' :: st) h cu su := e ▸ k
theorem csl {post : Outc → HP → Prop} {h : HP} (e : lv = lv') (k : XX l E M d mc ms post pc lv' st h cu su) : XX l E M d mc ms post pc lv st h cu su := e ▸ k
theorem z_iadd (hf : decode M.2.1 pc = .ok (.iadd, 1)) (k : YY l E M d mc ms post (pc + 1) lv (vi (X + Y) :: st) σ cu su) : YY l E M d mc ms post pc lv (vi Y :: vi X :: st) σ cu su := fun h hs => x_iadd hf (cs1 (congrArg Value.int (Int32.ofInt_add X Y)) (k h hs))
theorem z_isub (hf : decode M.2.1 pc = .ok (.isub, 1)) (k : YY l E M d mc ms post (pc + 1) lv (vi (X - Y) :: st) σ cu su) : YY l E M d mc ms post pc lv (vi Y :: vi X :: st) σ cu su := fun h hs => x_isub hf (cs1 (congrArg Value.int (Int32.ofInt_sub X Y)) (k h hs))
theorem z_imul (hf : decode M.2.1 pc = .ok (.imul, 1)) (k : YY l E M d mc ms post (pc + 1) lv (vi (X * Y) :: st) σ cu su) : YY l E M d mc ms post pc lv (vi Y :: vi X :: st) σ cu su := fun h hs => x_imul hf (cs1 (congrArg Value.int (Int32.ofInt_mul X Y)) (k h hs))
theorem z_ladd (hf : decode M.2.1 pc = .ok (.ladd, 1)) (k : YY l E M d mc ms post (pc + 1) lv (vl (X + Y) :: st) σ cu su) : YY l E M d mc ms post pc lv (vl Y :: vl X :: st) σ cu su := fun h hs => x_ladd hf (cs1 (congrArg Value.long (Int64.ofInt_add X Y)) (k h hs))
theorem z_lsub (hf : decode M.2.1 pc = .ok (.lsub, 1)) (k : YY l E M d mc ms post (pc + 1) lv (vl (X - Y) :: st) σ cu su) : YY l E M d mc ms post pc lv (vl Y :: vl X :: st) σ cu su := fun h hs => x_lsub hf (cs1 (congrArg Value.long (Int64.ofInt_sub X Y)) (k h hs))
theorem z_lmul (hf : decode M.2.1 pc = .ok (.lmul, 1)) (k : YY l E M d mc ms post (pc + 1) lv (vl (X * Y) :: st) σ cu su) : YY l E M d mc ms post pc lv (vl Y :: vl X :: st) σ cu su := fun h hs => x_lmul hf (cs1 (congrArg Value.long (Int64.ofInt_mul X Y)) (k h hs))
theorem z_ineg (hf : decode M.2.1 pc = .ok (.ineg, 1)) (k : YY l E M d mc ms post (pc + 1) lv (vi (-X) :: st) σ cu su) : YY l E M d mc ms post pc lv (vi X :: st) σ cu su := fun h hs => x_ineg hf (cs1 (congrArg Value.int (Int32.ofInt_neg X)) (k h hs))
theorem z_lneg (hf : decode M.2.1 pc = .ok (.lneg, 1)) (k : YY l E M d mc ms post (pc + 1) lv (vl (-X) :: st) σ cu su) : YY l E M d mc ms post pc lv (vl X :: st) σ cu su := fun h hs => x_lneg hf (cs1 (congrArg Value.long (Int64.ofInt_neg X)) (k h hs))
theorem z_iand (hf : decode M.2.1 pc = .ok (.iand, 1)) (k : YY l E M d mc ms post (pc + 1) lv (vi (q_ian X Y) :: st) σ cu su) : YY l E M d mc ms post pc lv (vi Y :: vi X :: st) σ cu su := fun h hs => x_iand hf (cs1 (congrArg Value.int (Int32.ofInt_toInt _)) (k h hs))
theorem z_ior (hf : decode M.2.1 pc = .ok (.ior, 1)) (k : YY l E M d mc ms post (pc + 1) lv (vi (q_ior X Y) :: st) σ cu su) : YY l E M d mc ms post pc lv (vi Y :: vi X :: st) σ cu su := fun h hs => x_ior hf (cs1 (congrArg Value.int (Int32.ofInt_toInt _)) (k h hs))
theorem z_ixor (hf : decode M.2.1 pc = .ok (.ixor, 1)) (k : YY l E M d mc ms post (pc + 1) lv (vi (q_ixo X Y) :: st) σ cu su) : YY l E M d mc ms post pc lv (vi Y :: vi X :: st) σ cu su := fun h hs => x_ixor hf (cs1 (congrArg Value.int (Int32.ofInt_toInt _)) (k h hs))
theorem z_ishl (hf : decode M.2.1 pc = .ok (.ishl, 1)) (k : YY l E M d mc ms post (pc + 1) lv (vi (q_isl X Y) :: st) σ cu su) : YY l E M d mc ms post pc lv (vi Y :: vi X :: st) σ cu su := fun h hs => x_ishl hf (cs1 (congrArg Value.int (Int32.ofInt_toInt _)) (k h hs))
theorem z_ishr (hf : decode M.2.1 pc = .ok (.ishr, 1)) (k : YY l E M d mc ms post (pc + 1) lv (vi (q_isr X Y) :: st) σ cu su) : YY l E M d mc ms post pc lv (vi Y :: vi X :: st) σ cu su := fun h hs => x_ishr hf (cs1 (congrArg Value.int (Int32.ofInt_toInt _)) (k h hs))
theorem z_iushr (hf : decode M.2.1 pc = .ok (.iushr, 1)) (k : YY l E M d mc ms post (pc + 1) lv (vi (q_ius X Y) :: st) σ cu su) : YY l E M d mc ms post pc lv (vi Y :: vi X :: st) σ cu su := fun h hs => x_iushr hf (cs1 (congrArg Value.int (Int32.ofInt_toInt _)) (k h hs))
theorem z_land (hf : decode M.2.1 pc = .ok (.land, 1)) (k : YY l E M d mc ms post (pc + 1) lv (vl (q_lan X Y) :: st) σ cu su) : YY l E M d mc ms post pc lv (vl Y :: vl X :: st) σ cu su := fun h hs => x_land hf (cs1 (congrArg Value.long (Int64.ofInt_toInt _)) (k h hs))
theorem z_lor (hf : decode M.2.1 pc = .ok (.lor, 1)) (k : YY l E M d mc ms post (pc + 1) lv (vl (q_lor X Y) :: st) σ cu su) : YY l E M d mc ms post pc lv (vl Y :: vl X :: st) σ cu su := fun h hs => x_lor hf (cs1 (congrArg Value.long (Int64.ofInt_toInt _)) (k h hs))
theorem z_lxor (hf : decode M.2.1 pc = .ok (.lxor, 1)) (k : YY l E M d mc ms post (pc + 1) lv (vl (q_lxo X Y) :: st) σ cu su) : YY l E M d mc ms post pc lv (vl Y :: vl X :: st) σ cu su := fun h hs => x_lxor hf (cs1 (congrArg Value.long (Int64.ofInt_toInt _)) (k h hs))
theorem z_lshl (hf : decode M.2.1 pc = .ok (.lshl, 1)) (k : YY l E M d mc ms post (pc + 1) lv (vl (q_lsl X Y) :: st) σ cu su) : YY l E M d mc ms post pc lv (vi Y :: vl X :: st) σ cu su := fun h hs => x_lshl hf (cs1 (congrArg Value.long (Int64.ofInt_toInt _)) (k h hs))
theorem z_lshr (hf : decode M.2.1 pc = .ok (.lshr, 1)) (k : YY l E M d mc ms post (pc + 1) lv (vl (q_lsr X Y) :: st) σ cu su) : YY l E M d mc ms post pc lv (vi Y :: vl X :: st) σ cu su := fun h hs => x_lshr hf (cs1 (congrArg Value.long (Int64.ofInt_toInt _)) (k h hs))
theorem z_lushr (hf : decode M.2.1 pc = .ok (.lushr, 1)) (k : YY l E M d mc ms post (pc + 1) lv (vl (q_lus X Y) :: st) σ cu su) : YY l E M d mc ms post pc lv (vi Y :: vl X :: st) σ cu su := fun h hs => x_lushr hf (cs1 (congrArg Value.long (Int64.ofInt_toInt _)) (k h hs))
theorem nz32 {x : Int} (h : ¬ w32 x = 0) : ¬ Int32.ofInt x = 0 := fun q => h ((congrArg Int32.toInt q).trans rfl)
theorem nz64 {x : Int} (h : ¬ w64 x = 0) : ¬ Int64.ofInt x = 0 := fun q => h ((congrArg Int64.toInt q).trans rfl)
theorem z_idiv (hf : decode M.2.1 pc = .ok (.idiv, 1)) (h0 : ¬ w32 Y = 0) (k : YY l E M d mc ms post (pc + 1) lv (vi (q_idv X Y) :: st) σ cu su) : YY l E M d mc ms post pc lv (vi Y :: vi X :: st) σ cu su := fun h hs => x_idiv hf (nz32 h0) (cs1 (congrArg Value.int (idv_ok _ _)) (k h hs))
theorem z_irem (hf : decode M.2.1 pc = .ok (.irem, 1)) (h0 : ¬ w32 Y = 0) (k : YY l E M d mc ms post (pc + 1) lv (vi (q_irm X Y) :: st) σ cu su) : YY l E M d mc ms post pc lv (vi Y :: vi X :: st) σ cu su := fun h hs => x_irem hf (nz32 h0) (cs1 (congrArg Value.int (irm_ok _ _)) (k h hs))
theorem z_ldiv (hf : decode M.2.1 pc = .ok (.ldiv, 1)) (h0 : ¬ w64 Y = 0) (k : YY l E M d mc ms post (pc + 1) lv (vl (q_ldv X Y) :: st) σ cu su) : YY l E M d mc ms post pc lv (vl Y :: vl X :: st) σ cu su := fun h hs => x_ldiv hf (nz64 h0) (cs1 (congrArg Value.long (ldv_ok _ _)) (k h hs))
theorem z_lrem (hf : decode M.2.1 pc = .ok (.lrem, 1)) (h0 : ¬ w64 Y = 0) (k : YY l E M d mc ms post (pc + 1) lv (vl (q_lrm X Y) :: st) σ cu su) : YY l E M d mc ms post pc lv (vl Y :: vl X :: st) σ cu su := fun h hs => x_lrem hf (nz64 h0) (cs1 (congrArg Value.long (lrm_ok _ _)) (k h hs))
theorem z_lcmp (hf : decode M.2.1 pc = .ok (.lcmp, 1)) (k : YY l E M d mc ms post (pc + 1) lv (vi (q_lc X Y) :: st) σ cu su) : YY l E M d mc ms post pc lv (vl Y :: vl X :: st) σ cu su := fun h hs => x_lcmp hf (cs1 (lc_ok X Y) (k h hs))
theorem z_i2l (hf : decode M.2.1 pc = .ok (.i2l, 1)) (k : YY l E M d mc ms post (pc + 1) lv (vl (w32 X) :: st) σ cu su) : YY l E M d mc ms post pc lv (vi X :: st) σ cu su := fun h hs => x_i2l hf (cs1 (congrArg Value.long (Int64.ofInt_int32ToInt _)) (k h hs))
theorem z_l2i (hf : decode M.2.1 pc = .ok (.l2i, 1)) (k : YY l E M d mc ms post (pc + 1) lv (vi X :: st) σ cu su) : YY l E M d mc ms post pc lv (vl X :: st) σ cu su := fun h hs => x_l2i hf (cs1 (congrArg Value.int (Int64.toInt32_ofInt).symm) (k h hs))
theorem b_ok (X : Int) : (Int32.ofInt X).toInt8.toInt32 = Int32.ofInt (w8 X) := by
  rw [Int32.toInt8_ofInt]; exact (Int32.ofInt_int8ToInt _).symm
theorem z_i2b (hf : decode M.2.1 pc = .ok (.i2b, 1)) (k : YY l E M d mc ms post (pc + 1) lv (vi (w8 X) :: st) σ cu su) : YY l E M d mc ms post pc lv (vi X :: st) σ cu su := fun h hs => x_i2b hf (cs1 (congrArg Value.int (b_ok X).symm) (k h hs))
theorem z_iconst {n : Int} (hf : decode M.2.1 pc = .ok (.iconst n, 1)) (k : YY l E M d mc ms post (pc + 1) lv (vi n :: st) σ cu su) : YY l E M d mc ms post pc lv st σ cu su := fun h hs => x_iconst hf (k h hs)
theorem z_zconst {n : Int} {b : Bool} (hf : decode M.2.1 pc = .ok (.iconst n, 1)) (hb : vi n = zv b) (k : YY l E M d mc ms post (pc + 1) lv (zv b :: st) σ cu su) : YY l E M d mc ms post pc lv st σ cu su := fun h hs => x_iconst hf (cs1 hb.symm (k h hs))
theorem z_bipush {n : Int} (hf : decode M.2.1 pc = .ok (.bipush n, 2)) (hn : (Int8.ofInt n).toInt32 = Int32.ofInt n) (k : YY l E M d mc ms post (pc + 2) lv (vi n :: st) σ cu su) : YY l E M d mc ms post pc lv st σ cu su := fun h hs => x_bipush hf (cs1 (congrArg Value.int hn.symm) (k h hs))
theorem z_sipush {n : Int} (hf : decode M.2.1 pc = .ok (.sipush n, 3)) (hn : (Int16.ofInt n).toInt32 = Int32.ofInt n) (k : YY l E M d mc ms post (pc + 3) lv (vi n :: st) σ cu su) : YY l E M d mc ms post pc lv st σ cu su := fun h hs => x_sipush hf (cs1 (congrArg Value.int hn.symm) (k h hs))
theorem z_lconst {n : Fin 2} {m : Int} (hf : decode M.2.1 pc = .ok (.lconst n, 1)) (hn : Int64.ofNat (n : Nat) = Int64.ofInt m) (k : YY l E M d mc ms post (pc + 1) lv (vl m :: st) σ cu su) : YY l E M d mc ms post pc lv st σ cu su := fun h hs => x_lconst hf (cs1 (congrArg Value.long hn.symm) (k h hs))
theorem z_ldc {index : Nat} {v : Int32} {n : Int} (hf : decode M.2.1 pc = .ok (.ldc index, 2)) (hw : Cond.constant M.1.cls index v ∈ WS) (hn : v = Int32.ofInt n) (k : YY l E M d mc ms post (pc + 2) lv (vi n :: st) σ cu su) : YY l E M d mc ms post pc lv st σ cu su := fun h hs => x_ldc hf hw (cs1 (congrArg Value.int hn.symm) (k h hs))
theorem z_ldcw {index : Nat} {v : Int32} {n : Int} (hf : decode M.2.1 pc = .ok (.ldc_w index, 3)) (hw : Cond.constant M.1.cls index v ∈ WS) (hn : v = Int32.ofInt n) (k : YY l E M d mc ms post (pc + 3) lv (vi n :: st) σ cu su) : YY l E M d mc ms post pc lv st σ cu su := fun h hs => x_ldcw hf hw (cs1 (congrArg Value.int hn.symm) (k h hs))
theorem z_ldc2 {index : Nat} {v : Int64} {n : Int} (hf : decode M.2.1 pc = .ok (.ldc2_w index, 3)) (hw : Cond.constantLong M.1.cls index v ∈ WS) (hn : v = Int64.ofInt n) (k : YY l E M d mc ms post (pc + 3) lv (vl n :: st) σ cu su) : YY l E M d mc ms post pc lv st σ cu su := fun h hs => x_ldc2 hf hw (cs1 (congrArg Value.long hn.symm) (k h hs))
theorem z_dup {v : Value} (hf : decode M.2.1 pc = .ok (.dup, 1)) (h1 : v.category = 1) (k : YY l E M d mc ms post (pc + 1) lv (v :: v :: st) σ cu su) : YY l E M d mc ms post pc lv (v :: st) σ cu su := fun h hs => x_dup hf h1 (k h hs)
theorem z_pop {v : Value} (hf : decode M.2.1 pc = .ok (.pop, 1)) (h1 : v.category = 1) (k : YY l E M d mc ms post (pc + 1) lv st σ cu su) : YY l E M d mc ms post pc lv (v :: st) σ cu su := fun h hs => x_pop hf h1 (k h hs)
theorem z_dup2 {v w : Value} (hf : decode M.2.1 pc = .ok (.dup2, 1)) (h1 : v.category = 1) (h2 : w.category = 1) (k : YY l E M d mc ms post (pc + 1) lv (v :: w :: v :: w :: st) σ cu su) : YY l E M d mc ms post pc lv (v :: w :: st) σ cu su := fun h hs => x_dup2 hf h1 h2 (k h hs)
theorem z_goto {off : Int} {tgt : Nat} (hf : decode M.2.1 pc = .ok (.goto off, 3)) (ht : (pc : Int) + off = (tgt : Int)) (k : YY l E M d mc ms post tgt lv st σ cu su) : YY l E M d mc ms post pc lv st σ cu su := fun h hs => x_goto hf ht (k h hs)
theorem z_lv (e : lv = lv') (k : YY l E M d mc ms post pc lv' st σ cu su) : YY l E M d mc ms post pc lv st σ cu su := e ▸ k
theorem z_less (hs : ∀ (i : Nat) (v : Value), lv'[i]? = some (some v) → lv[i]? = some (some v)) (k : YY l E M d mc ms post pc lv' st σ cu su) : YY l E M d mc ms post pc lv st σ cu su := fun h hh => x_lv hs (k h hh)
theorem z_st {st' : List Value} (e : st = st') (k : YY l E M d mc ms post pc lv st' σ cu su) : YY l E M d mc ms post pc lv st σ cu su := e ▸ k
theorem z_iload_n {k0 : Fin 4} (hf : decode M.2.1 pc = .ok (.iload_n k0, 1)) (hv : lv[(k0 : Nat)]? = some (some (vi X))) (k : YY l E M d mc ms post (pc + 1) lv (vi X :: st) σ cu su) : YY l E M d mc ms post pc lv st σ cu su := fun h hs => x_iload_n hf hv (k h hs)
theorem z_iload (hf : decode M.2.1 pc = .ok (.iload i, 2)) (hv : lv[i]? = some (some (vi X))) (k : YY l E M d mc ms post (pc + 2) lv (vi X :: st) σ cu su) : YY l E M d mc ms post pc lv st σ cu su := fun h hs => x_iload hf hv (k h hs)
theorem z_lload_n {k0 : Fin 4} (hf : decode M.2.1 pc = .ok (.lload_n k0, 1)) (hv : lv[(k0 : Nat)]? = some (some (vl X))) (k : YY l E M d mc ms post (pc + 1) lv (vl X :: st) σ cu su) : YY l E M d mc ms post pc lv st σ cu su := fun h hs => x_lload_n hf hv (k h hs)
theorem z_lload (hf : decode M.2.1 pc = .ok (.lload i, 2)) (hv : lv[i]? = some (some (vl X))) (k : YY l E M d mc ms post (pc + 2) lv (vl X :: st) σ cu su) : YY l E M d mc ms post pc lv st σ cu su := fun h hs => x_lload hf hv (k h hs)
theorem z_aload_n {k0 : Fin 4} (hf : decode M.2.1 pc = .ok (.aload_n k0, 1)) (hv : lv[(k0 : Nat)]? = some (some (vr a))) (k : YY l E M d mc ms post (pc + 1) lv (vr a :: st) σ cu su) : YY l E M d mc ms post pc lv st σ cu su := fun h hs => x_aload_n hf hv (k h hs)
theorem z_aload (hf : decode M.2.1 pc = .ok (.aload i, 2)) (hv : lv[i]? = some (some (vr a))) (k : YY l E M d mc ms post (pc + 2) lv (vr a :: st) σ cu su) : YY l E M d mc ms post pc lv st σ cu su := fun h hs => x_aload hf hv (k h hs)
theorem z_zload_n {k0 : Fin 4} {b : Bool} (hf : decode M.2.1 pc = .ok (.iload_n k0, 1)) (hv : lv[(k0 : Nat)]? = some (some (zv b))) (k : YY l E M d mc ms post (pc + 1) lv (zv b :: st) σ cu su) : YY l E M d mc ms post pc lv st σ cu su := fun h hs => x_iload_n hf hv (k h hs)
theorem z_zload {b : Bool} (hf : decode M.2.1 pc = .ok (.iload i, 2)) (hv : lv[i]? = some (some (zv b))) (k : YY l E M d mc ms post (pc + 2) lv (zv b :: st) σ cu su) : YY l E M d mc ms post pc lv st σ cu su := fun h hs => x_iload hf hv (k h hs)
theorem z_istore_n {k0 : Fin 4} (hf : decode M.2.1 pc = .ok (.istore_n k0, 1)) (hn : (k0 : Nat) < M.2.2.1) (hc : en_fr lv (k0 : Nat) = true) (e : lv.set (k0 : Nat) (some (vi X)) = lv') (k : YY l E M d mc ms post (pc + 1) lv' st σ cu su) : YY l E M d mc ms post pc lv (vi X :: st) σ cu su := fun h hs => x_istore_n hf hn hc (csl e (k h hs))
theorem z_istore (hf : decode M.2.1 pc = .ok (.istore i, 2)) (hn : i < M.2.2.1) (hc : en_fr lv i = true) (e : lv.set i (some (vi X)) = lv') (k : YY l E M d mc ms post (pc + 2) lv' st σ cu su) : YY l E M d mc ms post pc lv (vi X :: st) σ cu su := fun h hs => x_istore hf hn hc (csl e (k h hs))
theorem z_zstore_n {b : Bool} {k0 : Fin 4} (hf : decode M.2.1 pc = .ok (.istore_n k0, 1)) (hn : (k0 : Nat) < M.2.2.1) (hc : en_fr lv (k0 : Nat) = true) (e : lv.set (k0 : Nat) (some (zv b)) = lv') (k : YY l E M d mc ms post (pc + 1) lv' st σ cu su) : YY l E M d mc ms post pc lv (zv b :: st) σ cu su := fun h hs => x_istore_n hf hn hc (csl e (k h hs))
theorem z_zstore {b : Bool} (hf : decode M.2.1 pc = .ok (.istore i, 2)) (hn : i < M.2.2.1) (hc : en_fr lv i = true) (e : lv.set i (some (zv b)) = lv') (k : YY l E M d mc ms post (pc + 2) lv' st σ cu su) : YY l E M d mc ms post pc lv (zv b :: st) σ cu su := fun h hs => x_istore hf hn hc (csl e (k h hs))
theorem z_astore_n {k0 : Fin 4} (hf : decode M.2.1 pc = .ok (.astore_n k0, 1)) (hn : (k0 : Nat) < M.2.2.1) (hc : en_fr lv (k0 : Nat) = true) (e : lv.set (k0 : Nat) (some (vr a)) = lv') (k : YY l E M d mc ms post (pc + 1) lv' st σ cu su) : YY l E M d mc ms post pc lv (vr a :: st) σ cu su := fun h hs => x_astore_n hf hn hc (csl e (k h hs))
theorem z_astore (hf : decode M.2.1 pc = .ok (.astore i, 2)) (hn : i < M.2.2.1) (hc : en_fr lv i = true) (e : lv.set i (some (vr a)) = lv') (k : YY l E M d mc ms post (pc + 2) lv' st σ cu su) : YY l E M d mc ms post pc lv (vr a :: st) σ cu su := fun h hs => x_astore hf hn hc (csl e (k h hs))
theorem z_lstore_n {k0 : Fin 4} (hf : decode M.2.1 pc = .ok (.lstore_n k0, 1)) (hn : (k0 : Nat) + 1 < M.2.2.1) (hc : en_fr lv (k0 : Nat) = true) (e : (lv.set (k0 : Nat) (some (vl X))).set ((k0 : Nat) + 1) none = lv') (k : YY l E M d mc ms post (pc + 1) lv' st σ cu su) : YY l E M d mc ms post pc lv (vl X :: st) σ cu su := fun h hs => x_lstore_n hf hn hc (csl e (k h hs))
theorem z_lstore (hf : decode M.2.1 pc = .ok (.lstore i, 2)) (hn : i + 1 < M.2.2.1) (hc : en_fr lv i = true) (e : (lv.set i (some (vl X))).set (i + 1) none = lv') (k : YY l E M d mc ms post (pc + 2) lv' st σ cu su) : YY l E M d mc ms post pc lv (vl X :: st) σ cu su := fun h hs => x_lstore hf hn hc (csl e (k h hs))
theorem z_iinc {n : Int} (hf : decode M.2.1 pc = .ok (.iinc i n, 3)) (hv : lv[i]? = some (some (vi X))) (hn : i < M.2.2.1) (hc : en_fr lv i = true) (e : lv.set i (some (vi (X + n))) = lv') (k : YY l E M d mc ms post (pc + 3) lv' st σ cu su) : YY l E M d mc ms post pc lv st σ cu su := fun h hs => x_iinc hf hv hn hc (csl (by rw [← Int32.ofInt_add]; exact e) (k h hs))
theorem lc_v (X Y : Int) : w32 (q_lc X Y) = q_lc X Y := by
  unfold q_lc
  by_cases a : w64 X < w64 Y
  · rw [if_pos a]; rfl
  · rw [if_neg a]
    by_cases b : w64 X = w64 Y
    · rw [if_pos b]; rfl
    · rw [if_neg b]; rfl
theorem lc_c (X Y : Int) : (q_lc X Y = -1 ∧ w64 X < w64 Y) ∨ (q_lc X Y = 0 ∧ w64 X = w64 Y) ∨ (q_lc X Y = 1 ∧ w64 Y < w64 X) := by
  unfold q_lc
  by_cases a : w64 X < w64 Y
  · rw [if_pos a]; exact Or.inl ⟨rfl, a⟩
  · rw [if_neg a]
    by_cases b : w64 X = w64 Y
    · rw [if_pos b]; exact Or.inr (Or.inl ⟨rfl, b⟩)
    · rw [if_neg b]; exact Or.inr (Or.inr ⟨rfl, by omega⟩)
theorem lc_lt_t (X Y : Int) : (w32 (q_lc X Y) < 0) ↔ (w64 X < w64 Y) := by rw [lc_v]; have := lc_c X Y; omega
theorem lc_lt_f (X Y : Int) : (0 ≤ w32 (q_lc X Y)) ↔ (w64 Y ≤ w64 X) := by rw [lc_v]; have := lc_c X Y; omega
theorem lc_ge_t (X Y : Int) : (0 ≤ w32 (q_lc X Y)) ↔ (w64 Y ≤ w64 X) := by rw [lc_v]; have := lc_c X Y; omega
theorem lc_ge_f (X Y : Int) : (w32 (q_lc X Y) < 0) ↔ (w64 X < w64 Y) := by rw [lc_v]; have := lc_c X Y; omega
theorem lc_gt_t (X Y : Int) : (0 < w32 (q_lc X Y)) ↔ (w64 Y < w64 X) := by rw [lc_v]; have := lc_c X Y; omega
theorem lc_gt_f (X Y : Int) : (w32 (q_lc X Y) ≤ 0) ↔ (w64 X ≤ w64 Y) := by rw [lc_v]; have := lc_c X Y; omega
theorem lc_le_t (X Y : Int) : (w32 (q_lc X Y) ≤ 0) ↔ (w64 X ≤ w64 Y) := by rw [lc_v]; have := lc_c X Y; omega
theorem lc_le_f (X Y : Int) : (0 < w32 (q_lc X Y)) ↔ (w64 Y < w64 X) := by rw [lc_v]; have := lc_c X Y; omega
theorem lc_eq_t (X Y : Int) : (w32 (q_lc X Y) = 0) ↔ (w64 X = w64 Y) := by rw [lc_v]; have := lc_c X Y; omega
theorem lc_eq_f (X Y : Int) : (¬ w32 (q_lc X Y) = 0) ↔ (¬ w64 X = w64 Y) := by rw [lc_v]; have := lc_c X Y; omega
theorem lc_ne_t (X Y : Int) : (¬ w32 (q_lc X Y) = 0) ↔ (¬ w64 X = w64 Y) := by rw [lc_v]; have := lc_c X Y; omega
theorem lc_ne_f (X Y : Int) : (w32 (q_lc X Y) = 0) ↔ (w64 X = w64 Y) := by rw [lc_v]; have := lc_c X Y; omega
theorem z_icmp_lt_t {off : Int} {tgt : Nat} (hf : decode M.2.1 pc = .ok (.if_icmp .lt off, 3)) (ht : (pc : Int) + off = (tgt : Int)) (hX : w32 X = x) (hY : w32 Y = y) (hh : x < y) (k : YY l E M d mc ms post tgt lv st σ cu su) : YY l E M d mc ms post pc lv (vi Y :: vi X :: st) σ cu su := fun h hs => x_icmp_lt hf ht (fun _ => k h hs) (fun q => absurd (lt32.mpr (by rw [hX, hY]; exact hh)) q)
theorem z_icmp_lt_f {off : Int} {tgt : Nat} (hf : decode M.2.1 pc = .ok (.if_icmp .lt off, 3)) (ht : (pc : Int) + off = (tgt : Int)) (hX : w32 X = x) (hY : w32 Y = y) (hh : y ≤ x) (k : YY l E M d mc ms post (pc + 3) lv st σ cu su) : YY l E M d mc ms post pc lv (vi Y :: vi X :: st) σ cu su := fun h hs => x_icmp_lt hf ht (fun q => absurd (lt32.mp q) (by rw [hX, hY]; exact Int.not_lt.mpr hh)) (fun _ => k h hs)
theorem z_if_lt_t {off : Int} {tgt : Nat} (hf : decode M.2.1 pc = .ok (.ifCond .lt off, 3)) (ht : (pc : Int) + off = (tgt : Int)) (hX : w32 X = x) (hh : x < 0) (k : YY l E M d mc ms post tgt lv st σ cu su) : YY l E M d mc ms post pc lv (vi X :: st) σ cu su := fun h hs => x_if_lt hf ht (fun _ => k h hs) (fun q => absurd ((lt32 (x := X) (y := 0)).mpr (by rw [hX]; exact hh)) q)
theorem z_if_lt_f {off : Int} {tgt : Nat} (hf : decode M.2.1 pc = .ok (.ifCond .lt off, 3)) (ht : (pc : Int) + off = (tgt : Int)) (hX : w32 X = x) (hh : 0 ≤ x) (k : YY l E M d mc ms post (pc + 3) lv st σ cu su) : YY l E M d mc ms post pc lv (vi X :: st) σ cu su := fun h hs => x_if_lt hf ht (fun q => absurd ((lt32 (x := X) (y := 0)).mp q) (by rw [hX]; exact Int.not_lt.mpr hh)) (fun _ => k h hs)
theorem z_lif_lt_t {off : Int} {tgt : Nat} (hf : decode M.2.1 pc = .ok (.ifCond .lt off, 3)) (ht : (pc : Int) + off = (tgt : Int)) (hX : w64 X = x) (hY : w64 Y = y) (hh : x < y) (k : YY l E M d mc ms post tgt lv st σ cu su) : YY l E M d mc ms post pc lv (vi (q_lc X Y) :: st) σ cu su := z_if_lt_t hf ht rfl (by subst hX; subst hY; exact (lc_lt_t X Y).mpr hh) k
theorem z_lif_lt_f {off : Int} {tgt : Nat} (hf : decode M.2.1 pc = .ok (.ifCond .lt off, 3)) (ht : (pc : Int) + off = (tgt : Int)) (hX : w64 X = x) (hY : w64 Y = y) (hh : y ≤ x) (k : YY l E M d mc ms post (pc + 3) lv st σ cu su) : YY l E M d mc ms post pc lv (vi (q_lc X Y) :: st) σ cu su := z_if_lt_f hf ht rfl (by subst hX; subst hY; exact (lc_lt_f X Y).mpr hh) k
theorem z_icmp_ge_t {off : Int} {tgt : Nat} (hf : decode M.2.1 pc = .ok (.if_icmp .ge off, 3)) (ht : (pc : Int) + off = (tgt : Int)) (hX : w32 X = x) (hY : w32 Y = y) (hh : y ≤ x) (k : YY l E M d mc ms post tgt lv st σ cu su) : YY l E M d mc ms post pc lv (vi Y :: vi X :: st) σ cu su := fun h hs => x_icmp_ge hf ht (fun _ => k h hs) (fun q => absurd (le32.mpr (by rw [hX, hY]; exact hh)) q)
theorem z_icmp_ge_f {off : Int} {tgt : Nat} (hf : decode M.2.1 pc = .ok (.if_icmp .ge off, 3)) (ht : (pc : Int) + off = (tgt : Int)) (hX : w32 X = x) (hY : w32 Y = y) (hh : x < y) (k : YY l E M d mc ms post (pc + 3) lv st σ cu su) : YY l E M d mc ms post pc lv (vi Y :: vi X :: st) σ cu su := fun h hs => x_icmp_ge hf ht (fun q => absurd (le32.mp q) (by rw [hX, hY]; exact Int.not_le.mpr hh)) (fun _ => k h hs)
theorem z_if_ge_t {off : Int} {tgt : Nat} (hf : decode M.2.1 pc = .ok (.ifCond .ge off, 3)) (ht : (pc : Int) + off = (tgt : Int)) (hX : w32 X = x) (hh : 0 ≤ x) (k : YY l E M d mc ms post tgt lv st σ cu su) : YY l E M d mc ms post pc lv (vi X :: st) σ cu su := fun h hs => x_if_ge hf ht (fun _ => k h hs) (fun q => absurd ((le32 (x := 0) (y := X)).mpr (by rw [hX]; exact hh)) q)
theorem z_if_ge_f {off : Int} {tgt : Nat} (hf : decode M.2.1 pc = .ok (.ifCond .ge off, 3)) (ht : (pc : Int) + off = (tgt : Int)) (hX : w32 X = x) (hh : x < 0) (k : YY l E M d mc ms post (pc + 3) lv st σ cu su) : YY l E M d mc ms post pc lv (vi X :: st) σ cu su := fun h hs => x_if_ge hf ht (fun q => absurd ((le32 (x := 0) (y := X)).mp q) (by rw [hX]; exact Int.not_le.mpr hh)) (fun _ => k h hs)
theorem z_lif_ge_t {off : Int} {tgt : Nat} (hf : decode M.2.1 pc = .ok (.ifCond .ge off, 3)) (ht : (pc : Int) + off = (tgt : Int)) (hX : w64 X = x) (hY : w64 Y = y) (hh : y ≤ x) (k : YY l E M d mc ms post tgt lv st σ cu su) : YY l E M d mc ms post pc lv (vi (q_lc X Y) :: st) σ cu su := z_if_ge_t hf ht rfl (by subst hX; subst hY; exact (lc_ge_t X Y).mpr hh) k
theorem z_lif_ge_f {off : Int} {tgt : Nat} (hf : decode M.2.1 pc = .ok (.ifCond .ge off, 3)) (ht : (pc : Int) + off = (tgt : Int)) (hX : w64 X = x) (hY : w64 Y = y) (hh : x < y) (k : YY l E M d mc ms post (pc + 3) lv st σ cu su) : YY l E M d mc ms post pc lv (vi (q_lc X Y) :: st) σ cu su := z_if_ge_f hf ht rfl (by subst hX; subst hY; exact (lc_ge_f X Y).mpr hh) k
theorem z_icmp_gt_t {off : Int} {tgt : Nat} (hf : decode M.2.1 pc = .ok (.if_icmp .gt off, 3)) (ht : (pc : Int) + off = (tgt : Int)) (hX : w32 X = x) (hY : w32 Y = y) (hh : y < x) (k : YY l E M d mc ms post tgt lv st σ cu su) : YY l E M d mc ms post pc lv (vi Y :: vi X :: st) σ cu su := fun h hs => x_icmp_gt hf ht (fun _ => k h hs) (fun q => absurd (lt32.mpr (by rw [hX, hY]; exact hh)) q)
theorem z_icmp_gt_f {off : Int} {tgt : Nat} (hf : decode M.2.1 pc = .ok (.if_icmp .gt off, 3)) (ht : (pc : Int) + off = (tgt : Int)) (hX : w32 X = x) (hY : w32 Y = y) (hh : x ≤ y) (k : YY l E M d mc ms post (pc + 3) lv st σ cu su) : YY l E M d mc ms post pc lv (vi Y :: vi X :: st) σ cu su := fun h hs => x_icmp_gt hf ht (fun q => absurd (lt32.mp q) (by rw [hX, hY]; exact Int.not_lt.mpr hh)) (fun _ => k h hs)
theorem z_if_gt_t {off : Int} {tgt : Nat} (hf : decode M.2.1 pc = .ok (.ifCond .gt off, 3)) (ht : (pc : Int) + off = (tgt : Int)) (hX : w32 X = x) (hh : 0 < x) (k : YY l E M d mc ms post tgt lv st σ cu su) : YY l E M d mc ms post pc lv (vi X :: st) σ cu su := fun h hs => x_if_gt hf ht (fun _ => k h hs) (fun q => absurd ((lt32 (x := 0) (y := X)).mpr (by rw [hX]; exact hh)) q)
theorem z_if_gt_f {off : Int} {tgt : Nat} (hf : decode M.2.1 pc = .ok (.ifCond .gt off, 3)) (ht : (pc : Int) + off = (tgt : Int)) (hX : w32 X = x) (hh : x ≤ 0) (k : YY l E M d mc ms post (pc + 3) lv st σ cu su) : YY l E M d mc ms post pc lv (vi X :: st) σ cu su := fun h hs => x_if_gt hf ht (fun q => absurd ((lt32 (x := 0) (y := X)).mp q) (by rw [hX]; exact Int.not_lt.mpr hh)) (fun _ => k h hs)
theorem z_lif_gt_t {off : Int} {tgt : Nat} (hf : decode M.2.1 pc = .ok (.ifCond .gt off, 3)) (ht : (pc : Int) + off = (tgt : Int)) (hX : w64 X = x) (hY : w64 Y = y) (hh : y < x) (k : YY l E M d mc ms post tgt lv st σ cu su) : YY l E M d mc ms post pc lv (vi (q_lc X Y) :: st) σ cu su := z_if_gt_t hf ht rfl (by subst hX; subst hY; exact (lc_gt_t X Y).mpr hh) k
theorem z_lif_gt_f {off : Int} {tgt : Nat} (hf : decode M.2.1 pc = .ok (.ifCond .gt off, 3)) (ht : (pc : Int) + off = (tgt : Int)) (hX : w64 X = x) (hY : w64 Y = y) (hh : x ≤ y) (k : YY l E M d mc ms post (pc + 3) lv st σ cu su) : YY l E M d mc ms post pc lv (vi (q_lc X Y) :: st) σ cu su := z_if_gt_f hf ht rfl (by subst hX; subst hY; exact (lc_gt_f X Y).mpr hh) k
theorem z_icmp_le_t {off : Int} {tgt : Nat} (hf : decode M.2.1 pc = .ok (.if_icmp .le off, 3)) (ht : (pc : Int) + off = (tgt : Int)) (hX : w32 X = x) (hY : w32 Y = y) (hh : x ≤ y) (k : YY l E M d mc ms post tgt lv st σ cu su) : YY l E M d mc ms post pc lv (vi Y :: vi X :: st) σ cu su := fun h hs => x_icmp_le hf ht (fun _ => k h hs) (fun q => absurd (le32.mpr (by rw [hX, hY]; exact hh)) q)
theorem z_icmp_le_f {off : Int} {tgt : Nat} (hf : decode M.2.1 pc = .ok (.if_icmp .le off, 3)) (ht : (pc : Int) + off = (tgt : Int)) (hX : w32 X = x) (hY : w32 Y = y) (hh : y < x) (k : YY l E M d mc ms post (pc + 3) lv st σ cu su) : YY l E M d mc ms post pc lv (vi Y :: vi X :: st) σ cu su := fun h hs => x_icmp_le hf ht (fun q => absurd (le32.mp q) (by rw [hX, hY]; exact Int.not_le.mpr hh)) (fun _ => k h hs)
theorem z_if_le_t {off : Int} {tgt : Nat} (hf : decode M.2.1 pc = .ok (.ifCond .le off, 3)) (ht : (pc : Int) + off = (tgt : Int)) (hX : w32 X = x) (hh : x ≤ 0) (k : YY l E M d mc ms post tgt lv st σ cu su) : YY l E M d mc ms post pc lv (vi X :: st) σ cu su := fun h hs => x_if_le hf ht (fun _ => k h hs) (fun q => absurd ((le32 (x := X) (y := 0)).mpr (by rw [hX]; exact hh)) q)
theorem z_if_le_f {off : Int} {tgt : Nat} (hf : decode M.2.1 pc = .ok (.ifCond .le off, 3)) (ht : (pc : Int) + off = (tgt : Int)) (hX : w32 X = x) (hh : 0 < x) (k : YY l E M d mc ms post (pc + 3) lv st σ cu su) : YY l E M d mc ms post pc lv (vi X :: st) σ cu su := fun h hs => x_if_le hf ht (fun q => absurd ((le32 (x := X) (y := 0)).mp q) (by rw [hX]; exact Int.not_le.mpr hh)) (fun _ => k h hs)
theorem z_lif_le_t {off : Int} {tgt : Nat} (hf : decode M.2.1 pc = .ok (.ifCond .le off, 3)) (ht : (pc : Int) + off = (tgt : Int)) (hX : w64 X = x) (hY : w64 Y = y) (hh : x ≤ y) (k : YY l E M d mc ms post tgt lv st σ cu su) : YY l E M d mc ms post pc lv (vi (q_lc X Y) :: st) σ cu su := z_if_le_t hf ht rfl (by subst hX; subst hY; exact (lc_le_t X Y).mpr hh) k
theorem z_lif_le_f {off : Int} {tgt : Nat} (hf : decode M.2.1 pc = .ok (.ifCond .le off, 3)) (ht : (pc : Int) + off = (tgt : Int)) (hX : w64 X = x) (hY : w64 Y = y) (hh : y < x) (k : YY l E M d mc ms post (pc + 3) lv st σ cu su) : YY l E M d mc ms post pc lv (vi (q_lc X Y) :: st) σ cu su := z_if_le_f hf ht rfl (by subst hX; subst hY; exact (lc_le_f X Y).mpr hh) k
theorem z_icmp_eq_t {off : Int} {tgt : Nat} (hf : decode M.2.1 pc = .ok (.if_icmp .eq off, 3)) (ht : (pc : Int) + off = (tgt : Int)) (hX : w32 X = x) (hY : w32 Y = y) (hh : x = y) (k : YY l E M d mc ms post tgt lv st σ cu su) : YY l E M d mc ms post pc lv (vi Y :: vi X :: st) σ cu su := fun h hs => x_icmp_eq hf ht (fun _ => k h hs) (fun q => absurd (eq32.mpr (by rw [hX, hY]; exact hh)) q)
theorem z_icmp_eq_f {off : Int} {tgt : Nat} (hf : decode M.2.1 pc = .ok (.if_icmp .eq off, 3)) (ht : (pc : Int) + off = (tgt : Int)) (hX : w32 X = x) (hY : w32 Y = y) (hh : ¬ x = y) (k : YY l E M d mc ms post (pc + 3) lv st σ cu su) : YY l E M d mc ms post pc lv (vi Y :: vi X :: st) σ cu su := fun h hs => x_icmp_eq hf ht (fun q => absurd (eq32.mp q) (by rw [hX, hY]; exact hh)) (fun _ => k h hs)
theorem z_if_eq_t {off : Int} {tgt : Nat} (hf : decode M.2.1 pc = .ok (.ifCond .eq off, 3)) (ht : (pc : Int) + off = (tgt : Int)) (hX : w32 X = x) (hh : x = 0) (k : YY l E M d mc ms post tgt lv st σ cu su) : YY l E M d mc ms post pc lv (vi X :: st) σ cu su := fun h hs => x_if_eq hf ht (fun _ => k h hs) (fun q => absurd ((eq32 (x := X) (y := 0)).mpr (by rw [hX]; exact hh)) q)
theorem z_if_eq_f {off : Int} {tgt : Nat} (hf : decode M.2.1 pc = .ok (.ifCond .eq off, 3)) (ht : (pc : Int) + off = (tgt : Int)) (hX : w32 X = x) (hh : ¬ x = 0) (k : YY l E M d mc ms post (pc + 3) lv st σ cu su) : YY l E M d mc ms post pc lv (vi X :: st) σ cu su := fun h hs => x_if_eq hf ht (fun q => absurd ((eq32 (x := X) (y := 0)).mp q) (by rw [hX]; exact hh)) (fun _ => k h hs)
theorem z_lif_eq_t {off : Int} {tgt : Nat} (hf : decode M.2.1 pc = .ok (.ifCond .eq off, 3)) (ht : (pc : Int) + off = (tgt : Int)) (hX : w64 X = x) (hY : w64 Y = y) (hh : x = y) (k : YY l E M d mc ms post tgt lv st σ cu su) : YY l E M d mc ms post pc lv (vi (q_lc X Y) :: st) σ cu su := z_if_eq_t hf ht rfl (by subst hX; subst hY; exact (lc_eq_t X Y).mpr hh) k
theorem z_lif_eq_f {off : Int} {tgt : Nat} (hf : decode M.2.1 pc = .ok (.ifCond .eq off, 3)) (ht : (pc : Int) + off = (tgt : Int)) (hX : w64 X = x) (hY : w64 Y = y) (hh : ¬ x = y) (k : YY l E M d mc ms post (pc + 3) lv st σ cu su) : YY l E M d mc ms post pc lv (vi (q_lc X Y) :: st) σ cu su := z_if_eq_f hf ht rfl (by subst hX; subst hY; exact (lc_eq_f X Y).mpr hh) k
theorem z_icmp_ne_t {off : Int} {tgt : Nat} (hf : decode M.2.1 pc = .ok (.if_icmp .ne off, 3)) (ht : (pc : Int) + off = (tgt : Int)) (hX : w32 X = x) (hY : w32 Y = y) (hh : ¬ x = y) (k : YY l E M d mc ms post tgt lv st σ cu su) : YY l E M d mc ms post pc lv (vi Y :: vi X :: st) σ cu su := fun h hs => x_icmp_ne hf ht (fun _ => k h hs) (fun q => absurd (eq32.mp q) (by rw [hX, hY]; exact hh))
theorem z_icmp_ne_f {off : Int} {tgt : Nat} (hf : decode M.2.1 pc = .ok (.if_icmp .ne off, 3)) (ht : (pc : Int) + off = (tgt : Int)) (hX : w32 X = x) (hY : w32 Y = y) (hh : x = y) (k : YY l E M d mc ms post (pc + 3) lv st σ cu su) : YY l E M d mc ms post pc lv (vi Y :: vi X :: st) σ cu su := fun h hs => x_icmp_ne hf ht (fun q => absurd (eq32.mpr (by rw [hX, hY]; exact hh)) q) (fun _ => k h hs)
theorem z_if_ne_t {off : Int} {tgt : Nat} (hf : decode M.2.1 pc = .ok (.ifCond .ne off, 3)) (ht : (pc : Int) + off = (tgt : Int)) (hX : w32 X = x) (hh : ¬ x = 0) (k : YY l E M d mc ms post tgt lv st σ cu su) : YY l E M d mc ms post pc lv (vi X :: st) σ cu su := fun h hs => x_if_ne hf ht (fun _ => k h hs) (fun q => absurd ((eq32 (x := X) (y := 0)).mp q) (by rw [hX]; exact hh))
theorem z_if_ne_f {off : Int} {tgt : Nat} (hf : decode M.2.1 pc = .ok (.ifCond .ne off, 3)) (ht : (pc : Int) + off = (tgt : Int)) (hX : w32 X = x) (hh : x = 0) (k : YY l E M d mc ms post (pc + 3) lv st σ cu su) : YY l E M d mc ms post pc lv (vi X :: st) σ cu su := fun h hs => x_if_ne hf ht (fun q => absurd ((eq32 (x := X) (y := 0)).mpr (by rw [hX]; exact hh)) q) (fun _ => k h hs)
theorem z_lif_ne_t {off : Int} {tgt : Nat} (hf : decode M.2.1 pc = .ok (.ifCond .ne off, 3)) (ht : (pc : Int) + off = (tgt : Int)) (hX : w64 X = x) (hY : w64 Y = y) (hh : ¬ x = y) (k : YY l E M d mc ms post tgt lv st σ cu su) : YY l E M d mc ms post pc lv (vi (q_lc X Y) :: st) σ cu su := z_if_ne_t hf ht rfl (by subst hX; subst hY; exact (lc_ne_t X Y).mpr hh) k
theorem z_lif_ne_f {off : Int} {tgt : Nat} (hf : decode M.2.1 pc = .ok (.ifCond .ne off, 3)) (ht : (pc : Int) + off = (tgt : Int)) (hX : w64 X = x) (hY : w64 Y = y) (hh : x = y) (k : YY l E M d mc ms post (pc + 3) lv st σ cu su) : YY l E M d mc ms post pc lv (vi (q_lc X Y) :: st) σ cu su := z_if_ne_f hf ht rfl (by subst hX; subst hY; exact (lc_ne_f X Y).mpr hh) k
theorem zv_nz {b : Bool} (hb : b = true) : ¬ (if b = true then (1 : Int32) else 0) = 0 := by subst hb; decide
theorem zv_z {b : Bool} (hb : ¬ b = true) : (if b = true then (1 : Int32) else 0) = 0 := if_neg hb
theorem z_zeq_t {b : Bool} {off : Int} {tgt : Nat} (hf : decode M.2.1 pc = .ok (.ifCond .eq off, 3)) (ht : (pc : Int) + off = (tgt : Int)) (hh : ¬ b = true) (k : YY l E M d mc ms post tgt lv st σ cu su) : YY l E M d mc ms post pc lv (zv b :: st) σ cu su := fun h hs => x_if_eq hf ht (fun _ => k h hs) (fun q => absurd (zv_z hh) q)
theorem z_zeq_f {b : Bool} {off : Int} {tgt : Nat} (hf : decode M.2.1 pc = .ok (.ifCond .eq off, 3)) (ht : (pc : Int) + off = (tgt : Int)) (hh : b = true) (k : YY l E M d mc ms post (pc + 3) lv st σ cu su) : YY l E M d mc ms post pc lv (zv b :: st) σ cu su := fun h hs => x_if_eq hf ht (fun q => absurd q (zv_nz hh)) (fun _ => k h hs)
theorem z_zne_t {b : Bool} {off : Int} {tgt : Nat} (hf : decode M.2.1 pc = .ok (.ifCond .ne off, 3)) (ht : (pc : Int) + off = (tgt : Int)) (hh : b = true) (k : YY l E M d mc ms post tgt lv st σ cu su) : YY l E M d mc ms post pc lv (zv b :: st) σ cu su := fun h hs => x_if_ne hf ht (fun _ => k h hs) (fun q => absurd q (zv_nz hh))
theorem z_zne_f {b : Bool} {off : Int} {tgt : Nat} (hf : decode M.2.1 pc = .ok (.ifCond .ne off, 3)) (ht : (pc : Int) + off = (tgt : Int)) (hh : ¬ b = true) (k : YY l E M d mc ms post (pc + 3) lv st σ cu su) : YY l E M d mc ms post pc lv (zv b :: st) σ cu su := fun h hs => x_if_ne hf ht (fun q => absurd (zv_z hh) q) (fun _ => k h hs)
theorem z_ceq_t {a b : Bool} {off : Int} {tgt : Nat} (hf : decode M.2.1 pc = .ok (.if_icmp .eq off, 3)) (ht : (pc : Int) + off = (tgt : Int)) (hh : a = b) (k : YY l E M d mc ms post tgt lv st σ cu su) : YY l E M d mc ms post pc lv (zv b :: zv a :: st) σ cu su := fun h hs => x_icmp_eq hf ht (fun _ => k h hs) (fun q => absurd (by rw [hh]) q)
theorem z_ceq_f {a b : Bool} {off : Int} {tgt : Nat} (hf : decode M.2.1 pc = .ok (.if_icmp .eq off, 3)) (ht : (pc : Int) + off = (tgt : Int)) (hh : ¬ a = b) (k : YY l E M d mc ms post (pc + 3) lv st σ cu su) : YY l E M d mc ms post pc lv (zv b :: zv a :: st) σ cu su := fun h hs => x_icmp_eq hf ht (fun q => absurd q (by revert hh; cases a <;> cases b <;> decide)) (fun _ => k h hs)
theorem z_cne_t {a b : Bool} {off : Int} {tgt : Nat} (hf : decode M.2.1 pc = .ok (.if_icmp .ne off, 3)) (ht : (pc : Int) + off = (tgt : Int)) (hh : ¬ a = b) (k : YY l E M d mc ms post tgt lv st σ cu su) : YY l E M d mc ms post pc lv (zv b :: zv a :: st) σ cu su := fun h hs => x_icmp_ne hf ht (fun _ => k h hs) (fun q => absurd q (by revert hh; cases a <;> cases b <;> decide))
theorem z_cne_f {a b : Bool} {off : Int} {tgt : Nat} (hf : decode M.2.1 pc = .ok (.if_icmp .ne off, 3)) (ht : (pc : Int) + off = (tgt : Int)) (hh : a = b) (k : YY l E M d mc ms post (pc + 3) lv st σ cu su) : YY l E M d mc ms post pc lv (zv b :: zv a :: st) σ cu su := fun h hs => x_icmp_ne hf ht (fun q => absurd (by rw [hh]) q) (fun _ => k h hs)
theorem z_tabIn {dflt lo hi : Int} {offs : Array Int} {n : Nat} {off : Int} {tgt : Nat} (hf : decode M.2.1 pc = .ok (.tableswitch dflt lo hi offs, n)) (hX : w32 X = x) (h1 : ¬ x < lo) (h2 : ¬ hi < x) (ho : offs[(x - lo).toNat]? = some off) (ht : (pc : Int) + off = (tgt : Int)) (k : YY l E M d mc ms post tgt lv st σ cu su) : YY l E M d mc ms post pc lv (vi X :: st) σ cu su := fun h hs => by
  subst hX
  exact x_tabIn hf h1 h2 ho ht (k h hs)
theorem z_tabOut {dflt lo hi : Int} {offs : Array Int} {n : Nat} {tgt : Nat} (hf : decode M.2.1 pc = .ok (.tableswitch dflt lo hi offs, n)) (hX : w32 X = x) (ho : x < lo ∨ hi < x) (ht : (pc : Int) + dflt = (tgt : Int)) (k : YY l E M d mc ms post tgt lv st σ cu su) : YY l E M d mc ms post pc lv (vi X :: st) σ cu su := fun h hs => by
  subst hX
  exact x_tabOut hf ho ht (k h hs)
variable {ci Nf index : Nat} {C : String} {T : u_T} {ty : Nat → FieldType} {ks : List (Nat × Nat)}
theorem z_getI (cl : en_CL ci C T Nf ty) (hf : decode M.2.1 pc = .ok (.getfield index, 3)) (hL : lay a = some (.inl (ci, ks))) (kf : Nat) (hk : kf < Nf) (hl : Cond.fieldLink M.1.cls index (T kf).1 (T kf).2.1 (T kf).2.2.1 ∈ WS) (hk2 : ks[kf]? = some (0, 0)) (hc : a * 256 + kf = c) (k : YY l E M d mc ms post (pc + 3) lv (vi (σ c 0) :: st) σ cu su) : YY l E M d mc ms post pc lv (vr a :: st) σ cu su := fun h hs => x_getf cl hf (hs a _ hL) kf hk hl (fl_at hk2) (by subst hc; exact k h hs)
theorem z_getL (cl : en_CL ci C T Nf ty) (hf : decode M.2.1 pc = .ok (.getfield index, 3)) (hL : lay a = some (.inl (ci, ks))) (kf : Nat) (hk : kf < Nf) (hl : Cond.fieldLink M.1.cls index (T kf).1 (T kf).2.1 (T kf).2.2.1 ∈ WS) (hk2 : ks[kf]? = some (1, 0)) (hc : a * 256 + kf = c) (k : YY l E M d mc ms post (pc + 3) lv (vl (σ c 0) :: st) σ cu su) : YY l E M d mc ms post pc lv (vr a :: st) σ cu su := fun h hs => x_getf cl hf (hs a _ hL) kf hk hl (fl_at hk2) (by subst hc; exact k h hs)
theorem z_getZ (cl : en_CL ci C T Nf ty) (hf : decode M.2.1 pc = .ok (.getfield index, 3)) (hL : lay a = some (.inl (ci, ks))) (kf : Nat) (hk : kf < Nf) (hl : Cond.fieldLink M.1.cls index (T kf).1 (T kf).2.1 (T kf).2.2.1 ∈ WS) (hk2 : ks[kf]? = some (2, 0)) (hc : a * 256 + kf = c) (k : YY l E M d mc ms post (pc + 3) lv (zv (nz (σ c 0)) :: st) σ cu su) : YY l E M d mc ms post pc lv (vr a :: st) σ cu su := fun h hs => x_getf cl hf (hs a _ hL) kf hk hl (fl_at hk2) (by subst hc; exact k h hs)
theorem z_getR (cl : en_CL ci C T Nf ty) (hf : decode M.2.1 pc = .ok (.getfield index, 3)) (hL : lay a = some (.inl (ci, ks))) (kf : Nat) (hk : kf < Nf) (hl : Cond.fieldLink M.1.cls index (T kf).1 (T kf).2.1 (T kf).2.2.1 ∈ WS) (hk2 : ks[kf]? = some (3, n)) (k : YY l E M d mc ms post (pc + 3) lv (vr n :: st) σ cu su) : YY l E M d mc ms post pc lv (vr a :: st) σ cu su := fun h hs => x_getf cl hf (hs a _ hL) kf hk hl (fl_at hk2) (k h hs)
theorem z_getV (cl : en_CL ci C T Nf ty) (hf : decode M.2.1 pc = .ok (.getfield index, 3)) (hL : lay a = some (.inl (ci, ks))) (kf : Nat) (hk : kf < Nf) (hl : Cond.fieldLink M.1.cls index (T kf).1 (T kf).2.1 (T kf).2.2.1 ∈ WS) (hk2 : ks[kf]? = some (4, 0)) (hc : a * 256 + kf = c) (k : YY l E M d mc ms post (pc + 3) lv (vr (σ c 0).toNat :: st) σ cu su) : YY l E M d mc ms post pc lv (vr a :: st) σ cu su := fun h hs => x_getf cl hf (hs a _ hL) kf hk hl (fl_at hk2) (by subst hc; exact k h hs)
theorem z_putI (cl : en_CL ci C T Nf ty) (hf : decode M.2.1 pc = .ok (.putfield index, 3)) (hL : lay a = some (.inl (ci, ks))) (kf : Nat) (hk : kf < Nf) (hl : Cond.fieldLink M.1.cls index (T kf).1 (T kf).2.1 (T kf).2.2.1 ∈ WS) (hk2 : ks[kf]? = some (0, 0)) (hfin : (T kf).2.2.2 = false) (ht : ty kf = .int) (hc : a * 256 + kf = c) (hτ : τ = sg σ c 0 X) (k : YY l E M d mc ms post (pc + 3) lv st τ cu su) : YY l E M d mc ms post pc lv (vi X :: vr a :: st) σ cu su := fun h hs => x_put cl hf (hs a _ hL) kf hk hl (Or.inl hfin) (by rw [fl_len]; exact (List.getElem?_eq_some_iff.mp hk2).1) (by rw [ht]; rfl) (by subst hτ; subst hc; exact k _ (HS_fld hs hL hk2 (by show _ = vi _; rw [sg_at])))
theorem z_putL (cl : en_CL ci C T Nf ty) (hf : decode M.2.1 pc = .ok (.putfield index, 3)) (hL : lay a = some (.inl (ci, ks))) (kf : Nat) (hk : kf < Nf) (hl : Cond.fieldLink M.1.cls index (T kf).1 (T kf).2.1 (T kf).2.2.1 ∈ WS) (hk2 : ks[kf]? = some (1, 0)) (hfin : (T kf).2.2.2 = false) (ht : ty kf = .long) (hc : a * 256 + kf = c) (hτ : τ = sg σ c 0 X) (k : YY l E M d mc ms post (pc + 3) lv st τ cu su) : YY l E M d mc ms post pc lv (vl X :: vr a :: st) σ cu su := fun h hs => x_put cl hf (hs a _ hL) kf hk hl (Or.inl hfin) (by rw [fl_len]; exact (List.getElem?_eq_some_iff.mp hk2).1) (by rw [ht]; rfl) (by subst hτ; subst hc; exact k _ (HS_fld hs hL hk2 (by show _ = vl _; rw [sg_at])))
theorem z_putZ {b : Bool} (cl : en_CL ci C T Nf ty) (hf : decode M.2.1 pc = .ok (.putfield index, 3)) (hL : lay a = some (.inl (ci, ks))) (kf : Nat) (hk : kf < Nf) (hl : Cond.fieldLink M.1.cls index (T kf).1 (T kf).2.1 (T kf).2.2.1 ∈ WS) (hk2 : ks[kf]? = some (2, 0)) (hfin : (T kf).2.2.2 = false) (ht : ty kf = .boolean) (hc : a * 256 + kf = c) (hτ : τ = sg σ c 0 (bz b)) (k : YY l E M d mc ms post (pc + 3) lv st τ cu su) : YY l E M d mc ms post pc lv (zv b :: vr a :: st) σ cu su := fun h hs => x_put cl hf (hs a _ hL) kf hk hl (Or.inl hfin) (by rw [fl_len]; exact (List.getElem?_eq_some_iff.mp hk2).1) (by rw [ht]; cases b <;> rfl) (by subst hτ; subst hc; exact k _ (HS_fld hs hL hk2 (by show _ = zv _; rw [sg_at, nz_bz])))
theorem z_putV {b : Nat} {rn : String} (cl : en_CL ci C T Nf ty) (hf : decode M.2.1 pc = .ok (.putfield index, 3)) (hL : lay a = some (.inl (ci, ks))) (kf : Nat) (hk : kf < Nf) (hl : Cond.fieldLink M.1.cls index (T kf).1 (T kf).2.1 (T kf).2.2.1 ∈ WS) (hk2 : ks[kf]? = some (4, 0)) (hfin : (T kf).2.2.2 = false) (ht : ty kf = .object rn) (hc : a * 256 + kf = c) (hτ : τ = sg σ c 0 (b : Int)) (k : YY l E M d mc ms post (pc + 3) lv st τ cu su) : YY l E M d mc ms post pc lv (vr b :: vr a :: st) σ cu su := fun h hs => x_put cl hf (hs a _ hL) kf hk hl (Or.inl hfin) (by rw [fl_len]; exact (List.getElem?_eq_some_iff.mp hk2).1) (by rw [ht]; rfl) (by subst hτ; subst hc; exact k _ (HS_fld hs hL hk2 (by show _ = vr _; rw [sg_at]; rfl)))
theorem vin_ok {i : Int} {n : Nat} (hI : w32 X = i) (hn : (n : Int) = N) (hb : 0 ≤ i ∧ i < N) : vp_in (Int32.ofInt X) n ∧ (Int32.ofInt X).toNatClampNeg = i.toNat := by
  subst hI; subst hn
  have e : (Int32.ofInt X).toNatClampNeg = (w32 X).toNat := rfl
  refine ⟨fun q => ?_, e⟩
  rcases q with q | q
  · have := Int32.lt_iff_toInt_lt.mp q
    have h2 : (Int32.ofInt X).toInt < 0 := this
    have h3 : (Int32.ofInt X).toInt = w32 X := rfl
    omega
  · rw [e] at q; omega
theorem z_iald {i : Int} {b s : Nat} (hf : decode M.2.1 pc = .ok (.iaload, 1)) (hL : lay a = some (.inr (0, n, b, s))) (hc : a * 256 = c) (hI : w32 X = i) (hn : (n : Int) = N) (hb : 0 ≤ i ∧ i < N) (hx : x = σ c i) (k : YY l E M d mc ms post (pc + 1) lv (vi x :: st) σ cu su) : YY l E M d mc ms post pc lv (vi X :: vr a :: st) σ cu su := fun h hs => x_iald hf (hs a _ hL) (vin_ok hI hn hb).1 (cs1 (by rw [(vin_ok hI hn hb).2, hx, ← hc]; unfold ar_i; rw [Int.toNat_of_nonneg hb.1]; rfl) (k h hs))
theorem z_lald {i : Int} {b s : Nat} (hf : decode M.2.1 pc = .ok (.laload, 1)) (hL : lay a = some (.inr (1, n, b, s))) (hc : a * 256 = c) (hI : w32 X = i) (hn : (n : Int) = N) (hb : 0 ≤ i ∧ i < N) (hx : x = σ c i) (k : YY l E M d mc ms post (pc + 1) lv (vl x :: st) σ cu su) : YY l E M d mc ms post pc lv (vi X :: vr a :: st) σ cu su := fun h hs => x_lald hf (hs a _ hL) (vin_ok hI hn hb).1 (cs1 (by rw [(vin_ok hI hn hb).2, hx, ← hc]; unfold ar_l; rw [Int.toNat_of_nonneg hb.1]; rfl) (k h hs))
theorem z_bald {i : Int} {b s : Nat} (hf : decode M.2.1 pc = .ok (.baload, 1)) (hL : lay a = some (.inr (2, n, b, s))) (hc : a * 256 = c) (hI : w32 X = i) (hn : (n : Int) = N) (hb : 0 ≤ i ∧ i < N) (hx : x = σ c i) (k : YY l E M d mc ms post (pc + 1) lv (vi (w8 x) :: st) σ cu su) : YY l E M d mc ms post pc lv (vi X :: vr a :: st) σ cu su := fun h hs => x_bald hf (hs a _ hL) (vin_ok hI hn hb).1 (cs1 (by rw [(vin_ok hI hn hb).2, hx, ← hc]; unfold ar_b; rw [Int.toNat_of_nonneg hb.1]; rfl) (k h hs))
theorem z_zald {i : Int} {b s : Nat} (hf : decode M.2.1 pc = .ok (.baload, 1)) (hL : lay a = some (.inr (3, n, b, s))) (hc : a * 256 = c) (hI : w32 X = i) (hn : (n : Int) = N) (hb : 0 ≤ i ∧ i < N) (hx : x = σ c i) (k : YY l E M d mc ms post (pc + 1) lv (zv (nz x) :: st) σ cu su) : YY l E M d mc ms post pc lv (vi X :: vr a :: st) σ cu su := fun h hs => x_zald hf (hs a _ hL) (vin_ok hI hn hb).1 (cs1 (by rw [(vin_ok hI hn hb).2, hx, ← hc]; unfold ar_z; rw [Int.toNat_of_nonneg hb.1]; rfl) (k h hs))
theorem z_aald {i : Int} {b s : Nat} {w : Nat} (hf : decode M.2.1 pc = .ok (.aaload, 1)) (hL : lay a = some (.inr (4, n, b, s))) (hI : w32 X = i) (hn : (n : Int) = N) (hb : 0 ≤ i ∧ i < N) (hw : w = b + s * i.toNat) (k : YY l E M d mc ms post (pc + 1) lv (vr w :: st) σ cu su) : YY l E M d mc ms post pc lv (vi X :: vr a :: st) σ cu su := fun h hs => x_aald hf (hs a _ hL) (vin_ok hI hn hb).1 (by rw [(vin_ok hI hn hb).2, hw]; show (if i.toNat < n then some (b + s * i.toNat) else none) = _; exact if_pos (by have := hb.1; have := hb.2; omega)) (k h hs)
theorem z_gald {i : Int} {b s : Nat} {w : Nat} (hf : decode M.2.1 pc = .ok (.aaload, 1)) (hL : lay a = some (.inr (5, n, b, s))) (hI : w32 X = i) (hn : (n : Int) = N) (hb : 0 ≤ i ∧ i < N) (hw : w = b + s * i.toNat) (k : YY l E M d mc ms post (pc + 1) lv (vr w :: st) σ cu su) : YY l E M d mc ms post pc lv (vi X :: vr a :: st) σ cu su := fun h hs => x_gald hf (hs a _ hL) (vin_ok hI hn hb).1 (by rw [(vin_ok hI hn hb).2, hw]; show (if i.toNat < n then some (b + s * i.toNat) else none) = _; exact if_pos (by have := hb.1; have := hb.2; omega)) (k h hs)
theorem nar_b (Y : Int) : vp_nar .byte (Int32.ofInt Y) = Int32.ofInt (w8 Y) := b_ok Y
theorem nar_z (b : Bool) : vp_nar .boolean (if b = true then 1 else 0) = (if b = true then 1 else 0) := by cases b <;> rfl
theorem z_iast {i : Int} {b s : Nat} (hf : decode M.2.1 pc = .ok (.iastore, 1)) (hL : lay a = some (.inr (0, n, b, s))) (hc : a * 256 = c) (hI : w32 X = i) (hn : (n : Int) = N) (hb : 0 ≤ i ∧ i < N) (hτ : τ = sg σ c i Y) (k : YY l E M d mc ms post (pc + 1) lv st τ cu su) : YY l E M d mc ms post pc lv (vi Y :: vi X :: vr a :: st) σ cu su := fun h hs => x_iast hf (hs a _ hL) (vin_ok hI hn hb).1 (by subst hτ; subst hc; rw [(vin_ok hI hn hb).2]; exact k _ (HS_arr hs hL (congrArg (fun f => (Sum.inl (0, n, .inl f) : PEnt)) (ar_i_up hb.1).symm)))
theorem z_last {i : Int} {b s : Nat} (hf : decode M.2.1 pc = .ok (.lastore, 1)) (hL : lay a = some (.inr (1, n, b, s))) (hc : a * 256 = c) (hI : w32 X = i) (hn : (n : Int) = N) (hb : 0 ≤ i ∧ i < N) (hτ : τ = sg σ c i Y) (k : YY l E M d mc ms post (pc + 1) lv st τ cu su) : YY l E M d mc ms post pc lv (vl Y :: vi X :: vr a :: st) σ cu su := fun h hs => x_last hf (hs a _ hL) (vin_ok hI hn hb).1 (by subst hτ; subst hc; rw [(vin_ok hI hn hb).2]; exact k _ (HS_arr hs hL (congrArg (fun f => (Sum.inl (1, n, .inr (.inl f)) : PEnt)) (ar_l_up hb.1).symm)))
theorem z_bast {i : Int} {b s : Nat} (hf : decode M.2.1 pc = .ok (.bastore, 1)) (hL : lay a = some (.inr (2, n, b, s))) (hc : a * 256 = c) (hI : w32 X = i) (hn : (n : Int) = N) (hb : 0 ≤ i ∧ i < N) (hτ : τ = sg σ c i Y) (k : YY l E M d mc ms post (pc + 1) lv st τ cu su) : YY l E M d mc ms post pc lv (vi Y :: vi X :: vr a :: st) σ cu su := fun h hs => x_bast hf (hs a _ hL) (vin_ok hI hn hb).1 (by subst hτ; subst hc; rw [(vin_ok hI hn hb).2]; exact k _ (HS_arr hs hL (congrArg (fun f => (Sum.inl (2, n, .inl f) : PEnt)) ((congrArg (upd _ _) (nar_b Y)).trans (ar_b_up hb.1).symm))))
theorem z_zast {i : Int} {b s : Nat} {bb : Bool} (hf : decode M.2.1 pc = .ok (.bastore, 1)) (hL : lay a = some (.inr (3, n, b, s))) (hc : a * 256 = c) (hI : w32 X = i) (hn : (n : Int) = N) (hb : 0 ≤ i ∧ i < N) (hτ : τ = sg σ c i (bz bb)) (k : YY l E M d mc ms post (pc + 1) lv st τ cu su) : YY l E M d mc ms post pc lv (zv bb :: vi X :: vr a :: st) σ cu su := fun h hs => x_zast hf (hs a _ hL) (vin_ok hI hn hb).1 (by subst hτ; subst hc; rw [(vin_ok hI hn hb).2]; exact k _ (HS_arr hs hL (congrArg (fun f => (Sum.inl (3, n, .inl f) : PEnt)) ((congrArg (upd _ _) (nar_z bb)).trans (ar_z_up hb.1).symm))))
theorem z_alen {t b s : Nat} (hf : decode M.2.1 pc = .ok (.arraylength, 1)) (hL : lay a = some (.inr (t, n, b, s))) (ht : t < 4) (hn : (n : Int) = N) (k : YY l E M d mc ms post (pc + 1) lv (vi N :: st) σ cu su) : YY l E M d mc ms post pc lv (vr a :: st) σ cu su := fun h hs => by
  have k1 := k h hs
  subst hn
  have h1 := hs a _ hL
  rcases (show t = 0 ∨ t = 1 ∨ t = 2 ∨ t = 3 by omega) with rfl | rfl | rfl | rfl <;> exact x_alen hf h1 (by decide) (cs1 (congrArg Value.int (Int32.ofInt_eq_ofNat (n := n))) k1)
theorem mni_ok (x y : Int) : vi (q_mni x y) = .int (if Int32.ofInt y < Int32.ofInt x then Int32.ofInt y else Int32.ofInt x) := by
  unfold vi q_mni
  by_cases a : w32 y < w32 x
  · rw [if_pos a, if_pos (lt32.mpr a), of32]
  · rw [if_neg a, if_neg (fun q => a (lt32.mp q)), of32]
theorem mxl_ok (x y : Int) : vl (q_mxl x y) = .long (if Int64.ofInt y < Int64.ofInt x then Int64.ofInt x else Int64.ofInt y) := by
  unfold vl q_mxl
  by_cases a : w64 y < w64 x
  · rw [if_pos a, if_pos (lt64.mpr a), of64]
  · rw [if_neg a, if_neg (fun q => a (lt64.mp q)), of64]
theorem mnl_ok (x y : Int) : vl (q_mnl x y) = .long (if Int64.ofInt y < Int64.ofInt x then Int64.ofInt y else Int64.ofInt x) := by
  unfold vl q_mnl
  by_cases a : w64 y < w64 x
  · rw [if_pos a, if_pos (lt64.mpr a), of64]
  · rw [if_neg a, if_neg (fun q => a (lt64.mp q)), of64]
theorem z_mmax (hf : decode M.2.1 pc = .ok (.invokestatic index, 3)) (hl : Cond.methodLink M.1.cls index Lib.Math.max.name ∈ WS) (hs9 : Cond.static Lib.Math.max.name ∈ WS) (hi : Cond.initialized "java/lang/Math" ∈ WS) (hc9 : Cond.code Lib.Math.max.name Lib.Math.max.code 2 (some .int) ∈ WS) (hd : 1 ≤ d) (hst : (st.map fun v => v.category).sum ≤ 40) (hcu : cu ≤ mc) (hsu : su ≤ ms) (k : YY l E M d mc ms post (pc + 3) lv (vi (q_mxi X Y) :: st) σ cu su) : YY l E M d mc ms post pc lv (vi Y :: vi X :: st) σ cu su := fun h hs => x_mmax hf hl hs9 hi hc9 hd hst hcu hsu (cs1 (mxi_ok X Y) (k h hs))
theorem z_mmin (hf : decode M.2.1 pc = .ok (.invokestatic index, 3)) (hl : Cond.methodLink M.1.cls index Lib.Math.min.name ∈ WS) (hs9 : Cond.static Lib.Math.min.name ∈ WS) (hi : Cond.initialized "java/lang/Math" ∈ WS) (hc9 : Cond.code Lib.Math.min.name Lib.Math.min.code 2 (some .int) ∈ WS) (hd : 1 ≤ d) (hst : (st.map fun v => v.category).sum ≤ 40) (hcu : cu ≤ mc) (hsu : su ≤ ms) (k : YY l E M d mc ms post (pc + 3) lv (vi (q_mni X Y) :: st) σ cu su) : YY l E M d mc ms post pc lv (vi Y :: vi X :: st) σ cu su := fun h hs => x_mmin hf hl hs9 hi hc9 hd hst hcu hsu (cs1 (mni_ok X Y) (k h hs))
theorem z_mabs (hf : decode M.2.1 pc = .ok (.invokestatic index, 3)) (hl : Cond.methodLink M.1.cls index Lib.Math.abs.name ∈ WS) (hs9 : Cond.static Lib.Math.abs.name ∈ WS) (hi : Cond.initialized "java/lang/Math" ∈ WS) (hc9 : Cond.code Lib.Math.abs.name Lib.Math.abs.code 1 (some .int) ∈ WS) (hd : 1 ≤ d) (hst : (st.map fun v => v.category).sum ≤ 40) (hcu : cu ≤ mc) (hsu : su ≤ ms) (k : YY l E M d mc ms post (pc + 3) lv (vi (q_abi X) :: st) σ cu su) : YY l E M d mc ms post pc lv (vi X :: st) σ cu su := fun h hs => x_mabs hf hl hs9 hi hc9 hd hst hcu hsu (cs1 (abi_ok X) (k h hs))
theorem z_lmax (hf : decode M.2.1 pc = .ok (.invokestatic index, 3)) (hl : Cond.methodLink M.1.cls index Lib.MathLoose.max_long.x ∈ WS) (hs9 : Cond.static Lib.MathLoose.max_long.x ∈ WS) (hi : Cond.initialized "java/lang/Math" ∈ WS) (hc9 : Cond.code Lib.MathLoose.max_long.x Lib.MathLoose.max_long.code 4 (some .long) ∈ WS) (hd : 1 ≤ d) (hst : (st.map fun v => v.category).sum ≤ 40) (hcu : cu ≤ mc) (hsu : su ≤ ms) (k : YY l E M d mc ms post (pc + 3) lv (vl (q_mxl X Y) :: st) σ cu su) : YY l E M d mc ms post pc lv (vl Y :: vl X :: st) σ cu su := fun h hs => x_lmax hf hl hs9 hi hc9 hd hst hcu hsu (cs1 (mxl_ok X Y) (k h hs))
theorem z_lmin (hf : decode M.2.1 pc = .ok (.invokestatic index, 3)) (hl : Cond.methodLink M.1.cls index Lib.MathLoose.min_long.x ∈ WS) (hs9 : Cond.static Lib.MathLoose.min_long.x ∈ WS) (hi : Cond.initialized "java/lang/Math" ∈ WS) (hc9 : Cond.code Lib.MathLoose.min_long.x Lib.MathLoose.min_long.code 4 (some .long) ∈ WS) (hd : 1 ≤ d) (hst : (st.map fun v => v.category).sum ≤ 40) (hcu : cu ≤ mc) (hsu : su ≤ ms) (k : YY l E M d mc ms post (pc + 3) lv (vl (q_mnl X Y) :: st) σ cu su) : YY l E M d mc ms post pc lv (vl Y :: vl X :: st) σ cu su := fun h hs => x_lmin hf hl hs9 hi hc9 hd hst hcu hsu (cs1 (mnl_ok X Y) (k h hs))
theorem z_labs (hf : decode M.2.1 pc = .ok (.invokestatic index, 3)) (hl : Cond.methodLink M.1.cls index Lib.MathLoose.abs_long.x ∈ WS) (hs9 : Cond.static Lib.MathLoose.abs_long.x ∈ WS) (hi : Cond.initialized "java/lang/Math" ∈ WS) (hc9 : Cond.code Lib.MathLoose.abs_long.x Lib.MathLoose.abs_long.code 2 (some .long) ∈ WS) (hd : 1 ≤ d) (hst : (st.map fun v => v.category).sum ≤ 40) (hcu : cu ≤ mc) (hsu : su ≤ ms) (k : YY l E M d mc ms post (pc + 3) lv (vl (q_abl X) :: st) σ cu su) : YY l E M d mc ms post pc lv (vl X :: st) σ cu su := fun h hs => x_labs hf hl hs9 hi hc9 hd hst hcu hsu (cs1 (abl_ok X) (k h hs))
theorem z_iret (hf : decode M.2.1 pc = .ok (.ireturn, 1)) (hr : M.2.2.2.1 = some .int) (hc : cu ≤ mc) (hs : su ≤ ms) (hp : post (.inl (some (vi X))) σ) : YY l E M d mc ms post pc lv [vi X] σ cu su := fun h hh => x_iret hf hr ⟨σ, hh, hp⟩ hc hs
theorem z_lret (hf : decode M.2.1 pc = .ok (.lreturn, 1)) (hr : M.2.2.2.1 = some .long) (hc : cu ≤ mc) (hs : su ≤ ms) (hp : post (.inl (some (vl X))) σ) : YY l E M d mc ms post pc lv [vl X] σ cu su := fun h hh => x_lret hf hr ⟨σ, hh, hp⟩ hc hs
theorem z_zret {b : Bool} (hf : decode M.2.1 pc = .ok (.ireturn, 1)) (hr : M.2.2.2.1 = some .boolean) (hc : cu ≤ mc) (hs : su ≤ ms) (hp : post (.inl (some (zv b))) σ) : YY l E M d mc ms post pc lv [zv b] σ cu su := fun h hh => x_zret hf hr (by cases b <;> decide) ⟨σ, hh, hp⟩ hc hs
theorem z_aret {rn : String} (hf : decode M.2.1 pc = .ok (.areturn, 1)) (hr : M.2.2.2.1 = some (.object rn)) (hc : cu ≤ mc) (hs : su ≤ ms) (hp : post (.inl (some (vr a))) σ) : YY l E M d mc ms post pc lv [vr a] σ cu su := fun h hh => x_aret hf hr ⟨σ, hh, hp⟩ hc hs
theorem z_vret (hf : decode M.2.1 pc = .ok (.return_, 1)) (hr : M.2.2.2.1 = none) (hc : cu ≤ mc) (hs : su ≤ ms) (hp : post (.inl none) σ) : YY l E M d mc ms post pc lv [] σ cu su := fun h hh => x_vret hf hr ⟨σ, hh, hp⟩ hc hs
theorem z_throw {ik ic : Nat} {cls : String} {names : List String} (h0 : M.2.2.2.2 = []) (hf : decode M.2.1 pc = .ok (.new ik, 3)) (hf1 : decode M.2.1 (pc + 3) = .ok (.dup, 1)) (hf2 : decode M.2.1 (pc + 4) = .ok (.invokespecial ic, 3)) (hf3 : decode M.2.1 (pc + 7) = .ok (.athrow, 1))
    (hcls : Bundle.fit cls = true) (hnames : ∀ n ∈ names, Bundle.fit n = true) (hk : en_Wd (Cond.classLink M.1.cls ik cls)) (hini : en_Wd (Cond.initialized cls)) (hat : ∀ w ∈ vx_at0 M.1.cls ic cls names, en_Wd w)
    (hd : names.length + 3 < d) (hst : (st.map fun v => v.category).sum ≤ 8) (hc : cu + 1 ≤ mc) (hs : su + 6 ≤ ms) (hp : post (.inr cls) σ) : YY l E M d mc ms post pc lv st σ cu su := fun h hh => x_throw h0 hf hf1 hf2 hf3 hcls hnames hk hini hat hd hst hc hs (fun n => ⟨σ, HS_app _ hh, hp⟩)
theorem z_mk {as : List Value} {na : Nat} (hM : en_M M na) (h0 : M.2.2.2.2 = []) (hl : l.stackTraces = false) (hn : (en_args as).length ≤ M.2.2.1) (e : en_pad M.2.2.1 (en_args as) = lv) (k : YY l E M d mc ms post 0 lv [] σ 0 0) : en_S l E M d mc ms as σ post := fun h hh => en_mk hM h0 hl hn (by rw [e]; exact k h hh)
variable {M' : MRec} {d' mc' ms' na : Nat} {rest as : List Value} {v : Option Value} {w : Option Value ⊕ Nat}
theorem z_callS (h0 : M.2.2.2.2 = []) (h0' : M'.2.2.2.2 = []) (hf : decode M.2.1 pc = .ok (.invokestatic index, 3)) (hM : en_M M' na) (hml : Cond.methodLink M.1.cls index M'.1 ∈ WS) (hstt : Cond.static M'.1 ∈ WS) (hC : en_S l E M' d' mc' ms' (as) σ (pS v τ)) (hn : as.length = na) (hst : st = as.reverse ++ rest) (hrest : (rest.map fun v => v.category).sum ≤ 8) (hd : d' + 1 ≤ d) (hcu : cu + mc' ≤ mc) (hsu : su + ms' ≤ ms) (k : YY l E M d mc ms post (pc + 3) lv (v.toList ++ rest) τ (cu + mc') (su + ms')) : YY l E M d mc ms post pc lv st σ cu su := fun h hs => x_callS h0 h0' hf hM hml hstt as hn hst hrest (hC h hs) hd hcu hsu (fun N h' hp => by obtain ⟨s, _, e, _⟩ := hp; cases e) (fun w h' hp => by obtain ⟨s, hs', e, rfl⟩ := hp; cases e; exact k h' hs')
theorem z_callST (h0 : M.2.2.2.2 = []) (h0' : M'.2.2.2.2 = []) (hf : decode M.2.1 pc = .ok (.invokestatic index, 3)) (hM : en_M M' na) (hml : Cond.methodLink M.1.cls index M'.1 ∈ WS) (hstt : Cond.static M'.1 ∈ WS) (hC : en_S l E M' d' mc' ms' (as) σ (pT w τ)) (hn : as.length = na) (hst : st = as.reverse ++ rest) (hrest : (rest.map fun v => v.category).sum ≤ 8) (hd : d' + 1 ≤ d) (hcu : cu + mc' ≤ mc) (hsu : su + ms' ≤ ms) (kx : ∀ e, w = .inr e → post (.inr (exn e)) τ) (k : ∀ v, w = .inl v → YY l E M d mc ms post (pc + 3) lv (v.toList ++ rest) τ (cu + mc') (su + ms')) : YY l E M d mc ms post pc lv st σ cu su := fun h hs => x_callS h0 h0' hf hM hml hstt as hn hst hrest (hC h hs) hd hcu hsu (fun N h' hp => by obtain ⟨s, hs', e, rfl⟩ := hp; cases w with | inl v => cases e | inr e9 => cases e; exact ⟨s, hs', kx e9 rfl⟩) (fun v9 h' hp => by obtain ⟨s, hs', e, rfl⟩ := hp; cases w with | inl v => cases e; exact k _ rfl h' hs' | inr e9 => cases e)
theorem z_callSN (h0 : M.2.2.2.2 = []) (h0' : M'.2.2.2.2 = []) (hf : decode M.2.1 pc = .ok (.invokestatic index, 3)) (hM : en_M M' na) {host : String} (hml : Cond.methodLinkNest M.1.cls index M'.1 host ∈ NW) (hstt : Cond.static M'.1 ∈ WS) (hC : en_S l E M' d' mc' ms' (as) σ (pS v τ)) (hn : as.length = na) (hst : st = as.reverse ++ rest) (hrest : (rest.map fun v => v.category).sum ≤ 8) (hd : d' + 1 ≤ d) (hcu : cu + mc' ≤ mc) (hsu : su + ms' ≤ ms) (k : YY l E M d mc ms post (pc + 3) lv (v.toList ++ rest) τ (cu + mc') (su + ms')) : YY l E M d mc ms post pc lv st σ cu su := fun h hs => x_callSN h0 h0' hf hM hml hstt as hn hst hrest (hC h hs) hd hcu hsu (fun N h' hp => by obtain ⟨s, _, e, _⟩ := hp; cases e) (fun w h' hp => by obtain ⟨s, hs', e, rfl⟩ := hp; cases e; exact k h' hs')
theorem z_callSNT (h0 : M.2.2.2.2 = []) (h0' : M'.2.2.2.2 = []) (hf : decode M.2.1 pc = .ok (.invokestatic index, 3)) (hM : en_M M' na) {host : String} (hml : Cond.methodLinkNest M.1.cls index M'.1 host ∈ NW) (hstt : Cond.static M'.1 ∈ WS) (hC : en_S l E M' d' mc' ms' (as) σ (pT w τ)) (hn : as.length = na) (hst : st = as.reverse ++ rest) (hrest : (rest.map fun v => v.category).sum ≤ 8) (hd : d' + 1 ≤ d) (hcu : cu + mc' ≤ mc) (hsu : su + ms' ≤ ms) (kx : ∀ e, w = .inr e → post (.inr (exn e)) τ) (k : ∀ v, w = .inl v → YY l E M d mc ms post (pc + 3) lv (v.toList ++ rest) τ (cu + mc') (su + ms')) : YY l E M d mc ms post pc lv st σ cu su := fun h hs => x_callSN h0 h0' hf hM hml hstt as hn hst hrest (hC h hs) hd hcu hsu (fun N h' hp => by obtain ⟨s, hs', e, rfl⟩ := hp; cases w with | inl v => cases e | inr e9 => cases e; exact ⟨s, hs', kx e9 rfl⟩) (fun v9 h' hp => by obtain ⟨s, hs', e, rfl⟩ := hp; cases w with | inl v => cases e; exact k _ rfl h' hs' | inr e9 => cases e)
theorem z_callV {b : Nat} (h0 : M.2.2.2.2 = []) (h0' : M'.2.2.2.2 = []) (hf : decode M.2.1 pc = .ok (.invokevirtual index, 3)) (hM : en_M M' na) (hml : Cond.methodLink M.1.cls index M'.1 ∈ WS) (hins : Cond.instanceMethod M'.1 ∈ WS) (hsel : Cond.selects C M'.1 M'.1 ∈ WS) (hC : en_S l E M' d' mc' ms' (vr b :: as) σ (pS v τ)) (hn : as.length = na) (hst : st = as.reverse ++ vr b :: rest) (hL : lay b = some (.inl (ci, ks))) (hcl : vwCl[ci]? = some (C, T, Nf)) (hrest : (rest.map fun v => v.category).sum ≤ 8) (hd : d' + 1 ≤ d) (hcu : cu + mc' ≤ mc) (hsu : su + ms' ≤ ms) (k : YY l E M d mc ms post (pc + 3) lv (v.toList ++ rest) τ (cu + mc') (su + ms')) : YY l E M d mc ms post pc lv st σ cu su := fun h hs => x_callV h0 h0' hf hM hml hins hsel (hs b _ hL) hcl as hn hst hrest (hC h hs) hd hcu hsu (fun N h' hp => by obtain ⟨s, _, e, _⟩ := hp; cases e) (fun w h' hp => by obtain ⟨s, hs', e, rfl⟩ := hp; cases e; exact k h' hs')
theorem z_callVT {b : Nat} (h0 : M.2.2.2.2 = []) (h0' : M'.2.2.2.2 = []) (hf : decode M.2.1 pc = .ok (.invokevirtual index, 3)) (hM : en_M M' na) (hml : Cond.methodLink M.1.cls index M'.1 ∈ WS) (hins : Cond.instanceMethod M'.1 ∈ WS) (hsel : Cond.selects C M'.1 M'.1 ∈ WS) (hC : en_S l E M' d' mc' ms' (vr b :: as) σ (pT w τ)) (hn : as.length = na) (hst : st = as.reverse ++ vr b :: rest) (hL : lay b = some (.inl (ci, ks))) (hcl : vwCl[ci]? = some (C, T, Nf)) (hrest : (rest.map fun v => v.category).sum ≤ 8) (hd : d' + 1 ≤ d) (hcu : cu + mc' ≤ mc) (hsu : su + ms' ≤ ms) (kx : ∀ e, w = .inr e → post (.inr (exn e)) τ) (k : ∀ v, w = .inl v → YY l E M d mc ms post (pc + 3) lv (v.toList ++ rest) τ (cu + mc') (su + ms')) : YY l E M d mc ms post pc lv st σ cu su := fun h hs => x_callV h0 h0' hf hM hml hins hsel (hs b _ hL) hcl as hn hst hrest (hC h hs) hd hcu hsu (fun N h' hp => by obtain ⟨s, hs', e, rfl⟩ := hp; cases w with | inl v => cases e | inr e9 => cases e; exact ⟨s, hs', kx e9 rfl⟩) (fun v9 h' hp => by obtain ⟨s, hs', e, rfl⟩ := hp; cases w with | inl v => cases e; exact k _ rfl h' hs' | inr e9 => cases e)
theorem z_callVN {b : Nat} (h0 : M.2.2.2.2 = []) (h0' : M'.2.2.2.2 = []) (hf : decode M.2.1 pc = .ok (.invokevirtual index, 3)) (hM : en_M M' na) {host : String} (hml : Cond.methodLinkNest M.1.cls index M'.1 host ∈ NW) (hins : Cond.instanceMethod M'.1 ∈ WS) (hsel : Cond.selects C M'.1 M'.1 ∈ WS) (hC : en_S l E M' d' mc' ms' (vr b :: as) σ (pS v τ)) (hn : as.length = na) (hst : st = as.reverse ++ vr b :: rest) (hL : lay b = some (.inl (ci, ks))) (hcl : vwCl[ci]? = some (C, T, Nf)) (hrest : (rest.map fun v => v.category).sum ≤ 8) (hd : d' + 1 ≤ d) (hcu : cu + mc' ≤ mc) (hsu : su + ms' ≤ ms) (k : YY l E M d mc ms post (pc + 3) lv (v.toList ++ rest) τ (cu + mc') (su + ms')) : YY l E M d mc ms post pc lv st σ cu su := fun h hs => x_callVN h0 h0' hf hM hml hins hsel (hs b _ hL) hcl as hn hst hrest (hC h hs) hd hcu hsu (fun N h' hp => by obtain ⟨s, _, e, _⟩ := hp; cases e) (fun w h' hp => by obtain ⟨s, hs', e, rfl⟩ := hp; cases e; exact k h' hs')
theorem z_callVNT {b : Nat} (h0 : M.2.2.2.2 = []) (h0' : M'.2.2.2.2 = []) (hf : decode M.2.1 pc = .ok (.invokevirtual index, 3)) (hM : en_M M' na) {host : String} (hml : Cond.methodLinkNest M.1.cls index M'.1 host ∈ NW) (hins : Cond.instanceMethod M'.1 ∈ WS) (hsel : Cond.selects C M'.1 M'.1 ∈ WS) (hC : en_S l E M' d' mc' ms' (vr b :: as) σ (pT w τ)) (hn : as.length = na) (hst : st = as.reverse ++ vr b :: rest) (hL : lay b = some (.inl (ci, ks))) (hcl : vwCl[ci]? = some (C, T, Nf)) (hrest : (rest.map fun v => v.category).sum ≤ 8) (hd : d' + 1 ≤ d) (hcu : cu + mc' ≤ mc) (hsu : su + ms' ≤ ms) (kx : ∀ e, w = .inr e → post (.inr (exn e)) τ) (k : ∀ v, w = .inl v → YY l E M d mc ms post (pc + 3) lv (v.toList ++ rest) τ (cu + mc') (su + ms')) : YY l E M d mc ms post pc lv st σ cu su := fun h hs => x_callVN h0 h0' hf hM hml hins hsel (hs b _ hL) hcl as hn hst hrest (hC h hs) hd hcu hsu (fun N h' hp => by obtain ⟨s, hs', e, rfl⟩ := hp; cases w with | inl v => cases e | inr e9 => cases e; exact ⟨s, hs', kx e9 rfl⟩) (fun v9 h' hp => by obtain ⟨s, hs', e, rfl⟩ := hp; cases w with | inl v => cases e; exact k _ rfl h' hs' | inr e9 => cases e)
end SL2
