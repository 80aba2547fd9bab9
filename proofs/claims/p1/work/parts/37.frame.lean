section FRM
/-! rules that hand out the heap behind a write as a new name, with what it holds and what has stayed -/
def en_fr9 (ts : List Nat) (h h' : HP) : Prop := ∀ (x : Nat) (e : PEnt), x ∉ ts → ob h x = some e → ob h' x = some e
theorem fr_rf {ts : List Nat} {h : HP} : en_fr9 ts h h := fun _ _ _ he => he
theorem fr_tr {t T : List Nat} {h h1 h2 : HP} (g : en_fr9 t h1 h2) (s : ∀ x ∈ t, x ∈ T) (f : en_fr9 T h h1) : en_fr9 T h h2 := fun x e n he => g x e (fun hx => n (s x hx)) (f x e n he)
theorem fr_stt {h : HP} {a : Nat} {e : PEnt} (ha : ¬ a < 32) : en_fr9 [a] h (stt h a e) := fun x e' n he => by
  rw [ob_ne (fun q => n (by rw [q]; exact List.mem_cons_self)) ha]
  exact he
theorem fr_app {h : HP} (t : HP) : en_fr9 [] h (h ++ t) := fun _ _ _ he => ob_app t he
def pF (v : Option Value) (ts : List Nat) (h : HP) (Φ : HP → Prop) : Outc → HP → Prop := fun o h' => o = .inl v ∧ en_fr9 ts h h' ∧ Φ h'
def pT (N : String) (ts : List Nat) (h : HP) (Φ : HP → Prop) : Outc → HP → Prop := fun o h' => o = .inr N ∧ en_fr9 ts h h' ∧ Φ h'
theorem bi_lt {x y : Int32} {X Y : Int} (hx : x.toInt = X) (hy : y.toInt = Y) : x < y ↔ X < Y := by subst hx hy; exact Int32.lt_iff_toInt_lt
theorem bi_le {x y : Int32} {X Y : Int} (hx : x.toInt = X) (hy : y.toInt = Y) : x ≤ y ↔ X ≤ Y := by subst hx hy; exact Int32.le_iff_toInt_le
theorem bi_eq {x y : Int32} {X Y : Int} (hx : x.toInt = X) (hy : y.toInt = Y) : x = y ↔ X = Y := by subst hx hy; exact Int32.toInt_inj.symm
theorem bj_lt {x y : Int64} {X Y : Int} (hx : x.toInt = X) (hy : y.toInt = Y) : x < y ↔ X < Y := by subst hx hy; exact Int64.lt_iff_toInt_lt
theorem bj_le {x y : Int64} {X Y : Int} (hx : x.toInt = X) (hy : y.toInt = Y) : x ≤ y ↔ X ≤ Y := by subst hx hy; exact Int64.le_iff_toInt_le
theorem bj_eq {x y : Int64} {X Y : Int} (hx : x.toInt = X) (hy : y.toInt = Y) : x = y ↔ X = Y := by subst hx hy; exact Int64.toInt_inj.symm
theorem bc_lt {x y : Int64} {X Y : Int} (hx : x.toInt = X) (hy : y.toInt = Y) : lg_cmp x y < 0 ↔ X < Y := (lg_cmp_lt x y).trans (bj_lt hx hy)
theorem bc_ge {x y : Int64} {X Y : Int} (hx : x.toInt = X) (hy : y.toInt = Y) : 0 ≤ lg_cmp x y ↔ Y ≤ X := (lg_cmp_ge x y).trans (bj_le hy hx)
theorem bc_gt {x y : Int64} {X Y : Int} (hx : x.toInt = X) (hy : y.toInt = Y) : 0 < lg_cmp x y ↔ Y < X := (lg_cmp_gt x y).trans (bj_lt hy hx)
theorem bc_le {x y : Int64} {X Y : Int} (hx : x.toInt = X) (hy : y.toInt = Y) : lg_cmp x y ≤ 0 ↔ X ≤ Y := (lg_cmp_le x y).trans (bj_le hx hy)
theorem bc_eq {x y : Int64} {X Y : Int} (hx : x.toInt = X) (hy : y.toInt = Y) : lg_cmp x y = 0 ↔ X = Y := (lg_cmp_eq x y).trans (bj_eq hx hy)
theorem i_i2l {x : Int32} {X : Int} (hx : x.toInt = X) : x.toInt64.toInt = X := (Int32.toInt_toInt64 x).trans hx
theorem nc_lt {i : Int32} {n : Nat} (h : i.toInt < (n : Int)) (h0 : 0 < n) : i.toNatClampNeg < n := by
  show i.toInt.toNat < n
  omega
theorem vp_in_s {i : Int32} {n : Nat} (h0 : 0 ≤ i.toInt) (h1 : i.toInt < (n : Int)) : vp_in i n := by
  refine vp_inD ?_
  rw [Bool.or_eq_false_iff, decide_eq_false_iff_not, decide_eq_false_iff_not]
  refine ⟨fun q => ?_, fun q => ?_⟩
  · have := (bi_lt (x := i) (y := 0) rfl (by decide +kernel : (0 : Int32).toInt = 0)).mp q
    omega
  · have h2 : n ≤ i.toInt.toNat := q
    omega
theorem en_hdn {M : MRec} {pc : Nat} {N : String} {k0 : Fin 4} {a b hp ct : Nat} (pre suf : List (Nat × Nat × Nat × Nat)) (h0 : M.2.2.2.2 = pre ++ (a, b, hp, ct) :: suf) (hpre : ∀ z ∈ pre, z.2.2.2 ≠ 0 ∧ ∃ nm : String, Cond.classLink M.1.cls z.2.2.2 nm ∈ WS ∧ N ∈ en_ex ∧ nm ∈ en_ex ∧ N ≠ nm) (hc : covers { startPc := a, endPc := b, handlerPc := hp, catchType := ct } pc = true) (h1 : ct ≠ 0) (h2 : Cond.classLink M.1.cls ct N ∈ WS) (h3 : Cond.castable N N ∈ NW) (h4 : decode M.2.1 hp = .ok (.astore_n k0, 1)) : en_hd M pc N (k0 : Nat) (hp + 1) := by
  refine ⟨tableOf pre, { startPc := a, endPc := b, handlerPc := hp, catchType := ct }, tableOf suf, ?_, ?_, hc, h1, h2, h3, Or.inr ⟨k0, rfl, h4, rfl⟩⟩
  · rw [h0]; exact List.map_append
  · intro z hz
    obtain ⟨y, hy, rfl⟩ := List.mem_map.mp hz
    exact Or.inr (hpre y hy)
theorem en_hdm {M : MRec} {pc : Nat} {N : String} {k0 : Nat} {a b hp ct : Nat} (pre suf : List (Nat × Nat × Nat × Nat)) (h0 : M.2.2.2.2 = pre ++ (a, b, hp, ct) :: suf) (hpre : ∀ z ∈ pre, z.2.2.2 ≠ 0 ∧ ∃ nm : String, Cond.classLink M.1.cls z.2.2.2 nm ∈ WS ∧ N ∈ en_ex ∧ nm ∈ en_ex ∧ N ≠ nm) (hc : covers { startPc := a, endPc := b, handlerPc := hp, catchType := ct } pc = true) (h1 : ct ≠ 0) (h2 : Cond.classLink M.1.cls ct N ∈ WS) (h3 : Cond.castable N N ∈ NW) (h4 : decode M.2.1 hp = .ok (.astore k0, 2)) : en_hd M pc N k0 (hp + 2) := by
  refine ⟨tableOf pre, { startPc := a, endPc := b, handlerPc := hp, catchType := ct }, tableOf suf, ?_, ?_, hc, h1, h2, h3, Or.inl ⟨h4, rfl⟩⟩
  · rw [h0]; exact List.map_append
  · intro z hz
    obtain ⟨y, hy, rfl⟩ := List.mem_map.mp hz
    exact Or.inr (hpre y hy)
theorem up_sw {f : Nat → Int32} {i j : Nat} {x y : Int32} (n : i ≠ j) : upd (upd f i x) j y = upd (upd f j y) i x := by
  funext q
  unfold upd
  by_cases h1 : q = i
  · subst h1; simp [n]
  · simp [h1]
theorem up_up {f : Nat → Int32} {k : Nat} {x y : Int32} : upd (upd f k x) k y = upd f k y := by
  funext q
  unfold upd
  by_cases h1 : q = k <;> simp [h1]
theorem up_z {k : Nat} : upd (fun _ => 0) k (Int32.ofInt 0) = (fun _ => 0) := by
  funext q
  unfold upd
  by_cases h1 : q = k
  · simp [h1]
  · simp [h1]
theorem uq_sw {f : Nat → Int64} {i j : Nat} {x y : Int64} (n : i ≠ j) : vp_updL (vp_updL f i x) j y = vp_updL (vp_updL f j y) i x := by
  funext q
  unfold vp_updL
  by_cases h1 : q = i
  · subst h1; simp [n]
  · simp [h1]
theorem uq_uq {f : Nat → Int64} {k : Nat} {x y : Int64} : vp_updL (vp_updL f k x) k y = vp_updL f k y := by
  funext q
  unfold vp_updL
  by_cases h1 : q = k <;> simp [h1]
theorem uq_z {k : Nat} : vp_updL (fun _ => 0) k (Int64.ofInt 0) = (fun _ => 0) := by
  funext q
  unfold vp_updL
  by_cases h1 : q = k
  · simp [h1]
  · simp [h1]
variable {l : Launch} {E : EE} {M M' : MRec} {d mc ms d' mc' ms' n : Nat} {post : Outc → HP → Prop} {pc : Nat} {lv : LVs} {st rest : List Value} {h : HP} {cu su : Nat} {index a : Nat} {as : List Value} {i : Int32}
theorem x_top {x y : Int32} (e : x = y) (kk : XX l E M d mc ms post pc lv (.int y :: st) h cu su) : XX l E M d mc ms post pc lv (.int x :: st) h cu su := by subst e; exact kk
theorem x_topl {x y : Int64} (e : x = y) (kk : XX l E M d mc ms post pc lv (.long y :: st) h cu su) : XX l E M d mc ms post pc lv (.long x :: st) h cu su := by subst e; exact kk
theorem x_lvs {lv' : LVs} (e : lv = lv') (kk : XX l E M d mc ms post pc lv' st h cu su) : XX l E M d mc ms post pc lv st h cu su := by subst e; exact kk
theorem y_put {ci N : Nat} {C : String} {T : u_T} {ty : Nat → FieldType} {fs : List Value} (cl : en_CL ci C T N ty) (hf : decode M.2.1 pc = .ok (.putfield index, 3)) (hh : ob h a = some (.inr (ci, fs))) (k : Nat) (hk : k < N) (hl : Cond.fieldLink M.1.cls index (T k).1 (T k).2.1 (T k).2.2.1 ∈ WS) {v : Value} (hfin : (T k).2.2.2 = false ∨ (M.1.name = "<init>" ∧ (T k).1 = M.1.cls)) (hn : k < fs.length) (hfit : en_fit (ty k) v = true)
    (kk : ∀ h' : HP, ob h' a = some (.inr (ci, fs.set k v)) → en_fr9 [a] h h' → XX l E M d mc ms post (pc + 3) lv st h' cu su) : XX l E M d mc ms post pc lv (v :: .ref a :: st) h cu su :=
  x_put cl hf hh k hk hl hfin hn hfit (kk _ (ob_self hh) (fr_stt (ob_at hh).1))
theorem y_iast {f : Nat → Int32} {x : Int32} (hf : decode M.2.1 pc = .ok (.iastore, 1)) (hh : ob h a = some (.inl (0, n, .inl f))) (hin : vp_in i n) {k : Nat} (hk : i.toNatClampNeg = k) (kk : ∀ h' : HP, ob h' a = some (.inl (0, n, .inl (upd f k x))) → en_fr9 [a] h h' → XX l E M d mc ms post (pc + 1) lv st h' cu su) : XX l E M d mc ms post pc lv (.int x :: .int i :: .ref a :: st) h cu su   := by
  subst hk
  exact x_iast hf hh hin (kk _ (ob_self hh) (fr_stt (ob_at hh).1))
theorem y_last {f : Nat → Int64} {x : Int64} (hf : decode M.2.1 pc = .ok (.lastore, 1)) (hh : ob h a = some (.inl (1, n, .inr (.inl f)))) (hin : vp_in i n) {k : Nat} (hk : i.toNatClampNeg = k) (kk : ∀ h' : HP, ob h' a = some (.inl (1, n, .inr (.inl (vp_updL f k x)))) → en_fr9 [a] h h' → XX l E M d mc ms post (pc + 1) lv st h' cu su) : XX l E M d mc ms post pc lv (.long x :: .int i :: .ref a :: st) h cu su   := by
  subst hk
  exact x_last hf hh hin (kk _ (ob_self hh) (fr_stt (ob_at hh).1))
theorem y_bast {f : Nat → Int32} {x : Int32} (hf : decode M.2.1 pc = .ok (.bastore, 1)) (hh : ob h a = some (.inl (2, n, .inl f))) (hin : vp_in i n) {k : Nat} (hk : i.toNatClampNeg = k) (kk : ∀ h' : HP, ob h' a = some (.inl (2, n, .inl (upd f k (vp_nar .byte x)))) → en_fr9 [a] h h' → XX l E M d mc ms post (pc + 1) lv st h' cu su) : XX l E M d mc ms post pc lv (.int x :: .int i :: .ref a :: st) h cu su   := by
  subst hk
  exact x_bast hf hh hin (kk _ (ob_self hh) (fr_stt (ob_at hh).1))
theorem y_zast {f : Nat → Int32} {x : Int32} (hf : decode M.2.1 pc = .ok (.bastore, 1)) (hh : ob h a = some (.inl (3, n, .inl f))) (hin : vp_in i n) {k : Nat} (hk : i.toNatClampNeg = k) (kk : ∀ h' : HP, ob h' a = some (.inl (3, n, .inl (upd f k (vp_nar .boolean x)))) → en_fr9 [a] h h' → XX l E M d mc ms post (pc + 1) lv st h' cu su) : XX l E M d mc ms post pc lv (.int x :: .int i :: .ref a :: st) h cu su   := by
  subst hk
  exact x_zast hf hh hin (kk _ (ob_self hh) (fr_stt (ob_at hh).1))
/-- arraycopy of nothing, of bytes -/
theorem y_acopy0 {a0 n0 n1 : Nat} {f g : Nat → Int32} {sp dp z : Int32} (ht : (en_T E)[2]? = some (E.2.1 2, .byte)) (hf : decode M.2.1 pc = .ok (.invokestatic index, 3)) (hl : Cond.methodLink M.1.cls index arraycopyName ∈ WS) (hnat : Cond.native arraycopyName ∈ WS) (hs9 : Cond.static arraycopyName ∈ WS) (hi : Cond.initialized "java/lang/System" ∈ WS)
    (h0 : ob h a0 = some (.inl (2, n0, .inl f))) (h9 : ob h a = some (.inl (2, n1, .inl g))) (e1 : sp = 0) (e2 : dp = 0) (e3 : z = 0) (hd : 1 ≤ d) (hst : (rest.map fun v => v.category).sum + (nativeFrameWords "java/lang/System" "arraycopy" 5 + 11) ≤ 64 * d)
    (kk : ∀ h' : HP, (∃ g' : Nat → Int32, ob h' a = some (.inl (2, n1, .inl g'))) → en_fr9 [a] h h' → XX l E M d mc ms post (pc + 3) lv rest h' cu su) : XX l E M d mc ms post pc lv (.int z :: .int dp :: .ref a :: .int sp :: .ref a0 :: rest) h cu su := by
  subst e1 e2 e3
  refine x_acopy .byte ht rfl hf hl hnat hs9 hi h0 h9 (by decide) (by decide) (by decide) (Nat.zero_le _) (Nat.zero_le _) (fun i hi => absurd hi (Nat.not_lt_zero i)) hd hst ?_
  exact kk _ ⟨_, ob_self h9⟩ (fr_stt (ob_at h9).1)
theorem y_callSR {v : Option Value} {ts : List Nat} {Φ : HP → Prop} (h0 : M.2.2.2.2 = []) (h0' : M'.2.2.2.2 = []) (hf : decode M.2.1 pc = .ok (.invokestatic index, 3)) (hM : en_M M' n) (hml : Cond.methodLink M.1.cls index M'.1 ∈ WS) (hstt : Cond.static M'.1 ∈ WS) (hC : en_C l E M' d' mc' ms' as h (pF v ts h Φ)) (hn : as.length = n) (hst : st = as.reverse ++ rest) (hrest : (rest.map fun v => v.category).sum ≤ 8) (hd : d' + 1 ≤ d) (hcu : cu + mc' ≤ mc) (hsu : su + ms' ≤ ms) (kk : ∀ h' : HP, en_fr9 ts h h' → Φ h' → XX l E M d mc ms post (pc + 3) lv (v.toList ++ rest) h' (cu + mc') (su + ms')) : XX l E M d mc ms post pc lv st h cu su :=
  x_callS h0 h0' hf hM hml hstt as hn hst hrest hC hd hcu hsu (fun N h' hp => nomatch hp.1) (fun w h' hp => by obtain ⟨e1, f, q⟩ := hp; cases e1; exact kk h' f q)
theorem y_callSNR {v : Option Value} {ts : List Nat} {Φ : HP → Prop} (h0 : M.2.2.2.2 = []) (h0' : M'.2.2.2.2 = []) (hf : decode M.2.1 pc = .ok (.invokestatic index, 3)) (hM : en_M M' n) {host : String} (hml : Cond.methodLinkNest M.1.cls index M'.1 host ∈ NW) (hstt : Cond.static M'.1 ∈ WS) (hC : en_C l E M' d' mc' ms' as h (pF v ts h Φ)) (hn : as.length = n) (hst : st = as.reverse ++ rest) (hrest : (rest.map fun v => v.category).sum ≤ 8) (hd : d' + 1 ≤ d) (hcu : cu + mc' ≤ mc) (hsu : su + ms' ≤ ms) (kk : ∀ h' : HP, en_fr9 ts h h' → Φ h' → XX l E M d mc ms post (pc + 3) lv (v.toList ++ rest) h' (cu + mc') (su + ms')) : XX l E M d mc ms post pc lv st h cu su :=
  x_callSN h0 h0' hf hM hml hstt as hn hst hrest hC hd hcu hsu (fun N h' hp => nomatch hp.1) (fun w h' hp => by obtain ⟨e1, f, q⟩ := hp; cases e1; exact kk h' f q)
theorem y_callVR {v : Option Value} {ts : List Nat} {Φ : HP → Prop} {b ci N : Nat} {C : String} {T : u_T} {fs : List Value} (h0 : M.2.2.2.2 = []) (h0' : M'.2.2.2.2 = []) (hf : decode M.2.1 pc = .ok (.invokevirtual index, 3)) (hM : en_M M' n) (hml : Cond.methodLink M.1.cls index M'.1 ∈ WS) (hins : Cond.instanceMethod M'.1 ∈ WS) (hsel : Cond.selects C M'.1 M'.1 ∈ WS) (hC : en_C l E M' d' mc' ms' (.ref b :: as) h (pF v ts h Φ)) (hn : as.length = n) (hst : st = as.reverse ++ .ref b :: rest) (hb9 : ob h b = some (.inr (ci, fs))) (hcl : vwCl[ci]? = some (C, T, N)) (hrest : (rest.map fun v => v.category).sum ≤ 8) (hd : d' + 1 ≤ d) (hcu : cu + mc' ≤ mc) (hsu : su + ms' ≤ ms) (kk : ∀ h' : HP, en_fr9 ts h h' → Φ h' → XX l E M d mc ms post (pc + 3) lv (v.toList ++ rest) h' (cu + mc') (su + ms')) : XX l E M d mc ms post pc lv st h cu su :=
  x_callV h0 h0' hf hM hml hins hsel hb9 hcl as hn hst hrest hC hd hcu hsu (fun N h' hp => nomatch hp.1) (fun w h' hp => by obtain ⟨e1, f, q⟩ := hp; cases e1; exact kk h' f q)
theorem y_callVNR {v : Option Value} {ts : List Nat} {Φ : HP → Prop} {b ci N : Nat} {C : String} {T : u_T} {fs : List Value} (h0 : M.2.2.2.2 = []) (h0' : M'.2.2.2.2 = []) (hf : decode M.2.1 pc = .ok (.invokevirtual index, 3)) (hM : en_M M' n) {host : String} (hml : Cond.methodLinkNest M.1.cls index M'.1 host ∈ NW) (hins : Cond.instanceMethod M'.1 ∈ WS) (hsel : Cond.selects C M'.1 M'.1 ∈ WS) (hC : en_C l E M' d' mc' ms' (.ref b :: as) h (pF v ts h Φ)) (hn : as.length = n) (hst : st = as.reverse ++ .ref b :: rest) (hb9 : ob h b = some (.inr (ci, fs))) (hcl : vwCl[ci]? = some (C, T, N)) (hrest : (rest.map fun v => v.category).sum ≤ 8) (hd : d' + 1 ≤ d) (hcu : cu + mc' ≤ mc) (hsu : su + ms' ≤ ms) (kk : ∀ h' : HP, en_fr9 ts h h' → Φ h' → XX l E M d mc ms post (pc + 3) lv (v.toList ++ rest) h' (cu + mc') (su + ms')) : XX l E M d mc ms post pc lv st h cu su :=
  x_callVN h0 h0' hf hM hml hins hsel hb9 hcl as hn hst hrest hC hd hcu hsu (fun N h' hp => nomatch hp.1) (fun w h' hp => by obtain ⟨e1, f, q⟩ := hp; cases e1; exact kk h' f q)
theorem y_callSX {X9 : String} {ts : List Nat} {Φ : HP → Prop} (h0 : M.2.2.2.2 = []) (h0' : M'.2.2.2.2 = []) (hf : decode M.2.1 pc = .ok (.invokestatic index, 3)) (hM : en_M M' n) (hml : Cond.methodLink M.1.cls index M'.1 ∈ WS) (hstt : Cond.static M'.1 ∈ WS) (hC : en_C l E M' d' mc' ms' as h (pT X9 ts h Φ)) (hn : as.length = n) (hst : st = as.reverse ++ rest) (hrest : (rest.map fun v => v.category).sum ≤ 8) (hd : d' + 1 ≤ d) (hcu : cu + mc' ≤ mc) (hsu : su + ms' ≤ ms) (kk : ∀ h' : HP, en_fr9 ts h h' → Φ h' → post (.inr X9) h') : XX l E M d mc ms post pc lv st h cu su :=
  x_callS h0 h0' hf hM hml hstt as hn hst hrest hC hd hcu hsu (fun N h' hp => by obtain ⟨e1, f, q⟩ := hp; cases e1; exact kk h' f q) (fun w h' hp => nomatch hp.1)
theorem y_callVX {X9 : String} {ts : List Nat} {Φ : HP → Prop} {b ci N : Nat} {C : String} {T : u_T} {fs : List Value} (h0 : M.2.2.2.2 = []) (h0' : M'.2.2.2.2 = []) (hf : decode M.2.1 pc = .ok (.invokevirtual index, 3)) (hM : en_M M' n) (hml : Cond.methodLink M.1.cls index M'.1 ∈ WS) (hins : Cond.instanceMethod M'.1 ∈ WS) (hsel : Cond.selects C M'.1 M'.1 ∈ WS) (hC : en_C l E M' d' mc' ms' (.ref b :: as) h (pT X9 ts h Φ)) (hn : as.length = n) (hst : st = as.reverse ++ .ref b :: rest) (hb9 : ob h b = some (.inr (ci, fs))) (hcl : vwCl[ci]? = some (C, T, N)) (hrest : (rest.map fun v => v.category).sum ≤ 8) (hd : d' + 1 ≤ d) (hcu : cu + mc' ≤ mc) (hsu : su + ms' ≤ ms) (kk : ∀ h' : HP, en_fr9 ts h h' → Φ h' → post (.inr X9) h') : XX l E M d mc ms post pc lv st h cu su :=
  x_callV h0 h0' hf hM hml hins hsel hb9 hcl as hn hst hrest hC hd hcu hsu (fun N h' hp => by obtain ⟨e1, f, q⟩ := hp; cases e1; exact kk h' f q) (fun w h' hp => nomatch hp.1)
/-- the wrapper's call: it returns -/
theorem y_callVHR {v : Option Value} {ts : List Nat} {Φ : HP → Prop} {b ci N : Nat} {C : String} {T : u_T} {fs : List Value} (h0' : M'.2.2.2.2 = []) (hf : decode M.2.1 pc = .ok (.invokevirtual index, 3)) (hM : en_M M' n) (hml : Cond.methodLink M.1.cls index M'.1 ∈ WS) (hins : Cond.instanceMethod M'.1 ∈ WS) (hsel : Cond.selects C M'.1 M'.1 ∈ WS) (hb9 : ob h b = some (.inr (ci, fs))) (hcl : vwCl[ci]? = some (C, T, N)) (hC : en_C l E M' d' mc' ms' (.ref b :: as) h (pF v ts h Φ)) (hn : as.length = n) (hst : st = as.reverse ++ .ref b :: rest) (hrest : (rest.map fun v => v.category).sum ≤ 8) (hd : d' + 1 ≤ d) (hcu : cu + mc' ≤ mc) (hsu : su + ms' ≤ ms) (kk : ∀ h' : HP, en_fr9 ts h h' → Φ h' → XX l E M d mc ms post (pc + 3) lv (v.toList ++ rest) h' (cu + mc') (su + ms')) : XX l E M d mc ms post pc lv st h cu su :=
  x_callVH h0' hf hM hml hins hsel hb9 hcl as hn hst hrest hC hd hcu hsu (fun N h' hp => nomatch hp.1) (fun w h' hp => by obtain ⟨e1, f, q⟩ := hp; cases e1; exact kk h' f q)
/-- the wrapper's call: it throws, and a handler takes it -/
theorem y_callVHX {X9 : String} {ts : List Nat} {Φ : HP → Prop} {b ci N i9 nx : Nat} {C : String} {T : u_T} {fs : List Value} (h0' : M'.2.2.2.2 = []) (hf : decode M.2.1 pc = .ok (.invokevirtual index, 3)) (hM : en_M M' n) (hml : Cond.methodLink M.1.cls index M'.1 ∈ WS) (hins : Cond.instanceMethod M'.1 ∈ WS) (hsel : Cond.selects C M'.1 M'.1 ∈ WS) (hb9 : ob h b = some (.inr (ci, fs))) (hcl : vwCl[ci]? = some (C, T, N)) (hC : en_C l E M' d' mc' ms' (.ref b :: as) h (pT X9 ts h Φ)) (hn : as.length = n) (hst : st = as.reverse ++ .ref b :: rest) (hrest : (rest.map fun v => v.category).sum ≤ 8) (hd : d' + 1 ≤ d) (hcu : cu + mc' ≤ mc) (hsu : su + ms' ≤ ms) (hh : en_hd M pc X9 i9 nx) (hi : i9 < M.2.2.1) (hfr : en_fr lv i9 = true) (kk : ∀ h' : HP, en_fr9 ts h h' → Φ h' → XX l E M d mc ms post nx (lv.set i9 none) [] h' (cu + mc') (su + ms')) : XX l E M d mc ms post pc lv st h cu su :=
  x_callVH h0' hf hM hml hins hsel hb9 hcl as hn hst hrest hC hd hcu hsu (fun N h' hp => by obtain ⟨e1, f, q⟩ := hp; cases e1; exact ⟨i9, nx, hh, hi, hfr, kk h' f q⟩) (fun w h' hp => nomatch hp.1)
/-- the law's call of a wrapper -/
theorem y_callSW {v : Option Value} {ts : List Nat} {Φ : HP → Prop} {z : Nat × Nat × Nat × Nat} {t : List (Nat × Nat × Nat × Nat)} (h0 : M.2.2.2.2 = []) (h0' : M'.2.2.2.2 = z :: t) (hf : decode M.2.1 pc = .ok (.invokestatic index, 3)) (hM : en_M M' n) (hml : Cond.methodLink M.1.cls index M'.1 ∈ WS) (hstt : Cond.static M'.1 ∈ WS) (hC : en_C l E M' d' mc' ms' as h (pF v ts h Φ)) (hn : as.length = n) (hst : st = as.reverse ++ rest) (hrest : (rest.map fun v => v.category).sum ≤ 8) (hd : d' + 1 ≤ d) (hcu : cu + mc' ≤ mc) (hsu : su + ms' ≤ ms) (kk : ∀ h' : HP, en_fr9 ts h h' → Φ h' → XX l E M d mc ms post (pc + 3) lv (v.toList ++ rest) h' (cu + mc') (su + ms')) : XX l E M d mc ms post pc lv st h cu su :=
  x_callSW h0 h0' hf hM hml hstt as hn hst hrest hC hd hcu hsu (fun N h' hp => nomatch hp.1) (fun w h' hp => by obtain ⟨e1, f, q⟩ := hp; cases e1; exact kk h' f q)
end FRM
