section NRM
theorem x_heap {l : Launch} {E : EE} {M : MRec} {d mc ms : Nat} {post : Outc → HP → Prop} {pc : Nat} {lv : LVs} {st : List Value} {h h' : HP} {cu su : Nat} (e : h = h') (kk : XX l E M d mc ms post pc lv st h' cu su) : XX l E M d mc ms post pc lv st h cu su := e ▸ kk
theorem x_norm {l : Launch} {E : EE} {M : MRec} {d mc ms : Nat} {post : Outc → HP → Prop} {pc : Nat} {lv lv' : LVs} {st st' : List Value} {h h' : HP} {cu su cu' su' : Nat} (e1 : lv = lv') (e2 : st = st') (e : h = h') (e3 : cu = cu') (e4 : su = su') (kk : XX l E M d mc ms post pc lv' st' h' cu' su') : XX l E M d mc ms post pc lv st h cu su := by
  subst e1 e2 e e3 e4
  exact kk
theorem stt_app {h t : HP} {a : Nat} {e e0 : PEnt} (ha : ob h a = some e0) : stt (h ++ t) a e = stt h a e ++ t := by
  obtain ⟨-, h2⟩ := ob_at ha
  exact List.set_append_left (a - 32) _ (List.getElem?_eq_some_iff.mp h2).1
theorem stt_stt {h : HP} {a : Nat} {e e' : PEnt} : stt (stt h a e) a e' = stt h a e' := List.set_set _
theorem stt_last {h : HP} {e e' : PEnt} : stt (h ++ [some e]) (32 + h.length) e' = h ++ [some e'] := by
  unfold stt
  rw [Nat.add_sub_cancel_left, List.set_append_right _ _ (Nat.le_refl _), Nat.sub_self]
  rfl
theorem stt_id {h : HP} {a : Nat} {e : PEnt} (ha : ob h a = some e) : stt h a e = h := by
  obtain ⟨-, h2⟩ := ob_at ha
  exact List.ext_getElem? (fun i => by
    unfold stt
    by_cases q : a - 32 = i
    · subst q
      rw [List.getElem?_set_self (List.getElem?_eq_some_iff.mp h2).1, h2]
    · rw [List.getElem?_set_ne q])
/-- an object in the middle of being made: it lies in h, and t was made since -/
theorem ob_mid {h t : HP} {a : Nat} {e e0 : PEnt} (ha : ob h a = some e0) : ob (stt h a e ++ t) a = some e := ob_app t (ob_self ha)
theorem stt_mid {h t : HP} {a : Nat} {e e' e0 : PEnt} (ha : ob h a = some e0) : stt (stt h a e ++ t) a e' = stt h a e' ++ t := by
  rw [stt_app (ob_self ha), stt_stt]
theorem len_mid {h t : HP} {a : Nat} {e : PEnt} : (stt h a e ++ t).length = h.length + t.length := by rw [List.length_append, stt_len]
/-- an object made among t, then written -/
theorem ob_mid2 {h t : HP} {a b k : Nat} {e e1 : PEnt} (hb : b = 32 + (h.length + k)) (hk : t[k]? = some (some e1)) : ob (stt h a e ++ t) b = some e1 := by
  subst hb
  unfold ob
  rw [if_neg (by omega), show 32 + (h.length + k) - 32 = h.length + k by omega, List.getElem?_append_right (by rw [stt_len]; omega), stt_len, Nat.add_sub_cancel_left, hk]
  rfl
theorem stt_mid2 {h t : HP} {a b k : Nat} {e e' : PEnt} (hb : b = 32 + (h.length + k)) : stt (stt h a e ++ t) b e' = stt h a e ++ t.set k (some e') := by
  subst hb
  unfold stt
  rw [show 32 + (h.length + k) - 32 = (h.set (a - 32) (some e)).length + k by rw [List.length_set]; omega, List.set_append_right _ _ (by omega), Nat.add_sub_cancel_left]
end NRM
section NRM3
/-- with a folded beginning P of what was made -/
theorem ob_mid3 {h P t : HP} {a b p j : Nat} {e e1 : PEnt} (hp : P.length = p) (hb : b = 32 + (h.length + (p + j))) (hk : t[j]? = some (some e1)) : ob (stt h a e ++ (P ++ t)) b = some e1 :=
  ob_mid2 hb (by rw [List.getElem?_append_right (by omega), hp, Nat.add_sub_cancel_left]; exact hk)
theorem stt_mid3 {h P t : HP} {a b p j : Nat} {e e' : PEnt} (hp : P.length = p) (hb : b = 32 + (h.length + (p + j))) : stt (stt h a e ++ (P ++ t)) b e' = stt h a e ++ (P ++ t.set j (some e')) := by
  rw [stt_mid2 hb, List.set_append_right _ _ (by omega), hp, Nat.add_sub_cancel_left]
/-- 32 empty shapes, each with its three rows; L cells lie ahead of the row of slots -/
def shs (L : Nat) (i : Nat) : HP := match i with
  | 0 => []
  | i + 1 => shs L i ++ [some (.inr (9, [.ref (32 + (L + (2 + 4 * i))), .ref (32 + (L + (3 + 4 * i))), .ref (32 + (L + (4 + 4 * i))), .int 0, .int 0])), some (.inl (0, 2048, .inl (fun _ => 0))), some (.inl (0, 2048, .inl (fun _ => 0))), some (.inl (0, 2048, .inl (fun _ => 0)))]
/-- the row of slots, i of them made -/
def shf (L : Nat) (i : Nat) : Nat → Option Nat := fun j => if j < i then some (32 + (L + (1 + 4 * j))) else none
def sh0 (L : Nat) (i : Nat) : HP := some (.inl (4, 32, .inr (.inr (.inr (.inr (shf L i)))))) :: shs L i
theorem shs_len (L : Nat) : ∀ i, (shs L i).length = 4 * i := by
  intro i
  induction i with
  | zero => rfl
  | succ i ih => simp only [shs, List.length_append, ih, List.length_cons, List.length_nil]; omega
theorem sh0_len (L i : Nat) : (sh0 L i).length = 1 + 4 * i := by
  simp only [sh0, List.length_cons, shs_len]; omega
theorem sh0_len9 (L : Nat) : (sh0 L 32).length = 129 := sh0_len L 32
end NRM3
