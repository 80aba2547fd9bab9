section NRM
theorem x_heap {l : Launch} {E : EE} {M : MRec} {d mc ms : Nat} {post : Outc → HP → Prop} {pc : Nat} {lv : LVs} {st : List Value} {h h' : HP} {cu su : Nat} (e : h = h') (kk : XX l E M d mc ms post pc lv st h' cu su) : XX l E M d mc ms post pc lv st h cu su := e ▸ kk
theorem x_norm {l : Launch} {E : EE} {M : MRec} {d mc ms : Nat} {post : Outc → HP → Prop} {pc : Nat} {lv lv' : LVs} {st st' : List Value} {h h' : HP} {cu su cu' su' : Nat} (e1 : lv = lv') (e2 : st = st') (e : h = h') (e3 : cu = cu') (e4 : su = su') (kk : XX l E M d mc ms post pc lv' st' h' cu' su') : XX l E M d mc ms post pc lv st h cu su := by
  subst e1 e2 e e3 e4
  exact kk
theorem stt_app {h t : HP} {a : Nat} {e e0 : PEnt} (ha : ob h a = some e0) : stt (h ++ t) a e = stt h a e ++ t := by
  obtain ⟨-, h2⟩ := ob_at ha
  exact List.set_append_left (a - 32) _ (List.getElem?_eq_some_iff.mp h2).1
theorem stt_stt {h : HP} {a : Nat} {e e' : PEnt} : stt (stt h a e) a e' = stt h a e' := List.set_set _
theorem stt_last {h : HP} {e e' : PEnt} : stt (h ++ [some e]) (32 + h.length) e' = h ++ [some e'] := by
  unfold stt
  rw [Nat.add_sub_cancel_left, List.set_append_right _ _ (Nat.le_refl _), Nat.sub_self]
  rfl
theorem stt_id {h : HP} {a : Nat} {e : PEnt} (ha : ob h a = some e) : stt h a e = h := by
  obtain ⟨-, h2⟩ := ob_at ha
  exact List.ext_getElem? (fun i => by
    unfold stt
    by_cases q : a - 32 = i
    · subst q
      rw [List.getElem?_set_self (List.getElem?_eq_some_iff.mp h2).1, h2]
    · rw [List.getElem?_set_ne q])
/-- an object in the middle of being made: it lies in h, and t was made since -/
theorem ob_mid {h t : HP} {a : Nat} {e e0 : PEnt} (ha : ob h a = some e0) : ob (stt h a e ++ t) a = some e := ob_app t (ob_self ha)
theorem stt_mid {h t : HP} {a : Nat} {e e' e0 : PEnt} (ha : ob h a = some e0) : stt (stt h a e ++ t) a e' = stt h a e' ++ t := by
  rw [stt_app (ob_self ha), stt_stt]
theorem len_mid {h t : HP} {a : Nat} {e : PEnt} : (stt h a e ++ t).length = h.length + t.length := by rw [List.length_append, stt_len]
/-- an object made among t, then written -/
theorem ob_mid2 {h t : HP} {a b k : Nat} {e e1 : PEnt} (hb : b = 32 + (h.length + k)) (hk : t[k]? = some (some e1)) : ob (stt h a e ++ t) b = some e1 := by
  subst hb
  unfold ob
  rw [if_neg (by omega), show 32 + (h.length + k) - 32 = h.length + k by omega, List.getElem?_append_right (by rw [stt_len]; omega), stt_len, Nat.add_sub_cancel_left, hk]
  rfl
theorem stt_mid2 {h t : HP} {a b k : Nat} {e e' : PEnt} (hb : b = 32 + (h.length + k)) : stt (stt h a e ++ t) b e' = stt h a e ++ t.set k (some e') := by
  subst hb
  unfold stt
  rw [show 32 + (h.length + k) - 32 = (h.set (a - 32) (some e)).length + k by rw [List.length_set]; omega, List.set_append_right _ _ (by omega), Nat.add_sub_cancel_left]
end NRM
