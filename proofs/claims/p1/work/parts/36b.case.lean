section CAS
set_option maxRecDepth 10000 in
theorem law_found_x {l : Launch} {E : EE} (hl : l.stackTraces = false) (nm : String) {L : Nat} {xs : Nat → Int32} (hx : E.2.2.2.2 0 = some (L, xs)) {iv : Int32} (hi : vp_in (iv + Int32.ofInt 1) L) {h : HP} {fs fr : List Value} {g g16 : Int32} {c15 : Nat → Int32} {r15 n15 : Nat} (ha : ob h 32 = some (.inr (14, fs))) (e18 : fs[18]? = some (.int g)) (hb : ob h 277 = some (.inr (15, fr))) (hn : fr.length = 135) (e16 : fr[16]? = some (.int g16)) (e15 : fr[15]? = some (.ref r15)) (o15 : ob h r15 = some (.inl (0, n15, .inl c15)))
    (hs : f_X12_in ((xs (iv + Int32.ofInt 1).toNatClampNeg).toInt64) (Int64.ofNat ((0 : Fin 2) : Nat)) ((g16 - (Int32.ofInt 1)).toInt64) = 0) (q : (xs (iv + Int32.ofInt 1).toNatClampNeg) < 0 ∨ ¬ (xs (iv + Int32.ofInt 1).toNatClampNeg) < g) {post : Outc → HP → Prop} {v5 v6 v7 : Option Value} {cu su : Nat} (hcu : cu + 1 ≤ 342628) (hsu : su + 6 ≤ 8074320)
    (k : ∀ n : Nat, XX l E (M_law nm) 1312 342628 8074320 post 2449 [some (.ref 0), some (.ref 32), some (.ref 277), some (.ref 359), some (.int iv), some (.int 1), some (.int (f_X12_found g16 c15 (xs (iv + Int32.ofInt 1).toNatClampNeg))), v7] [] (stt (h ++ List.replicate n none) 277 (.inr (15, F_X12_found fr g16 c15 (xs (iv + Int32.ofInt 1).toNatClampNeg)))) (cu + 1) (su + 6)) : XX l E (M_law nm) 1312 342628 8074320 post 1881 [some (.ref 0), some (.ref 32), some (.ref 277), some (.ref 359), some (.int iv), v5, v6, v7] [] h cu su := by
  have hV : f_X12_thrown (V0_X12_found g16 c15 (xs (iv + Int32.ofInt 1).toNatClampNeg)) = 1 := by
    unfold f_X12_thrown V0_X12_found
    rw [if_pos hs]
    decide +kernel
  refine x_aload_n (M := M_law nm) dL_law_1881 rfl ?_
  refine x_aload_n (M := M_law nm) dL_law_1882 rfl ?_
  refine x_iload (M := M_law nm) dL_law_1883 rfl ?_
  refine x_iconst (M := M_law nm) dL_law_1885 ?_
  refine x_iadd (M := M_law nm) dL_law_1886 ?_
  refine x_sald (M := M_law nm) dL_law_1887 (by decide) hx hi ?_
  refine x_aload_n (M := M_law nm) dL_law_1888 rfl ?_
  refine x_callSW (M := M_law nm) (M' := M_L_found) rfl rfl dL_law_1889 m_L_found t_2270 t_2271 [.ref 32, .int (xs (iv + Int32.ofInt 1).toNatClampNeg), .ref 359] rfl rfl (Nat.le_of_ble_eq_true rfl) (p_L_found_x hl ha e18 q) (Nat.le_of_ble_eq_true rfl) hcu hsu (fun N h' hp => nomatch hp.1) (fun v h' hp => ?_)
  obtain ⟨e1, n, rfl⟩ := hp
  cases e1
  refine x_istore (M := M_law nm) dL_law_1892 (Nat.le_of_ble_eq_true rfl) rfl ?_
  refine x_aload_n (M := M_law nm) dL_law_1894 rfl ?_
  refine x_aload_n (M := M_law nm) dL_law_1895 rfl ?_
  refine x_iload (M := M_law nm) dL_law_1896 rfl ?_
  refine x_iconst (M := M_law nm) dL_law_1898 ?_
  refine x_iadd (M := M_law nm) dL_law_1899 ?_
  refine x_sald (M := M_law nm) dL_law_1900 (by decide) hx hi ?_
  refine x_callVR (M := M_law nm) (M' := M_X12_found) rfl rfl dL_law_1901 m_X12_found t_3146 t_3147 t_3148 (p_X12_found hl (ob_app _ hb) hn e16 e15 (ob_app _ o15) (fun q9 _ => absurd hs q9) (fun _ q9 => absurd q9 (by decide +kernel))) rfl rfl (ob_app _ hb) rfl (Nat.le_of_ble_eq_true rfl) (Nat.le_of_ble_eq_true rfl) hcu hsu ?_
  refine x_istore (M := M_law nm) dL_law_1904 (Nat.le_of_ble_eq_true rfl) rfl ?_
  refine x_aload_n (M := M_law nm) dL_law_1906 rfl ?_
  refine x_callVR (M := M_law nm) (M' := M_X12_thrown) rfl rfl dL_law_1907 m_X12_thrown t_2797 t_2798 t_2799 (p_X12_thrown hl (ob_self (ob_app _ hb)) (v0_X12_found hn e16)) rfl rfl (ob_self (ob_app _ hb)) rfl (Nat.le_of_ble_eq_true rfl) (Nat.le_of_ble_eq_true rfl) hcu hsu ?_
  refine x_iload (M := M_law nm) dL_law_1910 rfl ?_
  refine x_icmp_eq (M := M_law nm) (tgt := 1917) dL_law_1912 (by decide) (fun _ => ?_) (fun q9 => absurd hV q9)
  refine x_iload (M := M_law nm) dL_law_1917 rfl ?_
  refine x_if_ne (M := M_law nm) (tgt := 1934) dL_law_1919 (by decide) (fun _ => ?_) (fun q9 => absurd q9 (by decide +kernel))
  refine x_goto (M := M_law nm) (tgt := 2449) dL_law_1934 (by decide) ?_
  exact x_norm rfl rfl rfl rfl rfl (k n)
end CAS
