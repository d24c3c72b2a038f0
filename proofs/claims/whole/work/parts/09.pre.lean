
section
variable {D : GD} {d mc ms : Nat} {u : MD} {kc ks pc : Nat} {lv : List (Nat × Value)} {st : List Value} {M : Mm} {post : Option Value → Mm → Prop}
theorem ab_aald4j {a n r j : Nat} {i : Int32} (hd : decode u.2.1 pc = .ok (.aaload, 1)) (hs : Sh M a (4, n)) (hin : vp_in i n) (hj : i.toNatClampNeg = j) (hr : gP M a j = some r) (kk : AW D d mc ms u kc ks (pc + 1) lv (.ref r :: st) M post) : AW D d mc ms u kc ks pc lv (.int i :: .ref a :: st) M post := by subst hj; exact ab_aald4 hd hs.1 hs.2 hin hr kk
theorem ab_aald5j {a n r j : Nat} {i : Int32} (hd : decode u.2.1 pc = .ok (.aaload, 1)) (hs : Sh M a (5, n)) (hin : vp_in i n) (hj : i.toNatClampNeg = j) (hr : gP M a j = some r) (kk : AW D d mc ms u kc ks (pc + 1) lv (.ref r :: st) M post) : AW D d mc ms u kc ks pc lv (.int i :: .ref a :: st) M post := by subst hj; exact ab_aald5 hd hs.1 hs.2 hin hr kk
theorem ab_aald6j {a n j : Nat} {i : Int32} (hd : decode u.2.1 pc = .ok (.aaload, 1)) (hs : Sh M a (6, n)) (hin : vp_in i n) (hj : i.toNatClampNeg = j) (kk : AW D d mc ms u kc ks (pc + 1) lv (va_rf (gP M a j) :: st) M post) : AW D d mc ms u kc ks pc lv (.int i :: .ref a :: st) M post := by subst hj; exact ab_aald6 hd hs.1 hs.2 hin kk
theorem ab_alenv {a t n : Nat} {v : Int32} (hd : decode u.2.1 pc = .ok (.arraylength, 1)) (hs : Sh M a (t, n)) (h1t : 1 ≤ t) (h6t : t ≤ 6) (hv : Int32.ofNat n = v) (kk : AW D d mc ms u kc ks (pc + 1) lv (.int v :: st) M post) : AW D d mc ms u kc ks pc lv (.ref a :: st) M post := by subst hv; exact ab_alen hd hs.1 hs.2 h1t h6t kk
theorem ab_rv (k : AW D d mc ms u kc ks pc lv st M post) : AW D d mc ms u kc ks pc lv ((none : Option Value).toList ++ st) M post := k
theorem ab_rs {v : Value} (k : AW D d mc ms u kc ks pc lv (v :: st) M post) : AW D d mc ms u kc ks pc lv ((some v).toList ++ st) M post := k
end
theorem nar_z {v : Int32} (h : v = 0 ∨ v = 1) : narrow .boolean (.int v) = .int v := by rcases h with rfl | rfl <;> rfl
