/-! a heap with a block of new places behind it -/
def xblk (h : XH) (A : List XE) (sl : Nat) : XH := (h.1 + A.length, h.2.1 + sl, fun j => if j < h.1 then h.2.2 j else A.getD (j - h.1) (h.2.2 j))
theorem xblk_at {h : XH} {A : List XE} {sl i : Nat} {e : XE} (hA : A[i]? = some e) : (xblk h A sl).2.2 (h.1 + i) = e := by
  show (if h.1 + i < h.1 then _ else A.getD (h.1 + i - h.1) _) = e
  rw [if_neg (by omega), Nat.add_sub_cancel_left, List.getD_eq_getElem?_getD, hA]
  rfl
theorem xblk_new (h : XH) (A : List XE) (sl n : Nat) (e : XE) : xnew (xblk h A sl) n e = xblk h (A ++ [e]) (sl + n) := by
  refine Prod.ext ?_ (Prod.ext ?_ (funext fun j => ?_))
  · show h.1 + A.length + 1 = h.1 + (A ++ [e]).length
    rw [List.length_append]; rfl
  · show h.2.1 + sl + n = h.2.1 + (sl + n)
    omega
  · show (if j = h.1 + A.length then e else if j < h.1 then h.2.2 j else A.getD (j - h.1) (h.2.2 j)) = if j < h.1 then h.2.2 j else (A ++ [e]).getD (j - h.1) (h.2.2 j)
    by_cases h1 : j < h.1
    · rw [if_neg (by omega), if_pos h1, if_pos h1]
    · rw [if_neg h1, if_neg h1]
      simp only [List.getD_eq_getElem?_getD]
      by_cases h2 : j = h.1 + A.length
      · rw [if_pos h2, List.getElem?_append_right (by omega), show j - h.1 - A.length = 0 by omega]
        rfl
      · rw [if_neg h2]
        by_cases h3 : j - h.1 < A.length
        · rw [List.getElem?_append_left h3]
        · rw [List.getElem?_eq_none (by omega), List.getElem?_eq_none (by simp; omega)]
theorem xblk_new0 (h : XH) (n : Nat) (e : XE) : xnew h n e = xblk h [e] n := by
  have h0 : xblk h [] 0 = h := by
    refine Prod.ext rfl (Prod.ext rfl (funext fun j => ?_))
    show (if j < h.1 then h.2.2 j else h.2.2 j) = h.2.2 j
    split <;> rfl
  have := xblk_new h [] 0 n e
  rw [h0] at this
  rw [this, Nat.zero_add]
  rfl
theorem xblk_up {h : XH} {A : List XE} {sl i : Nat} (e : XE) (hi : i < A.length) : xup (xblk h A sl) (h.1 + i) e = xblk h (A.set i e) sl := by
  refine Prod.ext ?_ (Prod.ext rfl (funext fun j => ?_))
  · show h.1 + A.length = h.1 + (A.set i e).length
    rw [List.length_set]
  · show (if j = h.1 + i then e else if j < h.1 then h.2.2 j else A.getD (j - h.1) (h.2.2 j)) = if j < h.1 then h.2.2 j else (A.set i e).getD (j - h.1) (h.2.2 j)
    simp only [List.getD_eq_getElem?_getD]
    by_cases h1 : j = h.1 + i
    · rw [if_pos h1, if_neg (by omega), show j - h.1 = i by omega, List.getElem?_set_self hi]
      rfl
    · rw [if_neg h1]
      by_cases h2 : j < h.1
      · rw [if_pos h2, if_pos h2]
      · rw [if_neg h2, if_neg h2, List.getElem?_set_ne (by omega)]
theorem xblk_app (h : XH) (A B : List XE) (s1 s2 : Nat) : xblk (xblk h A s1) B s2 = xblk h (A ++ B) (s1 + s2) := by
  refine Prod.ext ?_ (Prod.ext ?_ (funext fun j => ?_))
  · show h.1 + A.length + B.length = h.1 + (A ++ B).length
    rw [List.length_append]; omega
  · show h.2.1 + s1 + s2 = h.2.1 + (s1 + s2)
    omega
  · show (if j < h.1 + A.length then (if j < h.1 then h.2.2 j else A.getD (j - h.1) (h.2.2 j)) else B.getD (j - (h.1 + A.length)) (if j < h.1 then h.2.2 j else A.getD (j - h.1) (h.2.2 j))) = if j < h.1 then h.2.2 j else (A ++ B).getD (j - h.1) (h.2.2 j)
    simp only [List.getD_eq_getElem?_getD]
    by_cases h1 : j < h.1
    · rw [if_pos (by omega), if_pos h1, if_pos h1]
    · rw [if_neg h1, if_neg h1]
      by_cases h2 : j < h.1 + A.length
      · rw [if_pos h2, List.getElem?_append_left (by omega)]
      · rw [if_neg h2, List.getElem?_append_right (by omega), show j - (h.1 + A.length) = j - h.1 - A.length by omega, List.getElem?_eq_none (l := A) (by omega)]
        rfl
theorem XGo.spl {d : Nat} {M : XMeth} {P : Prop} {i : Decidable P} {a b : Nat} {L : XL} {st : List Value} {h h1 : XH} {v : Option Value} (kt : P → XGo d M (a, L, st, h) v h1) (kf : ¬ P → XGo d M (b, L, st, h) v h1) : XGo d M (@ite Nat P i a b, L, st, h) v h1 := by
  by_cases hp : P
  · exact XGo.ifp hp (kt hp)
  · exact XGo.ifn hp (kf hp)
theorem XGo.putB {d : Nat} {M : XMeth} {pc len a b w idx sl : Nat} {x : Value} {L : XL} {st fs : List Value} {h h1 : XH} {A : List XE} {v : Option Value} (i : Nat) (hm : xfind (xmT M) pc = some (pc, .putfield idx, len, a, b, w)) (hA : A[i]? = some (.inl (a, fs))) (h2 : 13 ≤ h.1) (hb : b < fs.length) (hf : fits (xty a b) x = true) (hn : narrow (xty a b) x = x) (g : XGo d M (pc + 3, L, st, xblk h (A.set i (.inl (a, fs.set b x))) sl) v h1) : XGo d M (pc, L, x :: .ref (h.1 + i) :: st, xblk h A sl) v h1 := by
  have hi : i < A.length := (List.getElem?_eq_some_iff.mp hA).1
  refine XGo.putf hm (xblk_at hA) (by show h.1 + i < h.1 + A.length; omega) (by omega) hb hf hn ?_
  rw [xblk_up _ hi]
  exact g
theorem XGo.newB {d : Nat} {M : XMeth} {pc len a b w idx sl : Nat} {L : XL} {st : List Value} {h h1 : XH} {A : List XE} {v : Option Value} (hm : xfind (xmT M) pc = some (pc, .new idx, len, a, b, w)) (g : XGo d M (pc + 3, L, .ref (h.1 + A.length) :: st, xblk h (A ++ [.inl (a, xdef a)]) (sl + xnum a)) v h1) : XGo d M (pc, L, st, xblk h A sl) v h1 := by
  refine XGo.hp _ hm (o := (3, .ref (h.1 + A.length) :: st, xnew (xblk h A sl) (xnum a) (.inl (a, xdef a)))) rfl ?_
  rw [xblk_new]
  exact g
theorem XGo.naB {d : Nat} {M : XMeth} {pc len a b w sl : Nat} {ty : ArrayType} {n : Int32} {L : XL} {st : List Value} {h h1 : XH} {A : List XE} {v : Option Value} (hm : xfind (xmT M) pc = some (pc, .newarray ty, len, a, b, w)) (hn : ¬ n < 0 ∧ n.toNatClampNeg ≤ 1000) (N : Nat) (hN : n.toNatClampNeg = N) (g : XGo d M (pc + 2, L, .ref (h.1 + A.length) :: st, xblk h (A ++ [.inr (.inl (b, N, fun _ => 0))]) (sl + N)) v h1) : XGo d M (pc, L, .int n :: st, xblk h A sl) v h1 := by
  subst hN
  refine XGo.hp _ hm (o := (2, .ref (h.1 + A.length) :: st, xnew (xblk h A sl) n.toNatClampNeg (.inr (.inl (b, n.toNatClampNeg, fun _ => 0))))) (if_pos hn) ?_
  rw [xblk_new]
  exact g
theorem XGo.nrB {d : Nat} {M : XMeth} {pc len a b w sl idx : Nat} {n : Int32} {L : XL} {st : List Value} {h h1 : XH} {A : List XE} {v : Option Value} (hm : xfind (xmT M) pc = some (pc, .anewarray idx, len, a, b, w)) (hn : ¬ n < 0 ∧ n.toNatClampNeg ≤ 1000) (N : Nat) (hN : n.toNatClampNeg = N) (g : XGo d M (pc + 3, L, .ref (h.1 + A.length) :: st, xblk h (A ++ [.inr (.inr (b, N, fun _ => none))]) (sl + N)) v h1) : XGo d M (pc, L, .int n :: st, xblk h A sl) v h1 := by
  subst hN
  refine XGo.hp _ hm (o := (3, .ref (h.1 + A.length) :: st, xnew (xblk h A sl) n.toNatClampNeg (.inr (.inr (b, n.toNatClampNeg, fun _ => none))))) (if_pos hn) ?_
  rw [xblk_new]
  exact g
theorem XGo.getB {d : Nat} {M : XMeth} {pc len a b w idx sl : Nat} {x : Value} {L : XL} {st fs : List Value} {h h1 : XH} {A : List XE} {v : Option Value} (i : Nat) (hm : xfind (xmT M) pc = some (pc, .getfield idx, len, a, b, w)) (hA : A[i]? = some (.inl (a, fs))) (h2 : 13 ≤ h.1) (hx : fs[b]? = some x) (ha : a < 98) (g : XGo d M (pc + 3, L, x :: st, xblk h A sl) v h1) : XGo d M (pc, L, .ref (h.1 + i) :: st, xblk h A sl) v h1 := by
  have hi : i < A.length := (List.getElem?_eq_some_iff.mp hA).1
  exact XGo.getf hm (xfd_o (xblk_at hA) (by show h.1 + i < h.1 + A.length; omega) (by omega) hx ha) g
theorem XGo.aastB {d : Nat} {M : XMeth} {pc len a b w sl t n ci : Nat} {j : Int32} {f : Nat → Option Nat} {fs : List Value} {L : XL} {st : List Value} {h h1 : XH} {A : List XE} {v : Option Value} (i i2 : Nat) (hm : xfind (xmT M) pc = some (pc, .aastore, len, a, b, w)) (hA : A[i]? = some (.inr (.inr (t, n, f)))) (hB : A[i2]? = some (.inl (ci, fs))) (h2 : 13 ≤ h.1) (ht : t = 2 ∧ ci = 0 ∨ t = 3 ∧ ci = 1) (hj : ¬ (j < 0 ∨ n ≤ j.toNatClampNeg)) (g : XGo d M (pc + 1, L, st, xblk h (A.set i (.inr (.inr (t, n, va_up f j.toNatClampNeg (some (h.1 + i2)))))) sl) v h1) : XGo d M (pc, L, .ref (h.1 + i2) :: .int j :: .ref (h.1 + i) :: st, xblk h A sl) v h1 := by
  have hi : i < A.length := (List.getElem?_eq_some_iff.mp hA).1
  have hi2 : i2 < A.length := (List.getElem?_eq_some_iff.mp hB).1
  refine XGo.hp _ hm (o := (1, st, xup (xblk h A sl) (h.1 + i) (.inr (.inr (t, n, va_up f j.toNatClampNeg (some (h.1 + i2))))))) ?_ ?_
  · simp only [xhp, xblk_at hA, xblk_at hB]
    have q1 : h.1 + i < (xblk h A sl).1 := by show h.1 + i < h.1 + A.length; omega
    have q2 : h.1 + i2 < (xblk h A sl).1 := by show h.1 + i2 < h.1 + A.length; omega
    have q3 : 13 ≤ h.1 + i := by omega
    have q4 : 13 ≤ h.1 + i2 := by omega
    exact if_pos ⟨q1, q3, q2, q4, ht, hj⟩
  · rw [xblk_up _ hi]
    exact g
/-- a constructor called on what was just made -/
theorem XGo.iniB {d : Nat} {M : XMeth} {pc sl s1 s2 : Nat} {L : XL} {st : List Value} {h h1 : XH} {A : List XE} {e : XE} {v : Option Value} (r : XRow) (hm : xfind (xmT M) pc = some r) (M1 : XMeth) (hM1 : xM r.2.2.2.1 = some M1) (hi : xinv r.2.1 (xmK M1) = true) (hn : xmN M1 = 0) (hk : xmK M1 = 2) (hcat : (st.map fun v => v.category).sum ≤ 8) (h2 : 13 ≤ h.1) (fs : List Value) (he : e = .inl (xmC M1, fs)) (B : Nat → List XE)
    (hc : ∀ h0 : XH, 13 ≤ h0.1 → XCall xM d r.2.2.2.1 [.ref h0.1] (xblk h0 [e] s1) none (xblk h0 (B h0.1) s2)) (g : XGo d M (pc + 3, L, st, xblk h (A ++ B (h.1 + A.length)) (sl + s2)) v h1) : XGo d M (pc, L, .ref (h.1 + A.length) :: st, xblk h (A ++ [e]) (sl + s1)) v h1 := by
  have hq := hc (xblk h A sl) (Nat.le_trans h2 (Nat.le_add_right _ _))
  rw [xblk_app, xblk_app] at hq
  refine XGo.call r hm M1 hM1 hi [.ref (h.1 + A.length)] st rfl (by rw [hn, hk]; rfl) (fun _ => ⟨h.1 + A.length, fs, rfl, ?_, by omega, ?_⟩) hcat hq g
  · rw [xblk_at (e := e) (by rw [List.getElem?_append_right (Nat.le_refl _), Nat.sub_self]; rfl), he]
  · show h.1 + A.length < h.1 + (A ++ [e]).length
    simp
theorem XGo.alenB {d : Nat} {M : XMeth} {pc len a b w sl t n : Nat} {f : Nat → Option Nat} {L : XL} {st : List Value} {h h1 : XH} {A : List XE} {v : Option Value} (i : Nat) (hm : xfind (xmT M) pc = some (pc, .arraylength, len, a, b, w)) (hA : A[i]? = some (.inr (.inr (t, n, f)))) (h2 : 13 ≤ h.1) (ht : t = 2 ∨ t = 3) (g : XGo d M (pc + 1, L, .int (Int32.ofNat n) :: st, xblk h A sl) v h1) : XGo d M (pc, L, .ref (h.1 + i) :: st, xblk h A sl) v h1 := by
  have hi : i < A.length := (List.getElem?_eq_some_iff.mp hA).1
  have q1 : h.1 + i < (xblk h A sl).1 := by show h.1 + i < h.1 + A.length; omega
  have q3 : 13 ≤ h.1 + i := by omega
  exact XGo.alen hm (xlen_r (xblk_at hA) q1 q3 ht) g
