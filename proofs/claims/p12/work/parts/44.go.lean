/-! walking over places -/
def xfind (T : List XRow) (pc : Nat) : Option XRow := T.find? fun r => r.1 == pc
theorem xfind_spec {T : List XRow} {pc : Nat} {r : XRow} (h : xfind T pc = some r) : r ∈ T ∧ r.1 = pc := ⟨List.mem_of_find?_eq_some h, by simpa using List.find?_some h⟩
def ystep (T : List XRow) (c : XC) : Option XC := match c with
  | (pc, L, st, h) => match xfind T pc with
    | some (_, ins, _, a, b, _) => match xst ins a b pc L st h with
      | some (q, L1, st1) => some (q, L1, st1, h)
      | none => match xhp ins a b st h with
        | some (n, st1, h1) => some (pc + n, L, st1, h1)
        | none => none
    | none => none
def ysteps (T : List XRow) : Nat → XC → Option XC
  | 0, c => some c
  | n + 1, c => match ystep T c with
    | some c1 => ysteps T n c1
    | none => none
/-- from c on, the frame returns v and leaves h1; calls below it at most d deep -/
def XGo (d : Nat) (M : XMeth) (c : XC) (v : Option Value) (h1 : XH) : Prop := ∃ (n : Nat) (c1 : XC), XRuns xM (XCall xM d) M n c c1 ∧ XRet M c1 v ∧ c1.2.2.2 = h1
theorem XGo.of {d : Nat} {M : XMeth} {c c2 : XC} {v : Option Value} {h1 : XH} (h : XStep xM (XCall xM d) M c c2) (k : XGo d M c2 v h1) : XGo d M c v h1 := by
  obtain ⟨n, c1, a, b⟩ := k
  exact ⟨n + 1, c1, ⟨c2, h, a⟩, b⟩
theorem ystep_of {d : Nat} {M : XMeth} {c c2 : XC} (h : ystep (xmT M) c = some c2) : XStep xM (XCall xM d) M c c2 := by
  obtain ⟨pc, L, st, hh⟩ := c
  simp only [ystep] at h
  split at h
  · rename_i q ins len a b wd hr
    obtain ⟨hm, hp⟩ := xfind_spec hr
    split at h
    · rename_i o1 o2 o3 ho
      cases h
      exact ⟨_, hm, hp, Or.inl ⟨(o1, o2, o3), ho, rfl⟩⟩
    · split at h
      · rename_i o1 o2 o3 ho
        cases h
        exact ⟨_, hm, hp, Or.inr (Or.inl ⟨(o1, o2, o3), ho, rfl⟩)⟩
      · cases h
  · cases h
theorem XGo.go {d : Nat} {M : XMeth} {v : Option Value} {h1 : XH} : ∀ (n : Nat) {c c2 : XC}, ysteps (xmT M) n c = some c2 → XGo d M c2 v h1 → XGo d M c v h1
  | 0, c, c2, h, k => by cases h; exact k
  | n + 1, c, c2, h, k => by
    unfold ysteps at h
    split at h
    · rename_i c3 h3
      exact XGo.of (ystep_of h3) (XGo.go n h k)
    · cases h
/-- one row that leaves the heap, said by hand -/
theorem XGo.st {d : Nat} {M : XMeth} {c : XC} {v : Option Value} {h1 : XH} {o : XO} (r : XRow) (hm : xfind (xmT M) c.1 = some r) (hs : xst r.2.1 r.2.2.2.1 r.2.2.2.2.1 c.1 c.2.1 c.2.2.1 c.2.2.2 = some o) (k : XGo d M (o.1, o.2.1, o.2.2, c.2.2.2) v h1) : XGo d M c v h1 :=
  XGo.of ⟨r, (xfind_spec hm).1, (xfind_spec hm).2, Or.inl ⟨o, hs, rfl⟩⟩ k
theorem XGo.hp {d : Nat} {M : XMeth} {c : XC} {v : Option Value} {h1 : XH} {o : Nat × List Value × XH} (r : XRow) (hm : xfind (xmT M) c.1 = some r) (hs : xhp r.2.1 r.2.2.2.1 r.2.2.2.2.1 c.2.2.1 c.2.2.2 = some o) (k : XGo d M (c.1 + o.1, c.2.1, o.2.1, o.2.2) v h1) : XGo d M c v h1 :=
  XGo.of ⟨r, (xfind_spec hm).1, (xfind_spec hm).2, Or.inr (Or.inl ⟨o, hs, rfl⟩)⟩ k
theorem XGo.call {d : Nat} {M : XMeth} {pc : Nat} {L : XL} {st : List Value} {h h2 : XH} {v v1 : Option Value} {h1 : XH} (r : XRow) (hm : xfind (xmT M) pc = some r) (M1 : XMeth) (hM1 : xM r.2.2.2.1 = some M1) (hi : xinv r.2.1 (xmK M1) = true) (as rest : List Value) (hst : st = as.reverse ++ rest) (hlen : as.length = xmN M1 + (if xmK M1 = 0 then 0 else 1)) (hrecv : xrecv M1 as h) (hcat : (rest.map fun v => v.category).sum ≤ 8)
    (hc : XCall xM d r.2.2.2.1 as h v1 h2) (k : XGo d M (pc + 3, L, v1.toList ++ rest, h2) v h1) : XGo d M (pc, L, st, h) v h1 :=
  XGo.of ⟨r, (xfind_spec hm).1, (xfind_spec hm).2, Or.inr (Or.inr ⟨M1, as, rest, v1, h2, hM1, hi, hst, hlen, hrecv, hcat, hc, rfl⟩)⟩ k
theorem XGo.iret {d : Nat} {M : XMeth} {pc : Nat} {L : XL} {h : XH} {x : Int32} (r : XRow) (hm : xfind (xmT M) pc = some r) (hi : r.2.1 = .ireturn) (ty : FieldType) (hr : xmR M = some ty) (hn : narrow ty (.int x) = .int x) : XGo d M (pc, L, [.int x], h) (some (.int x)) h :=
  ⟨0, _, rfl, ⟨r, (xfind_spec hm).1, (xfind_spec hm).2, Or.inl ⟨hi, x, ty, rfl, rfl, hr, hn⟩⟩, rfl⟩
theorem XGo.vret {d : Nat} {M : XMeth} {pc : Nat} {L : XL} {h : XH} (r : XRow) (hm : xfind (xmT M) pc = some r) (hi : r.2.1 = .return_) (hr : xmR M = none) : XGo d M (pc, L, [], h) none h :=
  ⟨0, _, rfl, ⟨r, (xfind_spec hm).1, (xfind_spec hm).2, Or.inr (Or.inr (Or.inr ⟨hi, rfl, rfl, hr⟩))⟩, rfl⟩
theorem XGo.aret {d : Nat} {M : XMeth} {pc : Nat} {L : XL} {h : XH} {x : Value} (r : XRow) (hm : xfind (xmT M) pc = some r) (hi : r.2.1 = .areturn) (n : String) (hr : xmR M = some (.object n)) (hx : x = .null ∨ ∃ k, x = .ref k) : XGo d M (pc, L, [x], h) (some x) h :=
  ⟨0, _, rfl, ⟨r, (xfind_spec hm).1, (xfind_spec hm).2, Or.inr (Or.inr (Or.inl ⟨hi, x, n, rfl, rfl, hx, hr⟩))⟩, rfl⟩
theorem XGo.lret {d : Nat} {M : XMeth} {pc : Nat} {L : XL} {h : XH} {x : Int64} (r : XRow) (hm : xfind (xmT M) pc = some r) (hi : r.2.1 = .lreturn) (hr : xmR M = some .long) : XGo d M (pc, L, [.long x], h) (some (.long x)) h :=
  ⟨0, _, rfl, ⟨r, (xfind_spec hm).1, (xfind_spec hm).2, Or.inr (Or.inl ⟨hi, x, rfl, rfl, hr⟩)⟩, rfl⟩
theorem XCall.of {d i : Nat} {M : XMeth} {as : List Value} {h h1 : XH} {v : Option Value} (hM : xM i = some M) (harg : (xarg as).length ≤ xmL M) (k : XGo d M (0, xent M as, [], h) v h1) : XCall xM (d + 1) i as h v h1 := by
  obtain ⟨n, c1, a, b, e⟩ := k
  exact ⟨M, n, c1, hM, harg, a, b, e⟩
theorem XGo.ifp {d : Nat} {M : XMeth} {P : Prop} {i : Decidable P} {a b : Nat} {L : XL} {st : List Value} {h h1 : XH} {v : Option Value} (hp : P) (k : XGo d M (a, L, st, h) v h1) : XGo d M (@ite Nat P i a b, L, st, h) v h1 := by rw [if_pos hp]; exact k
theorem XGo.ifn {d : Nat} {M : XMeth} {P : Prop} {i : Decidable P} {a b : Nat} {L : XL} {st : List Value} {h h1 : XH} {v : Option Value} (hp : ¬ P) (k : XGo d M (b, L, st, h) v h1) : XGo d M (@ite Nat P i a b, L, st, h) v h1 := by rw [if_neg hp]; exact k
/-- rows of ints and objects, read and written -/
theorem XGo.alen {d : Nat} {M : XMeth} {pc k n len a b w : Nat} {L : XL} {st : List Value} {h h1 : XH} {v : Option Value} (hm : xfind (xmT M) pc = some (pc, .arraylength, len, a, b, w)) (hx : xlen h k = some n) (g : XGo d M (pc + 1, L, .int (Int32.ofNat n) :: st, h) v h1) : XGo d M (pc, L, .ref k :: st, h) v h1 :=
  XGo.st _ hm (o := (pc + 1, L, .int (Int32.ofNat n) :: st)) (by simp only [xst, hx]) g
theorem XGo.iald {d : Nat} {M : XMeth} {pc k len a b w : Nat} {i x : Int32} {L : XL} {st : List Value} {h h1 : XH} {v : Option Value} (hm : xfind (xmT M) pc = some (pc, .iaload, len, a, b, w)) (hx : xia h 0 k i = some x) (g : XGo d M (pc + 1, L, .int x :: st, h) v h1) : XGo d M (pc, L, .int i :: .ref k :: st, h) v h1 :=
  XGo.st _ hm (o := (pc + 1, L, .int x :: st)) (by simp only [xst, hx]) g
theorem XGo.aald {d : Nat} {M : XMeth} {pc k len a b w : Nat} {i : Int32} {x : Option Nat} {L : XL} {st : List Value} {h h1 : XH} {v : Option Value} (hm : xfind (xmT M) pc = some (pc, .aaload, len, a, b, w)) (hx : xra h k i = some x) (g : XGo d M (pc + 1, L, va_rf x :: st, h) v h1) : XGo d M (pc, L, .int i :: .ref k :: st, h) v h1 :=
  XGo.st _ hm (o := (pc + 1, L, va_rf x :: st)) (by simp only [xst, hx]) g
theorem XGo.getf {d : Nat} {M : XMeth} {pc k len a b w idx : Nat} {x : Value} {L : XL} {st : List Value} {h h1 : XH} {v : Option Value} (hm : xfind (xmT M) pc = some (pc, .getfield idx, len, a, b, w)) (hx : xfd h k a b = some x ∧ a < 98) (g : XGo d M (pc + 3, L, x :: st, h) v h1) : XGo d M (pc, L, .ref k :: st, h) v h1 :=
  XGo.st _ hm (o := (pc + 3, L, x :: st)) (by simp only [xst, if_neg (Nat.ne_of_lt hx.2), hx.1]) g
theorem XGo.putf {d : Nat} {M : XMeth} {pc k len a b w idx : Nat} {x : Value} {L : XL} {st fs : List Value} {h h1 : XH} {v : Option Value} (hm : xfind (xmT M) pc = some (pc, .putfield idx, len, a, b, w)) (hh : h.2.2 k = .inl (a, fs)) (hk : k < h.1) (h2 : 13 ≤ k) (hb : b < fs.length) (hf : fits (xty a b) x = true) (hn : narrow (xty a b) x = x) (g : XGo d M (pc + 3, L, st, xup h k (.inl (a, fs.set b x))) v h1) : XGo d M (pc, L, x :: .ref k :: st, h) v h1 :=
  XGo.hp _ hm (o := (3, st, xup h k (.inl (a, fs.set b x)))) (by simp only [xhp, hh]; rw [if_pos ⟨hk, h2, trivial, hb, hf, hn⟩]) g
theorem XGo.iast {d : Nat} {M : XMeth} {pc k n len a b w : Nat} {i x : Int32} {f : Nat → Int32} {L : XL} {st : List Value} {h h1 : XH} {v : Option Value} (hm : xfind (xmT M) pc = some (pc, .iastore, len, a, b, w)) (hh : h.2.2 k = .inr (.inl (0, n, f))) (hk : k < h.1) (h2 : 13 ≤ k) (hi : ¬ (i < 0 ∨ n ≤ i.toNatClampNeg)) (g : XGo d M (pc + 1, L, st, xup h k (.inr (.inl (0, n, upd f i.toNatClampNeg x)))) v h1) : XGo d M (pc, L, .int x :: .int i :: .ref k :: st, h) v h1 :=
  XGo.hp _ hm (o := (1, st, xup h k (.inr (.inl (0, n, upd f i.toNatClampNeg x))))) (by simp only [xhp, hh]; rw [if_pos ⟨hk, h2, trivial, hi⟩]) g
theorem xlen_i {h : XH} {k n t : Nat} {f : Nat → Int32} (hh : h.2.2 k = .inr (.inl (t, n, f))) (hk : k < h.1) (ht : t < 2) : xlen h k = some n := by simp [xlen, hh, hk, ht]
theorem xlen_r {h : XH} {k n t : Nat} {f : Nat → Option Nat} (hh : h.2.2 k = .inr (.inr (t, n, f))) (hk : k < h.1) (h2 : 13 ≤ k) (ht : t = 2 ∨ t = 3) : xlen h k = some n := by simp [xlen, hh, hk, h2, ht]
theorem xia_i {h : XH} {k n t : Nat} {f : Nat → Int32} {i : Int32} (hh : h.2.2 k = .inr (.inl (t, n, f))) (hk : k < h.1) (hi : ¬ (i < 0 ∨ n ≤ i.toNatClampNeg)) : xia h t k i = some (f i.toNatClampNeg) := by
  unfold xia
  rw [hh]
  exact if_pos ⟨hk, rfl, hi⟩
theorem xra_r {h : XH} {k n t : Nat} {f : Nat → Option Nat} {i : Int32} (hh : h.2.2 k = .inr (.inr (t, n, f))) (hk : k < h.1) (h2 : 13 ≤ k) (ht : t = 2 ∨ t = 3) (hi : ¬ (i < 0 ∨ n ≤ i.toNatClampNeg)) : xra h k i = some (f i.toNatClampNeg) := by
  unfold xra
  rw [hh]
  exact if_pos ⟨hk, h2, ht, hi⟩
theorem xfd_o {h : XH} {k ci b : Nat} {fs : List Value} {v : Value} (hh : h.2.2 k = .inl (ci, fs)) (hk : k < h.1) (h2 : 13 ≤ k) (hv : fs[b]? = some v) (hc : ci < 98 := by decide) : xfd h k ci b = some v ∧ ci < 98 := by
  refine ⟨?_, hc⟩
  unfold xfd
  rw [hh]
  exact (if_pos ⟨hk, h2, rfl⟩).trans hv
theorem xnI_ge {m n : Nat} (hm : m < 2147483648) (hn : n < 2147483648) : Int32.ofNat m ≤ nI n ↔ m ≤ n := by
  rw [Int32.le_iff_toInt_le, show (Int32.ofNat m).toInt = m from nI_toInt hm, nI_toInt hn]
  omega
theorem xnI_nat {n : Nat} (hn : n < 2147483648) : (nI n).toNatClampNeg = n := by
  show (nI n).toInt.toNat = n
  rw [nI_toInt hn]
  omega
theorem xnI_lt0 {n : Nat} (hn : n < 2147483648) : ¬ nI n < 0 := by
  rw [Int32.lt_iff_toInt_lt, nI_toInt hn]
  simp
theorem xup_up (h : XH) (k : Nat) (e e2 : XE) : xup (xup h k e) k e2 = xup h k e2 := by
  refine Prod.ext rfl (Prod.ext rfl (funext fun j => ?_))
  show (if j = k then e2 else if j = k then e else h.2.2 j) = if j = k then e2 else h.2.2 j
  split <;> rfl
theorem xup_ne (h : XH) {k j : Nat} (e : XE) (hj : ¬ j = k) : (xup h k e).2.2 j = h.2.2 j := if_neg hj
theorem xup_eq (h : XH) (k : Nat) (e : XE) : (xup h k e).2.2 k = e := if_pos rfl
