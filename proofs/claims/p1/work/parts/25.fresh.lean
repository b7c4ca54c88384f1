/-! the heap behind the two constructors, by place -/
theorem xcr_get (q : Nat) : ∀ (n s i : Nat), s < n → i < 7 → (xcr q n)[7 * s + i]? = (xb_X0_init (q + 7 * s))[i]?
  | 0, s, i, hs, hi => by omega
  | n + 1, s, i, hs, hi => by
    rw [xcr_succ]
    by_cases h : s < n
    · rw [List.getElem?_append_left (by rw [xcr_len]; omega), xcr_get q n s i h hi]
    · have e : s = n := by omega
      subst e
      rw [List.getElem?_append_right (by rw [xcr_len]; omega), xcr_len, Nat.add_sub_cancel_left]
def xe0 (g : Nat → XE) : Nat → XE := fun j => if j < 2 then g j else if j < 77 then (xlg 2 64).getD (j - 2) (g j) else if j < 525 then (xb_X0_init (77 + 7 * ((j - 77) / 7))).getD ((j - 77) % 7) (g j) else if j < 538 then (xb_X7_init 525).getD (j - 525) (g j) else g j
def xh0 (g : Nat → XE) : XH := (538, 14048, xe0 g)
theorem xblk2 (g : Nat → XE) (A B : List XE) (s1 s2 n : Nat) (hn : A.length = n) : xblk (xblk (2, 0, g) A s1) B s2 = (2 + n + B.length, 0 + s1 + s2, fun j => if j < 2 + n then (if j < 2 then g j else A.getD (j - 2) (g j)) else B.getD (j - (2 + n)) (if j < 2 then g j else A.getD (j - 2) (g j))) := by
  subst hn
  rfl
theorem xh0_eq (g : Nat → XE) : xblk (xblk (2, 0, g) (xlg 2 64 ++ xcr 77 64) 12784) (xb_X7_init 525) 1264 = xh0 g := by
  have hlen : (xlg 2 64 ++ xcr 77 64).length = 523 := by rw [List.length_append, xcr_len]; rfl
  rw [xblk2 g _ _ _ _ 523 hlen]
  generalize hA : xlg 2 64 ++ xcr 77 64 = A at hlen
  refine Prod.ext rfl (Prod.ext rfl (funext fun j => ?_))
  · show (if j < 2 + 523 then (if j < 2 then g j else A.getD (j - 2) (g j)) else (xb_X7_init 525).getD (j - (2 + 523)) (if j < 2 then g j else A.getD (j - 2) (g j))) = xe0 g j
    unfold xe0
    simp only [List.getD_eq_getElem?_getD]
    by_cases h1 : j < 2
    · rw [if_pos (by omega), if_pos h1, if_pos h1]
    · rw [if_neg h1, if_neg h1]
      by_cases h2 : j < 77
      · rw [if_pos (by omega), if_pos h2, ← hA, List.getElem?_append_left (by show j - 2 < 75; omega)]
      · rw [if_neg h2]
        by_cases h3 : j < 525
        · rw [if_pos (by omega), if_pos h3, ← hA, List.getElem?_append_right (by show 75 ≤ j - 2; omega)]
          have e : j - 2 - (xlg 2 64).length = 7 * ((j - 77) / 7) + (j - 77) % 7 := by
            show j - 2 - 75 = _
            omega
          rw [e, xcr_get 77 64 _ _ (by omega) (by omega)]
        · rw [if_neg (by omega), if_neg h3]
          by_cases h4 : j < 538
          · rw [if_pos h4]
            have hlt : j - 525 < (xb_X7_init 525).length := by show j - 525 < 13; omega
            rw [List.getElem?_eq_getElem hlt]
            rfl
          · rw [if_neg h4, List.getElem?_eq_none (l := xb_X7_init 525) (by show 13 ≤ j - 525; omega), List.getElem?_eq_none (l := A) (by rw [hlen]; omega)]
            rfl
/-! the same rules, of the heap that is left only that P holds -/
def XGp (d : Nat) (M : XMeth) (c : XC) (v : Option Value) (P : XH → Prop) : Prop := ∃ h1, P h1 ∧ XGo d M c v h1
def XCp (d i : Nat) (as : List Value) (h : XH) (v : Option Value) (P : XH → Prop) : Prop := ∃ h1, P h1 ∧ XCall xM d i as h v h1
theorem XCp.to {d i : Nat} {as : List Value} {h h1 : XH} {v : Option Value} (hc : XCall xM d i as h v h1) : XCp d i as h v (fun x => x = h1) := ⟨h1, rfl, hc⟩
theorem XCp.of {d i : Nat} {M : XMeth} {as : List Value} {h : XH} {v : Option Value} {P : XH → Prop} (hM : xM i = some M) (harg : (xarg as).length ≤ xmL M) (k : XGp d M (0, xent M as, [], h) v P) : XCp (d + 1) i as h v P := by
  obtain ⟨h1, p, g⟩ := k
  exact ⟨h1, p, XCall.of hM harg g⟩
theorem XGp.of {d : Nat} {M : XMeth} {c : XC} {v : Option Value} {h1 : XH} (k : XGp d M c v (fun x => x = h1)) : XGo d M c v h1 := by
  obtain ⟨h2, p, g⟩ := k
  exact p ▸ g
theorem XGp.go {d : Nat} {M : XMeth} {v : Option Value} {P : XH → Prop} (n : Nat) {c c2 : XC} (h : ysteps (xmT M) n c = some c2) (k : XGp d M c2 v P) : XGp d M c v P := by
  obtain ⟨h1, p, g⟩ := k
  exact ⟨h1, p, XGo.go n h g⟩
theorem XGp.ifp {d : Nat} {M : XMeth} {Pr : Prop} {i : Decidable Pr} {a b : Nat} {L : XL} {st : List Value} {h : XH} {v : Option Value} {P : XH → Prop} (hp : Pr) (k : XGp d M (a, L, st, h) v P) : XGp d M (@ite Nat Pr i a b, L, st, h) v P := by rw [if_pos hp]; exact k
theorem XGp.ifn {d : Nat} {M : XMeth} {Pr : Prop} {i : Decidable Pr} {a b : Nat} {L : XL} {st : List Value} {h : XH} {v : Option Value} {P : XH → Prop} (hp : ¬ Pr) (k : XGp d M (b, L, st, h) v P) : XGp d M (@ite Nat Pr i a b, L, st, h) v P := by rw [if_neg hp]; exact k
theorem XGp.spl {d : Nat} {M : XMeth} {Pr : Prop} {i : Decidable Pr} {a b : Nat} {L : XL} {st : List Value} {h : XH} {v : Option Value} {P : XH → Prop} (kt : Pr → XGp d M (a, L, st, h) v P) (kf : ¬ Pr → XGp d M (b, L, st, h) v P) : XGp d M (@ite Nat Pr i a b, L, st, h) v P := by
  by_cases hp : Pr
  · exact XGp.ifp hp (kt hp)
  · exact XGp.ifn hp (kf hp)
theorem XGp.iret {d : Nat} {M : XMeth} {pc : Nat} {L : XL} {h : XH} {x y : Int32} {P : XH → Prop} (r : XRow) (hm : xfind (xmT M) pc = some r) (hi : r.2.1 = .ireturn) (ty : FieldType) (hr : xmR M = some ty) (hn : narrow ty (.int x) = .int x) (he : y = x) (hP : P h) : XGp d M (pc, L, [.int x], h) (some (.int y)) P := by
  subst he
  exact ⟨h, hP, XGo.iret r hm hi ty hr hn⟩
theorem XGp.vret {d : Nat} {M : XMeth} {pc : Nat} {L : XL} {h : XH} {P : XH → Prop} (r : XRow) (hm : xfind (xmT M) pc = some r) (hi : r.2.1 = .return_) (hr : xmR M = none) (hP : P h) : XGp d M (pc, L, [], h) none P := ⟨h, hP, XGo.vret r hm hi hr⟩
theorem XGp.aret {d : Nat} {M : XMeth} {pc : Nat} {L : XL} {h : XH} {x : Value} {P : XH → Prop} (r : XRow) (hm : xfind (xmT M) pc = some r) (hi : r.2.1 = .areturn) (n : String) (hr : xmR M = some (.object n)) (hx : x = .null ∨ ∃ k, x = .ref k) (hP : P h) : XGp d M (pc, L, [x], h) (some x) P := ⟨h, hP, XGo.aret r hm hi n hr hx⟩
/-- a call; what the callee leaves is only known by Pc -/
theorem XGp.call {d : Nat} {M : XMeth} {pc : Nat} {L : XL} {st : List Value} {h : XH} {v v1 : Option Value} {P Pc : XH → Prop} (as rest : List Value) (r : XRow) (hm : xfind (xmT M) pc = some r) (M1 : XMeth) (hM1 : xM r.2.2.2.1 = some M1) (hi : xinv r.2.1 (xmK M1) = true) (hst : st = as.reverse ++ rest) (hlen : as.length = xmN M1 + (if xmK M1 = 0 then 0 else 1)) (hrecv : xrecv M1 as h) (hcat : (rest.map fun v => v.category).sum ≤ 8)
    (hc : XCp d r.2.2.2.1 as h v1 Pc) (k : ∀ h2, Pc h2 → XGp d M (pc + 3, L, v1.toList ++ rest, h2) v P) : XGp d M (pc, L, st, h) v P := by
  obtain ⟨h2, p2, g2⟩ := hc
  obtain ⟨h1, p, g⟩ := k h2 p2
  exact ⟨h1, p, XGo.call r hm M1 hM1 hi as rest hst hlen hrecv hcat g2 g⟩
/-- a call whose heap is known -/
theorem XGp.callx {d : Nat} {M : XMeth} {pc : Nat} {L : XL} {st : List Value} {h h2 : XH} {v v1 : Option Value} {P : XH → Prop} (as rest : List Value) (r : XRow) (hm : xfind (xmT M) pc = some r) (M1 : XMeth) (hM1 : xM r.2.2.2.1 = some M1) (hi : xinv r.2.1 (xmK M1) = true) (hst : st = as.reverse ++ rest) (hlen : as.length = xmN M1 + (if xmK M1 = 0 then 0 else 1)) (hrecv : xrecv M1 as h) (hcat : (rest.map fun v => v.category).sum ≤ 8)
    (hc : XCall xM d r.2.2.2.1 as h v1 h2) (k : XGp d M (pc + 3, L, v1.toList ++ rest, h2) v P) : XGp d M (pc, L, st, h) v P := by
  obtain ⟨h1, p, g⟩ := k
  exact ⟨h1, p, XGo.call r hm M1 hM1 hi as rest hst hlen hrecv hcat hc g⟩
theorem XGp.putf {d : Nat} {M : XMeth} {pc k len a b w idx : Nat} {x : Value} {L : XL} {st fs : List Value} {h : XH} {v : Option Value} {P : XH → Prop} (hm : xfind (xmT M) pc = some (pc, .putfield idx, len, a, b, w)) (hh : h.2.2 k = .inl (a, fs)) (hk : k < h.1) (h2 : 2 ≤ k) (hb : b < fs.length) (hf : fits (xty a b) x = true) (hn : narrow (xty a b) x = x) (g : XGp d M (pc + 3, L, st, xup h k (.inl (a, fs.set b x))) v P) : XGp d M (pc, L, x :: .ref k :: st, h) v P := by
  obtain ⟨h1, p, g⟩ := g
  exact ⟨h1, p, XGo.putf hm hh hk h2 hb hf hn g⟩
theorem XGp.iast {d : Nat} {M : XMeth} {pc k n len a b w : Nat} {i x : Int32} {f : Nat → Int32} {L : XL} {st : List Value} {h : XH} {v : Option Value} {P : XH → Prop} (hm : xfind (xmT M) pc = some (pc, .iastore, len, a, b, w)) (hh : h.2.2 k = .inr (.inl (0, n, f))) (hk : k < h.1) (h2 : 2 ≤ k) (hi : ¬ (i < 0 ∨ n ≤ i.toNatClampNeg)) (g : XGp d M (pc + 1, L, st, xup h k (.inr (.inl (0, n, upd f i.toNatClampNeg x)))) v P) : XGp d M (pc, L, .int x :: .int i :: .ref k :: st, h) v P := by
  obtain ⟨h1, p, g⟩ := g
  exact ⟨h1, p, XGo.iast hm hh hk h2 hi g⟩
theorem XGp.iald {d : Nat} {M : XMeth} {pc k len a b w : Nat} {i x : Int32} {L : XL} {st : List Value} {h : XH} {v : Option Value} {P : XH → Prop} (hm : xfind (xmT M) pc = some (pc, .iaload, len, a, b, w)) (hx : xia h 0 k i = some x) (g : XGp d M (pc + 1, L, .int x :: st, h) v P) : XGp d M (pc, L, .int i :: .ref k :: st, h) v P := by
  obtain ⟨h1, p, g⟩ := g
  exact ⟨h1, p, XGo.iald hm hx g⟩
/-- World.grantAt on a new object: there is none -/
theorem f_grantAt (d : Nat) (g : Nat → XE) (h : XH) (fs : List Value) (hw : h.2.2 3 = .inl (5, fs)) (hg : fs[7]? = some (.int 0)) (hk : 3 < h.1) (n : Int32) : XCall xM (d + 1) 58 [.ref 3, .int n] h (some .null) h := by
  refine XCall.of (M := xm_X5_grantAt) rfl (Nat.le_of_ble_eq_true rfl) ?_
  refine XGo.go 2 rfl ?_
  refine XGo.spl (fun h1 => ?_) (fun h1 => ?_)
  · refine XGo.go 1 rfl ?_
    exact XGo.aret _ rfl rfl _ rfl (Or.inl rfl)
  · refine XGo.go 2 rfl ?_
    refine XGo.getf rfl (xfd_o hw hk (by decide) hg) ?_
    refine XGo.go 1 rfl ?_
    refine XGo.ifp (Int32.not_lt.mp h1) ?_
    refine XGo.go 1 rfl ?_
    exact XGo.aret _ rfl rfl _ rfl (Or.inl rfl)
/-- only places below 525 (the LifeGrants) were written -/
def xP (g : Nat → XE) (h : XH) : Prop := h.1 = 538 ∧ h.2.1 = 14048 ∧ ∀ j, 525 ≤ j → h.2.2 j = xe0 g j
theorem xP_0 (g : Nat → XE) : xP g (xh0 g) := ⟨rfl, rfl, fun _ _ => rfl⟩
theorem xP_up {g : Nat → XE} {h : XH} {k : Nat} {e : XE} (hk : k < 525) (hp : xP g h) : xP g (xup h k e) := ⟨hp.1, hp.2.1, fun j hj => by
  show (if j = k then e else h.2.2 j) = _
  rw [if_neg (by omega)]
  exact hp.2.2 j hj⟩
def xhm (u g : Nat → XE) : XH := (538, 14048, fun j => if j < 525 then u j else xe0 g j)
theorem xP_hm {g : Nat → XE} {h : XH} (hp : xP g h) : h = xhm h.2.2 g := by
  refine Prod.ext hp.1 (Prod.ext hp.2.1 (funext fun j => ?_))
  show h.2.2 j = if j < 525 then h.2.2 j else xe0 g j
  by_cases hj : j < 525
  · rw [if_pos hj]
  · rw [if_neg hj]
    exact hp.2.2 j (by omega)
theorem XGp.swo {d : Nat} {M : XMeth} {pc len a b w : Nat} {df lo hi : Int} {offs : Array Int} {x : Int32} {L : XL} {st : List Value} {h : XH} {v : Option Value} {P : XH → Prop} (t : Nat) (hm : xfind (xmT M) pc = some (pc, .tableswitch df lo hi offs, len, a, b, w)) (hx : x.toInt < lo ∨ hi < x.toInt) (h0 : 0 ≤ (pc : Int) + df) (ht : ((pc : Int) + df).toNat = t) (k : XGp d M (t, L, st, h) v P) : XGp d M (pc, L, .int x :: st, h) v P := by
  obtain ⟨h1, p, g⟩ := k
  refine ⟨h1, p, XGo.st _ hm (o := (t, L, st)) ?_ g⟩
  simp only [xst]
  rw [if_pos hx, if_pos h0, ht]
def xin (v lo hi : Int32) : Int32 := if v < lo then 0 else if hi < v then 0 else 1
theorem xin_none {v lo hi : Int32} (h : hi < lo) : xin v lo hi = 0 := by
  unfold xin
  by_cases h1 : v < lo
  · rw [if_pos h1]
  · rw [if_neg h1, if_pos]
    rw [Int32.lt_iff_toInt_lt] at h ⊢
    have := Int32.le_iff_toInt_le.mp (Int32.not_lt.mp h1)
    omega
theorem k_in (d : Nat) (h : XH) (v lo hi : Int32) : XCall xM (d + 1) 107 [.int v, .int lo, .int hi] h (some (.int (xin v lo hi))) h := by
  refine XCall.of (M := xm_X7_in) rfl (Nat.le_of_ble_eq_true rfl) ?_
  refine XGo.go 3 rfl ?_
  unfold xin
  refine XGo.spl (fun h1 => ?_) (fun h1 => ?_)
  · rw [if_pos h1]
    refine XGo.go 1 rfl ?_
    exact XGo.iret _ rfl rfl .boolean rfl rfl
  · rw [if_neg h1]
    refine XGo.go 3 rfl ?_
    refine XGo.spl (fun h2 => ?_) (fun h2 => ?_)
    · rw [if_pos h2]
      refine XGo.go 1 rfl ?_
      exact XGo.iret _ rfl rfl .boolean rfl rfl
    · rw [if_neg h2]
      refine XGo.go 2 rfl ?_
      exact XGo.iret _ rfl rfl .boolean rfl rfl
theorem k_in_none (d : Nat) (h : XH) (v lo hi : Int32) (hh : hi < lo) : XCall xM (d + 1) 107 [.int v, .int lo, .int hi] h (some (.int 0)) h := by
  have := k_in d h v lo hi
  rw [xin_none hh] at this
  exact this
/-- LifeGrantsModel.isGrant, isClause while there are no grants -/
theorem f_isGrant (d : Nat) (h : XH) (fs : List Value) (f : Nat → Int32) (n : Int32) (hw : h.2.2 525 = .inl (7, fs)) (hg : fs[1]? = some (.ref 526)) (hs : h.2.2 526 = .inr (.inl (0, 490, f))) (hf : f 2 = 0) (hk : h.1 = 538) : XCall xM (d + 2) 108 [.ref 525, .int n] h (some (.int 0)) h := by
  refine XCall.of (M := xm_X7_isGrant) rfl (Nat.le_of_ble_eq_true rfl) ?_
  refine XGo.go 3 rfl ?_
  refine XGo.getf rfl (xfd_o hw (by rw [hk]; decide) (by decide) hg) ?_
  refine XGo.go 1 rfl ?_
  refine XGo.iald rfl (xia_i hs (by rw [hk]; decide) (by decide)) ?_
  rw [show f (Int32.ofInt 2).toNatClampNeg = 0 from hf]
  refine XGo.go 2 rfl ?_
  refine XGo.call _ rfl xm_X7_in rfl rfl [.int n, .int _, .int _] [] rfl rfl (fun q => absurd rfl q) (by decide) (k_in_none _ _ _ _ _ (by decide)) ?_
  exact XGo.iret _ rfl rfl .boolean rfl rfl
theorem f_isClause (d : Nat) (h : XH) (fs : List Value) (f : Nat → Int32) (n c : Int32) (hw : h.2.2 525 = .inl (7, fs)) (hg : fs[1]? = some (.ref 526)) (hs : h.2.2 526 = .inr (.inl (0, 490, f))) (hf : f 2 = 0) (hk : h.1 = 538) : XCall xM (d + 3) 109 [.ref 525, .int n, .int c] h (some (.int 0)) h := by
  refine XCall.of (M := xm_X7_isClause) rfl (Nat.le_of_ble_eq_true rfl) ?_
  refine XGo.go 2 rfl ?_
  refine XGo.call _ rfl xm_X7_isGrant rfl rfl [.ref 525, .int n] [] rfl rfl (fun _ => ⟨525, fs, rfl, hw, by decide, by rw [hk]; decide⟩) (by decide) (f_isGrant d h fs f n hw hg hs hf hk) ?_
  refine XGo.go 1 rfl ?_
  refine XGo.ifp (by decide) ?_
  refine XGo.go 1 rfl ?_
  exact XGo.iret _ rfl rfl .boolean rfl rfl
theorem xin_or (v lo hi : Int32) : xin v lo hi = 0 ∨ xin v lo hi = 1 := by
  unfold xin
  split
  · exact Or.inl rfl
  · split
    · exact Or.inl rfl
    · exact Or.inr rfl
theorem XGp.splin {d : Nat} {M : XMeth} {pc : Nat} {v lo hi : Int32} {L : XL} {st : List Value} {h : XH} {r : Option Value} {P : XH → Prop} (k0 : xin v lo hi = 0 → XGp d M (pc, L, .int 0 :: st, h) r P) (k1 : xin v lo hi = 1 → XGp d M (pc, L, .int 1 :: st, h) r P) : XGp d M (pc, L, .int (xin v lo hi) :: st, h) r P := by
  rcases xin_or v lo hi with e | e
  · rw [e]; exact k0 e
  · rw [e]; exact k1 e
theorem k_put_in (d : Nat) (h : XH) (r n : Nat) (f : Nat → Int32) (i x : Int32) (hr : h.2.2 r = .inr (.inl (0, n, f))) (hk : r < h.1) (h2 : 2 ≤ r) (hn : n < 2147483648) (hi : ¬ (i < 0 ∨ n ≤ i.toNatClampNeg)) : XCall xM (d + 1) 103 [.ref r, .int i, .int x] h none (xup h r (.inr (.inl (0, n, upd f i.toNatClampNeg x)))) := by
  have g := k_put d h r n f i x hr hk h2 hn
  rw [if_neg hi] at g
  exact g
/-- World.isPerson, isChild while there is nobody -/
theorem f_isPerson (d : Nat) (h : XH) (fs : List Value) (hw : h.2.2 3 = .inl (5, fs)) (hg : fs[0]? = some (.int 0)) (hk : 3 < h.1) (n : Int32) : XCall xM (d + 1) 55 [.ref 3, .int n] h (some (.int 0)) h := by
  refine XCall.of (M := xm_X5_isPerson) rfl (Nat.le_of_ble_eq_true rfl) ?_
  refine XGo.go 1 rfl ?_
  refine XGo.go 1 rfl ?_
  refine XGo.spl (fun h1 => ?_) (fun h1 => ?_)
  · refine XGo.go 1 rfl ?_
    exact XGo.iret _ rfl rfl .boolean rfl rfl
  · refine XGo.go 2 rfl ?_
    refine XGo.getf rfl (xfd_o hw hk (by decide) hg) ?_
    refine XGo.go 1 rfl ?_
    refine XGo.ifp (Int32.not_lt.mp h1) ?_
    refine XGo.go 1 rfl ?_
    exact XGo.iret _ rfl rfl .boolean rfl rfl
theorem xsub8 {n : Int32} (h : ¬ n < (Int8.ofInt 8).toInt32) : (0 : Int32) ≤ n - (Int8.ofInt 8).toInt32 := by
  have h1 := Int32.le_iff_toInt_le.mp (Int32.not_lt.mp h)
  have h2 : ((Int8.ofInt 8).toInt32).toInt = 8 := by decide
  have h3 := n.toInt_lt
  rw [Int32.le_iff_toInt_le, Jvm.Kit.i32_sub (by omega) (by omega)]
  show (0 : Int) ≤ _
  omega
theorem f_isChild (d : Nat) (h : XH) (fs : List Value) (hw : h.2.2 3 = .inl (5, fs)) (hg : fs[3]? = some (.int 0)) (hk : 3 < h.1) (n : Int32) : XCall xM (d + 1) 56 [.ref 3, .int n] h (some (.int 0)) h := by
  refine XCall.of (M := xm_X5_isChild) rfl (Nat.le_of_ble_eq_true rfl) ?_
  refine XGo.go 3 rfl ?_
  refine XGo.spl (fun h1 => ?_) (fun h1 => ?_)
  · refine XGo.go 1 rfl ?_
    exact XGo.iret _ rfl rfl .boolean rfl rfl
  · refine XGo.go 4 rfl ?_
    refine XGo.getf rfl (xfd_o hw hk (by decide) hg) ?_
    refine XGo.go 1 rfl ?_
    refine XGo.ifp (xsub8 h1) ?_
    refine XGo.go 1 rfl ?_
    exact XGo.iret _ rfl rfl .boolean rfl rfl
/-- LifeGrants.forgetCourses where no course is learnt: nothing changes -/
def xfg (h : XH) : Prop := (∃ fs, h.2.2 2 = .inl (6, fs) ∧ fs[3]? = some (.ref 59)) ∧ (∃ F : Nat → Option Nat, h.2.2 59 = .inr (.inr (2, 64, F)) ∧ ∀ j, j < 64 → F j = some (77 + 7 * j)) ∧ (∀ j, j < 64 → ∃ fs, h.2.2 (77 + 7 * j) = .inl (0, fs) ∧ fs[0]? = some (.int 0)) ∧ h.1 = 538
theorem xup_same {h : XH} {k : Nat} {e : XE} (he : h.2.2 k = e) : xup h k e = h := by
  refine Prod.ext rfl (Prod.ext rfl (funext fun j => ?_))
  show (if j = k then e else h.2.2 j) = h.2.2 j
  by_cases hj : j = k
  · rw [if_pos hj, hj, he]
  · rw [if_neg hj]
theorem f_forget_loop (d : Nat) (h : XH) (hf : xfg h) : ∀ (k n : Nat), n + k = 64 → XGo d xm_X6_forgetCourses (2, [some (.ref 2), some (.int (nI n))], [], h) none h
  | 0, n, hn => by
    have e : n = 64 := by omega
    subst e
    obtain ⟨⟨fs, h1, h2⟩, ⟨F, h3, h4⟩, h5, hk⟩ := hf
    refine XGo.go 2 rfl ?_
    refine XGo.getf rfl (xfd_o h1 (by rw [hk]; decide) (by decide) h2) ?_
    refine XGo.alen rfl (xlen_r h3 (by rw [hk]; decide) (by decide) (Or.inl rfl)) ?_
    refine XGo.go 1 rfl ?_
    refine XGo.ifp (by decide) ?_
    exact XGo.vret _ rfl rfl rfl
  | k + 1, n, hn => by
    have hb : n < 2147483648 := by omega
    have g := f_forget_loop d h hf k (n + 1) (by omega)
    obtain ⟨⟨fs, h1, h2⟩, ⟨F, h3, h4⟩, h5, hk⟩ := hf
    refine XGo.go 2 rfl ?_
    refine XGo.getf rfl (xfd_o h1 (by rw [hk]; decide) (by decide) h2) ?_
    refine XGo.alen rfl (xlen_r h3 (by rw [hk]; decide) (by decide) (Or.inl rfl)) ?_
    refine XGo.go 1 rfl ?_
    refine XGo.ifn (fun q => absurd ((xnI_ge (by decide) hb).mp q) (by omega)) ?_
    refine XGo.go 1 rfl ?_
    refine XGo.getf rfl (xfd_o h1 (by rw [hk]; decide) (by decide) h2) ?_
    refine XGo.go 1 rfl ?_
    refine XGo.aald rfl (xra_r h3 (by rw [hk]; decide) (by decide) (Or.inl rfl) (fun q => q.elim (xnI_lt0 hb) (fun z => by rw [xnI_nat hb] at z; omega))) ?_
    rw [xnI_nat hb, h4 n (by omega)]
    obtain ⟨cs, c1, c2⟩ := h5 n (by omega)
    have cl : 0 < cs.length := (List.getElem?_eq_some_iff.mp c2).1
    refine XGo.go 1 rfl ?_
    refine XGo.putf rfl c1 (by rw [hk]; omega) (by omega) cl rfl rfl ?_
    have e1 : cs.set 0 (.int (Int32.ofInt 0)) = cs := by
      cases cs with
      | nil => cases c2
      | cons a t => cases c2; rfl
    rw [e1, xup_same c1]
    refine XGo.go 2 rfl ?_
    rw [← nI_1] at g
    exact g
theorem f_forget (d : Nat) (h : XH) (hf : xfg h) : XCall xM (d + 1) 96 [.ref 2] h none h := by
  refine XCall.of (M := xm_X6_forgetCourses) rfl (Nat.le_of_ble_eq_true rfl) ?_
  refine XGo.go 2 rfl ?_
  exact f_forget_loop d h hf 64 0 rfl
theorem xfg_0 (g : Nat → XE) : xfg (xh0 g) := by
  refine ⟨⟨_, rfl, rfl⟩, ⟨_, rfl, fun j hj => if_pos hj⟩, fun j hj => ?_, rfl⟩
  refine ⟨[.int 0, .ref (77 + 7 * j + 1), .ref (77 + 7 * j + 2), .ref (77 + 7 * j + 3), .ref (77 + 7 * j + 4), .ref (77 + 7 * j + 5), .ref (77 + 7 * j + 6), .int 0, .int 0, .int 0, .int 0, .int 0], ?_, rfl⟩
  · show xe0 g (77 + 7 * j) = _
    unfold xe0
    rw [if_neg (by omega), if_neg (by omega), if_pos (by omega), show (77 + 7 * j - 77) % 7 = 0 by omega, show (77 + 7 * j - 77) / 7 = j by omega]
    rfl
/-- writing the world leaves that -/
theorem xfg_up {h : XH} {k : Nat} {e : XE} (h1 : 2 < k) (h2 : k < 59) (hf : xfg h) : xfg (xup h k e) := by
  have key : ∀ j, j ≠ k → (xup h k e).2.2 j = h.2.2 j := fun j hj => if_neg hj
  obtain ⟨⟨fs, a1, a2⟩, ⟨F, a3, a4⟩, a5, hk⟩ := hf
  refine ⟨⟨fs, (key 2 (by omega)).trans a1, a2⟩, ⟨F, (key 59 (by omega)).trans a3, a4⟩, fun j hj => ?_, hk⟩
  obtain ⟨cs, c1, c2⟩ := a5 j hj
  exact ⟨cs, (key _ (by omega)).trans c1, c2⟩
theorem f_isThere (d : Nat) (h : XH) (fs : List Value) (f : Nat → Int32) (n : Int32) (hw : h.2.2 525 = .inl (7, fs)) (hg : fs[1]? = some (.ref 526)) (hs : h.2.2 526 = .inr (.inl (0, 490, f))) (hf0 : f 0 = 0) (hf1 : f 1 = 0) (hk : h.1 = 538) : XCall xM (d + 2) 111 [.ref 525, .int n] h (some (.int 0)) h := by
  refine XCall.of (M := xm_X7_isThere) rfl (Nat.le_of_ble_eq_true rfl) ?_
  refine XGo.go 3 rfl ?_
  refine XGo.getf rfl (xfd_o hw (by rw [hk]; decide) (by decide) hg) ?_
  refine XGo.go 1 rfl ?_
  refine XGo.iald rfl (xia_i hs (by rw [hk]; decide) (by decide)) ?_
  rw [show f (Int32.ofInt 0).toNatClampNeg = 0 from hf0]
  refine XGo.go 2 rfl ?_
  refine XGo.call _ rfl xm_X7_in rfl rfl [.int n, .int _, .int _] [] rfl rfl (fun q => absurd rfl q) (by decide) (k_in_none _ _ _ _ _ (by decide)) ?_
  refine XGo.go 1 rfl ?_
  refine XGo.ifp (by decide) ?_
  refine XGo.go 4 rfl ?_
  refine XGo.getf rfl (xfd_o hw (by rw [hk]; decide) (by decide) hg) ?_
  refine XGo.go 1 rfl ?_
  refine XGo.iald rfl (xia_i hs (by rw [hk]; decide) (by decide)) ?_
  rw [show f (Int32.ofInt 1).toNatClampNeg = 0 from hf1]
  refine XGo.go 1 rfl ?_
  refine XGo.call _ rfl xm_X7_in rfl rfl [.int n, .int _, .int _] [] rfl rfl (fun q => absurd rfl q) (by decide) (k_in_none _ _ _ _ _ (by decide)) ?_
  refine XGo.go 1 rfl ?_
  refine XGo.ifp (by decide) ?_
  refine XGo.go 1 rfl ?_
  exact XGo.iret _ rfl rfl .boolean rfl rfl
theorem XGp.top {d : Nat} {M : XMeth} {pc : Nat} {x : Int32} {L : XL} {st : List Value} {h : XH} {r : Option Value} {P : XH → Prop} (y : Int32) (e : x = y) (k : XGp d M (pc, L, .int y :: st, h) r P) : XGp d M (pc, L, .int x :: st, h) r P := by rw [e]; exact k
