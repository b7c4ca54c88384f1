theorem XGp.same {d : Nat} {M : XMeth} {pc k : Nat} {e : XE} {L : XL} {st : List Value} {h : XH} {r : Option Value} {P : XH → Prop} (he : h.2.2 k = e) (g : XGp d M (pc, L, st, h) r P) : XGp d M (pc, L, st, xup h k e) r P := by rw [xup_same he]; exact g
theorem XGo.same {d : Nat} {M : XMeth} {pc k : Nat} {e : XE} {L : XL} {st : List Value} {h h1 : XH} {r : Option Value} (he : h.2.2 k = e) (g : XGo d M (pc, L, st, h) r h1) : XGo d M (pc, L, st, xup h k e) r h1 := by rw [xup_same he]; exact g
theorem xupd0 (k : Nat) : upd (fun _ => 0) k 0 = fun _ => 0 := by
  funext j
  unfold upd
  split <;> rfl
theorem xup_up {h : XH} {k : Nat} {e e2 : XE} : xup (xup h k e) k e2 = xup h k e2 := by
  refine Prod.ext rfl (Prod.ext rfl (funext fun j => ?_))
  show (if j = k then e2 else if j = k then e else h.2.2 j) = if j = k then e2 else h.2.2 j
  by_cases hj : j = k
  · rw [if_pos hj, if_pos hj]
  · rw [if_neg hj, if_neg hj, if_neg hj]
/-- LifeGrants.fill -/
theorem k_fill_loop (d : Nat) (r n : Nat) (x : Int32) (h2 : 2 ≤ r) (hn : n < 2147483648) : ∀ (k j : Nat) (h : XH) (f : Nat → Int32), j + k = n → h.2.2 r = .inr (.inl (0, n, f)) → r < h.1 → XGo d xm_X6_fill (2, [some (.ref r), some (.int x), some (.int (nI j))], [], h) none (xup h r (.inr (.inl (0, n, fun i => if j ≤ i ∧ i < n then x else f i))))
  | 0, j, h, f, hj, hr, hk => by
    have e : j = n := by omega
    subst e
    refine XGo.go 2 rfl ?_
    refine XGo.alen rfl (xlen_i hr hk (by decide)) ?_
    refine XGo.go 1 rfl ?_
    refine XGo.ifp ((xnI_ge hn hn).mpr (Nat.le_refl _)) ?_
    rw [xup_same]
    · exact XGo.vret _ rfl rfl rfl
    · have e : (fun i => if j ≤ i ∧ i < j then x else f i) = f := by
        funext i
        rw [if_neg (by omega)]
      rw [e, hr]
  | k + 1, j, h, f, hj, hr, hk => by
    have hb : j < 2147483648 := by omega
    refine XGo.go 2 rfl ?_
    refine XGo.alen rfl (xlen_i hr hk (by decide)) ?_
    refine XGo.go 1 rfl ?_
    refine XGo.ifn (fun q => absurd ((xnI_ge hn hb).mp q) (by omega)) ?_
    refine XGo.go 3 rfl ?_
    refine XGo.iast rfl hr hk h2 (fun q => q.elim (xnI_lt0 hb) (fun z => by rw [xnI_nat hb] at z; omega)) ?_
    refine XGo.go 2 rfl ?_
    have g := k_fill_loop d r n x h2 hn k (j + 1) (xup h r (.inr (.inl (0, n, upd f (nI j).toNatClampNeg x)))) (upd f (nI j).toNatClampNeg x) (by omega) (if_pos rfl) hk
    rw [xup_up] at g
    have e : (fun i => if j + 1 ≤ i ∧ i < n then x else upd f (nI j).toNatClampNeg x i) = fun i => if j ≤ i ∧ i < n then x else f i := by
      funext i
      rw [xnI_nat hb]
      unfold upd
      by_cases a : i = j
      · rw [if_neg (by omega), if_pos a, if_pos (by omega)]
      · by_cases b : j + 1 ≤ i ∧ i < n
        · rw [if_pos b, if_pos (by omega)]
        · rw [if_neg b, if_neg a, if_neg (by omega)]
    rw [e, ← nI_1] at g
    exact g
theorem k_fill (d : Nat) (h : XH) (r n : Nat) (f : Nat → Int32) (x : Int32) (hr : h.2.2 r = .inr (.inl (0, n, f))) (hk : r < h.1) (h2 : 2 ≤ r) (hn : n < 2147483648) : XCall xM (d + 1) 105 [.ref r, .int x] h none (xup h r (.inr (.inl (0, n, fun i => if 0 ≤ i ∧ i < n then x else f i)))) := by
  refine XCall.of (M := xm_X6_fill) rfl (Nat.le_of_ble_eq_true rfl) ?_
  refine XGo.go 2 rfl ?_
  exact k_fill_loop d r n x h2 hn n 0 h f (by omega) hr hk
theorem k_fill0 (d : Nat) (h : XH) (r n : Nat) (hr : h.2.2 r = .inr (.inl (0, n, fun _ => 0))) (hk : r < h.1) (h2 : 2 ≤ r) (hn : n < 2147483648) : XCall xM (d + 1) 105 [.ref r, .int (Int32.ofInt 0)] h none h := by
  have g := k_fill d h r n (fun _ => 0) (Int32.ofInt 0) hr hk h2 hn
  have e : (fun i => if 0 ≤ i ∧ i < n then Int32.ofInt 0 else 0) = fun _ : Nat => (0 : Int32) := by
    funext i
    split <;> rfl
  rw [e, xup_same hr] at g
  exact g
/-- LifeGrants.copy of rows of noughts -/
theorem XGo.min {d : Nat} {M : XMeth} {pc len b w idx : Nat} {x y : Int32} {L : XL} {st : List Value} {h h1 : XH} {v : Option Value} (hm : xfind (xmT M) pc = some (pc, .invokestatic idx, len, 996, b, w)) (hc : (st.map fun v => v.category).sum ≤ 8) (g : XGo d M (pc + 3, L, .int (if y < x then y else x) :: st, h) v h1) : XGo d M (pc, L, .int y :: .int x :: st, h) v h1 :=
  XGo.hp _ hm (o := (3, .int (if y < x then y else x) :: st, h)) (by simp only [xhp]; rw [if_neg (by decide), if_pos trivial, if_pos hc]) g
theorem k_copy0 (d : Nat) (h : XH) (a b n : Nat) (ha : h.2.2 a = .inr (.inl (0, n, fun _ => 0))) (hb : h.2.2 b = .inr (.inl (0, n, fun _ => 0))) (hka : a < h.1) (h2a : 2 ≤ a) (hkb : b < h.1) (h2b : 2 ≤ b) (hn : n < 2147483648) : XCall xM (d + 1) 104 [.ref a, .ref b] h none h := by
  refine XCall.of (M := xm_X6_copy) rfl (Nat.le_of_ble_eq_true rfl) ?_
  refine XGo.go 5 rfl ?_
  refine XGo.alen rfl (xlen_i ha hka (by decide)) ?_
  refine XGo.go 1 rfl ?_
  refine XGo.alen rfl (xlen_i hb hkb (by decide)) ?_
  refine XGo.min rfl (Nat.le_of_ble_eq_true rfl) ?_
  have hl : ¬ Int32.ofNat n < 0 := xnI_lt0 hn
  have hN : (Int32.ofNat n).toNatClampNeg = n := xnI_nat hn
  rw [show (if Int32.ofNat n < Int32.ofNat n then Int32.ofNat n else Int32.ofNat n) = Int32.ofNat n by split <;> rfl]
  refine XGo.hp (o := (3, [], xup h b (.inr (.inl (0, n, va_cpy (fun _ => 0) (fun _ => 0) (Int32.ofInt 0).toNatClampNeg (Int32.ofInt 0).toNatClampNeg (Int32.ofNat n).toNatClampNeg))))) (11, .invokestatic 285, 3, 998, 0, 472) rfl ?_ ?_
  · simp only [xhp, ha, hb]
    have q1 : (Int32.ofInt 0).toNatClampNeg + (Int32.ofNat n).toNatClampNeg ≤ n := by rw [hN]; show 0 + n ≤ n; omega
    have q2 : ¬ Int32.ofInt 0 < 0 := by decide
    rw [if_pos trivial, if_pos ⟨hkb, h2b, hka, h2a, trivial, trivial, q2, q2, hl, q1, q1, by decide⟩]
  · have e : va_cpy (fun _ => (0 : Int32)) (fun _ => 0) (Int32.ofInt 0).toNatClampNeg (Int32.ofInt 0).toNatClampNeg (Int32.ofNat n).toNatClampNeg = fun _ => 0 := by
      funext i
      unfold va_cpy
      split <;> rfl
    rw [e]
    refine XGo.same hb ?_
    exact XGo.vret _ rfl rfl rfl
