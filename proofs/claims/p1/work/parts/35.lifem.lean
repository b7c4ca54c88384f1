theorem xin_nar (v lo hi : Int32) : narrow .boolean (.int (xin v lo hi)) = .int (xin v lo hi) := by
  rcases xin_or v lo hi with e | e <;> (rw [e]; rfl)
def xV (N n : Nat) : XE := .inr (.inl (0, N, fun i => if i < n then (Int8.ofInt 99).toInt32 else 0))
def xhv (u g : Nat → XE) (n : Nat) : XH := xup (xup (xup (xhm u g) 528 (xV 14 n)) 529 (xV 14 n)) 530 (xV 14 n)
def xhw (u g : Nat → XE) (n : Nat) : XH := xup (xhv u g 14) 531 (xV 4 n)
theorem xV_0 (N : Nat) : xV N 0 = .inr (.inl (0, N, fun _ => 0)) := by
  unfold xV
  congr 3
theorem xV_upd (n : Nat) : upd (fun i => if i < n then (Int8.ofInt 99).toInt32 else 0) n (Int8.ofInt 99).toInt32 = fun i => if i < n + 1 then (Int8.ofInt 99).toInt32 else 0 := by
  funext j
  unfold upd
  by_cases a : j = n
  · rw [if_pos a, if_pos (by omega)]
  · rw [if_neg a]
    dsimp only
    by_cases b : j < n
    · rw [if_pos b, if_pos (by omega)]
    · rw [if_neg b, if_neg (by omega)]
theorem xhv_0 (u g : Nat → XE) : xhv u g 0 = xhm u g := by
  unfold xhv
  rw [xV_0, xup_same (h := xhm u g) (k := 528) (e := .inr (.inl (0, 14, fun _ => 0))) rfl, xup_same (h := xhm u g) (k := 529) (e := .inr (.inl (0, 14, fun _ => 0))) rfl, xup_same (h := xhm u g) (k := 530) (e := .inr (.inl (0, 14, fun _ => 0))) rfl]
theorem xhw_0 (u g : Nat → XE) : xhw u g 0 = xhv u g 14 := by
  unfold xhw
  rw [xV_0, xup_same (h := xhv u g 14) (k := 531) (e := .inr (.inl (0, 4, fun _ => 0))) rfl]
theorem xup3 (h : XH) (a b c a1 b1 c1 : XE) : xup (xup (xup (xup (xup (xup h 528 a) 529 b) 530 c) 528 a1) 529 b1) 530 c1 = xup (xup (xup h 528 a1) 529 b1) 530 c1 := by
  refine Prod.ext rfl (Prod.ext rfl (funext fun j => ?_))
  show (if j = 530 then c1 else if j = 529 then b1 else if j = 528 then a1 else if j = 530 then c else if j = 529 then b else if j = 528 then a else h.2.2 j) = if j = 530 then c1 else if j = 529 then b1 else if j = 528 then a1 else h.2.2 j
  by_cases h1 : j = 530
  · rw [if_pos h1, if_pos h1]
  · by_cases h2 : j = 529
    · rw [if_neg h1, if_pos h2, if_neg h1, if_pos h2]
    · by_cases h3 : j = 528
      · rw [if_neg h1, if_neg h2, if_pos h3, if_neg h1, if_neg h2, if_pos h3]
      · rw [if_neg h1, if_neg h2, if_neg h3, if_neg h1, if_neg h2, if_neg h3, if_neg h1, if_neg h2, if_neg h3]
theorem xhv_succ (u g : Nat → XE) (n : Nat) (hb : n < 2147483648) : xup (xup (xup (xhv u g n) 528 (.inr (.inl (0, 14, upd (fun i => if i < n then (Int8.ofInt 99).toInt32 else 0) (nI n).toNatClampNeg (Int8.ofInt 99).toInt32)))) 529 (.inr (.inl (0, 14, upd (fun i => if i < n then (Int8.ofInt 99).toInt32 else 0) (nI n).toNatClampNeg (Int8.ofInt 99).toInt32)))) 530 (.inr (.inl (0, 14, upd (fun i => if i < n then (Int8.ofInt 99).toInt32 else 0) (nI n).toNatClampNeg (Int8.ofInt 99).toInt32))) = xhv u g (n + 1) := by
  rw [xnI_nat hb, xV_upd]
  exact xup3 _ _ _ _ _ _ _
theorem g_years_loop (d : Nat) (u g : Nat → XE) : ∀ (k n : Nat) (j3 : Option Value), n + k = 41 → XGo d xm_X7_lives (75, [some (.ref 525), some (.int 0), some (.int (nI n)), j3], [], xhw u g 4) none (xhw u g 4)
  | 0, n, j3, hn => by
    have e : n = 41 := by omega
    subst e
    refine XGp.of ?_
    refine XGp.go 3 rfl ?_
    refine XGp.ifp (by decide) ?_
    exact XGp.vret _ rfl rfl rfl rfl
  | k + 1, n, j3, hn => by
    have hb : n < 2147483648 := by omega
    refine XGp.of ?_
    refine XGp.go 3 rfl ?_
    refine XGp.ifn (fun q => by rw [Int32.lt_iff_toInt_lt, nI_toInt hb, show ((Int8.ofInt 40).toInt32).toInt = 40 by decide] at q; omega) ?_
    refine XGp.go 7 rfl ?_
    refine XGp.go 1 rfl ?_
    refine XGp.ifp (by decide) ?_
    refine XGp.go 2 rfl ?_
    have gg := g_years_loop d u g k (n + 1) (some (.int (Int32.ofInt 0))) (by omega)
    rw [← nI_1] at gg
    exact ⟨_, rfl, gg⟩
theorem g_deeds_loop (d : Nat) (u g : Nat → XE) : ∀ (k n : Nat), n + k = 4 → XGo d xm_X7_lives (54, [some (.ref 525), some (.int 0), some (.int (nI n)), none], [], xhw u g n) none (xhw u g 4)
  | 0, n, hn => by
    have e : n = 4 := by omega
    subst e
    refine XGp.of ?_
    refine XGp.go 3 rfl ?_
    refine XGp.ifp (by decide) ?_
    refine XGp.go 2 rfl ?_
    exact ⟨_, rfl, g_years_loop d u g 40 1 none rfl⟩
  | k + 1, n, hn => by
    have hb : n < 2147483648 := by omega
    have hc : ¬ (nI n < 0 ∨ 4 ≤ (nI n).toNatClampNeg) := fun q => q.elim (xnI_lt0 hb) (fun z => by rw [xnI_nat hb] at z; omega)
    refine XGp.of ?_
    refine XGp.go 3 rfl ?_
    refine XGp.ifn (fun q => absurd ((xnI_ge (m := 4) (by decide) hb).mp q) (by omega)) ?_
    refine XGp.go 4 rfl ?_
    refine XGp.iast rfl (f := fun i => if i < n then (Int8.ofInt 99).toInt32 else 0) rfl (Nat.le_of_ble_eq_true rfl) (Nat.le_of_ble_eq_true rfl) hc ?_
    rw [xnI_nat hb, xV_upd]
    refine XGp.go 2 rfl ?_
    have gg := g_deeds_loop d u g k (n + 1) (by omega)
    rw [← nI_1] at gg
    unfold xhw
    rw [xup_up]
    exact ⟨_, rfl, gg⟩
theorem g_born_loop (d : Nat) (u g : Nat → XE) : ∀ (k n : Nat), n + k = 14 → XGo d xm_X7_lives (2, [some (.ref 525), some (.int 0), some (.int (nI n)), none], [], xhv u g n) none (xhw u g 4)
  | 0, n, hn => by
    have e : n = 14 := by omega
    subst e
    refine XGp.of ?_
    refine XGp.go 3 rfl ?_
    refine XGp.ifp (by decide) ?_
    refine XGp.go 2 rfl ?_
    have gg := g_deeds_loop d u g 4 0 rfl
    rw [xhw_0] at gg
    exact ⟨_, rfl, gg⟩
  | k + 1, n, hn => by
    have hb : n < 2147483648 := by omega
    have hc : ¬ (nI n < 0 ∨ 14 ≤ (nI n).toNatClampNeg) := fun q => q.elim (xnI_lt0 hb) (fun z => by rw [xnI_nat hb] at z; omega)
    refine XGp.of ?_
    refine XGp.go 3 rfl ?_
    refine XGp.ifn (fun q => absurd ((xnI_ge (m := 14) (by decide) hb).mp q) (by omega)) ?_
    refine XGp.go 8 rfl ?_
    refine XGp.go 1 rfl ?_
    refine XGp.ifp (Int32.not_lt.mp (xnI_lt0 hb)) ?_
    refine XGp.go 1 rfl ?_
    refine XGp.iast rfl (f := fun i => if i < n then (Int8.ofInt 99).toInt32 else 0) rfl (Nat.le_of_ble_eq_true rfl) (Nat.le_of_ble_eq_true rfl) hc ?_
    refine XGp.go 4 rfl ?_
    refine XGp.iast rfl (f := fun i => if i < n then (Int8.ofInt 99).toInt32 else 0) rfl (Nat.le_of_ble_eq_true rfl) (Nat.le_of_ble_eq_true rfl) hc ?_
    refine XGp.go 4 rfl ?_
    refine XGp.iast rfl (f := fun i => if i < n then (Int8.ofInt 99).toInt32 else 0) rfl (Nat.le_of_ble_eq_true rfl) (Nat.le_of_ble_eq_true rfl) hc ?_
    rw [xhv_succ u g n hb]
    refine XGp.go 2 rfl ?_
    have gg := g_born_loop d u g k (n + 1) (by omega)
    rw [← nI_1] at gg
    exact ⟨_, rfl, gg⟩
theorem g_lives (d : Nat) (u g : Nat → XE) : XCall xM (d + 1) 116 [.ref 525, .int 0] (xhm u g) none (xhw u g 4) := by
  refine XCall.of (M := xm_X7_lives) rfl (Nat.le_of_ble_eq_true rfl) (XGp.of ?_)
  refine XGp.go 2 rfl ?_
  have gg := g_born_loop d u g 14 0 rfl
  rw [xhv_0] at gg
  exact ⟨_, rfl, gg⟩
theorem g_m_isCourse (d : Nat) (u g : Nat → XE) (v : Int32) : XCall xM (d + 2) 110 [.ref 525, .int v] (xhm u g) (some (.int (xin v 0 0))) (xhm u g) := by
  refine XCall.of (M := xm_X7_isCourse) rfl (Nat.le_of_ble_eq_true rfl) (XGp.of ?_)
  refine XGp.go 7 rfl ?_
  refine XGp.top 0 (by simp [upd]) ?_
  refine XGp.go 3 rfl ?_
  refine XGp.callx [.int v, .int _, .int _] _ _ rfl xm_X7_in rfl rfl rfl rfl (fun q => absurd rfl q) (Nat.le_of_ble_eq_true rfl) (k_in _ _ _ _ _) ?_
  exact XGp.iret _ rfl rfl .boolean rfl (xin_nar _ _ _) rfl rfl
theorem g_m_lastLife (d : Nat) (u g : Nat → XE) : XCall xM (d + 1) 155 [.ref 525] (xhw u g 4) (some (.int (-1))) (xhw u g 4) := by
  refine XCall.of (M := xm_X7_lastLife) rfl (Nat.le_of_ble_eq_true rfl) (XGp.of ?_)
  refine XGp.go 9 rfl ?_
  refine XGp.go 1 rfl ?_
  refine XGp.ifp (by decide) ?_
  refine XGp.go 1 rfl ?_
  exact XGp.iret _ rfl rfl .int rfl rfl (by decide) rfl
theorem f_m_measure (d : Nat) (u g : Nat → XE) (c : Int32) : XCp (d + 5) 159 [.ref 525, .int c] (xhm u g) (some (.int (a_measure c))) (fun _ => True) := by
  refine XCp.of (M := xm_X7_measure) rfl (Nat.le_of_ble_eq_true rfl) ?_
  refine XGp.go 2 rfl ?_
  refine XGp.callx [.ref 525, .int c] _ _ rfl xm_X7_isCourse rfl rfl rfl rfl (fun _ => ⟨525, _, rfl, rfl, Nat.le_of_ble_eq_true rfl, Nat.le_of_ble_eq_true rfl⟩) (Nat.le_of_ble_eq_true rfl) (g_m_isCourse _ u g c) ?_
  refine XGp.splin (fun hb => ?_) (fun hb => ?_)
  · refine XGp.go 1 rfl ?_
    refine XGp.ifp (by decide) ?_
    refine XGp.go 1 rfl ?_
    exact XGp.iret _ rfl rfl .int rfl rfl ((if_pos hb).trans rfl) trivial
  · obtain rfl := xin_00 hb
    refine XGp.go 1 rfl ?_
    refine XGp.ifn (by decide) ?_
    refine XGp.go 2 rfl ?_
    refine XGp.callx [.ref 525, .int 0] _ _ rfl xm_X7_lives rfl rfl rfl rfl (fun _ => ⟨525, _, rfl, rfl, Nat.le_of_ble_eq_true rfl, Nat.le_of_ble_eq_true rfl⟩) (Nat.le_of_ble_eq_true rfl) (g_lives _ u g) ?_
    refine XGp.go 1 rfl ?_
    refine XGp.callx [.ref 525] _ _ rfl xm_X7_lastLife rfl rfl rfl rfl (fun _ => ⟨525, _, rfl, rfl, Nat.le_of_ble_eq_true rfl, Nat.le_of_ble_eq_true rfl⟩) (Nat.le_of_ble_eq_true rfl) (g_m_lastLife _ u g) ?_
    refine XGp.go 4 rfl ?_
    refine XGp.ifp (by decide) ?_
    refine XGp.go 2 rfl ?_
    exact XGp.iret _ rfl rfl .int rfl rfl (by decide) trivial
/-- a value of the row of noughts and nines -/
theorem xV_at {n : Nat} {i : Int32} (hn : i.toNatClampNeg < n) : (fun i => if i < n then (Int8.ofInt 99).toInt32 else 0) i.toNatClampNeg = (99 : Int32) := by
  show (if i.toNatClampNeg < n then (Int8.ofInt 99).toInt32 else 0) = 99
  rw [if_pos hn]
  decide
theorem x99 {y : Int32} (hy : xin y 0 40 = 1) : y < 99 := by
  have b := Int32.le_iff_toInt_le.mp (xin_1 hy).2
  have c1 : (99 : Int32).toInt = 99 := by decide
  have c2 : (40 : Int32).toInt = 40 := by decide
  rw [Int32.lt_iff_toInt_lt]
  omega
theorem g_m_isAlive (d : Nat) (u g : Nat → XE) (p y : Int32) (hp : xin p 0 13 = 1) (hy : xin y 0 40 = 1) : XCall xM (d + 1) 117 [.ref 525, .int p, .int y] (xhw u g 4) (some (.int 0)) (xhw u g 4) := by
  have hn : p.toNatClampNeg < 14 := by have := xin_nat (n := 13) hp (by decide); omega
  have hc : ¬ (p < 0 ∨ 14 ≤ p.toNatClampNeg) := fun q => q.elim (xin_1 hp).1 (fun z => by omega)
  refine XCall.of (M := xm_X7_isAlive) rfl (Nat.le_of_ble_eq_true rfl) (XGp.of ?_)
  refine XGp.go 3 rfl ?_
  refine XGp.iald rfl (xia_i (f := fun i => if i < 14 then (Int8.ofInt 99).toInt32 else 0) rfl (Nat.le_of_ble_eq_true rfl) hc) ?_
  refine XGp.top 99 (xV_at hn) ?_
  refine XGp.go 2 rfl ?_
  refine XGp.ifp (x99 hy) ?_
  refine XGp.go 1 rfl ?_
  exact XGp.iret _ rfl rfl .boolean rfl rfl rfl rfl
theorem XGp.swl {d : Nat} {M : XMeth} {pc len a b w : Nat} {df : Int} {ps : Array (Int × Int)} {x : Int32} {L : XL} {st : List Value} {h : XH} {v : Option Value} {P : XH → Prop} (t : Nat) (hm : xfind (xmT M) pc = some (pc, .lookupswitch df ps, len, a, b, w)) (h0 : 0 ≤ (pc : Int) + Op.lookupswitch.offset ps.toList df x.toInt) (ht : ((pc : Int) + Op.lookupswitch.offset ps.toList df x.toInt).toNat = t) (k : XGp d M (t, L, st, h) v P) : XGp d M (pc, L, .int x :: st, h) v P := by
  obtain ⟨h1, p, g⟩ := k
  refine ⟨h1, p, XGo.st _ hm (o := (t, L, st)) ?_ g⟩
  simp only [xst]
  rw [if_pos h0, ht]
theorem f_m_life (d : Nat) (u g : Nat → XE) (p c y w : Int32) : XCp (d + 5) 119 [.ref 525, .int p, .int c, .int y, .int w] (xhm u g) (some (.int (a_life p c y w))) (fun _ => True) := by
  refine XCp.of (M := xm_X7_life) rfl (Nat.le_of_ble_eq_true rfl) ?_
  refine XGp.go 3 rfl ?_
  refine XGp.callx [.int p, .int _, .int _] _ _ rfl xm_X7_in rfl rfl rfl rfl (fun q => absurd rfl q) (Nat.le_of_ble_eq_true rfl) (k_in _ _ _ _ _) ?_
  refine XGp.splin (fun hp => ?_) (fun hp => ?_)
  · have hp : xin p 0 13 = 0 := hp
    refine XGp.go 1 rfl ?_
    refine XGp.ifp (by decide) ?_
    refine XGp.go 1 rfl ?_
    exact XGp.iret _ rfl rfl .int rfl rfl ((if_pos hp).trans rfl) trivial
  have hp : xin p 0 13 = 1 := hp
  have np : ¬ xin p 0 13 = 0 := by rw [hp]; decide
  refine XGp.go 1 rfl ?_
  refine XGp.ifn (by decide) ?_
  refine XGp.go 3 rfl ?_
  refine XGp.callx [.int w, .int _, .int _] _ _ rfl xm_X7_in rfl rfl rfl rfl (fun q => absurd rfl q) (Nat.le_of_ble_eq_true rfl) (k_in _ _ _ _ _) ?_
  refine XGp.splin (fun hw => ?_) (fun hw => ?_)
  · have hw : xin w 0 2 = 0 := hw
    refine XGp.go 1 rfl ?_
    refine XGp.ifp (by decide) ?_
    refine XGp.go 1 rfl ?_
    exact XGp.iret _ rfl rfl .int rfl rfl (((if_neg np).trans (if_pos hw)).trans rfl) trivial
  have hw : xin w 0 2 = 1 := hw
  have nw : ¬ xin w 0 2 = 0 := by rw [hw]; decide
  refine XGp.go 1 rfl ?_
  refine XGp.ifn (by decide) ?_
  refine XGp.go 2 rfl ?_
  refine XGp.callx [.ref 525, .int c] _ _ rfl xm_X7_isCourse rfl rfl rfl rfl (fun _ => ⟨525, _, rfl, rfl, Nat.le_of_ble_eq_true rfl, Nat.le_of_ble_eq_true rfl⟩) (Nat.le_of_ble_eq_true rfl) (g_m_isCourse _ u g c) ?_
  refine XGp.splin (fun hb => ?_) (fun hb => ?_)
  · refine XGp.go 1 rfl ?_
    refine XGp.ifp (by decide) ?_
    refine XGp.go 1 rfl ?_
    exact XGp.iret _ rfl rfl .int rfl rfl (((if_neg np).trans ((if_neg nw).trans (if_pos hb))).trans rfl) trivial
  obtain rfl := xin_00 hb
  have nb : ¬ xin 0 0 0 = 0 := by decide
  refine XGp.go 1 rfl ?_
  refine XGp.ifn (by decide) ?_
  refine XGp.go 3 rfl ?_
  refine XGp.callx [.int y, .int _, .int _] _ _ rfl xm_X7_in rfl rfl rfl rfl (fun q => absurd rfl q) (Nat.le_of_ble_eq_true rfl) (k_in _ _ _ _ _) ?_
  refine XGp.splin (fun hy => ?_) (fun hy => ?_)
  · have hy : xin y 0 40 = 0 := hy
    refine XGp.go 1 rfl ?_
    refine XGp.ifp (by decide) ?_
    refine XGp.go 1 rfl ?_
    exact XGp.iret _ rfl rfl .int rfl rfl (((if_neg np).trans ((if_neg nw).trans ((if_neg nb).trans (if_pos hy)))).trans rfl) trivial
  have hy : xin y 0 40 = 1 := hy
  have ny : ¬ xin y 0 40 = 0 := by rw [hy]; decide
  have hn : p.toNatClampNeg < 14 := by have := xin_nat (n := 13) hp (by decide); omega
  have hc : ¬ (p < 0 ∨ 14 ≤ p.toNatClampNeg) := fun q => q.elim (xin_1 hp).1 (fun z => by omega)
  refine XGp.go 1 rfl ?_
  refine XGp.ifn (by decide) ?_
  refine XGp.go 2 rfl ?_
  refine XGp.callx [.ref 525, .int 0] _ _ rfl xm_X7_lives rfl rfl rfl rfl (fun _ => ⟨525, _, rfl, rfl, Nat.le_of_ble_eq_true rfl, Nat.le_of_ble_eq_true rfl⟩) (Nat.le_of_ble_eq_true rfl) (g_lives _ u g) ?_
  have tr : a_life p 0 y w = if w = 1 then -5 else 0 := (if_neg np).trans ((if_neg nw).trans ((if_neg nb).trans (if_neg ny)))
  rw [tr]
  refine XGp.go 1 rfl ?_
  rcases x_w2 hw with rfl | rfl | rfl
  · refine XGp.swl 76 rfl (by decide) (by decide) ?_
    refine XGp.go 3 rfl ?_
    refine XGp.callx [.ref 525, .int p, .int y] _ _ rfl xm_X7_isAlive rfl rfl rfl rfl (fun _ => ⟨525, _, rfl, rfl, Nat.le_of_ble_eq_true rfl, Nat.le_of_ble_eq_true rfl⟩) (Nat.le_of_ble_eq_true rfl) (g_m_isAlive _ u g p y hp hy) ?_
    refine XGp.go 1 rfl ?_
    refine XGp.ifp (by decide) ?_
    refine XGp.go 1 rfl ?_
    exact XGp.iret _ rfl rfl .int rfl rfl (by decide) trivial
  · refine XGp.swl 91 rfl (by decide) (by decide) ?_
    refine XGp.go 3 rfl ?_
    refine XGp.iald rfl (xia_i (f := fun i => if i < 14 then (Int8.ofInt 99).toInt32 else 0) rfl (Nat.le_of_ble_eq_true rfl) hc) ?_
    refine XGp.top 99 (xV_at hn) ?_
    refine XGp.go 2 rfl ?_
    refine XGp.ifn (Int32.not_le.mpr (x99 hy)) ?_
    refine XGp.go 2 rfl ?_
    exact XGp.iret _ rfl rfl .int rfl rfl (by decide) trivial
  · refine XGp.swl 113 rfl (by decide) (by decide) ?_
    refine XGp.go 3 rfl ?_
    refine XGp.iald rfl (xia_i (f := fun i => if i < 14 then (Int8.ofInt 99).toInt32 else 0) rfl (Nat.le_of_ble_eq_true rfl) hc) ?_
    refine XGp.top 99 (xV_at hn) ?_
    refine XGp.go 2 rfl ?_
    refine XGp.ifp (x99 hy) ?_
    refine XGp.go 1 rfl ?_
    exact XGp.iret _ rfl rfl .int rfl rfl (by decide) trivial
