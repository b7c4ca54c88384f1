/-! see on both sides -/
/-- the maybes of years up to y -/
abbrev yrK (f : Nat → Int32) (y : Int32) (k : Nat) : Bool := !decide (y < f (122 + k))
/-- of the first courses all that are like course c in t do as it does -/
def stS (P : Nat → Bool) (c : Nat) (t : Int32) : Nat → Bool
  | 0 => true
  | k + 1 => stS P c t k && (!decide (nI k &&& t = nI c &&& t) || decide (P k = P c))
theorem stS_f {P : Nat → Bool} {c : Nat} {t : Int32} {k : Nat} : ∀ q, stS P c t k = false → stS P c t (k + q) = false
  | 0, h => h
  | q + 1, h => by
    show (stS P c t (k + q) && _) = false
    rw [stS_f q h, Bool.false_and]
/-- the first year from y on, of 40 -/
def seL (Q : Nat → Bool) : Nat → Nat → Int32
  | 0, _ => i40
  | q + 1, y => if Q y = true then nI y else seL Q q (y + 1)
/-- what see answers for a clause that is there -/
abbrev seQ (f : Nat → Int32) (n m g nc : Nat) (x : Int32) (cl c : Nat) (y : Nat) : Bool := stS (laB f n m g nc x cl) c (bset (yrK f (nI y)) m) (2 ^ m)
theorem xa_eq {a b t : Int32} : (a ^^^ b) &&& t = 0 ↔ a &&& t = b &&& t := by
  have key : ∀ i, ((a.toBitVec ^^^ b.toBitVec) &&& t.toBitVec).getLsbD i = ((a.toBitVec.getLsbD i ^^ b.toBitVec.getLsbD i) && t.toBitVec.getLsbD i) := fun i => by rw [BitVec.getLsbD_and, BitVec.getLsbD_xor]
  rw [← Int32.toBitVec_inj, ← Int32.toBitVec_inj, Int32.toBitVec_and, Int32.toBitVec_xor, Int32.toBitVec_and, Int32.toBitVec_and]
  show (a.toBitVec ^^^ b.toBitVec) &&& t.toBitVec = 0#32 ↔ _
  constructor
  · intro h
    refine BitVec.eq_of_getLsbD_eq fun i _ => ?_
    have k := key i
    rw [h, BitVec.getLsbD_zero] at k
    rw [BitVec.getLsbD_and, BitVec.getLsbD_and]
    revert k
    cases a.toBitVec.getLsbD i <;> cases b.toBitVec.getLsbD i <;> cases t.toBitVec.getLsbD i <;> decide
  · intro h
    refine BitVec.eq_of_getLsbD_eq fun i _ => ?_
    have k : (a.toBitVec &&& t.toBitVec).getLsbD i = (b.toBitVec &&& t.toBitVec).getLsbD i := by rw [h]
    rw [BitVec.getLsbD_and, BitVec.getLsbD_and] at k
    rw [key, BitVec.getLsbD_zero]
    revert k
    cases a.toBitVec.getLsbD i <;> cases b.toBitVec.getLsbD i <;> cases t.toBitVec.getLsbD i <;> decide
theorem XGo.bast {d : Nat} {M : XMeth} {pc k n len a b w : Nat} {i x : Int32} {f : Nat → Int32} {L : XL} {st : List Value} {h h1 : XH} {v : Option Value} (hm : xfind (xmT M) pc = some (pc, .bastore, len, a, b, w)) (hh : h.2.2 k = .inr (.inl (1, n, f))) (hk : k < h.1) (h2 : 13 ≤ k) (hi : ¬ (i < 0 ∨ n ≤ i.toNatClampNeg)) (g : XGo d M (pc + 1, L, st, xup h k (.inr (.inl (1, n, upd f i.toNatClampNeg (vp_nar .boolean x))))) v h1) : XGo d M (pc, L, .int x :: .int i :: .ref k :: st, h) v h1 :=
  XGo.hp _ hm (o := (1, st, xup h k (.inr (.inl (1, n, upd f i.toNatClampNeg (vp_nar .boolean x)))))) (by simp only [xhp, hh]; rw [if_pos ⟨hk, h2, trivial, hi⟩]) g
theorem XGo.bald {d : Nat} {M : XMeth} {pc k len a b w : Nat} {i x : Int32} {L : XL} {st : List Value} {h h1 : XH} {v : Option Value} (hm : xfind (xmT M) pc = some (pc, .baload, len, a, b, w)) (hx : xia h 1 k i = some x) (g : XGo d M (pc + 1, L, .int x :: st, h) v h1) : XGo d M (pc, L, .int i :: .ref k :: st, h) v h1 :=
  XGo.st _ hm (o := (pc + 1, L, .int x :: st)) (by simp only [xst, hx]) g
theorem ib_nI {h : XH} {p n k : Nat} {f : Nat → Int32} (hf : h.2.2 p = .inr (.inl (1, n, f))) (hp : p < h.1) (hk : k < n) (hn : n < 2147483648) : xia h 1 p (nI k) = some (f k) := by
  have q := xia_i (i := nI k) hf hp (ca_nI hk hn)
  rw [xnI_nat (by omega)] at q
  exact q
theorem nar_b (b : Bool) : vp_nar .boolean (b01 b) = b01 b := by cases b <;> decide
theorem b01_inj {a b : Bool} : b01 a = b01 b ↔ a = b := by cases a <;> cases b <;> decide
theorem mbk_546 {h : XH} {f : Nat → Int32} (hB : MBk h f) (e : XE) : MBk (xup h 546 e) f := by
  obtain ⟨hN, hS, ⟨e1, o36⟩, hf, ⟨s, l1, l2, l3, l4⟩, ⟨a3, e3⟩, ⟨a4, e4⟩, ⟨a5, e5⟩⟩ := hB
  have u : ∀ {k : Nat}, ¬ k = 546 → (xup h 546 e).2.2 k = h.2.2 k := fun z => xup_ne _ _ z
  exact ⟨hN, hS, ⟨e1, (u (by decide)).trans o36⟩, (u (by decide)).trans hf, ⟨s, (u (by decide)).trans l1, (u (by decide)).trans l2, (u (by decide)).trans l3, (u (by decide)).trans l4⟩, ⟨a3, (u (by decide)).trans e3⟩, ⟨a4, (u (by decide)).trans e4⟩, ⟨a5, (u (by decide)).trans e5⟩⟩
theorem w_bools {h : XH} (hI : AInv w_W h) {k r n : Nat} {sg : List (Nat × Int × Int)} (hk : k < 549) (hr : w_rg k = r) (hS : w_S r = (1, 1, n, [], sg)) : ∃ f : Nat → Int32, h.2.2 k = .inr (.inl (1, n, f)) := by
  have s1 := (hI.2.2 k hk).1
  rw [w_Sg, hr, hS] at s1
  obtain ⟨⟨t, m, f⟩, ho, o1, o2⟩ := shp_i (s := (1, 1, n, [], sg)) rfl s1
  have o1 : t = 1 := o1
  have o2 : m = n := o2
  subst o1
  subst o2
  exact ⟨f, ho⟩
theorem w_rg_546 : w_rg 546 = 75 := by decide +kernel
section SE
variable {L : Nat} {xs : Nat → Int32} {f : Nat → Int32} {n m : Nat} {g nc : Nat} {Lt Nt : Nat → Int32}
set_option maxRecDepth 100000 in
theorem mu_l (d : Nat) {h : XH} (hI : AInv w_W h) (m6 : m ≤ 6) (h3 : rd h 14 3 = some (.int (nI m))) {ye : Nat → Int32} (h19 : h.2.2 19 = .inr (.inl (0, 6, ye))) (hy : ∀ k, k < m → ye k = f (122 + k)) (y : Int32) : ∀ (q k : Nat), k + q = m → XGo (d + 1) xm_X5_maybesUpTo (4, [some (.ref 14), some (.int y), some (.int (bset (yrK f y) k)), some (.int (nI k))], [], h) (some (.int (bset (yrK f y) m))) h
  | 0, k, hk => by
    have hk : k = m := by omega
    subst hk
    refine XGo.go 2 rfl ?_
    refine XGo.getr rfl hI (by decide) (by decide) w_rg_14 k14s (by decide) h3 ?_
    refine XGo.go 1 rfl ?_
    refine XGo.ifp (Int32.le_refl _) ?_
    refine XGo.go 1 rfl ?_
    exact XGo.iret _ rfl rfl .int rfl rfl
  | q + 1, k, hk => by
    have km : k < m := by omega
    have hN : h.1 = 549 := hI.1
    have nx := mu_l d hI m6 h3 h19 hy y q (k + 1) (by omega)
    rw [← show nI k + Int32.ofInt 1 = nI (k + 1) from nI_1 k] at nx
    refine XGo.go 2 rfl ?_
    refine XGo.getr rfl hI (by decide) (by decide) w_rg_14 k14s (by decide) h3 ?_
    refine XGo.go 1 rfl ?_
    refine XGo.ifn (fun z => absurd ((xnI_ge (by omega) (by omega)).mp z) (by omega)) ?_
    refine XGo.go 1 rfl ?_
    refine XGo.getr rfl hI (by decide) (by decide) w_rg_14 k14s (by decide) (r14_6 hI) ?_
    refine XGo.go 1 rfl ?_
    refine XGo.call _ rfl xm_X6_at rfl rfl [.ref 19, .int (nI k)] [] rfl rfl (fun z => absurd rfl z) (Nat.le_of_ble_eq_true rfl) (at_row (H := h) (d := d) h19 (xlt hN (by decide)) (by decide) (show k < 6 by omega)) ?_
    refine XGo.go 2 rfl ?_
    by_cases c : y < ye k
    · rw [bset_f (P := yrK f y) (k := k) (by show (!decide (y < f (122 + k))) = false; rw [← hy k km, decide_eq_true c]; rfl)] at nx
      exact XGo.ifp c (XGo.go 2 rfl nx)
    · rw [bset_t (P := yrK f y) (k := k) (by show (!decide (y < f (122 + k))) = true; rw [← hy k km, decide_eq_false c]; rfl)] at nx
      exact XGo.ifn c (XGo.go 8 rfl nx)
  termination_by q => q
/-- the maybes up to a year, as the class has them -/
theorem k_mut (d : Nat) {h : XH} (hI : INVg L xs h) (hf : h.2.2 537 = .inr (.inl (0, 490, f))) (W : RW f n m) (y : Int32) : XCall xM (d + 2) 57 [.ref 14, .int y] h (some (.int (bset (yrK f y) m))) h := by
  obtain ⟨ye, h19⟩ := w_ints hI.1.1 (k := 19) (by decide) w_rg_19 (show w_S 19 = (1, 0, 6, [], w_s19.2.2.2.2) from rfl)
  have hy : ∀ k, k < m → ye k = f (122 + k) := by
    obtain ⟨f', n', m', G', hf', W', hW', -⟩ := G_base hI
    have e := row_inj hf' hf
    subst e
    have em := nI_inj (by have := W.m6; omega) (by have := W'.m6; omega) (W.f1.symm.trans W'.f1)
    subst em
    intro k hk
    have m6 := W.m6
    have w3 := (hW'.2.2.2.1 k hk).2.2
    rw [vw_wo (by decide) (by decide), rd_ints h19 (show k < 6 by omega)] at w3
    exact int_inj w3
  exact XCall.of (M := xm_X5_maybesUpTo) rfl (Nat.le_of_ble_eq_true rfl) (XGo.go 4 rfl (mu_l d hI.1.1 W.m6 (rd3_of hI hf W) h19 hy y m 0 (by omega)))
set_option maxRecDepth 100000 in
theorem is_l (d : Nat) {h : XH} (hI : AInv w_W h) (m6 : m ≤ 6) (h3 : rd h 14 3 = some (.int (nI m))) (P : Nat → Bool) {c : Nat} (hc : c < 2 ^ m) (t : Int32) : ∀ (q k : Nat), k + q = 2 ^ m → stS P c t k = true → XGo (d + 1) xm_X6_isSettled (3, [some (.ref 13), some (.long (lsB P (2 ^ m))), none, some (.int (nI c)), some (.int t), some (.int (nI k))], [], h) (some (.int (b01 (stS P c t (2 ^ m))))) h
  | q, k, hk, hs => by
    have hN : h.1 = 549 := hI.1
    obtain ⟨fs, h13, -, -, -⟩ := w_lg hI
    obtain ⟨e, e64⟩ := shm_nI ⟨m, by omega⟩
    dsimp only at e e64
    have head : ∀ {v : Option Value} {hend : XH}, XGo (d + 1) xm_X6_isSettled (if nI (2 ^ m) ≤ nI k then 45 else 12, [some (.ref 13), some (.long (lsB P (2 ^ m))), none, some (.int (nI c)), some (.int t), some (.int (nI k))], [], h) v hend → XGo (d + 1) xm_X6_isSettled (3, [some (.ref 13), some (.long (lsB P (2 ^ m))), none, some (.int (nI c)), some (.int t), some (.int (nI k))], [], h) v hend := fun {v hend} u => by
      refine XGo.go 2 rfl ?_
      refine XGo.call _ rfl xm_X6_coursesThereAre rfl rfl [.ref 13] [.int (nI k)] rfl rfl (fun _ => ⟨13, fs, rfl, h13, by decide, by omega⟩) (Nat.le_of_ble_eq_true rfl) (k_many d hI h3) ?_
      rw [e]
      exact XGo.go 1 rfl u
    match q, hk with
    | 0, hk =>
      have hk : k = 2 ^ m := by omega
      subst hk
      refine head (XGo.ifp (Int32.le_refl _) ?_)
      refine XGo.go 1 rfl ?_
      exact XGo.ib (b := true) _ rfl rfl rfl hs
    | q + 1, hk =>
      refine head (XGo.ifn (fun z => absurd ((xnI_ge (m := 2 ^ m) (by omega) (by omega)).mp z) (by omega)) ?_)
      have nx := is_l d hI m6 h3 P hc t q (k + 1) (by omega)
      rw [← show nI k + Int32.ofInt 1 = nI (k + 1) from nI_1 k] at nx
      have es : stS P c t (k + 1) = (!decide (nI k &&& t = nI c &&& t) || decide (P k = P c)) := by
        show (stS P c t k && _) = _
        rw [hs, Bool.true_and]
      refine XGo.go 6 rfl ?_
      by_cases a : (nI k ^^^ nI c) &&& t = 0
      · have a' := xa_eq.mp a
        refine XGo.ifp a ?_
        refine XGo.go 12 rfl ?_
        have eA := lsB_shr P (k := 2 ^ m) (i := k) e64 (by omega)
        have eB := lsB_shr P (k := 2 ^ m) (i := c) e64 (by omega)
        rw [decide_eq_true (show k < 2 ^ m by omega), Bool.true_and] at eA
        rw [decide_eq_true hc, Bool.true_and] at eB
        by_cases p : P k = P c
        · refine XGo.ifp (show lg_cmp ((lsB P (2 ^ m) >>> ((nI k).toInt64 &&& 63)) &&& Int64.ofNat 1) ((lsB P (2 ^ m) >>> ((nI c).toInt64 &&& 63)) &&& Int64.ofNat 1) = 0 by rw [eA, eB, p]; exact lg_cmp0.mpr rfl) ?_
          exact XGo.go 2 rfl (nx (by rw [es, decide_eq_true p, Bool.or_true]))
        · refine XGo.ifn (show ¬ lg_cmp ((lsB P (2 ^ m) >>> ((nI k).toInt64 &&& 63)) &&& Int64.ofNat 1) ((lsB P (2 ^ m) >>> ((nI c).toInt64 &&& 63)) &&& Int64.ofNat 1) = 0 from fun z => p (by
            have z := lg_cmp0.mp z
            rw [eA, eB] at z
            cases h1 : P k <;> cases h2 : P c <;> first | rfl | (rw [h1, h2] at z; exact absurd z (by decide)))) ?_
          refine XGo.go 1 rfl ?_
          have ef := stS_f (k := k + 1) q (show stS P c t (k + 1) = false by rw [es, decide_eq_true a', decide_eq_false p]; rfl)
          rw [show k + 1 + q = 2 ^ m by omega] at ef
          exact XGo.ib (b := false) _ rfl rfl rfl ef
      · refine XGo.ifn a ?_
        exact XGo.go 2 rfl (nx (by rw [es, decide_eq_false (fun z => a (xa_eq.mpr z))]; rfl))
  termination_by q => q
theorem k_ise (d : Nat) {h : XH} (hI : AInv w_W h) (m6 : m ≤ 6) (h3 : rd h 14 3 = some (.int (nI m))) (P : Nat → Bool) {c : Nat} (hc : c < 2 ^ m) (t : Int32) : XCall xM (d + 2) 101 [.ref 13, .long (lsB P (2 ^ m)), .int (nI c), .int t] h (some (.int (b01 (stS P c t (2 ^ m))))) h :=
  XCall.of (M := xm_X6_isSettled) rfl (Nat.le_of_ble_eq_true rfl) (XGo.go 2 rfl (is_l d hI m6 h3 P hc t (2 ^ m) 0 (by omega) rfl))
abbrev seeC (gr cl co x : Int32) (p : Nat) (lo : Int64) (k : Int32) : XL := [some (.ref 13), some (.int gr), some (.int cl), some (.int co), some (.int x), some (.ref p), some (.long lo), none, some (.int k)]
set_option maxRecDepth 100000 in
theorem se_c (W : RW f n m) {h : XH} (hI : INVg L xs h) (hf : h.2.2 537 = .inr (.inl (0, 490, f))) (gr clv x : Int32) (p : Nat) (P : Nat → Bool) {c : Nat} (hc : c < 2 ^ m) : ∀ (q y : Nat), y + q = 40 → XGo 7 xm_X6_see (59, seeC gr clv (nI c) x p (lsB P (2 ^ m)) (nI y), [], h) (some (.int (seL (fun y => stS P c (bset (yrK f (nI y)) m) (2 ^ m)) q y))) h
  | 0, y, hy => by
    have hy : y = 40 := by omega
    subst hy
    refine XGo.go 3 rfl ?_
    refine XGo.ifp (by decide) ?_
    refine XGo.go 1 rfl ?_
    exact XGo.iret _ rfl rfl .int rfl rfl
  | q + 1, y, hy => by
    have nx := se_c W hI hf gr clv x p P hc q (y + 1) (by omega)
    unfold seeC at nx
    rw [← show nI y + Int32.ofInt 1 = nI (y + 1) from nI_1 y] at nx
    obtain ⟨fs, h13, -, -, -⟩ := w_lg hI.1.1
    have hN : h.1 = 549 := hI.1.1.1
    obtain ⟨fw, h14, -, -, -⟩ := w_wo hI.1.1
    refine XGo.go 3 rfl ?_
    refine XGo.ifn (fun z => absurd ((xnI_ge (m := 40) (by decide) (by omega)).mp z) (by omega)) ?_
    refine XGo.go 4 rfl ?_
    refine XGo.getr rfl hI.1.1 (by decide) (by decide) w_rg_13 k13s (by decide) (r13_0 hI.1.1) ?_
    refine XGo.go 1 rfl ?_
    refine XGo.call _ rfl xm_X5_maybesUpTo rfl rfl [.ref 14, .int (nI y)] [.int (nI c), .long (lsB P (2 ^ m)), .ref 13] rfl rfl (fun _ => ⟨14, fw, rfl, h14, by decide, by omega⟩) (Nat.le_of_ble_eq_true rfl) (k_mut 5 hI hf W (nI y)) ?_
    refine XGo.call _ rfl xm_X6_isSettled rfl rfl [.ref 13, .long (lsB P (2 ^ m)), .int (nI c), .int (bset (yrK f (nI y)) m)] [] rfl rfl (fun _ => ⟨13, fs, rfl, h13, by decide, by omega⟩) (Nat.le_of_ble_eq_true rfl) (k_ise 5 hI.1.1 W.m6 (rd3_of hI hf W) P hc _) ?_
    refine XGo.go 1 rfl ?_
    cases es : stS P c (bset (yrK f (nI y)) m) (2 ^ m)
    · rw [show seL (fun y => stS P c (bset (yrK f (nI y)) m) (2 ^ m)) (q + 1) y = seL (fun y => stS P c (bset (yrK f (nI y)) m) (2 ^ m)) q (y + 1) from if_neg (by show ¬ stS P c (bset (yrK f (nI y)) m) (2 ^ m) = true; rw [es]; decide)]
      exact XGo.ifp (by decide) (XGo.go 2 rfl nx)
    · rw [show seL (fun y => stS P c (bset (yrK f (nI y)) m) (2 ^ m)) (q + 1) y = nI y from if_pos es]
      refine XGo.ifn (by decide) ?_
      refine XGo.go 1 rfl ?_
      exact XGo.iret _ rfl rfl .int rfl rfl
  termination_by q => q
abbrev seeM (gr cl co x y : Int32) (l6 l7 l8 : Option Value) : XL := [some (.ref 536), some (.int gr), some (.int cl), some (.int co), some (.int x), some (.int y), l6, l7, l8]
set_option maxRecDepth 100000 in
theorem sl_m (W : RW f n m) (hg : g < 6) (hnc : 1 ≤ nc ∧ nc ≤ 6) (hfn : f (130 + g) = nI nc) (hC : CI f g Lt Nt nc) {x : Int32} (x0 : 0 ≤ x.toInt) (x1 : x.toInt ≤ 40) {c : Nat} (hc : c < 6) (co : Int32) : ∀ (q k : Nat) (h : XH) (li : Nat → Int32), k + q = 2 ^ m → MBk h f → h.2.2 546 = .inr (.inl (1, 64, li)) → (∀ j, j < k → li j = b01 (laB f n m g nc x c j)) → ∃ (h1 : XH) (li1 : Nat → Int32), (∀ {v : Option Value} {hend : XH}, XGo 7 xm_X7_see (72, seeM (nI g) (nI c) co x (nI (2 ^ m)) none none none, [], h1) v hend → XGo 7 xm_X7_see (36, seeM (nI g) (nI c) co x (nI k) none none none, [], h) v hend) ∧ MBk h1 f ∧ h1.2.2 546 = .inr (.inl (1, 64, li1)) ∧ (∀ j, j < 2 ^ m → li1 j = b01 (laB f n m g nc x c j)) ∧ ∀ z, z < 536 → h1.2.2 z = h.2.2 z
  | q, k, h, li, hk, hB, hl, hj => by
    obtain ⟨hN, hS, ⟨e, o36⟩, hf, -⟩ := id hB
    have e64 := (shm_nI ⟨m, by have := W.m6; omega⟩).2
    dsimp only at e64
    have head : ∀ {v : Option Value} {hend : XH}, XGo 7 xm_X7_see (if nI (2 ^ m) ≤ nI k then 72 else 45, seeM (nI g) (nI c) co x (nI k) none none none, [], h) v hend → XGo 7 xm_X7_see (36, seeM (nI g) (nI c) co x (nI k) none none none, [], h) v hend := fun {v hend} t => by
      refine XGo.go 2 rfl ?_
      refine XGo.call _ rfl xm_X7_courses rfl rfl [.ref 536] [.int (nI k)] rfl rfl (fun _ => ⟨536, _, rfl, o36, by decide, by omega⟩) (Nat.le_of_ble_eq_true rfl) (k_courses 6 W hN o36 hf) ?_
      exact XGo.go 1 rfl t
    match q, hk with
    | 0, hk =>
      have hk : k = 2 ^ m := by omega
      subst hk
      exact ⟨h, li, fun {v hend} t => head (XGo.ifp (Int32.le_refl _) t), hB, hl, hj, fun _ _ => rfl⟩
    | q + 1, hk =>
      have k64 : k < 64 := by omega
      obtain ⟨h2, cC, hB2, ⟨s, lr, le⟩, -, -, ⟨bg, o45, ebg⟩, oth⟩ := M_goes hB W hg hnc hfn hC (nI k)
      obtain ⟨hN2, -, ⟨e2, o362⟩, hf2, -⟩ := id hB2
      have hl2 : h2.2.2 546 = .inr (.inl (1, 64, li)) := (oth 546 (by decide) (by decide)).trans hl
      have eB : lateM (ldS f n m (nI k)) (bg c) x = laB f n m g nc x c k := by
        rw [ebg c hc]
        exact (ltB_eq W (nI k) g hnc.1 x0 x1 c).1
      have qL := k_isLate 5 W hN2 o362 hf2 lr le o45 hc x
      rw [eB] at qL
      obtain ⟨h4, li4, c4, hB4, hl4, hj4, o4⟩ := sl_m W hg hnc hfn hC x0 x1 hc co q (k + 1) (xup h2 546 (.inr (.inl (1, 64, upd li k (b01 (laB f n m g nc x c k)))))) (upd li k (b01 (laB f n m g nc x c k))) (by omega) (mbk_546 hB2 _) (xup_eq _ _ _) (fun j hj2 => by
        by_cases z : j = k
        · subst z
          exact if_pos rfl
        · exact (if_neg z).trans (hj j (by omega)))
      refine ⟨h4, li4, fun {v hend} t => head (XGo.ifn (fun z => absurd ((xnI_ge (m := 2 ^ m) (by omega) (by omega)).mp z) (by omega)) ?_), hB4, hl4, hj4, fun z hz => (o4 z hz).trans ((xup_ne _ _ (by omega)).trans (oth z (by omega) (by omega)))⟩
      have t4 := c4 t
      unfold seeM at t4
      rw [← show nI k + Int32.ofInt 1 = nI (k + 1) from nI_1 k] at t4
      refine XGo.go 3 rfl ?_
      refine XGo.call _ rfl xm_X7_goes rfl rfl [.ref 536, .int (nI g), .int (nI k)] [] rfl rfl (fun _ => ⟨536, _, rfl, o36, by decide, by omega⟩) (Nat.le_of_ble_eq_true rfl) cC ?_
      refine XGo.go 1 rfl ?_
      refine XGo.getf rfl (xfd_o o362 (xlt hN2 (by decide)) (by decide) rfl) ?_
      refine XGo.go 4 rfl ?_
      refine XGo.call _ rfl xm_X7_isLate rfl rfl [.ref 536, .int (nI c), .int x] [.int (nI k), .ref 546] rfl rfl (fun _ => ⟨536, _, rfl, o362, by decide, by omega⟩) (Nat.le_of_ble_eq_true rfl) qL ?_
      refine XGo.bast rfl hl2 (xlt hN2 (by decide)) (by decide) (ca_nI k64 (by decide)) ?_
      rw [xnI_nat (by omega), nar_b]
      exact XGo.go 2 rfl t4
  termination_by q => q
set_option maxRecDepth 100000 in
theorem td_m (d : Nat) (W : RW f n m) {h : XH} {e : Nat → Int32} (hN : h.1 = 549) (o36 : h.2.2 536 = .inl (7, mO e)) (hf : h.2.2 537 = .inr (.inl (0, 490, f))) (gr cl co x y : Int32) (l8 : Option Value) {v : Option Value} {hend : XH} (k9 : XGo d xm_X7_see (133, seeM gr cl co x y (some (.int (bset (yrK f y) m))) (some (.int (nI m))) l8, [], h) v hend) : ∀ (q k : Nat), k + q = m → XGo d xm_X7_see (88, seeM gr cl co x y (some (.int (bset (yrK f y) k))) (some (.int (nI k))) l8, [], h) v hend
  | q, k, hk => by
    have m6 := W.m6
    have head : ∀ {v : Option Value} {hend : XH}, XGo d xm_X7_see (if nI m ≤ nI k then 133 else 99, seeM gr cl co x y (some (.int (bset (yrK f y) k))) (some (.int (nI k))) l8, [], h) v hend → XGo d xm_X7_see (88, seeM gr cl co x y (some (.int (bset (yrK f y) k))) (some (.int (nI k))) l8, [], h) v hend := fun {v hend} t => by
      refine XGo.go 2 rfl ?_
      refine XGo.getf rfl (xfd_o o36 (xlt hN (by decide)) (by decide) rfl) ?_
      refine XGo.go 1 rfl ?_
      refine XGo.iald rfl (ia_nI (k := 1) hf (xlt hN (by decide)) (by decide) (by decide)) ?_
      rw [W.f1]
      exact XGo.go 1 rfl t
    match q, hk with
    | 0, hk =>
      have hk : k = m := by omega
      subst hk
      exact head (XGo.ifp (Int32.le_refl _) k9)
    | q + 1, hk =>
      refine head (XGo.ifn (fun z => absurd ((xnI_ge (by omega) (by omega)).mp z) (by omega)) ?_)
      have nx := td_m d W hN o36 hf gr cl co x y l8 k9 q (k + 1) (by omega)
      unfold seeM at nx
      rw [← show nI k + Int32.ofInt 1 = nI (k + 1) from nI_1 k] at nx
      have c122 : (Int8.ofInt 122).toInt32 + nI k = nI (122 + k) := by
        have t : ∀ k : Fin 6, (Int8.ofInt 122).toInt32 + nI k.val = nI (122 + k.val) := by decide +kernel
        exact t ⟨k, by omega⟩
      refine XGo.go 2 rfl ?_
      refine XGo.getf rfl (xfd_o o36 (xlt hN (by decide)) (by decide) rfl) ?_
      refine XGo.go 3 rfl ?_
      refine XGo.top c122 ?_
      refine XGo.iald rfl (ia_nI hf (xlt hN (by decide)) (show 122 + k < 490 by omega) (by decide)) ?_
      refine XGo.go 2 rfl ?_
      by_cases c : y < f (122 + k)
      · rw [bset_f (P := yrK f y) (k := k) (by show (!decide (y < f (122 + k))) = false; rw [decide_eq_true c]; rfl), ← show bset (yrK f y) k ||| Int32.ofInt 0 = bset (yrK f y) k from Int32.or_zero] at nx
        exact XGo.ifp c (XGo.go 5 rfl nx)
      · rw [bset_t (P := yrK f y) (k := k) (by show (!decide (y < f (122 + k))) = true; rw [decide_eq_false c]; rfl)] at nx
        exact XGo.ifn c (XGo.go 8 rfl nx)
  termination_by q => q
set_option maxRecDepth 100000 in
theorem lk_m (d : Nat) (W : RW f n m) {h : XH} {e li : Nat → Int32} (hN : h.1 = 549) (o36 : h.2.2 536 = .inl (7, mO e)) (hf : h.2.2 537 = .inr (.inl (0, 490, f))) (hl : h.2.2 546 = .inr (.inl (1, 64, li))) (P : Nat → Bool) (hj : ∀ j, j < 2 ^ m → li j = b01 (P j)) (gr cl x y t : Int32) {c : Nat} (hc : c < 2 ^ m) {v : Option Value} {hend : XH} (k9 : XGo (d + 1) xm_X7_see (194, seeM gr cl (nI c) x y (some (.int t)) (some (.int (b01 (stS P c t (2 ^ m))))) (some (.int (nI (2 ^ m)))), [], h) v hend) : ∀ (q k : Nat), k + q = 2 ^ m → XGo (d + 1) xm_X7_see (139, seeM gr cl (nI c) x y (some (.int t)) (some (.int (b01 (stS P c t k)))) (some (.int (nI k))), [], h) v hend
  | q, k, hk => by
    have m6 := W.m6
    have e64 := (shm_nI ⟨m, by omega⟩).2
    dsimp only at e64
    have head : ∀ {v : Option Value} {hend : XH}, XGo (d + 1) xm_X7_see (if nI (2 ^ m) ≤ nI k then 194 else 148, seeM gr cl (nI c) x y (some (.int t)) (some (.int (b01 (stS P c t k)))) (some (.int (nI k))), [], h) v hend → XGo (d + 1) xm_X7_see (139, seeM gr cl (nI c) x y (some (.int t)) (some (.int (b01 (stS P c t k)))) (some (.int (nI k))), [], h) v hend := fun {v hend} u => by
      refine XGo.go 2 rfl ?_
      refine XGo.call _ rfl xm_X7_courses rfl rfl [.ref 536] [.int (nI k)] rfl rfl (fun _ => ⟨536, _, rfl, o36, by decide, by omega⟩) (Nat.le_of_ble_eq_true rfl) (k_courses d W hN o36 hf) ?_
      exact XGo.go 1 rfl u
    match q, hk with
    | 0, hk =>
      have hk : k = 2 ^ m := by omega
      subst hk
      exact head (XGo.ifp (Int32.le_refl _) k9)
    | q + 1, hk =>
      refine head (XGo.ifn (fun z => absurd ((xnI_ge (m := 2 ^ m) (by omega) (by omega)).mp z) (by omega)) ?_)
      have nx := lk_m d W hN o36 hf hl P hj gr cl x y t hc k9 q (k + 1) (by omega)
      unfold seeM at nx
      rw [← show nI k + Int32.ofInt 1 = nI (k + 1) from nI_1 k] at nx
      refine XGo.go 2 rfl ?_
      cases hs : stS P c t k
      · rw [show stS P c t (k + 1) = false from stS_f 1 hs] at nx
        exact XGo.ifp (by decide) (XGo.go 4 rfl nx)
      · have es : stS P c t (k + 1) = (!decide (nI k &&& t = nI c &&& t) || decide (P k = P c)) := by
          show (stS P c t k && _) = _
          rw [hs, Bool.true_and]
        refine XGo.ifn (by decide) ?_
        refine XGo.go 7 rfl ?_
        by_cases a : nI k &&& t = nI c &&& t
        · refine XGo.ifp a ?_
          refine XGo.go 1 rfl ?_
          refine XGo.getf rfl (xfd_o o36 (xlt hN (by decide)) (by decide) rfl) ?_
          refine XGo.go 1 rfl ?_
          refine XGo.bald rfl (ib_nI hl (xlt hN (by decide)) (show k < 64 by omega) (by decide)) ?_
          refine XGo.go 1 rfl ?_
          refine XGo.getf rfl (xfd_o o36 (xlt hN (by decide)) (by decide) rfl) ?_
          refine XGo.go 1 rfl ?_
          refine XGo.bald rfl (ib_nI hl (xlt hN (by decide)) (show c < 64 by omega) (by decide)) ?_
          refine XGo.go 1 rfl ?_
          by_cases p : P k = P c
          · rw [show stS P c t (k + 1) = true by rw [es, decide_eq_true p, Bool.or_true]] at nx
            refine XGo.ifp (by rw [hj k (by omega), hj c hc, p]) ?_
            exact XGo.go 5 rfl nx
          · rw [show stS P c t (k + 1) = false by rw [es, decide_eq_true a, decide_eq_false p]; rfl] at nx
            refine XGo.ifn (by rw [hj k (by omega), hj c hc, b01_inj]; exact p) ?_
            exact XGo.go 4 rfl nx
        · rw [show stS P c t (k + 1) = true by rw [es, decide_eq_false a]; rfl] at nx
          refine XGo.ifn a ?_
          exact XGo.go 5 rfl nx
  termination_by q => q
set_option maxRecDepth 100000 in
theorem se_m (W : RW f n m) {h : XH} {e li : Nat → Int32} (hN : h.1 = 549) (o36 : h.2.2 536 = .inl (7, mO e)) (hf : h.2.2 537 = .inr (.inl (0, 490, f))) (hl : h.2.2 546 = .inr (.inl (1, 64, li))) (P : Nat → Bool) (hj : ∀ j, j < 2 ^ m → li j = b01 (P j)) (gr cl x : Int32) {c : Nat} (hc : c < 2 ^ m) : ∀ (q y : Nat) (l6 l7 l8 : Option Value), y + q = 40 → XGo 7 xm_X7_see (75, seeM gr cl (nI c) x (nI y) l6 l7 l8, [], h) (some (.int (seL (fun y => stS P c (bset (yrK f (nI y)) m) (2 ^ m)) q y))) h
  | 0, y, l6, l7, l8, hy => by
    have hy : y = 40 := by omega
    subst hy
    refine XGo.go 3 rfl ?_
    refine XGo.ifp (by decide) ?_
    refine XGo.go 1 rfl ?_
    exact XGo.iret _ rfl rfl .int rfl rfl
  | q + 1, y, l6, l7, l8, hy => by
    have nx := fun l6 l7 l8 => se_m W hN o36 hf hl P hj gr cl x hc q (y + 1) l6 l7 l8 (by omega)
    refine XGo.go 3 rfl ?_
    refine XGo.ifn (fun z => absurd ((xnI_ge (m := 40) (by decide) (by omega)).mp z) (by omega)) ?_
    refine XGo.go 4 rfl ?_
    refine td_m 7 W hN o36 hf gr cl (nI c) x (nI y) l8 ?_ m 0 (by omega)
    refine XGo.go 4 rfl ?_
    refine lk_m 6 W hN o36 hf hl P hj gr cl x (nI y) (bset (yrK f (nI y)) m) hc ?_ (2 ^ m) 0 (by omega)
    refine XGo.go 2 rfl ?_
    cases es : stS P c (bset (yrK f (nI y)) m) (2 ^ m)
    · rw [show seL (fun y => stS P c (bset (yrK f (nI y)) m) (2 ^ m)) (q + 1) y = seL (fun y => stS P c (bset (yrK f (nI y)) m) (2 ^ m)) q (y + 1) from if_neg (by show ¬ stS P c (bset (yrK f (nI y)) m) (2 ^ m) = true; rw [es]; decide)]
      have t := nx (some (.int (bset (yrK f (nI y)) m))) (some (.int (b01 false))) (some (.int (nI (2 ^ m))))
      unfold seeM at t
      rw [← show nI y + Int32.ofInt 1 = nI (y + 1) from nI_1 y] at t
      exact XGo.ifp (by decide) (XGo.go 2 rfl t)
    · rw [show seL (fun y => stS P c (bset (yrK f (nI y)) m) (2 ^ m)) (q + 1) y = nI y from if_pos es]
      refine XGo.ifn (by decide) ?_
      refine XGo.go 1 rfl ?_
      exact XGo.iret _ rfl rfl .int rfl rfl
  termination_by q => q
end SE
set_option maxRecDepth 100000 in
/-- SEE ON BOTH SIDES -/
theorem G_see (gr cl co x : Int32) {L : Nat} {xs : Nat → Int32} {h : XH} (hI : INVg L xs h) : ∃ (v : Int32) (h1 h2 : XH), XCall xM 11 77 [.ref 13, .int gr, .int cl, .int co, .int x] h (some (.int v)) h1 ∧ AInv w_W h1 ∧ h1.2.2 1 = h.2.2 1 ∧ XCall xM 11 160 [.ref 536, .int gr, .int cl, .int co, .int x] h1 (some (.int v)) h2 ∧ INVg L xs h2 := by
  obtain ⟨f, n, m, G, T, fw, hf, W, hH, hG, f2, h3, hg⟩ := G_ctx hI
  have hB := mbk_of hI.1.1 hf
  have hN := hH.N
  have m6 := W.m6
  obtain ⟨fs, h13, -, -, -⟩ := w_lg hI.1.1
  have rc : ∀ {as : List Value} {M : XMeth}, xmC M = 6 → as.head? = some (.ref 13) → xrecv M as h := fun hM ha _ => ⟨13, fs, ha, by rw [hM]; exact h13, by decide, by omega⟩
  have ch : ∀ (d : Nat) {u : Value} {v : Option Value} {hend : XH}, XCall xM (d + 1) 58 [.ref 14, .int gr] h (some u) h → XGo (d + 1) xm_X6_see (8, [some (.ref 13), some (.int gr), some (.int cl), some (.int co), some (.int x), none, none, none, none], [u], h) v hend → XCall xM (d + 2) 77 [.ref 13, .int gr, .int cl, .int co, .int x] h v hend := fun d {u v hend} c58 k => by
    refine XCall.of (M := xm_X6_see) rfl (Nat.le_of_ble_eq_true rfl) ?_
    refine XGo.go 1 rfl ?_
    refine XGo.getr rfl hI.1.1 (by decide) (by decide) w_rg_13 k13s (by decide) (r13_0 hI.1.1) ?_
    refine XGo.go 1 rfl ?_
    exact XGo.call _ rfl xm_X5_grantAt rfl rfl [.ref 14, .int gr] [] rfl rfl (fun _ => ⟨14, _, rfl, hH.o14, by decide, by omega⟩) (Nat.le_of_ble_eq_true rfl) c58 k
  have mh : ∀ (d : Nat) {h1 : XH} {b : Int32} {v : Option Value} {hend : XH}, MBk h1 f → XCall xM (d + 3) 109 [.ref 536, .int gr, .int cl] h1 (some (.int b)) h1 → XGo (d + 3) xm_X7_see (6, [some (.ref 536), some (.int gr), some (.int cl), some (.int co), some (.int x), none, none, none, none], [.int b], h1) v hend → XCall xM (d + 4) 160 [.ref 536, .int gr, .int cl, .int co, .int x] h1 v hend := fun d {h1 b v hend} hB1 q k => by
    obtain ⟨hN1, -, ⟨e, o36⟩, hf1, -⟩ := id hB1
    refine XCall.of (M := xm_X7_see) rfl (Nat.le_of_ble_eq_true rfl) ?_
    refine XGo.go 3 rfl ?_
    exact XGo.call _ rfl xm_X7_isClause rfl rfl [.ref 536, .int gr, .int cl] [] rfl rfl (fun _ => ⟨536, _, rfl, o36, by decide, by omega⟩) (Nat.le_of_ble_eq_true rfl) q k
  have mbad : ∀ (d : Nat) (h1 : XH), XGo d xm_X7_see (9, [some (.ref 536), some (.int gr), some (.int cl), some (.int co), some (.int x), none, none, none, none], [], h1) (some (.int m1)) h1 := fun d h1 => by
    refine XGo.go 1 rfl ?_
    exact XGo.iret _ rfl rfl .int rfl rfl
  rcases gr_dec hG gr with hb | ⟨g, hgG, rfl⟩
  · refine ⟨m1, h, h, XCall.up (by decide) (ch 0 (k_gNo 0 hH hG hb) ?_), hI.1.1, rfl, XCall.up (by decide) (mh 0 hB (k_isCl7n 0 hB hG f2 hb cl) ?_), hI⟩
    · refine XGo.go 4 rfl ?_
      exact XGo.iret _ rfl rfl .int rfl rfl
    · refine XGo.go 1 rfl ?_
      exact XGo.ifp (by decide) (mbad _ _)
  · obtain ⟨nc, Lt, Nt, hnc, hCG, hfn, hC⟩ := hg g hgG
    have ch2 : ∀ {v : Option Value} {hend : XH}, XGo 7 xm_X6_see (21, [some (.ref 13), some (.int (nI g)), some (.int cl), some (.int co), some (.int x), some (.ref (24 + 3 * g)), none, none, none], [.int (if isCl nc cl then 1 else 0)], h) v hend → XCall xM 8 77 [.ref 13, .int (nI g), .int cl, .int co, .int x] h v hend := fun {v hend} k => by
      refine ch 6 (k_gAt 6 hH hgG hG) ?_
      refine XGo.go 5 rfl ?_
      exact XGo.call _ rfl xm_X1_hasClause rfl rfl [.ref (24 + 3 * g), .int cl] [] rfl rfl (fun _ => ⟨24 + 3 * g, _, rfl, hCG.1, by omega, by omega⟩) (Nat.le_of_ble_eq_true rfl) (k_hasC 6 hN hCG (by omega) hnc.2 cl) k
    have mh2 : ∀ {h1 : XH} {v : Option Value} {hend : XH}, MBk h1 f → XGo 7 xm_X7_see (6, [some (.ref 536), some (.int (nI g)), some (.int cl), some (.int co), some (.int x), none, none, none, none], [.int (if isCl nc cl then 1 else 0)], h1) v hend → XCall xM 8 160 [.ref 536, .int (nI g), .int cl, .int co, .int x] h1 v hend := fun {h1 v hend} hB1 k => mh 4 hB1 (k_isCl7 4 hB1 hG f2 hgG hnc hfn cl) k
    by_cases hl : isCl nc cl
    · have ch3 : ∀ {v : Option Value} {hend : XH}, XGo 7 xm_X6_see (31, [some (.ref 13), some (.int (nI g)), some (.int cl), some (.int co), some (.int x), some (.ref (24 + 3 * g)), none, none, none], [.int (if isCo m co then 1 else 0)], h) v hend → XCall xM 8 77 [.ref 13, .int (nI g), .int cl, .int co, .int x] h v hend := fun {v hend} k => by
        refine ch2 ?_
        rw [if_pos hl]
        refine XGo.go 1 rfl ?_
        refine XGo.ifn (by decide) ?_
        refine XGo.go 2 rfl ?_
        exact XGo.call _ rfl xm_X6_isCourse rfl rfl [.ref 13, .int co] [] rfl rfl (rc rfl rfl) (Nat.le_of_ble_eq_true rfl) (k_isCo 5 hI.1.1 m6 h3 co) k
      have mh3 : ∀ {h1 : XH} {v : Option Value} {hend : XH}, MBk h1 f → XGo 7 xm_X7_see (16, [some (.ref 536), some (.int (nI g)), some (.int cl), some (.int co), some (.int x), none, none, none, none], [.int (if isCo m co then 1 else 0)], h1) v hend → XCall xM 8 160 [.ref 536, .int (nI g), .int cl, .int co, .int x] h1 v hend := fun {h1 v hend} hB1 k => by
        obtain ⟨hN1, -, ⟨e, o36⟩, hf1, -⟩ := id hB1
        refine mh2 hB1 ?_
        rw [if_pos hl]
        refine XGo.go 1 rfl ?_
        refine XGo.ifn (by decide) ?_
        refine XGo.go 2 rfl ?_
        exact XGo.call _ rfl xm_X7_isCourse rfl rfl [.ref 536, .int co] [] rfl rfl (fun _ => ⟨536, _, rfl, o36, by decide, by omega⟩) (Nat.le_of_ble_eq_true rfl) (k_isCoM 5 hB1 W co) k
      have cbad : XGo 7 xm_X6_see (42, [some (.ref 13), some (.int (nI g)), some (.int cl), some (.int co), some (.int x), some (.ref (24 + 3 * g)), none, none, none], [], h) (some (.int i2m)) h := by
        refine XGo.go 1 rfl ?_
        exact XGo.iret _ rfl rfl .int rfl rfl
      have mbd2 : ∀ h1 : XH, XGo 7 xm_X7_see (30, [some (.ref 536), some (.int (nI g)), some (.int cl), some (.int co), some (.int x), none, none, none, none], [], h1) (some (.int i2m)) h1 := fun h1 => by
        refine XGo.go 1 rfl ?_
        exact XGo.iret _ rfl rfl .int rfl rfl
      by_cases hc : isCo m co
      · have ch4 : ∀ {v : Option Value} {hend : XH}, XGo 7 xm_X6_see (39, [some (.ref 13), some (.int (nI g)), some (.int cl), some (.int co), some (.int x), some (.ref (24 + 3 * g)), none, none, none], [.int (if 0 ≤ x.toInt ∧ x.toInt ≤ 40 then 1 else 0)], h) v hend → XCall xM 8 77 [.ref 13, .int (nI g), .int cl, .int co, .int x] h v hend := fun {v hend} k => by
          refine ch3 ?_
          rw [if_pos hc]
          refine XGo.go 1 rfl ?_
          refine XGo.ifn (by decide) ?_
          refine XGo.go 1 rfl ?_
          exact XGo.call _ rfl xm_X6_isYear rfl rfl [.int x] [] rfl rfl (fun z => absurd rfl z) (Nat.le_of_ble_eq_true rfl) (k_isYear 6 h x) k
        have mh4 : ∀ {h1 : XH} {v : Option Value} {hend : XH}, MBk h1 f → XGo 7 xm_X7_see (27, [some (.ref 536), some (.int (nI g)), some (.int cl), some (.int co), some (.int x), none, none, none, none], [.int (if 0 ≤ x.toInt ∧ x.toInt ≤ 40 then 1 else 0)], h1) v hend → XCall xM 8 160 [.ref 536, .int (nI g), .int cl, .int co, .int x] h1 v hend := fun {h1 v hend} hB1 k => by
          refine mh3 hB1 ?_
          rw [if_pos hc]
          refine XGo.go 1 rfl ?_
          refine XGo.ifn (by decide) ?_
          refine XGo.go 3 rfl ?_
          exact XGo.call _ rfl xm_X7_in rfl rfl [.int x, .int (Int32.ofInt 0), .int i40] [] rfl rfl (fun z => absurd rfl z) (Nat.le_of_ble_eq_true rfl) (k_in40 6 h1 x) k
        by_cases hx : 0 ≤ x.toInt ∧ x.toInt ≤ 40
        · obtain ⟨yn, y5⟩ := i32_nI (x := cl) (hi := 5) hl.1 (by have := hl.2; omega)
          obtain ⟨c, yl, rfl⟩ : ∃ c : Nat, c < 6 ∧ cl = nI c := ⟨cl.toNatClampNeg, by omega, yn⟩
          obtain ⟨cn, c63⟩ := i32_nI (x := co) (hi := 63) hc.1 (isCo63 m6 hc).2
          obtain ⟨k, cl63, rfl⟩ : ∃ k : Nat, k < 64 ∧ co = nI k := ⟨co.toNatClampNeg, by omega, cn⟩
          have z := hc.2
          have tk := nI_toInt (n := k) (by omega)
          have hk : k < 2 ^ m := by
            have e := (shm_int ⟨m, by omega⟩).1
            rw [tk] at z
            have : ((2 ^ m : Nat) : Int) = (2 : Int) ^ m := Int.natCast_pow 2 m
            omega
          obtain ⟨h1, c1, hI1, o1⟩ := G_col W (show g < 6 by omega) hnc hC x yl hI hf hCG
          have hf1 := o1.trans hf
          have hB1 := mbk_of hI1.1.1 hf1
          obtain ⟨li, hl46⟩ := w_bools hI1.1.1 (k := 546) (by decide) w_rg_546 (show w_S 75 = (1, 1, 64, [], w_s75.2.2.2.2) from rfl)
          obtain ⟨h2, li2, c2, hB2, hl2, hj2, o2⟩ := sl_m W (show g < 6 by omega) hnc hfn hC hx.1 hx.2 yl (nI k) (2 ^ m) 0 h1 li (by omega) hB1 hl46 (fun j hj => absurd hj (Nat.not_lt_zero j))
          obtain ⟨hN2, -, ⟨e2, o362⟩, hf2, -⟩ := id hB2
          have c1 : XCall xM 8 77 [.ref 13, .int (nI g), .int (nI c), .int (nI k), .int x] h (some (.int (seL (fun y => stS (laB f n m g nc x c) k (bset (yrK f (nI y)) m) (2 ^ m)) 40 0))) h1 := ch4 (by
            rw [if_pos hx]
            refine XGo.go 1 rfl ?_
            refine XGo.ifn (by decide) ?_
            refine XGo.go 4 rfl ?_
            refine XGo.call _ rfl xm_X6_coursesOfLate rfl rfl [.ref 13, .ref (24 + 3 * g), .int (nI c), .int x] [] rfl rfl (rc rfl rfl) (Nat.le_of_ble_eq_true rfl) c1 ?_
            exact XGo.go 3 rfl (se_c W hI1 hf1 (nI g) (nI c) x (24 + 3 * g) (laB f n m g nc x c) hk 40 0 (by omega)))
          have c2 : XCall xM 8 160 [.ref 536, .int (nI g), .int (nI c), .int (nI k), .int x] h1 (some (.int (seL (fun y => stS (laB f n m g nc x c) k (bset (yrK f (nI y)) m) (2 ^ m)) 40 0))) h2 := mh4 hB1 (by
            rw [if_pos hx]
            refine XGo.go 1 rfl ?_
            refine XGo.ifn (by decide) ?_
            refine XGo.go 2 rfl ?_
            refine c2 ?_
            exact XGo.go 2 rfl (se_m W hN2 o362 hf2 hl2 (laB f n m g nc x c) hj2 (nI g) (nI c) x hk 40 0 none none none (by omega)))
          refine ⟨_, h1, h2, XCall.up (by decide) c1, hI1.1.1, XCall.ext _ _ _ _ _ _ c1 (by rw [hI.1.1.1]; decide) 1 (by decide), XCall.up (by decide) c2, ?_⟩
          exact G_fin h_946 (by decide +kernel) rfl (by decide +kernel) (by decide +kernel) (by decide +kernel) (gal536 (galT _ (galT _ (galT _ (galT x gal0))))) hI1 c2 hf1 hf2 o2
        · refine ⟨i2m, h, h, XCall.up (e := 11) (by decide) (ch4 ?_), hI.1.1, rfl, XCall.up (by decide) (mh4 hB ?_), hI⟩
          · rw [if_neg hx]
            refine XGo.go 1 rfl ?_
            exact XGo.ifp (by decide) cbad
          · rw [if_neg hx]
            refine XGo.go 1 rfl ?_
            exact XGo.ifp (by decide) (mbd2 h)
      · refine ⟨i2m, h, h, XCall.up (e := 11) (by decide) (ch3 ?_), hI.1.1, rfl, XCall.up (by decide) (mh3 hB ?_), hI⟩
        · rw [if_neg hc]
          refine XGo.go 1 rfl ?_
          exact XGo.ifp (by decide) cbad
        · rw [if_neg hc]
          refine XGo.go 1 rfl ?_
          exact XGo.ifp (by decide) (mbd2 h)
    · refine ⟨m1, h, h, XCall.up (e := 11) (by decide) (ch2 ?_), hI.1.1, rfl, XCall.up (by decide) (mh2 hB ?_), hI⟩
      · rw [if_neg hl]
        refine XGo.go 1 rfl ?_
        refine XGo.ifp (by decide) ?_
        refine XGo.go 1 rfl ?_
        exact XGo.iret _ rfl rfl .int rfl rfl
      · rw [if_neg hl]
        refine XGo.go 1 rfl ?_
        exact XGo.ifp (by decide) (mbad _ _)
