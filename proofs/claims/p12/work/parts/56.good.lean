/-! person of both sides, where it writes -/
def cfc : ACt := ((96, [avR 13], [(none, [], [])], [(58, 0, 0)], 1), [], 1, 6)
theorem w_obj {h : XH} (hI : AInv w_W h) {k r ci : Nat} {sl : List AV} (hk : k < 549) (hr : w_rg k = r) (hS : w_S r = (0, ci, 0, sl, [])) : ∃ fs : List Value, h.2.2 k = .inl (ci, fs) ∧ fs.length = sl.length ∧ ∀ (b : Nat) (a : AV), sl[b]? = some a → ∃ v, fs[b]? = some v ∧ rd h k b = some v ∧ ga w_W a v := by
  obtain ⟨s1, s2⟩ := hI.2.2 k hk
  rw [w_Sg, hr, hS] at s1 s2
  obtain ⟨⟨o, fs⟩, ho, o1, o2⟩ := shp_o (s := (0, ci, 0, sl, [])) rfl s1
  have o1 : o = ci := o1
  subst o1
  refine ⟨fs, ho, o2, fun b a hb => ?_⟩
  obtain ⟨v, hv, hg⟩ := s2 b a hb
  refine ⟨v, ?_, hv, hg⟩
  unfold rd at hv
  rw [ho] at hv
  exact hv
theorem w_ints {h : XH} (hI : AInv w_W h) {k r n : Nat} {sg : List (Nat × Int × Int)} (hk : k < 549) (hr : w_rg k = r) (hS : w_S r = (1, 0, n, [], sg)) : ∃ f : Nat → Int32, h.2.2 k = .inr (.inl (0, n, f)) := by
  have s1 := (hI.2.2 k hk).1
  rw [w_Sg, hr, hS] at s1
  obtain ⟨⟨t, m, f⟩, ho, o1, o2⟩ := shp_i (s := (1, 0, n, [], sg)) rfl s1
  have o1 : t = 0 := o1
  have o2 : m = n := o2
  subst o1
  subst o2
  exact ⟨f, ho⟩
theorem rd_ints {h : XH} {p n : Nat} {f : Nat → Int32} (hf : h.2.2 p = .inr (.inl (0, n, f))) {b : Nat} (hb : b < n) : rd h p b = some (.int (f b)) := by
  unfold rd
  rw [hf]
  exact if_pos hb
theorem w_rg_15 : w_rg 15 = 15 := by decide +kernel
theorem w_rg_16 : w_rg 16 = 16 := by decide +kernel
theorem w_lg {h : XH} (hI : AInv w_W h) : ∃ fs : List Value, h.2.2 13 = .inl (6, fs) ∧ fs[0]? = some (.ref 14) ∧ fs[1]? = some (.ref 42) ∧ fs.length = 9 := by
  obtain ⟨fs, h1, h2, h3⟩ := w_obj hI (k := 13) (by decide) w_rg_13 (show w_S 13 = (0, 6, 0, w_s13.2.2.2.1, []) from rfl)
  obtain ⟨v, a1, -, a2⟩ := h3 0 (avR 14) rfl
  obtain ⟨u, b1, -, b2⟩ := h3 1 (avR 27) rfl
  have e1 := w_ref (k0 := 0) (j := 14) rfl w_rg_14 (by decide) a2
  have e2 := w_ref (k0 := 0) (j := 42) rfl w_rg_42 (by decide) b2
  exact ⟨fs, h1, by rw [← e1]; exact a1, by rw [← e2]; exact b1, h2⟩
theorem w_wo {h : XH} (hI : AInv w_W h) : ∃ fw : List Value, h.2.2 14 = .inl (5, fw) ∧ fw[1]? = some (.ref 15) ∧ fw[2]? = some (.ref 16) ∧ fw.length = 15 := by
  obtain ⟨fs, h1, h2, h3⟩ := w_obj hI (k := 14) (by decide) w_rg_14 (show w_S 14 = (0, 5, 0, w_s14.2.2.2.1, []) from rfl)
  obtain ⟨v, a1, -, a2⟩ := h3 1 (avR 15) rfl
  obtain ⟨u, b1, -, b2⟩ := h3 2 (avR 16) rfl
  have e1 := w_ref (k0 := 0) (j := 15) rfl w_rg_15 (by decide) a2
  have e2 := w_ref (k0 := 0) (j := 16) rfl w_rg_16 (by decide) b2
  exact ⟨fs, h1, by rw [← e1]; exact a1, by rw [← e2]; exact b1, h2⟩
theorem rd_fld {h : XH} {k ci b : Nat} {fs : List Value} (hk : h.2.2 k = .inl (ci, fs)) : rd h k b = fs[b]? := by
  unfold rd
  rw [hk]
theorem shA8 {n b : Nat} {lo hi : Int} (hb : b < n) : shA (1, 0, n, [], [(n, lo, hi)]) b = some (avI lo hi) := shA_1 rfl hb (by
  unfold sgI
  rw [if_neg (by omega), if_pos (by omega)])
/-- a row of ints whose cells may be any: one written -/
theorem w_iput {h : XH} (hI : AInv w_W h) {k r n b : Nat} {f : Nat → Int32} {x : Int32} (hk : k < 549) (hr : w_rg k = r) (hS : w_S r = (1, 0, n, [], [(n, -2147483648, 2147483647)])) (hf : h.2.2 k = .inr (.inl (0, n, f))) (hb : b < n) : AInv w_W (xup h k (.inr (.inl (0, n, upd f b x)))) ∧ AFr w_W [(r, (b : Int), (b : Int))] h (xup h k (.inr (.inl (0, n, upd f b x)))) := by
  have hW := wrote_int (h := h) (k := k) (b := b) (x := x) hf hb
  refine ⟨hI.wrote hW (s := avT) ?_ (ga_of rfl (gi_T x)), AFr.wrote (i := (b : Int)) (j := (b : Int)) hW (Int.le_refl _) (Int.le_refl _) ⟨_, List.mem_singleton.mpr rfl, ((w_W1 k).trans hr).symm, Int.le_refl _, Int.le_refl _⟩⟩
  rw [w_Sg, hr, hS]
  exact shA8 hb
theorem nI_pm {n : Nat} (hn : n ≤ 8) : nI n + Int32.ofInt 1 - Int32.ofInt 1 = nI n := by
  have e : (nI n).toInt = (n : Int) := nI_toInt (by omega)
  have e1 : (Int32.ofInt 1).toInt = 1 := by decide
  refine Int32.toInt_inj.mp ?_
  rw [i32_sub (by rw [i32_add (by omega) (by omega)]; omega) (by rw [i32_add (by omega) (by omega)]; omega), i32_add (by omega) (by omega)]
  omega
theorem upd_at {f : Nat → Int32} {n : Nat} {x : Int32} : upd f n x n = x := if_pos rfl
theorem upd_ne {f : Nat → Int32} {n j : Nat} {x : Int32} (h : ¬ j = n) : upd f n x j = f j := if_neg h
theorem AFr.two {ws ws1 ws2 : AWr} {h h1 h2 : XH} (a : AFr w_W ws1 h h1) (b : AFr w_W ws2 h1 h2) (i1 : awin ws ws1 = true) (i2 : awin ws ws2 = true) : AFr w_W ws h h2 := (awin_ok a i1).trans (awin_ok b i2)
theorem age_put {h : XH} {n j : Nat} {f : Nat → Int32} {a : Int32} {o : Option Value} (hj : j < n + 1) (q : QW (vw w_W h)) (h0 : rd h 14 0 = some (.int (nI n))) (hn : n < 9) (ha : 0 ≤ a.toInt ∧ a.toInt ≤ 90) (ho : o = some (.int (upd f n a j))) (hf : rd h 15 j = some (.int (f j))) : ∃ x : Int32, o = some (.int x) ∧ 0 ≤ x.toInt ∧ x.toInt ≤ 90 := by
  obtain ⟨n0, -, ⟨hn0, -⟩, q0, -, qa, -⟩ := q
  rw [vw_14 (Or.inl rfl), h0] at q0
  have e := nI_inj (by omega) (by omega) (int_inj q0)
  subst e
  refine ⟨_, ho, ?_⟩
  by_cases hjn : j = n
  · rw [hjn, upd_at]
    exact ha
  · rw [upd_ne hjn]
    obtain ⟨x, x1, x2⟩ := qa j (by omega)
    rw [vw_wo (by decide) (by decide), hf] at x1
    rw [int_inj x1]
    exact x2
set_option maxRecDepth 100000 in
theorem cgood (hfc : CFC) {h : XH} (hI : AInv w_W h) (hP : PInv w_W w_P h []) {n : Nat} (hn : n < 8) (h0 : rd h 14 0 = some (.int (nI n))) (a p : Int32) (ha : 0 ≤ a.toInt ∧ a.toInt ≤ 90) : ∃ h1, XGo 8 xm_X6_person (69, [some (.ref 13), some (.int a), some (.int p)], [], h) (some (.int (nI n))) h1 ∧ AInv w_W h1 ∧ PInv w_W w_P h1 [] ∧ AFr w_W [(14, 0, 0), (15, 0, 7), (16, 0, 7), (58, 0, 0)] h h1 ∧ rd h1 14 0 = some (.int (nI (n + 1))) ∧ (∀ i, i < 8 → rd h1 15 i = if i = n then some (.int a) else rd h 15 i) ∧ ∀ i, i < 8 → rd h1 16 i = if i = n then some (.int p) else rd h 16 i := by
  obtain ⟨fs, h13, hs0, -, -⟩ := w_lg hI
  obtain ⟨fw, h14, hw1, hw2, hwl⟩ := w_wo hI
  obtain ⟨f, h15⟩ := w_ints hI (k := 15) (by decide) w_rg_15 (show w_S 15 = (1, 0, 8, [], w_s15.2.2.2.2) from rfl)
  obtain ⟨g, h16⟩ := w_ints hI (k := 16) (by decide) w_rg_16 (show w_S 16 = (1, 0, 8, [], w_s16.2.2.2.2) from rfl)
  have hw0 : fw[0]? = some (.int (nI n)) := (rd_fld h14).symm.trans h0
  have hN : h.1 = 549 := hI.1
  have ci : ¬ (nI n < 0 ∨ 8 ≤ (nI n).toNatClampNeg) := fun q => q.elim (xnI_lt0 (by omega)) (fun z => by rw [xnI_nat (by omega)] at z; omega)
  obtain ⟨iA, fA⟩ := w_iput hI (k := 15) (b := n) (x := a) (by decide) w_rg_15 rfl h15 hn
  have h16A : (xup h 15 (.inr (.inl (0, 8, upd f n a)))).2.2 16 = .inr (.inl (0, 8, g)) := (xup_ne _ _ (by decide)).trans h16
  obtain ⟨iB, fB⟩ := w_iput iA (k := 16) (b := n) (x := p) (by decide) w_rg_16 rfl h16A hn
  generalize hA : xup h 15 (.inr (.inl (0, 8, upd f n a))) = A at iA fA h16A iB fB
  have A13 : A.2.2 13 = .inl (6, fs) := by rw [← hA]; exact (xup_ne _ _ (by decide)).trans h13
  have A14 : A.2.2 14 = .inl (5, fw) := by rw [← hA]; exact (xup_ne _ _ (by decide)).trans h14
  have A15 : A.2.2 15 = .inr (.inl (0, 8, upd f n a)) := by rw [← hA]; exact xup_eq _ _ _
  have AN : A.1 = 549 := iA.1
  generalize hB : xup A 16 (.inr (.inl (0, 8, upd g n p))) = B at iB fB
  have B13 : B.2.2 13 = .inl (6, fs) := by rw [← hB]; exact (xup_ne _ _ (by decide)).trans A13
  have B14 : B.2.2 14 = .inl (5, fw) := by rw [← hB]; exact (xup_ne _ _ (by decide)).trans A14
  have B15 : B.2.2 15 = .inr (.inl (0, 8, upd f n a)) := by rw [← hB]; exact (xup_ne _ _ (by decide)).trans A15
  have B16 : B.2.2 16 = .inr (.inl (0, 8, upd g n p)) := by rw [← hB]; exact xup_eq _ _ _
  have BN : B.1 = 549 := iB.1
  have hW := wrote_field (h := B) (k := 14) (ci := 5) (fs := fw) (b := 0) (v := .int (nI n + Int32.ofInt 1)) B14 (by omega)
  have iC := iB.wrote hW (s := avT) (by rw [w_Sg, w_rg_14]; rfl) (ga_of rfl (gi_T _))
  have fC : AFr w_W [(14, 0, 0)] B (xup B 14 (.inl (5, fw.set 0 (.int (nI n + Int32.ofInt 1))))) := AFr.wrote (i := 0) (j := 0) hW (Int.le_refl _) (Int.le_refl _) ⟨_, List.mem_singleton.mpr rfl, ((w_W1 14).trans w_rg_14).symm, Int.le_refl _, Int.le_refl _⟩
  have rC : rd (xup B 14 (.inl (5, fw.set 0 (.int (nI n + Int32.ofInt 1))))) 14 0 = some (.int (nI n + Int32.ofInt 1)) := hW.2.2.1
  generalize hC : xup B 14 (.inl (5, fw.set 0 (.int (nI n + Int32.ofInt 1)))) = C at iC fC rC
  have C13 : C.2.2 13 = .inl (6, fs) := by rw [← hC]; exact (xup_ne _ _ (by decide)).trans B13
  have C15 : C.2.2 15 = .inr (.inl (0, 8, upd f n a)) := by rw [← hC]; exact (xup_ne _ _ (by decide)).trans B15
  have C16 : C.2.2 16 = .inr (.inl (0, 8, upd g n p)) := by rw [← hC]; exact (xup_ne _ _ (by decide)).trans B16
  have CN : C.1 = 549 := iC.1
  have hFC : AFr w_W [(14, 0, 0), (15, 0, 7), (16, 0, 7), (58, 0, 0)] h C := by
    refine AFr.trans (AFr.trans (fA.mono fun w hw => ?_) (fB.mono fun w hw => ?_)) (fC.mono fun w hw => ?_)
    · rw [List.mem_singleton.mp hw]
      exact ⟨(15, 0, 7), by decide, rfl, by show (0 : Int) ≤ (n : Int); omega, by show (n : Int) ≤ 7; omega⟩
    · rw [List.mem_singleton.mp hw]
      exact ⟨(16, 0, 7), by decide, rfl, by show (0 : Int) ≤ (n : Int); omega, by show (n : Int) ≤ 7; omega⟩
    · rw [List.mem_singleton.mp hw]
      exact ⟨(14, 0, 0), by decide, rfl, Int.le_refl _, Int.le_refl _⟩
  have pC : PPr w_W w_P C [] := PPr.out hFC (by decide) hP.1
  have sC : QS (vw w_W C) := qs_fr hFC (by decide) (hP.2 rfl).1
  have wC : QW (vw w_W C) := qw_n (hP.2 rfl).2.1 (n := n + 1) (by omega) (rC.trans (by rw [show nI n + Int32.ofInt 1 = nI (n + 1) from nI_1 n])) (fun j hj => age_put hj (hP.2 rfl).2.1 h0 (by omega) ha (rd_ints C15 (by omega)) (rd_ints h15 (by omega))) (rdF (b := 3) w_rg_14 (by decide) hFC (by decide)) (fun k _ => rdF (r := 17) (b := k) (by decide +kernel) (by decide) hFC (by unfold ahit; rfl)) (fun k _ => rdF (r := 18) (b := k) (by decide +kernel) (by decide) hFC (by unfold ahit; rfl)) (fun k _ => rdF (r := 19) (b := k) (by decide +kernel) (by decide) hFC (by unfold ahit; rfl))
  obtain ⟨D, d1, iD, pD, fD⟩ := hfc C iC pC sC wC
  have hFD : AFr w_W [(14, 0, 0), (15, 0, 7), (16, 0, 7), (58, 0, 0)] h D := hFC.trans (fD.mono fun w hw => ⟨(58, 0, 0), by decide, by rw [List.mem_singleton.mp hw], by rw [List.mem_singleton.mp hw]; exact Int.le_refl _, by rw [List.mem_singleton.mp hw]; exact Int.le_refl _⟩)
  obtain ⟨fs2, D13, ds0, -, -⟩ := w_lg iD
  obtain ⟨fw2, D14, -, -, -⟩ := w_wo iD
  have rD : rd D 14 0 = some (.int (nI n + Int32.ofInt 1)) := (rdF (b := 0) w_rg_14 (by decide) fD rfl).trans rC
  have dw0 : fw2[0]? = some (.int (nI n + Int32.ofInt 1)) := (rd_fld D14).symm.trans rD
  have DN : D.1 = 549 := iD.1
  refine ⟨D, ?_, iD, pD, hFD, by rw [rD, show nI n + Int32.ofInt 1 = nI (n + 1) from nI_1 n], fun i hi => ?_, fun i hi => ?_⟩
  · refine XGo.go 1 rfl ?_
    refine XGo.getf rfl (xfd_o h13 (by omega) (by decide) hs0) ?_
    refine XGo.getf rfl (xfd_o h14 (by omega) (by decide) hw1) ?_
    refine XGo.go 1 rfl ?_
    refine XGo.getf rfl (xfd_o h13 (by omega) (by decide) hs0) ?_
    refine XGo.getf rfl (xfd_o h14 (by omega) (by decide) hw0) ?_
    refine XGo.go 1 rfl ?_
    have q1 := k_put_in 7 h 15 8 f (nI n) a h15 (by omega) (by decide) (by decide) ci
    rw [xnI_nat (by omega), hA] at q1
    refine XGo.call _ rfl xm_X6_put rfl rfl [.ref 15, .int (nI n), .int a] [] rfl rfl (fun z => absurd rfl z) (Nat.le_of_ble_eq_true rfl) q1 ?_
    refine XGo.go 1 rfl ?_
    refine XGo.getf rfl (xfd_o A13 (by omega) (by decide) hs0) ?_
    refine XGo.getf rfl (xfd_o A14 (by omega) (by decide) hw2) ?_
    refine XGo.go 1 rfl ?_
    refine XGo.getf rfl (xfd_o A13 (by omega) (by decide) hs0) ?_
    refine XGo.getf rfl (xfd_o A14 (by omega) (by decide) hw0) ?_
    refine XGo.go 1 rfl ?_
    have q2 := k_put_in 7 A 16 8 g (nI n) p h16A (by omega) (by decide) (by decide) ci
    rw [xnI_nat (by omega), hB] at q2
    refine XGo.call _ rfl xm_X6_put rfl rfl [.ref 16, .int (nI n), .int p] [] rfl rfl (fun z => absurd rfl z) (Nat.le_of_ble_eq_true rfl) q2 ?_
    refine XGo.go 1 rfl ?_
    refine XGo.getf rfl (xfd_o B13 (by omega) (by decide) hs0) ?_
    refine XGo.go 1 rfl ?_
    refine XGo.getf rfl (xfd_o B14 (by omega) (by decide) hw0) ?_
    refine XGo.go 2 rfl ?_
    refine XGo.putf rfl B14 (by omega) (by decide) (by omega) rfl rfl ?_
    rw [hC]
    refine XGo.go 1 rfl ?_
    refine XGo.call _ rfl xm_X6_forgetCourses rfl rfl [.ref 13] [] rfl rfl (fun _ => ⟨13, fs, rfl, C13, by decide, by omega⟩) (Nat.le_of_ble_eq_true rfl) (XCall.up (by decide) d1) ?_
    refine XGo.go 1 rfl ?_
    refine XGo.getf rfl (xfd_o D13 (by omega) (by decide) ds0) ?_
    refine XGo.getf rfl (xfd_o D14 (by omega) (by decide) dw0) ?_
    refine XGo.go 2 rfl ?_
    show XGo _ _ (_, _, [.int (nI n + Int32.ofInt 1 - Int32.ofInt 1)], _) _ _
    rw [nI_pm (by omega)]
    exact XGo.iret _ rfl rfl .int rfl rfl
  · rw [rdF (b := i) w_rg_15 (by decide) fD (by unfold ahit; rfl), rd_ints C15 hi, rd_ints h15 hi]
    by_cases hin : i = n
    · rw [if_pos hin, hin, upd_at]
    · rw [if_neg hin, upd_ne hin]
  · rw [rdF (b := i) w_rg_16 (by decide) fD (by unfold ahit; rfl), rd_ints C16 hi, rd_ints h16 hi]
    by_cases hin : i = n
    · rw [if_pos hin, hin, upd_at]
    · rw [if_neg hin, upd_ne hin]
