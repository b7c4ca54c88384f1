/-! the model's parser: how long; a clause -/
/-- who's cells on both sides -/
def HK (k n l m : Int32) : Prop := m = n ∧ rg 7 n ∧ ((k = Int32.ofInt 0 ∧ l = (Int8.ofInt 112).toInt32) ∨ (k = Int32.ofInt 1 ∧ l = (Int8.ofInt 102).toInt32) ∨ (k = Int32.ofInt 2 ∧ l = (Int8.ofInt 99).toInt32))
def TK (k n l m : Int32) : Prop := m = n ∧ rg 99 n ∧ ((k = Int32.ofInt 0 ∧ l = (Int8.ofInt 108).toInt32) ∨ (k = Int32.ofInt 1 ∧ l = (Int8.ofInt 101).toInt32) ∨ (k = Int32.ofInt 2 ∧ l = (Int8.ofInt 121).toInt32))
def ZC (k n l m : Int32) : Prop := (k = Int32.ofInt 0 ∧ l = Int32.ofInt 0 ∧ m = n) ∨ CK k n l m
theorem cWord_eq {tx : Nat → Int32} {sz a b : Nat} (h : ∀ i, i < 4 → bOf a i = bOf b i) : ∀ (q : Nat) (s : PS), q ≤ 4 → cWord tx sz a q s = cWord tx sz b q s
  | 0, _, _ => rfl
  | q + 1, s, hq => by
    unfold cWord
    rw [h (3 - q) (by omega)]
    unfold andc
    rw [cWord_eq h q _ (by omega)]
theorem bw : ∀ i : Fin 4, bOf 4 i.val = bOf 2 i.val ∧ bOf 5 i.val = bOf 3 i.val := by decide +kernel
theorem andc_assoc (r : Bool × PS) (f g : PS → Bool × PS) : andc (andc r f) g = andc r (fun t => andc (f t) g) := by
  obtain ⟨b, s⟩ := r
  cases b
  · rw [andc_f (nf s), andc_f (nf s), andc_f (nf s)]
  · rw [andc_t (r := (true, s)) rfl, andc_t (r := (true, s)) rfl]
section MP
variable {h : XH} {e f tx : Nat → Int32} {sz sp : Nat} {wr : Bool}
theorem cWord_keep {w : Nat} : ∀ (q : Nat) (s : PS), (cWord tx sz w q s).2.2 = s.2
  | 0, _ => rfl
  | q + 1, s => by
    unfold cWord andc
    have e1 : (cTake tx sz (bOf w (3 - q)) s).2.2 = s.2 := by unfold cTake; split <;> rfl
    split
    · rw [cWord_keep q, e1]
    · exact e1
theorem cTake_keep {ch : Int32} {s : PS} : (cTake tx sz ch s).2.2 = s.2 := by unfold cTake; split <;> rfl
set_option maxRecDepth 100000 in
theorem k_how0 (d : Nat) (hB : SB0 h) (ht : TX f tx) (he : e 9 = nI sz) (hsz : sz ≤ 80) {s : PS} (hs : s.1 ≤ sz) {a c : Nat} (ha9 : 90 ≤ a) (ha : a + 1 < 490) (hz : f (a + 1) = Int32.ofInt 0) : ∃ f2 : Nat → Int32, XCall xM (d + 6) 127 [.ref 536, .int (nI a)] (MS h e f s.1 false) none (MR h e f2 (cTerm tx sz c s)) ∧ (∀ j, ¬ j = a → ¬ j = a + 1 → f2 j = f j) ∧ ((cTerm tx sz c s).1 = true → TK (f2 a) (f2 (a + 1)) ((cTerm tx sz c s).2.2.1 (4 * c + 2)) ((cTerm tx sz c s).2.2.2 (4 * c + 2))) := by
  have key : ∀ {v : Option Value} {hend : XH}, XGo (d + 5) xm_X7_howLong (8, mcL a (nxt tx sz s.1), [.int (Int8.ofInt 108).toInt32, .int (nxt tx sz s.1)], MS h e f s.1 false) v hend → XCall xM (d + 6) 127 [.ref 536, .int (nI a)] (MS h e f s.1 false) v hend := fun g => by
    refine XCall.of (M := xm_X7_howLong) rfl (Nat.le_of_ble_eq_true rfl) ?_
    refine XGo.go 1 rfl ?_
    refine XGo.call _ rfl xm_X7_here rfl rfl [.ref 536] [] rfl rfl (rr536 rfl rfl) (Nat.le_of_ble_eq_true rfl) (k_here (d + 4) ht he hsz (by omega)) ?_
    exact XGo.go 3 rfl g
  unfold cTerm
  generalize nxt tx sz s.1 = z at *
  by_cases e1 : z = (Int8.ofInt 108).toInt32
  · rw [if_pos e1]
    have ew : cWord tx sz 4 4 s = cWord tx sz 2 4 s := cWord_eq (fun i hi => (bw ⟨i, hi⟩).1) 4 s (by decide)
    have q := k_spells (s := s) d hB ht he hsz (w := 4) (by decide) hs
    rw [ew] at q
    have kp := cWord_keep (tx := tx) (sz := sz) (w := 2) 4 s
    generalize cWord tx sz 2 4 s = r at *
    have er : MR h e (upd f a (Int32.ofInt 0)) (andc r (cPart (4 * c + 2) z (Int32.ofInt 0))) = MR h e (upd f a (Int32.ofInt 0)) r := by
      obtain ⟨b, t⟩ := r
      cases b <;> rfl
    refine ⟨upd f a (Int32.ofInt 0), key ?_, fun j h1 _ => upd_ne h1, fun ok => ?_⟩
    · rw [er]
      refine XGo.go 1 rfl ?_
      refine XGo.ifp e1 ?_
      refine XGo.go 2 rfl ?_
      refine XGo.call _ rfl xm_X7_spells rfl rfl [.ref 536, .ref 4] [] rfl rfl (rr536 rfl rfl) (Nat.le_of_ble_eq_true rfl) q ?_
      refine XGo.go 4 rfl ?_
      refine XGo.pfs rfl (by omega) ?_
      refine XGo.go 1 rfl ?_
      exact XGo.vret _ rfl rfl rfl
    · have r1 : r.1 = true := Classical.byContradiction fun z => by
        rw [andc_f z] at ok
        exact Bool.false_ne_true ok
      rw [andc_t r1, upd_at, upd_ne (by omega), hz]
      refine ⟨?_, ⟨by decide, by decide⟩, Or.inl ⟨rfl, ?_⟩⟩
      · show upd r.2.2.2 (4 * c + 2) (Int32.ofInt 0) (4 * c + 2) = _
        rw [upd_at]
      · show upd r.2.2.1 (4 * c + 2) z (4 * c + 2) = _
        rw [upd_at, e1]
  · rw [if_neg e1]
    by_cases e2 : z = (Int8.ofInt 101).toInt32
    · rw [if_pos e2]
      have ew : cWord tx sz 5 4 s = cWord tx sz 3 4 s := cWord_eq (fun i hi => (bw ⟨i, hi⟩).2) 4 s (by decide)
      have q := k_spells (s := s) d hB ht he hsz (w := 5) (by decide) hs
      rw [ew] at q
      generalize cWord tx sz 3 4 s = r at *
      have er : MR h e (upd f a (Int32.ofInt 1)) (andc r (cPart (4 * c + 2) z (Int32.ofInt 0))) = MR h e (upd f a (Int32.ofInt 1)) r := by
        obtain ⟨b, t⟩ := r
        cases b <;> rfl
      refine ⟨upd f a (Int32.ofInt 1), key ?_, fun j h1 _ => upd_ne h1, fun ok => ?_⟩
      · rw [er]
        refine XGo.go 1 rfl ?_
        refine XGo.ifn e1 ?_
        refine XGo.go 3 rfl ?_
        refine XGo.ifp e2 ?_
        refine XGo.go 2 rfl ?_
        refine XGo.call _ rfl xm_X7_spells rfl rfl [.ref 536, .ref 5] [] rfl rfl (rr536 rfl rfl) (Nat.le_of_ble_eq_true rfl) q ?_
        refine XGo.go 4 rfl ?_
        refine XGo.pfs rfl (by omega) ?_
        refine XGo.go 1 rfl ?_
        exact XGo.vret _ rfl rfl rfl
      · have r1 : r.1 = true := Classical.byContradiction fun z => by
          rw [andc_f z] at ok
          exact Bool.false_ne_true ok
        rw [andc_t r1, upd_at, upd_ne (by omega), hz]
        refine ⟨?_, ⟨by decide, by decide⟩, Or.inr (Or.inl ⟨rfl, ?_⟩)⟩
        · show upd r.2.2.2 (4 * c + 2) (Int32.ofInt 0) (4 * c + 2) = _
          rw [upd_at]
        · show upd r.2.2.1 (4 * c + 2) z (4 * c + 2) = _
          rw [upd_at, e2]
    · rw [if_neg e2]
      obtain ⟨v, c1, c2⟩ := k_figures (h := h) (f := upd f a (Int32.ofInt 2)) (d + 3) (ht.upd ha9) he hsz hs
      have lp := nmp_le (tx := tx) hs
      have ht2 : TX (upd (upd f a (Int32.ofInt 2)) (a + 1) v) tx := (ht.upd ha9).upd (by omega)
      refine ⟨upd (upd f a (Int32.ofInt 2)) (a + 1) v, key ?_, fun j h1 h2 => by rw [upd_ne h2, upd_ne h1], fun ok => ?_⟩
      · refine XGo.go 1 rfl ?_
        refine XGo.ifn e1 ?_
        refine XGo.go 3 rfl ?_
        refine XGo.ifn e2 ?_
        refine XGo.go 4 rfl ?_
        refine XGo.pfs rfl (by omega) ?_
        refine XGo.go 5 rfl ?_
        show XGo _ _ (63, mcL a z, [.int (nI a + Int32.ofInt 1), .ref 537], _) _ _
        rw [show nI a + Int32.ofInt 1 = nI (a + 1) from nI_1 a]
        refine XGo.go 1 rfl ?_
        refine XGo.call _ rfl xm_X7_figures rfl rfl [.ref 536] [.int (nI (a + 1)), .ref 537] rfl rfl (rr536 rfl rfl) (Nat.le_of_ble_eq_true rfl) c1 ?_
        refine XGo.pfs rfl ha ?_
        refine XGo.go 2 rfl ?_
        by_cases n0 : nmv tx sz s.1 < 0
        · rw [decide_eq_true n0, andc_f (show ¬ (cPart (4 * c + 2) (Int8.ofInt 121).toInt32 (nmv tx sz s.1) (nmp tx sz s.1, s.2)).1 = true by unfold cPart; simp [n0])]
          refine XGo.call _ rfl xm_X7_must rfl rfl [.ref 536, .int (Int8.ofInt 121).toInt32] [] rfl rfl (rr536 rfl rfl) (Nat.le_of_ble_eq_true rfl) (k_must1 (d + 3)) ?_
          exact XGo.vret _ rfl rfl rfl
        · rw [decide_eq_false n0, andc_t (show (cPart (4 * c + 2) (Int8.ofInt 121).toInt32 (nmv tx sz s.1) (nmp tx sz s.1, s.2)).1 = true by unfold cPart; simp [n0])]
          refine XGo.call _ rfl xm_X7_must rfl rfl [.ref 536, .int (Int8.ofInt 121).toInt32] [] rfl rfl (rr536 rfl rfl) (Nat.le_of_ble_eq_true rfl) (k_must0 (s := (cPart (4 * c + 2) (Int8.ofInt 121).toInt32 (nmv tx sz s.1) (nmp tx sz s.1, s.2)).2) (d + 3) ht2 he hsz lp) ?_
          exact XGo.vret _ rfl rfl rfl
      · by_cases n0 : nmv tx sz s.1 < 0
        · rw [andc_f (show ¬ (cPart (4 * c + 2) (Int8.ofInt 121).toInt32 (nmv tx sz s.1) (nmp tx sz s.1, s.2)).1 = true by unfold cPart; simp [n0])] at ok
          exact absurd ok Bool.false_ne_true
        · rw [andc_t (show (cPart (4 * c + 2) (Int8.ofInt 121).toInt32 (nmv tx sz s.1) (nmp tx sz s.1, s.2)).1 = true by unfold cPart; simp [n0])]
          rw [upd_ne (show ¬ a = a + 1 by omega), upd_at, upd_at, cTake_keep]
          refine ⟨?_, by rw [c2 n0]; exact nmv_rg n0, Or.inr (Or.inr ⟨rfl, ?_⟩)⟩
          · show upd s.2.2 (4 * c + 2) (nmv tx sz s.1) (4 * c + 2) = _
            rw [upd_at, c2 n0]
          · show upd s.2.1 (4 * c + 2) _ (4 * c + 2) = _
            rw [upd_at]
end MP
/-! the model's parser: a clause in its pieces -/
section MP
variable {h : XH} {e f tx : Nat → Int32} {sz sp : Nat} {wr : Bool}
abbrev mxL (a : Nat) (b z : Int32) : XL := [some (.ref 536), some (.int (nI a)), some (.int b), some (.int z)]
theorem MR_part {f2 : Nat → Int32} {i p : Nat} {y v : Int32} {s2 : (Nat → Int32) × (Nat → Int32)} : MR h e f2 (cPart i y v (p, s2)) = MS h e f2 p (decide (v < 0)) := by
  show MS h e f2 p (!(!decide (v < 0))) = _
  rw [Bool.not_not]
def zero8 (f : Nat → Int32) (a i : Nat) : Nat → Int32 := fun j => if a ≤ j ∧ j < a + i then Int32.ofInt 0 else f j
theorem zero8_s {a i : Nat} : upd (zero8 f a i) (a + i) (Int32.ofInt 0) = zero8 f a (i + 1) := by
  funext j
  unfold upd zero8
  by_cases q : j = a + i
  · rw [if_pos q, if_pos (by omega)]
  · rw [if_neg q]
    by_cases z : a ≤ j ∧ j < a + i
    · rw [if_pos z, if_pos (by omega)]
    · rw [if_neg z, if_neg (by omega)]
set_option maxRecDepth 100000 in
theorem clear_l (d : Nat) {a : Nat} (ha : a + 8 ≤ 490) {b : Int32} {v : Option Value} {hend : XH} (g : XGo d xm_X7_clause (23, mxL a b (nI 8), [], MS h e (zero8 f a 8) sp wr) v hend) : ∀ q i : Nat, i + q = 8 → XGo d xm_X7_clause (2, mxL a b (nI i), [], MS h e (zero8 f a i) sp wr) v hend
  | 0, i, hi => by
    have hi : i = 8 := by omega
    subst hi
    refine XGo.go 3 rfl ?_
    exact XGo.ifp (by decide) g
  | q + 1, i, hi => by
    refine XGo.go 3 rfl ?_
    refine XGo.ifn (fun z => absurd ((xnI_ge (m := 8) (by decide) (by omega)).mp z) (by omega)) ?_
    refine XGo.go 6 rfl ?_
    show XGo _ _ (16, _, [.int (Int32.ofInt 0), .int (nI a + nI i), .ref 537], _) _ _
    rw [show nI a + nI i = nI (a + i) from nI_add a i]
    refine XGo.pfs rfl (by omega) ?_
    rw [zero8_s]
    refine XGo.go 2 rfl ?_
    show XGo _ _ (2, mxL a b (nI i + Int32.ofInt 1), [], _) _ _
    rw [show nI i + Int32.ofInt 1 = nI (i + 1) from nI_1 i]
    exact clear_l d ha g q (i + 1) (by omega)
theorem cCond_keep {i j : Nat} {s : PS} (hj : ¬ j = i) : (cCond tx sz i s).2.2.1 j = s.2.1 j ∧ (cCond tx sz i s).2.2.2 j = s.2.2 j := by
  unfold cCond
  split
  · exact ⟨upd_ne hj, upd_ne hj⟩
  · split
    · exact ⟨upd_ne hj, upd_ne hj⟩
    · split
      · exact ⟨upd_ne hj, upd_ne hj⟩
      · exact ⟨rfl, rfl⟩
set_option maxRecDepth 100000 in
theorem clause_p1 (d : Nat) (ht : TX f tx) (he : e 9 = nI sz) (hsz : sz ≤ 80) {s : PS} (hs : s.1 ≤ sz) {a c : Nat} (ha9 : 90 ≤ a) (ha : a + 8 ≤ 490) {b z : Int32} (hb : b = if c = 0 then 1 else 0) (h0 : f a = Int32.ofInt 0) (h1 : f (a + 1) = Int32.ofInt 0) (l0 : s.2.1 (4 * c) = Int32.ofInt 0) (n0 : s.2.2 (4 * c) = Int32.ofInt 0) :
    ∃ f2 : Nat → Int32, (∀ {v : Option Value} {hend : XH}, XGo (d + 3) xm_X7_clause (57, mxL a b z, [], MR h e f2 (cShift tx sz c s)) v hend → XGo (d + 3) xm_X7_clause (23, mxL a b z, [], MS h e f s.1 false) v hend) ∧ (∀ j, ¬ j = a → ¬ j = a + 1 → f2 j = f j) ∧ ((cShift tx sz c s).1 = true → ZC (f2 a) (f2 (a + 1)) ((cShift tx sz c s).2.2.1 (4 * c)) ((cShift tx sz c s).2.2.2 (4 * c))) := by
  have plain : cShift tx sz c s = (true, s) → (∀ {v : Option Value} {hend : XH}, XGo (d + 3) xm_X7_clause (57, mxL a b z, [], MS h e f s.1 false) v hend → XGo (d + 3) xm_X7_clause (23, mxL a b z, [], MS h e f s.1 false) v hend) → ∃ f2 : Nat → Int32, (∀ {v : Option Value} {hend : XH}, XGo (d + 3) xm_X7_clause (57, mxL a b z, [], MR h e f2 (cShift tx sz c s)) v hend → XGo (d + 3) xm_X7_clause (23, mxL a b z, [], MS h e f s.1 false) v hend) ∧ (∀ j, ¬ j = a → ¬ j = a + 1 → f2 j = f j) ∧ ((cShift tx sz c s).1 = true → ZC (f2 a) (f2 (a + 1)) ((cShift tx sz c s).2.2.1 (4 * c)) ((cShift tx sz c s).2.2.2 (4 * c))) := fun es k => by
    rw [es]
    exact ⟨f, fun g => k g, fun _ _ _ => rfl, fun _ => Or.inl ⟨h0, l0, n0.trans h1.symm⟩⟩
  by_cases c0 : c = 0
  · rw [if_pos c0] at hb
    subst hb
    refine plain ?_ fun g => ?_
    · unfold cShift
      rw [if_neg (fun q => absurd q.1 (by omega))]
    · refine XGo.go 2 rfl ?_
      exact XGo.ifn (by decide) g
  · rw [if_neg c0] at hb
    subst hb
    have head : ∀ {v : Option Value} {hend : XH}, XGo (d + 3) xm_X7_clause (if nxt tx sz s.1 = (Int8.ofInt 62).toInt32 then 36 else 57, mxL a 0 z, [], MS h e f s.1 false) v hend → XGo (d + 3) xm_X7_clause (23, mxL a 0 z, [], MS h e f s.1 false) v hend := fun g => by
      refine XGo.go 2 rfl ?_
      refine XGo.ifp rfl ?_
      refine XGo.go 1 rfl ?_
      refine XGo.call _ rfl xm_X7_here rfl rfl [.ref 536] [] rfl rfl (rr536 rfl rfl) (Nat.le_of_ble_eq_true rfl) (k_here (d + 2) ht he hsz (by omega)) ?_
      exact XGo.go 2 rfl g
    by_cases q : nxt tx sz s.1 = (Int8.ofInt 62).toInt32
    · have et : cTake tx sz (Int8.ofInt 62).toInt32 s = (true, s.1 + 1, s.2) := if_pos q
      have es : cShift tx sz c s = andc (cCond tx sz (4 * c + 0) (s.1 + 1, s.2)) (cTake tx sz (Int8.ofInt 58).toInt32) := by
        unfold cShift
        rw [et]
        exact if_pos ⟨by omega, rfl⟩
      have lz := nxt_lt (by decide) q
      obtain ⟨f2, c1, c2, c3⟩ := k_cond0 (h := h) (s := (s.1 + 1, s.2)) (i := 4 * c + 0) (d) ht he hsz lz ha9 (by omega)
      have l2 : (cCond tx sz (4 * c + 0) (s.1 + 1, s.2)).2.1 ≤ sz := cCond_le lz
      have ht2 : TX f2 tx := fun j hj => by rw [c2 _ (by omega) (by omega)]; exact ht j hj
      rw [es]
      generalize cCond tx sz (4 * c + 0) (s.1 + 1, s.2) = r at *
      refine ⟨f2, fun g => head ?_, c2, fun ok => ?_⟩
      · rw [if_pos q]
        refine XGo.go 5 rfl ?_
        show XGo _ _ (43, _, [.int (nI s.1 + Int32.ofInt 1), .ref 536], _) _ _
        rw [show nI s.1 + Int32.ofInt 1 = nI (s.1 + 1) from nI_1 s.1]
        refine XGo.psp rfl (s.1 + 1) ?_
        refine XGo.go 2 rfl ?_
        refine XGo.call _ rfl xm_X7_cond rfl rfl [.ref 536, .int (nI a)] [] rfl rfl (rr536 rfl rfl) (Nat.le_of_ble_eq_true rfl) c1 ?_
        refine XGo.go 2 rfl ?_
        obtain ⟨rb, t⟩ := r
        cases rb
        · refine XGo.call _ rfl xm_X7_must rfl rfl [.ref 536, .int (Int8.ofInt 58).toInt32] [] rfl rfl (rr536 rfl rfl) (Nat.le_of_ble_eq_true rfl) (k_must1 (d + 1)) ?_
          exact g
        · refine XGo.call _ rfl xm_X7_must rfl rfl [.ref 536, .int (Int8.ofInt 58).toInt32] [] rfl rfl (rr536 rfl rfl) (Nat.le_of_ble_eq_true rfl) (k_must0 (s := t) (d + 1) ht2 he hsz l2) ?_
          exact g
      · have r1 : r.1 = true := Classical.byContradiction fun z => by
          rw [andc_f z] at ok
          exact Bool.false_ne_true ok
        rw [andc_t r1, cTake_keep]
        exact Or.inr (c3 r1)
    · refine plain ?_ fun g => head ?_
      · unfold cShift
        rw [if_neg (fun w => by
          have := w.2
          unfold cTake at this
          rw [if_neg q] at this
          exact Bool.false_ne_true this)]
      · rw [if_neg q]
        exact g
set_option maxRecDepth 100000 in
theorem clause_p2 (d : Nat) (ht : TX f tx) (he : e 9 = nI sz) (hsz : sz ≤ 80) {r : Bool × PS} (hs : r.2.1 ≤ sz) {a c : Nat} (ha9 : 90 ≤ a) (ha : a + 8 ≤ 490) {b z : Int32} :
    ∃ (f2 : Nat → Int32) (y : Int32), (∀ {v : Option Value} {hend : XH}, XGo (d + 3) xm_X7_clause (171, mxL a b y, [], MR h e f2 (andc r (cWho tx sz c))) v hend → XGo (d + 3) xm_X7_clause (57, mxL a b z, [], MR h e f r) v hend) ∧ (∀ j, ¬ j = a + 2 → ¬ j = a + 3 → f2 j = f j) ∧ ((andc r (cWho tx sz c)).1 = true → HK (f2 (a + 2)) (f2 (a + 3)) ((andc r (cWho tx sz c)).2.2.1 (4 * c + 1)) ((andc r (cWho tx sz c)).2.2.2 (4 * c + 1))) := by
  have e23 : ∀ x y : Int32, ∀ j : Nat, ¬ j = a + 2 → ¬ j = a + 3 → upd (upd f (a + 2) x) (a + 3) y j = f j := fun x y j h1 h2 => by rw [upd_ne h2, upd_ne h1]
  -- the rows behind: the letter's kind and the number
  have tail : ∀ (y k n : Int32) (w2 w3 : Bool) (sp2 sp3 : Nat) {v : Option Value} {hend : XH}, (k = if y = (Int8.ofInt 112).toInt32 then Int32.ofInt 0 else if y = (Int8.ofInt 102).toInt32 then Int32.ofInt 1 else Int32.ofInt 2) → XCall xM (d + 3) 125 [.ref 536, .int (Int8.ofInt 7).toInt32] (MS h e (upd f (a + 2) k) (if w2 = true then sp2 else sp2 + 1) w2) (some (.int n)) (MS h e (upd f (a + 2) k) sp3 w3) → XGo (d + 3) xm_X7_clause (171, mxL a b y, [], MS h e (upd (upd f (a + 2) k) (a + 3) n) sp3 w3) v hend → XGo (d + 3) xm_X7_clause (107, mxL a b y, [], MS h e f sp2 w2) v hend := fun y k n w2 w3 sp2 sp3 {v hend} hk hc g => by
    have fin : ∀ sp4 : Nat, sp4 = (if w2 = true then sp2 else sp2 + 1) → XGo (d + 3) xm_X7_clause (128, mxL a b y, [], MS h e f sp4 w2) v hend := fun sp4 e4 => by
      rw [← e4] at hc
      have put : XGo (d + 3) xm_X7_clause (156, mxL a b y, [.int k, .int (nI (a + 2)), .ref 537], MS h e f sp4 w2) v hend := by
        refine XGo.pfs rfl (by omega) ?_
        refine XGo.go 5 rfl ?_
        show XGo _ _ (164, mxL a b y, [.int (nI a + nI 3), .ref 537], _) _ _
        rw [show nI a + nI 3 = nI (a + 3) from nI_add a 3]
        refine XGo.go 2 rfl ?_
        refine XGo.call _ rfl xm_X7_figure rfl rfl [.ref 536, .int (Int8.ofInt 7).toInt32] [.int (nI (a + 3)), .ref 537] rfl rfl (rr536 rfl rfl) (Nat.le_of_ble_eq_true rfl) hc ?_
        exact XGo.pfs rfl (by omega) g
      refine XGo.go 5 rfl ?_
      show XGo _ _ (135, mxL a b y, [.int (nI a + nI 2), .ref 537], _) _ _
      rw [show nI a + nI 2 = nI (a + 2) from nI_add a 2]
      refine XGo.go 3 rfl ?_
      by_cases e1 : y = (Int8.ofInt 112).toInt32
      · rw [if_pos e1] at hk
        subst hk
        refine XGo.ifp e1 ?_
        exact XGo.go 2 rfl put
      · rw [if_neg e1] at hk
        refine XGo.ifn e1 ?_
        refine XGo.go 3 rfl ?_
        by_cases e2 : y = (Int8.ofInt 102).toInt32
        · rw [if_pos e2] at hk
          subst hk
          refine XGo.ifp e2 ?_
          exact XGo.go 2 rfl put
        · rw [if_neg e2] at hk
          subst hk
          refine XGo.ifn e2 ?_
          exact XGo.go 1 rfl put
    refine XGo.go 6 rfl ?_
    show XGo _ _ (if b01 w2 = 0 then 123 else 119, mxL a b y, [.int (nI sp2), .ref 536], _) _ _
    cases w2
    · refine XGo.ifp rfl ?_
      refine XGo.go 2 rfl ?_
      show XGo _ _ (125, _, [.int (nI sp2 + Int32.ofInt 1), .ref 536], _) _ _
      rw [show nI sp2 + Int32.ofInt 1 = nI (sp2 + 1) from nI_1 sp2]
      exact XGo.psp rfl (sp2 + 1) (fin _ rfl)
    · refine XGo.ifn (by decide) ?_
      refine XGo.go 3 rfl ?_
      show XGo _ _ (125, _, [.int (nI sp2 + Int32.ofInt 0), .ref 536], _) _ _
      rw [show nI sp2 + Int32.ofInt 0 = nI sp2 from Int32.add_zero _]
      exact XGo.psp rfl sp2 (fin _ rfl)
  have wrong : ∀ (y : Int32) (sp2 : Nat) (w2 : Bool) {v : Option Value} {hend : XH}, XGo (d + 3) xm_X7_clause (107, mxL a b y, [], MS h e f sp2 true) v hend → XGo (d + 3) xm_X7_clause (99, mxL a b y, [.ref 536], MS h e f sp2 w2) v hend := fun y sp2 w2 {v hend} g => by
    refine XGo.go 2 rfl ?_
    exact XGo.pwr rfl true g
  obtain ⟨rb, t⟩ := r
  cases rb
  · rw [andc_f (nf t)]
    refine ⟨upd (upd f (a + 2) (Int32.ofInt 2)) (a + 3) (Int32.ofInt 0), Int32.ofInt (-1), fun g => ?_, e23 _ _, fun ok => absurd ok Bool.false_ne_true⟩
    refine XGo.go 3 rfl ?_
    refine XGo.ifn (show ¬ b01 true = 0 by decide) ?_
    refine XGo.go 3 rfl ?_
    refine XGo.go 4 rfl ?_
    refine XGo.ifn (show ¬ b01 true = 0 by decide) ?_
    exact wrong _ t.1 true (tail (Int32.ofInt (-1)) (Int32.ofInt 2) (Int32.ofInt 0) true true t.1 t.1 (by decide) (k_figure1 (sp := t.1) (d + 1)) g)
  · rw [andc_t (r := (true, t)) rfl]
    have hs : t.1 ≤ sz := hs
    have head : ∀ {v : Option Value} {hend : XH}, XGo (d + 3) xm_X7_clause (if nxt tx sz t.1 = (Int8.ofInt 112).toInt32 then 103 else 87, mxL a b (nxt tx sz t.1), [.ref 536], MS h e f t.1 false) v hend → XGo (d + 3) xm_X7_clause (57, mxL a b z, [], MS h e f t.1 false) v hend := fun g => by
      refine XGo.go 3 rfl ?_
      refine XGo.ifp (show b01 false = 0 by decide) ?_
      refine XGo.go 1 rfl ?_
      refine XGo.call _ rfl xm_X7_here rfl rfl [.ref 536] [] rfl rfl (rr536 rfl rfl) (Nat.le_of_ble_eq_true rfl) (k_here (d + 2) ht he hsz (by omega)) ?_
      refine XGo.go 1 rfl ?_
      refine XGo.go 4 rfl ?_
      refine XGo.ifp (show b01 false = 0 by decide) ?_
      exact XGo.go 3 rfl g
    have hl : ∀ ch : Int32, ¬ ch = Int32.ofInt (-1) → nxt tx sz t.1 = ch → t.1 + 1 ≤ sz := fun ch h1 h2 => nxt_lt h1 h2
    unfold cWho
    generalize nxt tx sz t.1 = y at *
    by_cases hy : y = (Int8.ofInt 112).toInt32 ∨ y = (Int8.ofInt 102).toInt32 ∨ y = (Int8.ofInt 99).toInt32
    · rw [if_pos hy]
      have lz : t.1 + 1 ≤ sz := by rcases hy with q | q | q <;> exact hl _ (by decide) q
      obtain ⟨k, hk, hkl⟩ : ∃ k : Int32, (k = if y = (Int8.ofInt 112).toInt32 then Int32.ofInt 0 else if y = (Int8.ofInt 102).toInt32 then Int32.ofInt 1 else Int32.ofInt 2) ∧ ((k = Int32.ofInt 0 ∧ y = (Int8.ofInt 112).toInt32) ∨ (k = Int32.ofInt 1 ∧ y = (Int8.ofInt 102).toInt32) ∨ (k = Int32.ofInt 2 ∧ y = (Int8.ofInt 99).toInt32)) := by
        rcases hy with q | q | q
        · exact ⟨Int32.ofInt 0, by rw [if_pos q], Or.inl ⟨rfl, q⟩⟩
        · exact ⟨Int32.ofInt 1, by rw [q]; decide, Or.inr (Or.inl ⟨rfl, q⟩)⟩
        · exact ⟨Int32.ofInt 2, by rw [q]; decide, Or.inr (Or.inr ⟨rfl, q⟩)⟩
      obtain ⟨n, c1, c2⟩ := k_figure0 (h := h) (f := upd f (a + 2) k) (hi := (Int8.ofInt 7).toInt32) (d + 1) (ht.upd (by omega)) he hsz lz (by decide) (by decide)
      refine ⟨upd (upd f (a + 2) k) (a + 3) n, y, fun g => head ?_, e23 _ _, fun ok => ?_⟩
      · have g2 : XGo (d + 3) xm_X7_clause (107, mxL a b y, [], MS h e f t.1 false) _ _ := tail y k n false (decide (dgt tx sz (t.1 + 1) (Int8.ofInt 7).toInt32 < 0)) t.1 (dgp tx sz (t.1 + 1) (Int8.ofInt 7).toInt32) hk c1 (by
          rw [← MR_part (i := 4 * c + 1) (y := y) (s2 := t.2)]
          exact g)
        have at103 : XGo (d + 3) xm_X7_clause (103, mxL a b y, [.ref 536], MS h e f t.1 false) _ _ := XGo.go 1 rfl (XGo.pwr rfl false g2)
        by_cases q1 : y = (Int8.ofInt 112).toInt32
        · rw [if_pos q1]
          exact at103
        · rw [if_neg q1]
          refine XGo.go 3 rfl ?_
          by_cases q2 : y = (Int8.ofInt 102).toInt32
          · exact XGo.ifp q2 at103
          · refine XGo.ifn q2 ?_
            refine XGo.go 3 rfl ?_
            exact XGo.ifp (hy.elim (fun z => absurd z q1) fun z => z.elim (fun z => absurd z q2) id) at103
      · have nn : ¬ dgt tx sz (t.1 + 1) (Int8.ofInt 7).toInt32 < 0 := by
          have : (!decide (dgt tx sz (t.1 + 1) (Int8.ofInt 7).toInt32 < 0)) = true := ok
          simpa using this
        rw [upd_ne (show ¬ a + 2 = a + 3 by omega), upd_at, upd_at]
        refine ⟨?_, by rw [c2 nn]; exact dgt_rg nn, ?_⟩
        · show upd t.2.2 (4 * c + 1) (dgt tx sz (t.1 + 1) (Int8.ofInt 7).toInt32) (4 * c + 1) = n
          rw [upd_at, c2 nn]
        · have el : upd t.2.1 (4 * c + 1) y (4 * c + 1) = y := upd_at
          show (k = _ ∧ upd t.2.1 (4 * c + 1) y (4 * c + 1) = _) ∨ (k = _ ∧ upd t.2.1 (4 * c + 1) y (4 * c + 1) = _) ∨ (k = _ ∧ upd t.2.1 (4 * c + 1) y (4 * c + 1) = _)
          rw [el]
          exact hkl
    · rw [if_neg hy]
      have q1 : ¬ y = (Int8.ofInt 112).toInt32 := fun z => hy (Or.inl z)
      have q2 : ¬ y = (Int8.ofInt 102).toInt32 := fun z => hy (Or.inr (Or.inl z))
      have q3 : ¬ y = (Int8.ofInt 99).toInt32 := fun z => hy (Or.inr (Or.inr z))
      refine ⟨upd (upd f (a + 2) (Int32.ofInt 2)) (a + 3) (Int32.ofInt 0), y, fun g => head ?_, e23 _ _, fun ok => absurd ok Bool.false_ne_true⟩
      rw [if_neg q1]
      refine XGo.go 3 rfl ?_
      refine XGo.ifn q2 ?_
      refine XGo.go 3 rfl ?_
      refine XGo.ifn q3 ?_
      exact wrong y t.1 false (tail y (Int32.ofInt 2) (Int32.ofInt 0) true true t.1 t.1 (by rw [if_neg q1, if_neg q2]) (k_figure1 (sp := t.1) (d + 1)) g)
end MP
/-! the model's parser: a clause as a whole -/
section MP
variable {h : XH} {e f tx : Nat → Int32} {sz sp : Nat} {wr : Bool}
theorem andc_ok {r : Bool × PS} {g : PS → Bool × PS} (h : (andc r g).1 = true) : r.1 = true ∧ (g r.2).1 = true := by
  by_cases q : r.1 = true
  · rw [andc_t q] at h
    exact ⟨q, h⟩
  · rw [andc_f q] at h
    exact absurd h Bool.false_ne_true
theorem andc_true (r : Bool × PS) : andc r (fun x => (true, x)) = r := by
  obtain ⟨b, s⟩ := r
  cases b <;> rfl
theorem cIf_word {c : Nat} {t : PS} (q : nxt tx sz t.1 = (Int8.ofInt 32).toInt32) : cIf tx sz c t = andc (cWord tx sz 6 4 t) (cCond tx sz (4 * c + 3)) := by
  have et : cTake tx sz (Int8.ofInt 32).toInt32 t = (true, t.1 + 1, t.2) := if_pos q
  have e1 : cWord tx sz 6 4 t = andc (andc (cTake tx sz (Int8.ofInt 105).toInt32 (t.1 + 1, t.2)) (cTake tx sz (Int8.ofInt 102).toInt32)) (cTake tx sz (Int8.ofInt 32).toInt32) := by
    show andc (cTake tx sz (Int8.ofInt 32).toInt32 t) (fun u => andc (cTake tx sz (Int8.ofInt 105).toInt32 u) (fun u => andc (cTake tx sz (Int8.ofInt 102).toInt32 u) (fun u => andc (cTake tx sz (Int8.ofInt 32).toInt32 u) (fun x => (true, x))))) = _
    rw [et, andc_t (r := (true, t.1 + 1, t.2)) rfl, andc_assoc]
    simp only [andc_true]
  rw [e1]
  unfold cIf
  rw [et]
  exact if_pos rfl
set_option maxRecDepth 100000 in
theorem clause_p3 (d : Nat) (hB : SB0 h) (ht : TX f tx) (he : e 9 = nI sz) (hsz : sz ≤ 80) {r : Bool × PS} (hs : r.2.1 ≤ sz) {a c : Nat} (ha9 : 90 ≤ a) (ha : a + 8 ≤ 490) (h5 : f (a + 5) = Int32.ofInt 0) {b z : Int32} :
    ∃ f2 : Nat → Int32, (∀ {v : Option Value} {hend : XH}, XGo (d + 6) xm_X7_clause (191, mxL a b z, [], MR h e f2 (andc (andc r (cTake tx sz (Int8.ofInt 32).toInt32)) (cTerm tx sz c))) v hend → XGo (d + 6) xm_X7_clause (171, mxL a b z, [], MR h e f r) v hend) ∧ (∀ j, ¬ j = a + 4 → ¬ j = a + 5 → f2 j = f j) ∧ ((andc (andc r (cTake tx sz (Int8.ofInt 32).toInt32)) (cTerm tx sz c)).1 = true → TK (f2 (a + 4)) (f2 (a + 5)) ((andc (andc r (cTake tx sz (Int8.ofInt 32).toInt32)) (cTerm tx sz c)).2.2.1 (4 * c + 2)) ((andc (andc r (cTake tx sz (Int8.ofInt 32).toInt32)) (cTerm tx sz c)).2.2.2 (4 * c + 2))) := by
  have head : ∀ {v : Option Value} {hend : XH}, XGo (d + 6) xm_X7_clause (if b01 (!(andc r (cTake tx sz (Int8.ofInt 32).toInt32)).1) = 0 then 184 else 191, mxL a b z, [], MR h e f (andc r (cTake tx sz (Int8.ofInt 32).toInt32))) v hend → XGo (d + 6) xm_X7_clause (171, mxL a b z, [], MR h e f r) v hend := fun g => by
    obtain ⟨rb, t⟩ := r
    refine XGo.go 2 rfl ?_
    cases rb
    · rw [andc_f (nf t)] at g
      refine XGo.call _ rfl xm_X7_must rfl rfl [.ref 536, .int (Int8.ofInt 32).toInt32] [] rfl rfl (rr536 rfl rfl) (Nat.le_of_ble_eq_true rfl) (k_must1 (d + 4)) ?_
      exact XGo.go 3 rfl g
    · rw [andc_t (r := (true, t)) rfl] at g
      refine XGo.call _ rfl xm_X7_must rfl rfl [.ref 536, .int (Int8.ofInt 32).toInt32] [] rfl rfl (rr536 rfl rfl) (Nat.le_of_ble_eq_true rfl) (k_must0 (s := t) (d + 4) ht he hsz hs) ?_
      exact XGo.go 3 rfl g
  have l1 : (andc r (cTake tx sz (Int8.ofInt 32).toInt32)).2.1 ≤ sz := andc_le hs fun t ht => cTake_le (by decide) ht
  generalize andc r (cTake tx sz (Int8.ofInt 32).toInt32) = q at *
  obtain ⟨qb, t⟩ := q
  cases qb
  · rw [andc_f (nf t)]
    refine ⟨f, fun g => head ?_, fun _ _ _ => rfl, fun ok => absurd ok Bool.false_ne_true⟩
    exact XGo.ifn (show ¬ b01 true = 0 by decide) g
  · rw [andc_t (r := (true, t)) rfl]
    obtain ⟨f2, c1, c2, c3⟩ := k_how0 (h := h) (s := t) (c := c) (a := a + 4) d hB ht he hsz l1 (by omega) (by omega) h5
    refine ⟨f2, fun g => head ?_, c2, c3⟩
    refine XGo.ifp (show b01 false = 0 by decide) ?_
    refine XGo.go 4 rfl ?_
    show XGo _ _ (188, mxL a b z, [.int (nI a + nI 4), .ref 536], _) _ _
    rw [show nI a + nI 4 = nI (a + 4) from nI_add a 4]
    exact XGo.call _ rfl xm_X7_howLong rfl rfl [.ref 536, .int (nI (a + 4))] [] rfl rfl (rr536 rfl rfl) (Nat.le_of_ble_eq_true rfl) c1 g
set_option maxRecDepth 100000 in
theorem clause_p4 (d : Nat) (hB : SB0 h) (ht : TX f tx) (he : e 9 = nI sz) (hsz : sz ≤ 80) {r : Bool × PS} (hs : r.2.1 ≤ sz) {a c : Nat} (ha9 : 90 ≤ a) (ha : a + 8 ≤ 490) (h6 : f (a + 6) = Int32.ofInt 0) (h7 : f (a + 7) = Int32.ofInt 0) (l3 : r.2.2.1 (4 * c + 3) = Int32.ofInt 0) (n3 : r.2.2.2 (4 * c + 3) = Int32.ofInt 0) {b z : Int32} :
    ∃ f2 : Nat → Int32, XGo (d + 6) xm_X7_clause (191, mxL a b z, [], MR h e f r) none (MR h e f2 (andc r (cIf tx sz c))) ∧ (∀ j, ¬ j = a + 6 → ¬ j = a + 7 → f2 j = f j) ∧ ((andc r (cIf tx sz c)).1 = true → ZC (f2 (a + 6)) (f2 (a + 7)) ((andc r (cIf tx sz c)).2.2.1 (4 * c + 3)) ((andc r (cIf tx sz c)).2.2.2 (4 * c + 3))) := by
  obtain ⟨rb, t⟩ := r
  cases rb
  · rw [andc_f (nf t)]
    refine ⟨f, ?_, fun _ _ _ => rfl, fun ok => absurd ok Bool.false_ne_true⟩
    refine XGo.go 3 rfl ?_
    refine XGo.ifn (show ¬ b01 true = 0 by decide) ?_
    exact XGo.vret _ rfl rfl rfl
  · rw [andc_t (r := (true, t)) rfl]
    have hs : t.1 ≤ sz := hs
    have l3 : t.2.1 (4 * c + 3) = Int32.ofInt 0 := l3
    have n3 : t.2.2 (4 * c + 3) = Int32.ofInt 0 := n3
    have head : ∀ {v : Option Value} {hend : XH}, XGo (d + 6) xm_X7_clause (if nxt tx sz t.1 = (Int8.ofInt 32).toInt32 then 207 else 221, mxL a b z, [], MS h e f t.1 false) v hend → XGo (d + 6) xm_X7_clause (191, mxL a b z, [], MS h e f t.1 false) v hend := fun g => by
      refine XGo.go 3 rfl ?_
      refine XGo.ifp (show b01 false = 0 by decide) ?_
      refine XGo.go 1 rfl ?_
      refine XGo.call _ rfl xm_X7_here rfl rfl [.ref 536] [] rfl rfl (rr536 rfl rfl) (Nat.le_of_ble_eq_true rfl) (k_here (d + 5) ht he hsz (by omega)) ?_
      exact XGo.go 2 rfl g
    by_cases q : nxt tx sz t.1 = (Int8.ofInt 32).toInt32
    · rw [cIf_word q]
      have cw := k_spells (h := h) (f := f) (e := e) (s := t) d hB ht he hsz (w := 6) (by decide) hs
      have l1 : (cWord tx sz 6 4 t).2.1 ≤ sz := cWord_le (by decide) 4 t (by decide) hs
      have kp := cWord_keep (tx := tx) (sz := sz) (w := 6) 4 t
      generalize cWord tx sz 6 4 t = u at *
      have call : ∀ (f2 : Nat → Int32) (r2 : Bool × PS), XCall xM (d + 6) 126 [.ref 536, .int (nI (a + 6))] (MR h e f u) none (MR h e f2 r2) → XGo (d + 6) xm_X7_clause (191, mxL a b z, [], MS h e f t.1 false) none (MR h e f2 r2) := fun f2 r2 cc => head (by
        rw [if_pos q]
        refine XGo.go 2 rfl ?_
        refine XGo.call _ rfl xm_X7_spells rfl rfl [.ref 536, .ref 6] [] rfl rfl (rr536 rfl rfl) (Nat.le_of_ble_eq_true rfl) (XCall.up (by omega) cw) ?_
        refine XGo.go 4 rfl ?_
        show XGo _ _ (218, mxL a b z, [.int (nI a + nI 6), .ref 536], _) _ _
        rw [show nI a + nI 6 = nI (a + 6) from nI_add a 6]
        refine XGo.call _ rfl xm_X7_cond rfl rfl [.ref 536, .int (nI (a + 6))] [] rfl rfl (rr536 rfl rfl) (Nat.le_of_ble_eq_true rfl) cc ?_
        exact XGo.vret _ rfl rfl rfl)
      obtain ⟨ub, v⟩ := u
      cases ub
      · rw [andc_f (nf v)]
        exact ⟨f, call f (false, v) (k_cond1 (d + 5)), fun _ _ _ => rfl, fun ok => absurd ok Bool.false_ne_true⟩
      · rw [andc_t (r := (true, v)) rfl]
        obtain ⟨f2, c1, c2, c3⟩ := k_cond0 (h := h) (s := v) (i := 4 * c + 3) (a := a + 6) (d + 3) ht he hsz l1 (by omega) (by omega)
        exact ⟨f2, call f2 _ c1, c2, fun ok => Or.inr (c3 ok)⟩
    · have ei : cIf tx sz c t = (true, t) := by
        unfold cIf
        rw [if_neg (fun w => by
          unfold cTake at w
          rw [if_neg q] at w
          exact Bool.false_ne_true w)]
      rw [ei]
      refine ⟨f, head ?_, fun _ _ _ => rfl, fun _ => Or.inl ⟨h6, l3, n3.trans h7.symm⟩⟩
      rw [if_neg q]
      exact XGo.vret _ rfl rfl rfl
theorem andc_keep {r : Bool × PS} {g : PS → Bool × PS} {j : Nat} (hg : ∀ t, (g t).2.2.1 j = t.2.1 j ∧ (g t).2.2.2 j = t.2.2 j) : (andc r g).2.2.1 j = r.2.2.1 j ∧ (andc r g).2.2.2 j = r.2.2.2 j := by
  unfold andc
  split
  · exact hg _
  · exact ⟨rfl, rfl⟩
theorem take_keep (ch : Int32) (j : Nat) : ∀ t : PS, (cTake tx sz ch t).2.2.1 j = t.2.1 j ∧ (cTake tx sz ch t).2.2.2 j = t.2.2 j := fun t => by rw [cTake_keep]; exact ⟨rfl, rfl⟩
theorem shift_keep {c j : Nat} (hj : ¬ j = 4 * c) (s : PS) : (cShift tx sz c s).2.2.1 j = s.2.1 j ∧ (cShift tx sz c s).2.2.2 j = s.2.2 j := by
  unfold cShift
  split
  · have a1 := andc_keep (r := cCond tx sz (4 * c + 0) (cTake tx sz (Int8.ofInt 62).toInt32 s).2) (take_keep (tx := tx) (sz := sz) (Int8.ofInt 58).toInt32 j)
    have a2 := cCond_keep (tx := tx) (sz := sz) (i := 4 * c + 0) (j := j) (s := (cTake tx sz (Int8.ofInt 62).toInt32 s).2) (by omega)
    rw [cTake_keep] at a2
    exact ⟨a1.1.trans a2.1, a1.2.trans a2.2⟩
  · exact ⟨rfl, rfl⟩
theorem who_keep {c j : Nat} (hj : ¬ j = 4 * c + 1) (s : PS) : (cWho tx sz c s).2.2.1 j = s.2.1 j ∧ (cWho tx sz c s).2.2.2 j = s.2.2 j := by
  unfold cWho
  split
  · exact ⟨upd_ne hj, upd_ne hj⟩
  · exact ⟨rfl, rfl⟩
theorem term_keep {c j : Nat} (hj : ¬ j = 4 * c + 2) (s : PS) : (cTerm tx sz c s).2.2.1 j = s.2.1 j ∧ (cTerm tx sz c s).2.2.2 j = s.2.2 j := by
  have part : ∀ (w : Nat) (l : Int32), (andc (cWord tx sz w 4 s) (cPart (4 * c + 2) l (Int32.ofInt 0))).2.2.1 j = s.2.1 j ∧ (andc (cWord tx sz w 4 s) (cPart (4 * c + 2) l (Int32.ofInt 0))).2.2.2 j = s.2.2 j := fun w l => by
    have a1 := andc_keep (r := cWord tx sz w 4 s) (g := cPart (4 * c + 2) l (Int32.ofInt 0)) (j := j) fun t => ⟨upd_ne hj, upd_ne hj⟩
    rw [cWord_keep] at a1
    exact a1
  unfold cTerm
  split
  · exact part _ _
  · split
    · exact part _ _
    · have a1 := andc_keep (r := cPart (4 * c + 2) (Int8.ofInt 121).toInt32 (nmv tx sz s.1) (nmp tx sz s.1, s.2)) (take_keep (tx := tx) (sz := sz) (Int8.ofInt 121).toInt32 j)
      exact ⟨a1.1.trans (upd_ne hj), a1.2.trans (upd_ne hj)⟩
theorem if_keep {c j : Nat} (hj : ¬ j = 4 * c + 3) (s : PS) : (cIf tx sz c s).2.2.1 j = s.2.1 j ∧ (cIf tx sz c s).2.2.2 j = s.2.2 j := by
  unfold cIf
  split
  · have a1 := andc_keep (r := andc (andc (cTake tx sz (Int8.ofInt 105).toInt32 (cTake tx sz (Int8.ofInt 32).toInt32 s).2) (cTake tx sz (Int8.ofInt 102).toInt32)) (cTake tx sz (Int8.ofInt 32).toInt32)) (g := cCond tx sz (4 * c + 3)) (j := j) fun t => cCond_keep hj
    have a2 := andc_keep (r := andc (cTake tx sz (Int8.ofInt 105).toInt32 (cTake tx sz (Int8.ofInt 32).toInt32 s).2) (cTake tx sz (Int8.ofInt 102).toInt32)) (take_keep (tx := tx) (sz := sz) (Int8.ofInt 32).toInt32 j)
    have a3 := andc_keep (r := cTake tx sz (Int8.ofInt 105).toInt32 (cTake tx sz (Int8.ofInt 32).toInt32 s).2) (take_keep (tx := tx) (sz := sz) (Int8.ofInt 102).toInt32 j)
    rw [cTake_keep, cTake_keep] at a3
    exact ⟨a1.1.trans (a2.1.trans a3.1), a1.2.trans (a2.2.trans a3.2)⟩
  · exact ⟨rfl, rfl⟩
/-- a clause's cells on both sides: the model's eight from a on, the class's four parts of clause c -/
def CLR (f : Nat → Int32) (a : Nat) (L N : Nat → Int32) (c : Nat) : Prop := ZC (f a) (f (a + 1)) (L (4 * c)) (N (4 * c)) ∧ HK (f (a + 2)) (f (a + 3)) (L (4 * c + 1)) (N (4 * c + 1)) ∧ TK (f (a + 4)) (f (a + 5)) (L (4 * c + 2)) (N (4 * c + 2)) ∧ ZC (f (a + 6)) (f (a + 7)) (L (4 * c + 3)) (N (4 * c + 3))
set_option maxRecDepth 100000 in
theorem k_mclause (d : Nat) (hB : SB0 h) (ht : TX f tx) (he : e 9 = nI sz) (hsz : sz ≤ 80) {s : PS} (hs : s.1 ≤ sz) {a c : Nat} (ha9 : 90 ≤ a) (ha : a + 8 ≤ 490) {b : Int32} (hb : b = if c = 0 then 1 else 0) (hz : ∀ p, p < 4 → s.2.1 (4 * c + p) = Int32.ofInt 0 ∧ s.2.2 (4 * c + p) = Int32.ofInt 0) :
    ∃ f2 : Nat → Int32, XCall xM (d + 7) 128 [.ref 536, .int (nI a), .int b] (MS h e f s.1 false) none (MR h e f2 (cClause tx sz c s)) ∧ (∀ j, ¬ (a ≤ j ∧ j < a + 8) → f2 j = f j) ∧ ((cClause tx sz c s).1 = true → CLR f2 a (cClause tx sz c s).2.2.1 (cClause tx sz c s).2.2.2 c) := by
  have z8 : ∀ j, ¬ (a ≤ j ∧ j < a + 8) → zero8 f a 8 j = f j := fun j hj => if_neg hj
  have zz : ∀ i, i < 8 → zero8 f a 8 (a + i) = Int32.ofInt 0 := fun i hi => if_pos ⟨by omega, by omega⟩
  have ht0 : TX (zero8 f a 8) tx := fun j hj => by rw [z8 _ (by omega)]; exact ht j hj
  obtain ⟨f1, g1, k1, r1⟩ := clause_p1 (h := h) (d + 3) (z := nI 8) ht0 he hsz hs ha9 ha hb (zz 0 (by decide)) (zz 1 (by decide)) (hz 0 (by decide)).1 (hz 0 (by decide)).2
  have l1 : (cShift tx sz c s).2.1 ≤ sz := cShift_le hs
  have ht1 : TX f1 tx := fun j hj => by rw [k1 _ (by omega) (by omega)]; exact ht0 j hj
  obtain ⟨f2, y, g2, k2, r2⟩ := clause_p2 (h := h) (d + 3) (c := c) (b := b) (z := nI 8) ht1 he hsz l1 ha9 ha
  have l2 : (andc (cShift tx sz c s) (cWho tx sz c)).2.1 ≤ sz := andc_le l1 fun t ht => cWho_le ht
  have ht2 : TX f2 tx := fun j hj => by rw [k2 _ (by omega) (by omega)]; exact ht1 j hj
  obtain ⟨f3, g3, k3, r3⟩ := clause_p3 (h := h) d (c := c) (a := a) (b := b) (z := y) hB ht2 he hsz l2 ha9 ha (by rw [k2 _ (by omega) (by omega), k1 _ (by omega) (by omega)]; exact zz 5 (by decide))
  have l3 : (andc (andc (andc (cShift tx sz c s) (cWho tx sz c)) (cTake tx sz (Int8.ofInt 32).toInt32)) (cTerm tx sz c)).2.1 ≤ sz := andc_le (andc_le l2 fun t ht => cTake_le (by decide) ht) fun t ht => cTerm_le ht
  have ht3 : TX f3 tx := fun j hj => by rw [k3 _ (by omega) (by omega)]; exact ht2 j hj
  have q1 := fun j (hj : ¬ j = 4 * c) => shift_keep (tx := tx) (sz := sz) hj s
  have q2 := fun j (hj : ¬ j = 4 * c + 1) => andc_keep (r := cShift tx sz c s) (g := cWho tx sz c) (who_keep (tx := tx) (sz := sz) hj)
  have q3 := fun j (hj : ¬ j = 4 * c + 2) => andc_keep (r := andc (andc (cShift tx sz c s) (cWho tx sz c)) (cTake tx sz (Int8.ofInt 32).toInt32)) (g := cTerm tx sz c) (term_keep (tx := tx) (sz := sz) hj)
  have q3' := fun j => andc_keep (r := andc (cShift tx sz c s) (cWho tx sz c)) (take_keep (tx := tx) (sz := sz) (Int8.ofInt 32).toInt32 j)
  have q4 := fun j (hj : ¬ j = 4 * c + 3) => andc_keep (r := andc (andc (andc (cShift tx sz c s) (cWho tx sz c)) (cTake tx sz (Int8.ofInt 32).toInt32)) (cTerm tx sz c)) (g := cIf tx sz c) (if_keep (tx := tx) (sz := sz) hj)
  have hz3 := hz 3 (by decide)
  obtain ⟨f4, g4, k4, r4⟩ := clause_p4 (h := h) d (c := c) (a := a) (b := b) (z := y) hB ht3 he hsz l3 ha9 ha (by rw [k3 _ (by omega) (by omega), k2 _ (by omega) (by omega), k1 _ (by omega) (by omega)]; exact zz 6 (by decide)) (by rw [k3 _ (by omega) (by omega), k2 _ (by omega) (by omega), k1 _ (by omega) (by omega)]; exact zz 7 (by decide))
    ((q3 _ (by omega)).1.trans ((q3' _).1.trans ((q2 _ (by omega)).1.trans ((q1 _ (by omega)).1.trans hz3.1)))) ((q3 _ (by omega)).2.trans ((q3' _).2.trans ((q2 _ (by omega)).2.trans ((q1 _ (by omega)).2.trans hz3.2))))
  refine ⟨f4, XCall.of (M := xm_X7_clause) rfl (Nat.le_of_ble_eq_true rfl) ?_, fun j hj => ?_, fun ok => ?_⟩
  · refine XGo.go 2 rfl ?_
    have start := clear_l (h := h) (e := e) (f := f) (sp := s.1) (wr := false) (d + 6) (a := a) (by omega) (b := b) (v := none) (hend := MR h e f4 (cClause tx sz c s)) (g1 (g2 (g3 g4))) 8 0 rfl
    have e0 : zero8 f a 0 = f := by
      funext j
      exact if_neg (by omega)
    rw [e0] at start
    exact start
  · rw [k4 _ (by omega) (by omega), k3 _ (by omega) (by omega), k2 _ (by omega) (by omega), k1 _ (by omega) (by omega)]
    exact z8 j hj
  · have o4 := andc_ok ok
    have o3 := andc_ok o4.1
    have o2 := andc_ok o3.1
    have o1 := andc_ok o2.1
    refine ⟨?_, ?_, ?_, r4 ok⟩
    · have := r1 o1.1
      rw [k4 _ (by omega) (by omega), k3 _ (by omega) (by omega), k2 _ (by omega) (by omega), k4 _ (by omega) (by omega), k3 _ (by omega) (by omega), k2 _ (by omega) (by omega)]
      unfold cClause
      rw [(q4 _ (by omega)).1, (q3 _ (by omega)).1, (q3' _).1, (q2 _ (by omega)).1, (q4 _ (by omega)).2, (q3 _ (by omega)).2, (q3' _).2, (q2 _ (by omega)).2]
      exact this
    · have := r2 o2.1
      rw [k4 _ (by omega) (by omega), k3 _ (by omega) (by omega), k4 _ (by omega) (by omega), k3 _ (by omega) (by omega)]
      unfold cClause
      rw [(q4 _ (by omega)).1, (q3 _ (by omega)).1, (q3' _).1, (q4 _ (by omega)).2, (q3 _ (by omega)).2, (q3' _).2]
      exact this
    · have := r3 o4.1
      rw [k4 _ (by omega) (by omega), k4 _ (by omega) (by omega)]
      unfold cClause
      rw [(q4 _ (by omega)).1, (q4 _ (by omega)).2]
      exact this
end MP
