/-! the class's Reader: a clause -/
section RD
variable {h : XH} {tx : Nat → Int32} {sz : Nat} {k : Int32} {s : PS}
theorem cPart_0 {i : Nat} {l : Int32} {t : PS} : (cPart i l (Int32.ofInt 0) t).1 = true := rfl
theorem nf (t : PS) : ¬ ((false, t) : Bool × PS).1 = true := fun q => Bool.false_ne_true q
theorem ret01 {d : Nat} {M : XMeth} {pc : Nat} {L : XL} {H : XH} (b : Bool) (r : XRow) (hm : xfind (xmT M) pc = some r) (hi : r.2.1 = .ireturn) (hr : xmR M = some .boolean) : XGo d M (pc, L, [.int (b01 b)], H) (some (.int (b01 b))) H := XGo.iret r hm hi .boolean hr (nb01 b)
set_option maxRecDepth 100000 in
theorem k_term (d : Nat) (hB : SB0 h) (hsz : sz ≤ 80) (hs : s.1 ≤ sz) {c : Nat} (hc : c < 6) : XCall xM (d + 6) 34 [.ref 79, .int (nI c)] (RS h tx sz k s) (some (.int (b01 (cTerm tx sz c s).1))) (RS h tx sz k (cTerm tx sz c s).2) := by
  refine XCall.of (M := xm_X3_readTerm) rfl (Nat.le_of_ble_eq_true rfl) ?_
  refine XGo.go 1 rfl ?_
  refine XGo.call _ rfl xm_X3_next rfl rfl [.ref 79] [] rfl rfl rc79 (Nat.le_of_ble_eq_true rfl) (k_next (d + 4) hsz (show s.1 ≤ 80 by omega)) ?_
  unfold cTerm
  generalize nxt tx sz s.1 = z at *
  refine XGo.go 4 rfl ?_
  by_cases e1 : z = (Int8.ofInt 108).toInt32
  · rw [if_pos e1, if_pos e1]
    refine XGo.go 2 rfl ?_
    refine XGo.call _ rfl xm_X3_readWord rfl rfl [.ref 79, .ref 2] [] rfl rfl (rr79 rfl rfl) (Nat.le_of_ble_eq_true rfl) (k_word d hB hsz (by decide) hs) ?_
    by_cases e : (cWord tx sz 2 4 s).1 = true
    · rw [andc_t e, e]
      refine XGo.go 1 rfl ?_
      refine XGo.ifn (by decide) ?_
      refine XGo.go 5 rfl ?_
      refine XGo.call _ rfl xm_X3_readPart rfl rfl [.ref 79, .int (nI c), .int (nI 2), .int z, .int (Int32.ofInt 0)] [] rfl rfl (rr79 rfl rfl) (Nat.le_of_ble_eq_true rfl) (k_part (d + 2) hc (by decide) _ _) ?_
      rw [cPart_0]
      refine XGo.go 1 rfl ?_
      refine XGo.ifn (by decide) ?_
      refine XGo.go 2 rfl ?_
      exact XGo.iret _ rfl rfl .boolean rfl rfl
    · rw [andc_f e, Bool.eq_false_iff.mpr e]
      refine XGo.go 1 rfl ?_
      refine XGo.ifp rfl ?_
      refine XGo.go 1 rfl ?_
      exact XGo.iret _ rfl rfl .boolean rfl rfl
  · rw [if_neg e1, if_neg e1]
    refine XGo.go 3 rfl ?_
    by_cases e2 : z = (Int8.ofInt 101).toInt32
    · rw [if_pos e2, if_pos e2]
      refine XGo.go 2 rfl ?_
      refine XGo.call _ rfl xm_X3_readWord rfl rfl [.ref 79, .ref 3] [] rfl rfl (rr79 rfl rfl) (Nat.le_of_ble_eq_true rfl) (k_word d hB hsz (by decide) hs) ?_
      by_cases e : (cWord tx sz 3 4 s).1 = true
      · rw [andc_t e, e]
        refine XGo.go 1 rfl ?_
        refine XGo.ifn (by decide) ?_
        refine XGo.go 5 rfl ?_
        refine XGo.call _ rfl xm_X3_readPart rfl rfl [.ref 79, .int (nI c), .int (nI 2), .int z, .int (Int32.ofInt 0)] [] rfl rfl (rr79 rfl rfl) (Nat.le_of_ble_eq_true rfl) (k_part (d + 2) hc (by decide) _ _) ?_
        rw [cPart_0]
        refine XGo.go 1 rfl ?_
        refine XGo.ifn (by decide) ?_
        refine XGo.go 2 rfl ?_
        exact XGo.iret _ rfl rfl .boolean rfl rfl
      · rw [andc_f e, Bool.eq_false_iff.mpr e]
        refine XGo.go 1 rfl ?_
        refine XGo.ifp rfl ?_
        refine XGo.go 1 rfl ?_
        exact XGo.iret _ rfl rfl .boolean rfl rfl
    · rw [if_neg e2, if_neg e2]
      refine XGo.go 5 rfl ?_
      refine XGo.call _ rfl xm_X3_readNumber rfl rfl [.ref 79] [.int (Int8.ofInt 121).toInt32, .int (nI 2), .int (nI c), .ref 79] rfl rfl (rr79 rfl rfl) (Nat.le_of_ble_eq_true rfl) (k_number (d + 2) hsz hs) ?_
      refine XGo.call _ rfl xm_X3_readPart rfl rfl [.ref 79, .int (nI c), .int (nI 2), .int (Int8.ofInt 121).toInt32, .int (nmv tx sz s.1)] [] rfl rfl (fun _ => ⟨79, _, rfl, rfl, by decide, Nat.le_of_ble_eq_true rfl⟩) (Nat.le_of_ble_eq_true rfl) (k_part (s := (nmp tx sz s.1, s.2)) (d + 2) hc (by decide) _ _) ?_
      have lp : (cPart (4 * c + 2) (Int8.ofInt 121).toInt32 (nmv tx sz s.1) (nmp tx sz s.1, s.2)).2.1 ≤ sz := nmp_le hs
      generalize cPart (4 * c + 2) (Int8.ofInt 121).toInt32 (nmv tx sz s.1) (nmp tx sz s.1, s.2) = r at *
      by_cases e : r.1 = true
      · rw [andc_t e, e]
        refine XGo.go 1 rfl ?_
        refine XGo.ifn (by decide) ?_
        refine XGo.go 2 rfl ?_
        refine XGo.call _ rfl xm_X3_take rfl rfl [.ref 79, .int (Int8.ofInt 121).toInt32] [] rfl rfl (rr79 rfl rfl) (Nat.le_of_ble_eq_true rfl) (k_takes (d + 3) hsz lp) ?_
        by_cases f : (cTake tx sz (Int8.ofInt 121).toInt32 r.2).1 = true
        · rw [f]
          refine XGo.go 1 rfl ?_
          refine XGo.ifn (by decide) ?_
          refine XGo.go 2 rfl ?_
          exact XGo.iret _ rfl rfl .boolean rfl rfl
        · rw [Bool.eq_false_iff.mpr f]
          refine XGo.go 1 rfl ?_
          refine XGo.ifp rfl ?_
          refine XGo.go 1 rfl ?_
          exact XGo.iret _ rfl rfl .boolean rfl rfl
      · rw [andc_f e, Bool.eq_false_iff.mpr e]
        refine XGo.go 1 rfl ?_
        refine XGo.ifp rfl ?_
        refine XGo.go 1 rfl ?_
        exact XGo.iret _ rfl rfl .boolean rfl rfl
abbrev clL (c : Nat) : XL := [some (.ref 79), some (.int (nI c))]
set_option maxRecDepth 100000 in
/-- a clause from its if on -/
theorem clause_4 (d : Nat) (hsz : sz ≤ 80) (hs : s.1 ≤ sz) {c : Nat} (hc : c < 6) : XGo (d + 6) xm_X3_readClause (60, clL c, [], RS h tx sz k s) (some (.int (b01 (cIf tx sz c s).1))) (RS h tx sz k (cIf tx sz c s).2) := by
  have bad : ∀ t : PS, XGo (d + 6) xm_X3_readClause (109, clL c, [], RS h tx sz k t) (some (.int (b01 false))) (RS h tx sz k t) := fun t => by
    refine XGo.go 1 rfl ?_
    exact XGo.iret _ rfl rfl .boolean rfl rfl
  have tk : ∀ {pc pc2 a : Nat} {v : Option Value} {hend : XH} (ch : Int32) (t : PS) (ht : t.1 ≤ sz) (r : XRow) (hm : xfind (xmT xm_X3_readClause) pc = some r) (h40 : r.2.2.2.1 = 40 ∧ xinv r.2.1 1 = true) (g : XGo (d + 6) xm_X3_readClause (pc + 3, clL c, [.int (b01 (cTake tx sz ch t).1)], RS h tx sz k (cTake tx sz ch t).2) v hend), XGo (d + 6) xm_X3_readClause (pc, clL c, [.int ch, .ref 79], RS h tx sz k t) v hend := fun ch t ht r hm h40 g =>
    XGo.call (v1 := some (.int (b01 (cTake tx sz ch t).1))) (h2 := RS h tx sz k (cTake tx sz ch t).2) r hm xm_X3_take (by rw [h40.1]; rfl) h40.2 [.ref 79, .int ch] [] rfl rfl (rr79 rfl rfl) (Nat.le_of_ble_eq_true rfl) (by rw [h40.1]; exact k_takes (d + 4) hsz ht) g
  unfold cIf
  refine XGo.go 2 rfl ?_
  refine tk (pc2 := 0) (a := 0) _ s hs _ rfl ⟨rfl, rfl⟩ ?_
  have l1 : (cTake tx sz (Int8.ofInt 32).toInt32 s).2.1 ≤ sz := cTake_le (by decide) hs
  have e0 : ¬ (cTake tx sz (Int8.ofInt 32).toInt32 s).1 = true → (cTake tx sz (Int8.ofInt 32).toInt32 s).2 = s := fun e => by
    unfold cTake at e ⊢
    split
    · rename_i q
      rw [if_pos q] at e
      exact absurd rfl e
    · rfl
  generalize cTake tx sz (Int8.ofInt 32).toInt32 s = r1 at *
  by_cases f1 : r1.1 = true
  · rw [if_pos f1, f1]
    refine XGo.go 1 rfl ?_
    refine XGo.ifn (by decide) ?_
    refine XGo.go 2 rfl ?_
    refine tk (pc2 := 0) (a := 0) _ r1.2 l1 _ rfl ⟨rfl, rfl⟩ ?_
    have l2 : (cTake tx sz (Int8.ofInt 105).toInt32 r1.2).2.1 ≤ sz := cTake_le (by decide) l1
    generalize cTake tx sz (Int8.ofInt 105).toInt32 r1.2 = r2 at *
    by_cases f2 : r2.1 = true
    · rw [andc_t f2, f2]
      refine XGo.go 1 rfl ?_
      refine XGo.ifn (by decide) ?_
      refine XGo.go 2 rfl ?_
      refine tk (pc2 := 0) (a := 0) _ r2.2 l2 _ rfl ⟨rfl, rfl⟩ ?_
      have l3 : (cTake tx sz (Int8.ofInt 102).toInt32 r2.2).2.1 ≤ sz := cTake_le (by decide) l2
      generalize cTake tx sz (Int8.ofInt 102).toInt32 r2.2 = r3 at *
      by_cases f3 : r3.1 = true
      · rw [andc_t f3, f3]
        refine XGo.go 1 rfl ?_
        refine XGo.ifn (by decide) ?_
        refine XGo.go 2 rfl ?_
        refine tk (pc2 := 0) (a := 0) _ r3.2 l3 _ rfl ⟨rfl, rfl⟩ ?_
        have l4 : (cTake tx sz (Int8.ofInt 32).toInt32 r3.2).2.1 ≤ sz := cTake_le (by decide) l3
        generalize cTake tx sz (Int8.ofInt 32).toInt32 r3.2 = r4 at *
        by_cases f4 : r4.1 = true
        · rw [andc_t f4, f4]
          refine XGo.go 1 rfl ?_
          refine XGo.ifn (by decide) ?_
          refine XGo.go 3 rfl ?_
          refine XGo.call _ rfl xm_X3_readCond rfl rfl [.ref 79, .int (nI c), .int (nI 3)] [] rfl rfl (rr79 rfl rfl) (Nat.le_of_ble_eq_true rfl) (k_cond (d + 2) hsz l4 hc (by decide)) ?_
          generalize cCond tx sz (4 * c + 3) r4.2 = r5 at *
          by_cases f5 : r5.1 = true
          · rw [f5]
            refine XGo.go 1 rfl ?_
            refine XGo.ifn (by decide) ?_
            refine XGo.go 2 rfl ?_
            exact XGo.iret _ rfl rfl .boolean rfl rfl
          · rw [Bool.eq_false_iff.mpr f5]
            refine XGo.go 1 rfl ?_
            exact XGo.ifp rfl (bad _)
        · rw [andc_f f4, Bool.eq_false_iff.mpr f4]
          refine XGo.go 1 rfl ?_
          exact XGo.ifp rfl (bad _)
      · rw [andc_f f3, andc_f (nf _), Bool.eq_false_iff.mpr f3]
        refine XGo.go 1 rfl ?_
        exact XGo.ifp rfl (bad _)
    · rw [andc_f f2, andc_f (nf _), andc_f (nf _), Bool.eq_false_iff.mpr f2]
      refine XGo.go 1 rfl ?_
      exact XGo.ifp rfl (bad _)
  · rw [if_neg f1, Bool.eq_false_iff.mpr f1, e0 f1]
    refine XGo.go 1 rfl ?_
    refine XGo.ifp rfl ?_
    refine XGo.go 2 rfl ?_
    exact XGo.iret _ rfl rfl .boolean rfl rfl
end RD
/-! the class's Reader: a clause as a whole -/
section RD
variable {h : XH} {tx : Nat → Int32} {sz : Nat} {k : Int32} {s : PS}
theorem clause_bad (d : Nat) {c : Nat} (t : PS) : XGo d xm_X3_readClause (58, clL c, [], RS h tx sz k t) (some (.int (b01 false))) (RS h tx sz k t) := by
  refine XGo.go 1 rfl ?_
  exact XGo.iret _ rfl rfl .boolean rfl rfl
set_option maxRecDepth 100000 in
theorem clause_3 (d : Nat) (hB : SB0 h) (hsz : sz ≤ 80) (hs : s.1 ≤ sz) {c : Nat} (hc : c < 6) : XGo (d + 6) xm_X3_readClause (50, clL c, [], RS h tx sz k s) (some (.int (b01 (andc (cTerm tx sz c s) (cIf tx sz c)).1))) (RS h tx sz k (andc (cTerm tx sz c s) (cIf tx sz c)).2) := by
  refine XGo.go 2 rfl ?_
  refine XGo.call _ rfl xm_X3_readTerm rfl rfl [.ref 79, .int (nI c)] [] rfl rfl (rr79 rfl rfl) (Nat.le_of_ble_eq_true rfl) (k_term d hB hsz hs hc) ?_
  have l1 : (cTerm tx sz c s).2.1 ≤ sz := cTerm_le hs
  generalize cTerm tx sz c s = r at *
  by_cases e : r.1 = true
  · rw [andc_t e, e]
    refine XGo.go 1 rfl ?_
    exact XGo.ifn (by decide) (clause_4 d hsz l1 hc)
  · rw [andc_f e, Bool.eq_false_iff.mpr e]
    refine XGo.go 1 rfl ?_
    exact XGo.ifp rfl (clause_bad _ _)
set_option maxRecDepth 100000 in
theorem clause_2 (d : Nat) (hB : SB0 h) (hsz : sz ≤ 80) (hs : s.1 ≤ sz) {c : Nat} (hc : c < 6) : XGo (d + 6) xm_X3_readClause (41, clL c, [], RS h tx sz k s) (some (.int (b01 (andc (andc (cTake tx sz (Int8.ofInt 32).toInt32 s) (cTerm tx sz c)) (cIf tx sz c)).1))) (RS h tx sz k (andc (andc (cTake tx sz (Int8.ofInt 32).toInt32 s) (cTerm tx sz c)) (cIf tx sz c)).2) := by
  refine XGo.go 2 rfl ?_
  refine XGo.call _ rfl xm_X3_take rfl rfl [.ref 79, .int (Int8.ofInt 32).toInt32] [] rfl rfl (rr79 rfl rfl) (Nat.le_of_ble_eq_true rfl) (k_takes (d + 4) hsz hs) ?_
  have l1 : (cTake tx sz (Int8.ofInt 32).toInt32 s).2.1 ≤ sz := cTake_le (by decide) hs
  generalize cTake tx sz (Int8.ofInt 32).toInt32 s = r at *
  by_cases e : r.1 = true
  · rw [andc_t e, e]
    refine XGo.go 1 rfl ?_
    exact XGo.ifn (by decide) (clause_3 d hB hsz l1 hc)
  · rw [andc_f e, andc_f (nf _), Bool.eq_false_iff.mpr e]
    refine XGo.go 1 rfl ?_
    exact XGo.ifp rfl (clause_bad _ _)
set_option maxRecDepth 100000 in
theorem clause_1 (d : Nat) (hB : SB0 h) (hsz : sz ≤ 80) (hs : s.1 ≤ sz) {c : Nat} (hc : c < 6) : XGo (d + 6) xm_X3_readClause (33, clL c, [], RS h tx sz k s) (some (.int (b01 (andc (andc (andc (cWho tx sz c s) (cTake tx sz (Int8.ofInt 32).toInt32)) (cTerm tx sz c)) (cIf tx sz c)).1))) (RS h tx sz k (andc (andc (andc (cWho tx sz c s) (cTake tx sz (Int8.ofInt 32).toInt32)) (cTerm tx sz c)) (cIf tx sz c)).2) := by
  refine XGo.go 2 rfl ?_
  refine XGo.call _ rfl xm_X3_readWho rfl rfl [.ref 79, .int (nI c)] [] rfl rfl (rr79 rfl rfl) (Nat.le_of_ble_eq_true rfl) (k_who (d + 2) hsz hs hc) ?_
  have l1 : (cWho tx sz c s).2.1 ≤ sz := cWho_le hs
  generalize cWho tx sz c s = r at *
  by_cases e : r.1 = true
  · rw [andc_t e, e]
    refine XGo.go 1 rfl ?_
    exact XGo.ifn (by decide) (clause_2 d hB hsz l1 hc)
  · rw [andc_f e, andc_f (nf _), andc_f (nf _), Bool.eq_false_iff.mpr e]
    refine XGo.go 1 rfl ?_
    exact XGo.ifp rfl (clause_bad _ _)
theorem cTake_f {ch : Int32} (e : ¬ (cTake tx sz ch s).1 = true) : (cTake tx sz ch s).2 = s := by
  unfold cTake at e ⊢
  split
  · rename_i q
    rw [if_pos q] at e
    exact absurd rfl e
  · rfl
set_option maxRecDepth 100000 in
theorem k_clause (d : Nat) (hB : SB0 h) (hsz : sz ≤ 80) (hs : s.1 ≤ sz) {c : Nat} (hc : c < 6) : XCall xM (d + 7) 32 [.ref 79, .int (nI c)] (RS h tx sz k s) (some (.int (b01 (cClause tx sz c s).1))) (RS h tx sz k (cClause tx sz c s).2) := by
  refine XCall.of (M := xm_X3_readClause) rfl (Nat.le_of_ble_eq_true rfl) ?_
  have fin : (cShift tx sz c s) = (true, s) → XGo (d + 6) xm_X3_readClause (33, clL c, [], RS h tx sz k s) (some (.int (b01 (cClause tx sz c s).1))) (RS h tx sz k (cClause tx sz c s).2) := fun e => by
    unfold cClause
    rw [e, andc_t (r := (true, s)) rfl]
    exact clause_1 d hB hsz hs hc
  refine XGo.go 2 rfl ?_
  by_cases c0 : c = 0
  · subst c0
    refine XGo.ifp (by decide) (fin ?_)
    unfold cShift
    rw [if_neg (fun q => absurd q.1 (by decide))]
  · have c1 : 0 < c := by omega
    refine XGo.ifn (fun q => absurd ((xnI_ge (m := c) (n := 0) (by omega) (by decide)).mp q) (by omega)) ?_
    refine XGo.go 2 rfl ?_
    refine XGo.call _ rfl xm_X3_take rfl rfl [.ref 79, .int (Int8.ofInt 62).toInt32] [] rfl rfl (rr79 rfl rfl) (Nat.le_of_ble_eq_true rfl) (k_takes (d + 4) hsz hs) ?_
    have l1 : (cTake tx sz (Int8.ofInt 62).toInt32 s).2.1 ≤ sz := cTake_le (by decide) hs
    by_cases e : (cTake tx sz (Int8.ofInt 62).toInt32 s).1 = true
    · have es : cShift tx sz c s = andc (cCond tx sz (4 * c + 0) (cTake tx sz (Int8.ofInt 62).toInt32 s).2) (cTake tx sz (Int8.ofInt 58).toInt32) := by
        unfold cShift
        rw [if_pos ⟨c1, e⟩]
      unfold cClause
      rw [es, e]
      generalize (cTake tx sz (Int8.ofInt 62).toInt32 s).2 = t at *
      refine XGo.go 1 rfl ?_
      refine XGo.ifn (by decide) ?_
      refine XGo.go 3 rfl ?_
      refine XGo.call _ rfl xm_X3_readCond rfl rfl [.ref 79, .int (nI c), .int (nI 0)] [] rfl rfl (rr79 rfl rfl) (Nat.le_of_ble_eq_true rfl) (k_cond (d + 2) hsz l1 hc (by decide)) ?_
      have l2 : (cCond tx sz (4 * c + 0) t).2.1 ≤ sz := cCond_le l1
      generalize cCond tx sz (4 * c + 0) t = r at *
      have bad : ∀ u : PS, XGo (d + 6) xm_X3_readClause (31, clL c, [], RS h tx sz k u) (some (.int (b01 false))) (RS h tx sz k u) := fun u => by
        refine XGo.go 1 rfl ?_
        exact XGo.iret _ rfl rfl .boolean rfl rfl
      by_cases f : r.1 = true
      · rw [andc_t f, f]
        refine XGo.go 1 rfl ?_
        refine XGo.ifn (by decide) ?_
        refine XGo.go 2 rfl ?_
        refine XGo.call _ rfl xm_X3_take rfl rfl [.ref 79, .int (Int8.ofInt 58).toInt32] [] rfl rfl (rr79 rfl rfl) (Nat.le_of_ble_eq_true rfl) (k_takes (d + 4) hsz l2) ?_
        have l3 : (cTake tx sz (Int8.ofInt 58).toInt32 r.2).2.1 ≤ sz := cTake_le (by decide) l2
        generalize cTake tx sz (Int8.ofInt 58).toInt32 r.2 = q at *
        by_cases g : q.1 = true
        · rw [andc_t g, g]
          refine XGo.go 1 rfl ?_
          exact XGo.ifn (by decide) (clause_1 d hB hsz l3 hc)
        · rw [andc_f g, andc_f (nf _), andc_f (nf _), andc_f (nf _), Bool.eq_false_iff.mpr g]
          refine XGo.go 1 rfl ?_
          exact XGo.ifp rfl (bad _)
      · rw [andc_f f, andc_f (nf _), andc_f (nf _), andc_f (nf _), andc_f (nf _), Bool.eq_false_iff.mpr f]
        refine XGo.go 1 rfl ?_
        exact XGo.ifp rfl (bad _)
    · rw [cTake_f e, Bool.eq_false_iff.mpr e]
      refine XGo.go 1 rfl ?_
      refine XGo.ifp rfl (fin ?_)
      unfold cShift
      rw [if_neg (fun q => e q.2)]
theorem cClause_le {c : Nat} (hs : s.1 ≤ sz) : (cClause tx sz c s).2.1 ≤ sz := andc_le (andc_le (andc_le (andc_le (cShift_le hs) fun t ht => cWho_le ht) fun t ht => cTake_le (by decide) ht) fun t ht => cTerm_le ht) fun t ht => cIf_le ht
end RD
/-! the class's Reader: a text -/
/-- what is returned, the clauses, the state: from clause 6 - q on -/
def cLoop (tx : Nat → Int32) (sz : Nat) : Nat → Int32 → PS → Int32 × Int32 × PS
  | 0, k, s => (nI s.1, k, s)
  | q + 1, k, s => if (cClause tx sz (5 - q) s).1 = true then
      (if (cClause tx sz (5 - q) s).2.1 = sz then (Int32.ofInt (-1), nI (5 - q + 1), (cClause tx sz (5 - q) s).2)
       else if nxt tx sz (cClause tx sz (5 - q) s).2.1 = (Int8.ofInt 59).toInt32 ∧ ¬ q = 0 then cLoop tx sz q (nI (5 - q + 1)) ((cClause tx sz (5 - q) s).2.1 + 1, (cClause tx sz (5 - q) s).2.2)
       else (nI (cClause tx sz (5 - q) s).2.1, nI (5 - q + 1), (cClause tx sz (5 - q) s).2))
    else (nI (cClause tx sz (5 - q) s).2.1, k, (cClause tx sz (5 - q) s).2)
section RD
variable {h : XH} {tx : Nat → Int32} {sz : Nat}
abbrev rdL (a : Nat) (b : Int32) (c : Nat) : XL := [some (.ref 79), some (.ref a), some (.int b), some (.int (nI c))]
set_option maxRecDepth 100000 in
theorem read_l (d : Nat) (hB : SB0 h) (hsz : sz ≤ 80) (a : Nat) (b : Int32) : ∀ (q c : Nat) (k : Int32) (s : PS), c + q = 6 → s.1 ≤ sz → XGo (d + 7) xm_X3_read (27, rdL a b c, [], RS h tx sz k s) (some (.int (cLoop tx sz q k s).1)) (RS h tx sz (cLoop tx sz q k s).2.1 (cLoop tx sz q k s).2.2)
  | q, c, k, s, hc, hs => by
    match q, hc with
    | 0, hc =>
      have hc : c = 6 := by omega
      subst hc
      unfold cLoop
      refine XGo.go 3 rfl ?_
      refine XGo.ifp (by decide) ?_
      refine XGo.go 2 rfl ?_
      exact XGo.iret _ rfl rfl .int rfl rfl
    | q + 1, hc =>
      have e5 : 5 - q = c := by omega
      unfold cLoop
      rw [e5]
      refine XGo.go 3 rfl ?_
      refine XGo.ifn (fun z => absurd ((xnI_ge (m := 6) (by decide) (by omega)).mp z) (by omega)) ?_
      refine XGo.go 2 rfl ?_
      refine XGo.call _ rfl xm_X3_readClause rfl rfl [.ref 79, .int (nI c)] [] rfl rfl (rr79 rfl rfl) (Nat.le_of_ble_eq_true rfl) (k_clause d hB hsz hs (by omega)) ?_
      have l1 : (cClause tx sz c s).2.1 ≤ sz := cClause_le hs
      generalize cClause tx sz c s = r at *
      by_cases e : r.1 = true
      · rw [if_pos e, e]
        refine XGo.go 1 rfl ?_
        refine XGo.ifn (by decide) ?_
        refine XGo.go 5 rfl ?_
        refine XGo.putf rfl (rfl : (RH h tx sz r.2.1 k r.2.2.1 r.2.2.2).2.2 80 = _) (Nat.le_of_ble_eq_true rfl) (by decide) (Nat.le_of_ble_eq_true rfl) rfl rfl ?_
        show XGo _ _ (56, _, [], xup (RH h tx sz r.2.1 k r.2.2.1 r.2.2.2) 80 (.inl (1, [.int (nI c + Int32.ofInt 1), .ref 81, .ref 82]))) _ _
        rw [show nI c + Int32.ofInt 1 = nI (c + 1) from nI_1 c, RH.cla]
        refine XGo.go 5 rfl ?_
        by_cases e2 : r.2.1 = sz
        · rw [if_pos e2]
          refine XGo.ifp (by rw [e2]) ?_
          refine XGo.go 1 rfl ?_
          exact XGo.iret _ rfl rfl .int rfl rfl
        · rw [if_neg e2]
          refine XGo.ifn (fun z => e2 (nI_inj (by omega) (by omega) z)) ?_
          refine XGo.go 1 rfl ?_
          refine XGo.call _ rfl xm_X3_next rfl rfl [.ref 79] [] rfl rfl rc79 (Nat.le_of_ble_eq_true rfl) (k_next (d + 6) hsz (show r.2.1 ≤ 80 by omega)) ?_
          refine XGo.go 2 rfl ?_
          have bad : XGo (d + 7) xm_X3_read (83, rdL a b c, [], RS h tx sz (nI (c + 1)) r.2) (some (.int (nI r.2.1))) (RS h tx sz (nI (c + 1)) r.2) := by
            refine XGo.go 2 rfl ?_
            exact XGo.iret _ rfl rfl .int rfl rfl
          by_cases e3 : nxt tx sz r.2.1 = (Int8.ofInt 59).toInt32
          · refine XGo.ifp e3 ?_
            refine XGo.go 3 rfl ?_
            by_cases e4 : q = 0
            · rw [if_neg (show ¬ (nxt tx sz r.2.1 = (Int8.ofInt 59).toInt32 ∧ ¬ q = 0) from fun z => z.2 e4)]
              have c5 : c = 5 := by omega
              refine XGo.ifp (by rw [c5]; rfl) ?_
              exact bad
            · rw [if_pos (show (nxt tx sz r.2.1 = (Int8.ofInt 59).toInt32 ∧ ¬ q = 0) from ⟨e3, e4⟩)]
              have lz := nxt_lt (by decide) e3
              refine XGo.ifn (fun z => by
                have := nI_inj (b := 5) (by omega) (by decide) z
                omega) ?_
              refine XGo.go 5 rfl ?_
              refine XGo.putf rfl (rfl : (RH h tx sz r.2.1 (nI (c + 1)) r.2.2.1 r.2.2.2).2.2 79 = _) (Nat.le_of_ble_eq_true rfl) (by decide) (Nat.le_of_ble_eq_true rfl) rfl rfl ?_
              show XGo _ _ (_, _, [], xup (RH h tx sz r.2.1 (nI (c + 1)) r.2.2.1 r.2.2.2) 79 (.inl (3, [.ref 80, .ref 83, .int (nI sz), .int (nI r.2.1 + Int32.ofInt 1)]))) _ _
              rw [show nI r.2.1 + Int32.ofInt 1 = nI (r.2.1 + 1) from nI_1 r.2.1, RH.place]
              refine XGo.go 2 rfl ?_
              show XGo _ _ (27, [some (.ref 79), some (.ref a), some (.int b), some (.int (nI c + Int32.ofInt 1))], [], _) _ _
              rw [show nI c + Int32.ofInt 1 = nI (c + 1) from nI_1 c]
              exact read_l d hB hsz a b q (c + 1) (nI (c + 1)) (r.2.1 + 1, r.2.2) (by omega) lz
          · rw [if_neg (show ¬ (nxt tx sz r.2.1 = (Int8.ofInt 59).toInt32 ∧ ¬ q = 0) from fun z => e3 z.1)]
            refine XGo.ifn e3 ?_
            exact bad
      · rw [if_neg e, Bool.eq_false_iff.mpr e]
        refine XGo.go 1 rfl ?_
        refine XGo.ifp rfl ?_
        refine XGo.go 2 rfl ?_
        exact XGo.iret _ rfl rfl .int rfl rfl
  termination_by q => q
end RD
