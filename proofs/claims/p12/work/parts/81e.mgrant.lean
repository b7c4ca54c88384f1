/-! the model's grant: the text as a whole -/
section MP
variable {h : XH} {e f tx : Nat → Int32} {sz sp : Nat} {wr : Bool}
theorem clause_keep {c j : Nat} (hj : ¬ (4 * c ≤ j ∧ j < 4 * c + 4)) (s : PS) : (cClause tx sz c s).2.2.1 j = s.2.1 j ∧ (cClause tx sz c s).2.2.2 j = s.2.2 j := by
  have q1 := shift_keep (tx := tx) (sz := sz) (c := c) (j := j) (by omega) s
  have q2 := andc_keep (r := cShift tx sz c s) (g := cWho tx sz c) (who_keep (tx := tx) (sz := sz) (c := c) (j := j) (by omega))
  have q3 := andc_keep (r := andc (cShift tx sz c s) (cWho tx sz c)) (take_keep (tx := tx) (sz := sz) (Int8.ofInt 32).toInt32 j)
  have q4 := andc_keep (r := andc (andc (cShift tx sz c s) (cWho tx sz c)) (cTake tx sz (Int8.ofInt 32).toInt32)) (g := cTerm tx sz c) (term_keep (tx := tx) (sz := sz) (c := c) (j := j) (by omega))
  have q5 := andc_keep (r := andc (andc (andc (cShift tx sz c s) (cWho tx sz c)) (cTake tx sz (Int8.ofInt 32).toInt32)) (cTerm tx sz c)) (g := cIf tx sz c) (if_keep (tx := tx) (sz := sz) (c := c) (j := j) (by omega))
  exact ⟨q5.1.trans (q4.1.trans (q3.1.trans (q2.1.trans q1.1))), q5.2.trans (q4.2.trans (q3.2.trans (q2.2.trans q1.2)))⟩
/-- clauses below n stand alike -/
def CI (f : Nat → Int32) (g : Nat) (L N : Nat → Int32) (n : Nat) : Prop := ∀ c, c < n → CLR f (140 + 8 * (6 * g + c)) L N c
theorem CLR.congr {f f2 L N L2 N2 : Nat → Int32} {a c : Nat} (h : CLR f a L N c) (hf : ∀ j, a ≤ j → j < a + 8 → f2 j = f j) (hl : ∀ j, 4 * c ≤ j → j < 4 * c + 4 → L2 j = L j ∧ N2 j = N j) : CLR f2 a L2 N2 c := by
  unfold CLR at h ⊢
  rw [hf a (by omega) (by omega), hf (a + 1) (by omega) (by omega), hf (a + 2) (by omega) (by omega), hf (a + 3) (by omega) (by omega), hf (a + 4) (by omega) (by omega), hf (a + 5) (by omega) (by omega), hf (a + 6) (by omega) (by omega), hf (a + 7) (by omega) (by omega), (hl (4 * c) (by omega) (by omega)).1, (hl (4 * c) (by omega) (by omega)).2, (hl (4 * c + 1) (by omega) (by omega)).1, (hl (4 * c + 1) (by omega) (by omega)).2, (hl (4 * c + 2) (by omega) (by omega)).1, (hl (4 * c + 2) (by omega) (by omega)).2, (hl (4 * c + 3) (by omega) (by omega)).1, (hl (4 * c + 3) (by omega) (by omega)).2]
  exact h
abbrev mgL (g : Nat) (n : Int32) : XL := [some (.ref 536), some (.int (nI g)), some (.int n)]
/-- what the model answers -/
def mAns (g : Nat) (v : Int32) : Int32 := if v = Int32.ofInt (-1) then nI g else (Int8.ofInt (-10)).toInt32 - v
theorem nI_nm1 {p : Nat} (hp : p < 1000) : ¬ nI p = Int32.ofInt (-1) := nI_m1 hp
set_option maxRecDepth 100000 in
/-- the end of grant -/
theorem mgrant_end (d : Nat) (he : e 9 = nI sz) (hsz : sz ≤ 80) {g n : Nat} (hg : g < 6) (hf2 : f 2 = nI g) {r : Bool × PS} (hr : r.2.1 ≤ sz) :
    ∃ (f2 : Nat → Int32) (v : Int32), v = (if r.1 = true ∧ r.2.1 = sz then Int32.ofInt (-1) else nI r.2.1) ∧ XGo d xm_X7_grant (108, mgL g (nI n), [], MR h e f r) (some (.int (mAns g v))) (MR h e f2 r) ∧ (v = Int32.ofInt (-1) → f2 = upd (upd f (130 + g) (nI n)) 2 (nI (g + 1))) ∧ (¬ v = Int32.ofInt (-1) → f2 = f) := by
  have bad : ¬ (r.1 = true ∧ r.2.1 = sz) → XGo d xm_X7_grant (126, mgL g (nI n), [], MR h e f r) (some (.int (mAns g (nI r.2.1)))) (MR h e f r) := fun _ => by
    unfold mAns
    rw [if_neg (nI_nm1 (by omega))]
    refine XGo.go 4 rfl ?_
    exact XGo.iret _ rfl rfl .int rfl rfl
  obtain ⟨rb, t⟩ := r
  cases rb
  · have hr : t.1 ≤ sz := hr
    have nb : ¬ (((false, t) : Bool × PS).1 = true ∧ ((false, t) : Bool × PS).2.1 = sz) := fun q => Bool.false_ne_true q.1
    refine ⟨f, nI t.1, by rw [if_neg nb], ?_, fun q => absurd q (nI_nm1 (by omega)), fun _ => rfl⟩
    refine XGo.go 3 rfl ?_
    refine XGo.ifn (show ¬ b01 true = 0 by decide) ?_
    exact bad nb
  · have hr : t.1 ≤ sz := hr
    by_cases q : t.1 = sz
    · have yb : ((true, t) : Bool × PS).1 = true ∧ ((true, t) : Bool × PS).2.1 = sz := ⟨rfl, q⟩
      refine ⟨upd (upd f (130 + g) (nI n)) 2 (nI (g + 1)), Int32.ofInt (-1), by rw [if_pos yb], ?_, fun _ => rfl, fun z => absurd rfl z⟩
      unfold mAns
      rw [if_pos rfl]
      refine XGo.go 3 rfl ?_
      refine XGo.ifp (show b01 false = 0 by decide) ?_
      refine XGo.go 5 rfl ?_
      show XGo _ _ (if nI t.1 = e 9 then 134 else 126, _, _, _) _ _
      rw [he, q]
      refine XGo.ifp rfl ?_
      refine XGo.go 6 rfl ?_
      show XGo _ _ (144, mgL g (nI n), [.int (nI n), .int ((Int16.ofInt 130).toInt32 + nI g), .ref 537], _) _ _
      rw [show (Int16.ofInt 130).toInt32 + nI g = nI (130 + g) from nI_add 130 g]
      refine XGo.pfs rfl (by omega) ?_
      refine XGo.go 4 rfl ?_
      refine XGo.iald rfl (xia_i (n := 490) (f := upd f (130 + g) (nI n)) rfl (Nat.le_of_ble_eq_true rfl) (by decide)) ?_
      show XGo _ _ (152, mgL g (nI n), [.int (upd f (130 + g) (nI n) 2), .int (nI 2), .ref 537], _) _ _
      rw [upd_ne (by omega), hf2]
      refine XGo.go 2 rfl ?_
      show XGo _ _ (154, mgL g (nI n), [.int (nI g + Int32.ofInt 1), .int (nI 2), .ref 537], _) _ _
      rw [show nI g + Int32.ofInt 1 = nI (g + 1) from nI_1 g]
      refine XGo.pfs rfl (by decide) ?_
      refine XGo.go 1 rfl ?_
      exact XGo.iret _ rfl rfl .int rfl rfl
    · have nb : ¬ (((true, t) : Bool × PS).1 = true ∧ ((true, t) : Bool × PS).2.1 = sz) := fun z => q z.2
      refine ⟨f, nI t.1, by rw [if_neg nb], ?_, fun q => absurd q (nI_nm1 (by omega)), fun _ => rfl⟩
      refine XGo.go 3 rfl ?_
      refine XGo.ifp (show b01 false = 0 by decide) ?_
      refine XGo.go 5 rfl ?_
      show XGo _ _ (if nI t.1 = e 9 then 134 else 126, _, _, _) _ _
      rw [he]
      refine XGo.ifn (fun z => q (nI_inj (by omega) (by omega) z)) ?_
      exact bad nb
theorem cLoop_v (q : Nat) (k : Int32) (s : PS) : cLoop tx sz (q + 1) k s = (if (cClause tx sz (5 - q) s).1 = true then
      (if (cClause tx sz (5 - q) s).2.1 = sz then (Int32.ofInt (-1), nI (5 - q + 1), (cClause tx sz (5 - q) s).2)
       else if nxt tx sz (cClause tx sz (5 - q) s).2.1 = (Int8.ofInt 59).toInt32 ∧ ¬ q = 0 then cLoop tx sz q (nI (5 - q + 1)) ((cClause tx sz (5 - q) s).2.1 + 1, (cClause tx sz (5 - q) s).2.2)
       else (nI (cClause tx sz (5 - q) s).2.1, nI (5 - q + 1), (cClause tx sz (5 - q) s).2))
    else (nI (cClause tx sz (5 - q) s).2.1, k, (cClause tx sz (5 - q) s).2)) := rfl
theorem k_atg (d : Nat) {H : XH} {g c : Nat} (hg : g < 6) (hc : c < 6) : XCall xM (d + 1) 129 [.int (nI g), .int (nI c)] H (some (.int (nI (140 + 8 * (6 * g + c))))) H := k_at7 d H hg hc
set_option maxRecDepth 100000 in
/-- grant from behind a clause on -/
theorem mgrant_l (d : Nat) (hB : SB0 h) (he : e 9 = nI sz) (hsz : sz ≤ 80) {g : Nat} (hg : g < 6) : ∀ (q : Nat) (k : Int32) (s : PS) (f : Nat → Int32), q < 6 → s.1 ≤ sz → TX f tx → f 2 = nI g → ((cClause tx sz (5 - q) s).1 = true → CI f g (cClause tx sz (5 - q) s).2.2.1 (cClause tx sz (5 - q) s).2.2.2 (6 - q)) → (∀ j, 4 * (6 - q) ≤ j → j < 24 → s.2.1 j = Int32.ofInt 0 ∧ s.2.2 j = Int32.ofInt 0) →
    ∃ (e2 f2 : Nat → Int32), XGo (d + 7) xm_X7_grant (60, mgL g (nI (6 - q)), [], MR h e f (cClause tx sz (5 - q) s)) (some (.int (mAns g (cLoop tx sz (q + 1) k s).1))) (MH h e2 f2) ∧ (¬ (cLoop tx sz (q + 1) k s).1 = Int32.ofInt (-1) → ∀ j, ¬ (140 + 48 * g ≤ j ∧ j < 188 + 48 * g) → f2 j = f j) ∧ ((cLoop tx sz (q + 1) k s).1 = Int32.ofInt (-1) → ∃ n, (1 ≤ n ∧ n ≤ 6) ∧ (cLoop tx sz (q + 1) k s).2.1 = nI n ∧ f2 (130 + g) = nI n ∧ f2 2 = nI (g + 1) ∧ CI f2 g (cLoop tx sz (q + 1) k s).2.2.2.1 (cLoop tx sz (q + 1) k s).2.2.2.2 n ∧ ∀ j, ¬ (140 + 48 * g ≤ j ∧ j < 188 + 48 * g) → ¬ j = 130 + g → ¬ j = 2 → f2 j = f j)
  | q, k, s, f, hq, hs, ht, hf2, hci, hz => by
    have l1 : (cClause tx sz (5 - q) s).2.1 ≤ sz := cClause_le hs
    have hkp := fun j (hj : ¬ (4 * (5 - q) ≤ j ∧ j < 4 * (5 - q) + 4)) => clause_keep (tx := tx) (sz := sz) hj s
    have end_ : ∀ (v0 : Int32) (k0 : Int32), cLoop tx sz (q + 1) k s = (v0, k0, (cClause tx sz (5 - q) s).2) → v0 = (if (cClause tx sz (5 - q) s).1 = true ∧ (cClause tx sz (5 - q) s).2.1 = sz then Int32.ofInt (-1) else nI (cClause tx sz (5 - q) s).2.1) → (v0 = Int32.ofInt (-1) → k0 = nI (6 - q)) →
      (∀ {v : Option Value} {hend : XH}, XGo (d + 7) xm_X7_grant (108, mgL g (nI (6 - q)), [], MR h e f (cClause tx sz (5 - q) s)) v hend → XGo (d + 7) xm_X7_grant (60, mgL g (nI (6 - q)), [], MR h e f (cClause tx sz (5 - q) s)) v hend) →
      ∃ (e2 f2 : Nat → Int32), XGo (d + 7) xm_X7_grant (60, mgL g (nI (6 - q)), [], MR h e f (cClause tx sz (5 - q) s)) (some (.int (mAns g (cLoop tx sz (q + 1) k s).1))) (MH h e2 f2) ∧ (¬ (cLoop tx sz (q + 1) k s).1 = Int32.ofInt (-1) → ∀ j, ¬ (140 + 48 * g ≤ j ∧ j < 188 + 48 * g) → f2 j = f j) ∧ ((cLoop tx sz (q + 1) k s).1 = Int32.ofInt (-1) → ∃ n, (1 ≤ n ∧ n ≤ 6) ∧ (cLoop tx sz (q + 1) k s).2.1 = nI n ∧ f2 (130 + g) = nI n ∧ f2 2 = nI (g + 1) ∧ CI f2 g (cLoop tx sz (q + 1) k s).2.2.2.1 (cLoop tx sz (q + 1) k s).2.2.2.2 n ∧ ∀ j, ¬ (140 + 48 * g ≤ j ∧ j < 188 + 48 * g) → ¬ j = 130 + g → ¬ j = 2 → f2 j = f j) := fun v0 k0 eL ev ek road => by
      obtain ⟨f2, v, hv, go, y1, y2⟩ := mgrant_end (h := h) (d + 7) (n := 6 - q) he hsz hg hf2 l1
      have e0 : v = v0 := hv.trans ev.symm
      subst e0
      rw [eL]
      refine ⟨_, f2, road go, fun z j _ => by rw [y2 z], fun z => ⟨6 - q, by omega, ek z, ?_, ?_, ?_, fun j h1 h2 h3 => ?_⟩⟩
      · rw [y1 z, upd_ne (by omega), upd_at]
      · rw [y1 z, upd_at]
      · have ok : (cClause tx sz (5 - q) s).1 = true := by
          by_cases w : (cClause tx sz (5 - q) s).1 = true ∧ (cClause tx sz (5 - q) s).2.1 = sz
          · exact w.1
          · rw [if_neg w] at hv
            exact absurd (hv.symm.trans z) (nI_nm1 (by omega))
        intro c hc
        refine (hci ok c hc).congr (fun j h1 h2 => ?_) fun j _ _ => ⟨rfl, rfl⟩
        rw [y1 z, upd_ne (by omega), upd_ne (by omega)]
      · rw [y1 z, upd_ne h3, upd_ne h2]
    have e6 : 5 - q + 1 = 6 - q := by omega
    by_cases ok : (cClause tx sz (5 - q) s).1 = true
    · have w0 : (MR h e f (cClause tx sz (5 - q) s)) = MS h e f (cClause tx sz (5 - q) s).2.1 false := by
        show MS h e f _ (!(cClause tx sz (5 - q) s).1) = _
        rw [ok]
        rfl
      by_cases at_ : (cClause tx sz (5 - q) s).2.1 = sz
      · refine end_ (Int32.ofInt (-1)) (nI (5 - q + 1)) (by rw [cLoop_v, if_pos ok, if_pos at_]) (by rw [if_pos ⟨ok, at_⟩]) (fun _ => by rw [e6]) fun g0 => ?_
        rw [w0] at g0 ⊢
        refine XGo.go 3 rfl ?_
        refine XGo.ifp (show b01 false = 0 by decide) ?_
        refine XGo.go 3 rfl ?_
        by_cases q0 : q = 0
        · subst q0
          exact XGo.ifp (by decide) g0
        · refine XGo.ifn (fun z => absurd ((xnI_ge (m := 6) (by decide) (by omega)).mp z) (by omega)) ?_
          refine XGo.go 1 rfl ?_
          refine XGo.call _ rfl xm_X7_here rfl rfl [.ref 536] [] rfl rfl (rr536 rfl rfl) (Nat.le_of_ble_eq_true rfl) (k_here (d + 6) ht he hsz (by omega)) ?_
          refine XGo.go 2 rfl ?_
          refine XGo.ifn (fun z => by
            unfold nxt at z
            rw [if_neg (by omega)] at z
            exact absurd z (by decide)) ?_
          exact g0
      · by_cases semi : nxt tx sz (cClause tx sz (5 - q) s).2.1 = (Int8.ofInt 59).toInt32 ∧ ¬ q = 0
        · obtain ⟨p, rfl⟩ : ∃ p, q = p + 1 := ⟨q - 1, by omega⟩
          have eL : cLoop tx sz (p + 1 + 1) k s = cLoop tx sz (p + 1) (nI (5 - (p + 1) + 1)) ((cClause tx sz (5 - (p + 1)) s).2.1 + 1, (cClause tx sz (5 - (p + 1)) s).2.2) := by
            rw [cLoop_v, if_pos ok, if_neg at_, if_pos semi]
          have lz := nxt_lt (by decide) semi.1
          have e5 : 5 - p = 6 - (p + 1) := by omega
          obtain ⟨f3, c1, c2, c3⟩ := k_mclause (h := h) (e := e) (f := f) (s := ((cClause tx sz (5 - (p + 1)) s).2.1 + 1, (cClause tx sz (5 - (p + 1)) s).2.2)) (a := 140 + 8 * (6 * g + (5 - p))) (c := 5 - p) (b := 0) d hB ht he hsz lz (by omega) (by omega) (by rw [if_neg (by omega)]) (fun j hj => by
            have q1 := hkp (4 * (5 - p) + j) (by omega)
            have q2 := hz (4 * (5 - p) + j) (by omega) (by omega)
            exact ⟨q1.1.trans q2.1, q1.2.trans q2.2⟩)
          have ht3 : TX f3 tx := fun j hj => by rw [c2 _ (by omega)]; exact ht j hj
          have kp3 := fun j (hj : ¬ (4 * (5 - p) ≤ j ∧ j < 4 * (5 - p) + 4)) => clause_keep (tx := tx) (sz := sz) hj ((cClause tx sz (5 - (p + 1)) s).2.1 + 1, (cClause tx sz (5 - (p + 1)) s).2.2)
          have ci := hci ok
          obtain ⟨e2, f2, go, y1, y2⟩ := mgrant_l d hB he hsz hg p (nI (5 - (p + 1) + 1)) ((cClause tx sz (5 - (p + 1)) s).2.1 + 1, (cClause tx sz (5 - (p + 1)) s).2.2) f3 (by omega) lz ht3 (by rw [c2 _ (by omega)]; exact hf2) (fun ok3 c hc => by
            by_cases hcp : c = 5 - p
            · subst hcp
              exact c3 ok3
            · refine (ci c (by omega)).congr (fun j h1 h2 => c2 j (by omega)) fun j h1 h2 => kp3 j (by omega)) (fun j h1 h2 => by
            have q1 := hkp j (by omega)
            have q2 := hz j (by omega) h2
            exact ⟨q1.1.trans q2.1, q1.2.trans q2.2⟩)
          rw [eL]
          refine ⟨e2, f2, ?_, fun z j hj => (y1 z j hj).trans (c2 j (by omega)), fun z => ?_⟩
          · rw [w0]
            refine XGo.go 3 rfl ?_
            refine XGo.ifp (show b01 false = 0 by decide) ?_
            refine XGo.go 3 rfl ?_
            refine XGo.ifn (fun z => absurd ((xnI_ge (m := 6) (by decide) (by omega)).mp z) (by omega)) ?_
            refine XGo.go 1 rfl ?_
            refine XGo.call _ rfl xm_X7_here rfl rfl [.ref 536] [] rfl rfl (rr536 rfl rfl) (Nat.le_of_ble_eq_true rfl) (k_here (d + 6) ht he hsz (by omega)) ?_
            refine XGo.go 2 rfl ?_
            refine XGo.ifp semi.1 ?_
            refine XGo.go 5 rfl ?_
            generalize (cClause tx sz (5 - (p + 1)) s).2 = u at *
            show XGo _ _ (89, _, [.int (nI u.1 + Int32.ofInt 1), .ref 536], _) _ _
            rw [show nI u.1 + Int32.ofInt 1 = nI (u.1 + 1) from nI_1 _]
            refine XGo.psp rfl (u.1 + 1) ?_
            refine XGo.go 3 rfl ?_
            refine XGo.call _ rfl xm_X7_at rfl rfl [.int (nI g), .int (nI (6 - (p + 1)))] [.ref 536] rfl rfl (fun z => absurd rfl z) (Nat.le_of_ble_eq_true rfl) (k_atg (d + 6) hg (by omega)) ?_
            rw [← e5]
            refine XGo.go 1 rfl ?_
            refine XGo.call _ rfl xm_X7_clause rfl rfl [.ref 536, .int (nI (140 + 8 * (6 * g + (5 - p)))), .int 0] [] rfl rfl (rr536 rfl rfl) (Nat.le_of_ble_eq_true rfl) c1 ?_
            refine XGo.go 2 rfl ?_
            show XGo _ _ (60, mgL g (nI (5 - p) + Int32.ofInt 1), [], _) _ _
            rw [show nI (5 - p) + Int32.ofInt 1 = nI (5 - p + 1) from nI_1 _, show 5 - p + 1 = 6 - p by omega]
            exact go
          · obtain ⟨n, n1, n2, n3, n4, n5, n6⟩ := y2 z
            exact ⟨n, n1, n2, n3, n4, n5, fun j h1 h2 h3 => (n6 j h1 h2 h3).trans (c2 j (by omega))⟩
        · refine end_ (nI (cClause tx sz (5 - q) s).2.1) (nI (5 - q + 1)) (by rw [cLoop_v, if_pos ok, if_neg at_, if_neg semi]) (by rw [if_neg (fun z => at_ z.2)]) (fun z => absurd z (nI_nm1 (by omega))) fun g0 => ?_
          rw [w0] at g0 ⊢
          refine XGo.go 3 rfl ?_
          refine XGo.ifp (show b01 false = 0 by decide) ?_
          refine XGo.go 3 rfl ?_
          by_cases q0 : q = 0
          · subst q0
            exact XGo.ifp (by decide) g0
          · refine XGo.ifn (fun z => absurd ((xnI_ge (m := 6) (by decide) (by omega)).mp z) (by omega)) ?_
            refine XGo.go 1 rfl ?_
            refine XGo.call _ rfl xm_X7_here rfl rfl [.ref 536] [] rfl rfl (rr536 rfl rfl) (Nat.le_of_ble_eq_true rfl) (k_here (d + 6) ht he hsz (by omega)) ?_
            refine XGo.go 2 rfl ?_
            refine XGo.ifn (fun z => semi ⟨z, q0⟩) ?_
            exact g0
    · refine end_ (nI (cClause tx sz (5 - q) s).2.1) k (by rw [cLoop_v, if_neg ok]) (by rw [if_neg (fun z => ok z.1)]) (fun z => absurd z (nI_nm1 (by omega))) fun g0 => ?_
      have w1 : (MR h e f (cClause tx sz (5 - q) s)) = MS h e f (cClause tx sz (5 - q) s).2.1 true := by
        show MS h e f _ (!(cClause tx sz (5 - q) s).1) = _
        rw [Bool.eq_false_iff.mpr ok]
        rfl
      rw [w1] at g0 ⊢
      refine XGo.go 3 rfl ?_
      exact XGo.ifn (show ¬ b01 true = 0 by decide) g0
  termination_by q => q
end MP
/-! texts that are alike; the model's grant as a whole -/
section TC
variable {tx ty : Nat → Int32} {sz : Nat}
theorem nxt_c (h : ∀ j, j < sz → tx j = ty j) : nxt tx sz = nxt ty sz := by
  funext p
  unfold nxt
  by_cases q : p < sz
  · rw [if_pos q, if_pos q, h p q]
  · rw [if_neg q, if_neg q]
theorem dgt_c (hn : nxt tx sz = nxt ty sz) : dgt tx sz = dgt ty sz := by
  funext p x
  unfold dgt
  rw [hn]
theorem dgp_c (hn : nxt tx sz = nxt ty sz) : dgp tx sz = dgp ty sz := by
  funext p x
  unfold dgp
  rw [hn]
theorem nmv_c (hn : nxt tx sz = nxt ty sz) : nmv tx sz = nmv ty sz := by
  funext p
  unfold nmv
  rw [dgt_c hn, dgp_c hn]
theorem nmp_c (hn : nxt tx sz = nxt ty sz) : nmp tx sz = nmp ty sz := by
  funext p
  unfold nmp
  rw [dgt_c hn, dgp_c hn]
theorem take_c (hn : nxt tx sz = nxt ty sz) : cTake tx sz = cTake ty sz := by
  funext ch s
  unfold cTake
  rw [hn]
theorem word_c (hn : nxt tx sz = nxt ty sz) {w : Nat} : ∀ q : Nat, cWord tx sz w q = cWord ty sz w q
  | 0 => rfl
  | q + 1 => by
    funext s
    unfold cWord
    rw [take_c hn, word_c hn q]
theorem cond_c (hn : nxt tx sz = nxt ty sz) : cCond tx sz = cCond ty sz := by
  funext i s
  unfold cCond
  rw [hn, nmv_c hn, nmp_c hn, dgt_c hn, dgp_c hn]
theorem who_c (hn : nxt tx sz = nxt ty sz) : cWho tx sz = cWho ty sz := by
  funext c s
  unfold cWho
  rw [hn, dgt_c hn, dgp_c hn]
theorem term_c (hn : nxt tx sz = nxt ty sz) : cTerm tx sz = cTerm ty sz := by
  funext c s
  unfold cTerm
  rw [hn, nmv_c hn, nmp_c hn, word_c hn, word_c hn, take_c hn]
theorem shift_c (hn : nxt tx sz = nxt ty sz) : cShift tx sz = cShift ty sz := by
  funext c s
  unfold cShift
  rw [take_c hn, cond_c hn]
theorem if_c (hn : nxt tx sz = nxt ty sz) : cIf tx sz = cIf ty sz := by
  funext c s
  unfold cIf
  rw [take_c hn, cond_c hn]
theorem clause_c (hn : nxt tx sz = nxt ty sz) : cClause tx sz = cClause ty sz := by
  funext c s
  unfold cClause
  rw [shift_c hn, who_c hn, take_c hn, term_c hn, if_c hn]
theorem loop_c (hn : nxt tx sz = nxt ty sz) : ∀ q : Nat, cLoop tx sz q = cLoop ty sz q
  | 0 => rfl
  | q + 1 => by
    funext k s
    unfold cLoop
    rw [clause_c hn, hn, loop_c hn q]
end TC
theorem list25 {fs : List Value} (hl : fs.length = 25) {a : Nat → Value} (h : ∀ i, i < 25 → fs[i]? = some (a i)) : fs = (List.range 25).map a := by
  refine List.ext_getElem? fun i => ?_
  by_cases hi : i < 25
  · rw [h i hi, List.getElem?_map, List.getElem?_range hi]
    rfl
  · rw [List.getElem?_eq_none (by omega), List.getElem?_eq_none (by simp; omega)]
theorem k65s : w_S 65 = (0, 7, 0, w_s65.2.2.2.1, []) := rfl
/-- a heap as this model's -/
theorem mh_of {h : XH} (hI : AInv w_W h) : ∃ e f : Nat → Int32, h = MH h e f ∧ h.2.2 536 = .inl (7, mO e) ∧ h.2.2 537 = .inr (.inl (0, 490, f)) := by
  obtain ⟨fs, h0, hl, f3⟩ := w_obj hI (k := 536) (by decide) w_rg_536 k65s
  obtain ⟨f, hf⟩ := w_row hI (Or.inl rfl)
  have rf : ∀ (b r p : Nat), w_s65.2.2.2.1[b]? = some (avR r) → w_o r = true → w_rg p = r → p < 549 → fs[b]? = some (.ref p) := fun b r p e1 e2 e3 e4 => by
    obtain ⟨v, a1, -, a2⟩ := f3 b _ e1
    rw [← w_ref (k0 := 0) e2 e3 e4 a2]
    exact a1
  have it : ∀ (b : Nat) (s : AV), w_s65.2.2.2.1[b]? = some s → s.1 = 0 → ∃ x : Int32, fs[b]? = some (.int x) := fun b s e1 e2 => by
    obtain ⟨v, a1, -, a2⟩ := f3 b s e1
    obtain ⟨x, rfl, -⟩ := ga_int e2 a2
    exact ⟨x, a1⟩
  have hex : ∃ e : Nat → Int32, ∀ b, (b = 0 ∨ b = 3 ∨ b = 8 ∨ b = 9 ∨ b = 10 ∨ b = 14 ∨ b = 15 ∨ b = 16 ∨ b = 17 ∨ b = 21 ∨ b = 22 ∨ b = 23 ∨ b = 24) → fs[b]? = some (.int (e b)) := by
    refine ⟨fun b => match fs[b]? with
      | some (.int x) => x
      | _ => 0, fun b hb => ?_⟩
    have : ∃ x : Int32, fs[b]? = some (.int x) := by
      rcases hb with rfl | rfl | rfl | rfl | rfl | rfl | rfl | rfl | rfl | rfl | rfl | rfl | rfl <;> exact it _ _ rfl rfl
    obtain ⟨x, hx⟩ := this
    simp only [hx]
  obtain ⟨e, hE⟩ := hex
  have hfs : fs = mO e := by
    have hg : ∀ i, i < 25 → fs[i]? = some ((mO e).getD i .null) := fun i hi => by
      match i, hi with
      | 0, _ => exact hE 0 (by decide)
      | 1, _ => exact rf 1 66 537 rfl rfl w_rg_537 (by decide)
      | 2, _ => exact rf 2 67 538 rfl rfl w_rg_538 (by decide)
      | 3, _ => exact hE 3 (by decide)
      | 4, _ => exact rf 4 68 539 rfl rfl w_rg_539 (by decide)
      | 5, _ => exact rf 5 69 540 rfl rfl w_rg_540 (by decide)
      | 6, _ => exact rf 6 70 541 rfl rfl w_rg_541 (by decide)
      | 7, _ => exact rf 7 71 542 rfl rfl w_rg_542 (by decide)
      | 8, _ => exact hE 8 (by decide)
      | 9, _ => exact hE 9 (by decide)
      | 10, _ => exact hE 10 (by decide)
      | 11, _ => exact rf 11 72 543 rfl rfl (by decide +kernel) (by decide)
      | 12, _ => exact rf 12 73 544 rfl rfl (by decide +kernel) (by decide)
      | 13, _ => exact rf 13 74 545 rfl rfl (by decide +kernel) (by decide)
      | 14, _ => exact hE 14 (by decide)
      | 15, _ => exact hE 15 (by decide)
      | 16, _ => exact hE 16 (by decide)
      | 17, _ => exact hE 17 (by decide)
      | 18, _ => exact rf 18 75 546 rfl rfl (by decide +kernel) (by decide)
      | 19, _ => exact rf 19 76 547 rfl rfl (by decide +kernel) (by decide)
      | 20, _ => exact rf 20 77 548 rfl rfl (by decide +kernel) (by decide)
      | 21, _ => exact hE 21 (by decide)
      | 22, _ => exact hE 22 (by decide)
      | 23, _ => exact hE 23 (by decide)
      | 24, _ => exact hE 24 (by decide)
      | i + 25, hi => exact absurd hi (by omega)
    exact (list25 (by exact hl) hg).trans rfl
  rw [hfs] at h0
  refine ⟨e, f, ?_, h0, hf⟩
  unfold MH
  refine Prod.ext hI.1 (Prod.ext hI.2.1 (funext fun j => ?_))
  dsimp only
  by_cases q : j = 536
  · rw [if_pos q, q, h0]
  · rw [if_neg q]
    by_cases p : j = 537
    · rw [if_pos p, p, hf]
    · rw [if_neg p]
set_option maxRecDepth 100000 in
/-- GRANT OF THE MODEL -/
theorem k_mgrant (d : Nat) {h : XH} (hI : AInv w_W h) (hB : SB0 h) {f tx : Nat → Int32} (hf : h.2.2 537 = .inr (.inl (0, 490, f))) {g T : Nat} (hT : T ≤ 80) (hf2 : f 2 = nI g) (hf4 : f 4 = nI T) (ht : ∀ j, j < T → f (10 + j) = tx j) (hg : g ≤ 6) (L0 N0 : Nat → Int32) (hz : ∀ j, j < 24 → L0 j = Int32.ofInt 0 ∧ N0 j = Int32.ofInt 0) (k0 : Int32) :
    ∃ (v : Int32) (h1 : XH) (f2 : Nat → Int32), XCall xM (d + 8) 130 [.ref 536] h (some (.int v)) h1 ∧ h1.2.2 537 = .inr (.inl (0, 490, f2)) ∧ ((g = 6 ∧ v = (Int8.ofInt (-4)).toInt32 ∧ f2 = f) ∨ (g < 6 ∧ v = mAns g (cLoop tx T 6 k0 (0, L0, N0)).1 ∧ f2 4 = Int32.ofInt 0 ∧
      (¬ (cLoop tx T 6 k0 (0, L0, N0)).1 = Int32.ofInt (-1) → ∀ j, ¬ (140 + 48 * g ≤ j ∧ j < 188 + 48 * g) → ¬ j = 4 → f2 j = f j) ∧
      ((cLoop tx T 6 k0 (0, L0, N0)).1 = Int32.ofInt (-1) → ∃ n, (1 ≤ n ∧ n ≤ 6) ∧ (cLoop tx T 6 k0 (0, L0, N0)).2.1 = nI n ∧ f2 (130 + g) = nI n ∧ f2 2 = nI (g + 1) ∧ CI f2 g (cLoop tx T 6 k0 (0, L0, N0)).2.2.2.1 (cLoop tx T 6 k0 (0, L0, N0)).2.2.2.2 n ∧ ∀ j, ¬ (140 + 48 * g ≤ j ∧ j < 188 + 48 * g) → ¬ j = 130 + g → ¬ j = 2 → ¬ j = 4 → f2 j = f j))) := by
  obtain ⟨e, f', hh, h36, h37⟩ := mh_of hI
  rw [hf] at h37
  have ef : f' = f := by
    cases h37
    rfl
  subst ef
  have head : ∀ {v : Option Value} {hend : XH}, XGo (d + 7) xm_X7_grant (if f' 2 = (Int8.ofInt 6).toInt32 then 11 else 14, [some (.ref 536), none, none], [], MH h e f') v hend → XCall xM (d + 8) 130 [.ref 536] h v hend := fun {v hend} g0 => by
    have g1 : XCall xM (d + 8) 130 [.ref 536] (MH h e f') v hend := XCall.of (M := xm_X7_grant) rfl (Nat.le_of_ble_eq_true rfl) (by
      refine XGo.go 3 rfl ?_
      refine XGo.iald rfl (xia_i (n := 490) (f := f') rfl (Nat.le_of_ble_eq_true rfl) (by decide)) ?_
      exact XGo.go 2 rfl g0)
    rw [← hh] at g1
    exact g1
  by_cases g6 : g = 6
  · subst g6
    refine ⟨(Int8.ofInt (-4)).toInt32, h, f', head ?_, hf, Or.inl ⟨rfl, rfl, rfl⟩⟩
    rw [hf2, ← hh]
    refine XGo.ifp (by decide) ?_
    refine XGo.go 1 rfl ?_
    exact XGo.iret _ rfl rfl .int rfl rfl
  · have hg6 : g < 6 := by omega
    let ty : Nat → Int32 := fun j => f' (10 + j)
    have hn : nxt ty T = nxt tx T := nxt_c fun j hj => ht j hj
    have ht1 : TX (upd f' 4 (Int32.ofInt 0)) ty := fun j hj => upd_ne (by omega)
    have he9 : (upd e 9 (nI T)) 9 = nI T := upd_at
    obtain ⟨f1, c1, c2, c3⟩ := k_mclause (h := h) (e := upd e 9 (nI T)) (f := upd f' 4 (Int32.ofInt 0)) (s := (0, L0, N0)) (a := 140 + 8 * (6 * g + 0)) (c := 0) (b := 1) d hB ht1 he9 hT (Nat.zero_le _) (by omega) (by omega) rfl (fun p hp => hz _ (by omega))
    have kp := fun j (hj : ¬ (4 * 0 ≤ j ∧ j < 4 * 0 + 4)) => clause_keep (tx := ty) (sz := T) (c := 0) hj (0, L0, N0)
    have ht2 : TX f1 ty := fun j hj => by rw [c2 _ (by omega)]; exact ht1 j hj
    obtain ⟨e2, f2, go, y1, y2⟩ := mgrant_l (h := h) (e := upd e 9 (nI T)) (tx := ty) (sz := T) d hB he9 hT hg6 5 k0 (0, L0, N0) f1 (by decide) (Nat.zero_le _) ht2 (by rw [c2 _ (by omega), upd_ne (by decide)]; exact hf2) (fun ok c hc => by
      have : c = 0 := by omega
      subst this
      exact c3 ok) (fun j h1 h2 => by
      exact hz j h2)
    rw [loop_c hn] at go y1 y2
    have f24 : f2 4 = Int32.ofInt 0 := by
      by_cases z : (cLoop tx T 6 k0 (0, L0, N0)).1 = Int32.ofInt (-1)
      · obtain ⟨n, -, -, -, -, -, n6⟩ := y2 z
        rw [n6 4 (by omega) (by omega) (by omega), c2 _ (by omega), upd_at]
      · rw [y1 z 4 (by omega), c2 _ (by omega), upd_at]
    refine ⟨_, MH h e2 f2, f2, head ?_, rfl, Or.inr ⟨hg6, rfl, f24, fun z j hj hj4 => by rw [y1 z j hj, c2 _ (by omega), upd_ne hj4], fun z => ?_⟩⟩
    · rw [hf2]
      refine XGo.ifn (fun z => absurd (nI_inj (b := 6) (by omega) (by decide) z) (by omega)) ?_
      refine XGo.go 3 rfl ?_
      refine XGo.iald rfl (xia_i (n := 490) (f := f') rfl (Nat.le_of_ble_eq_true rfl) (by decide)) ?_
      show XGo _ _ (20, _, [.int (f' 2)], _) _ _
      rw [hf2]
      refine XGo.go 5 rfl ?_
      refine XGo.iald rfl (xia_i (n := 490) (f := f') rfl (Nat.le_of_ble_eq_true rfl) (by decide)) ?_
      show XGo _ _ (28, [some (.ref 536), some (.int (nI g)), none], [.int (f' 4), .ref 536], _) _ _
      rw [hf4]
      refine XGo.putf rfl (rfl : (MH h e f').2.2 536 = _) (Nat.le_of_ble_eq_true rfl) (by decide) (Nat.le_of_ble_eq_true rfl) rfl rfl ?_
      rw [show (mO e).set 9 (.int (nI T)) = mO (upd e 9 (nI T)) from rfl, MH.ob]
      refine XGo.go 4 rfl ?_
      refine XGo.iast rfl (rfl : (MH h (upd e 9 (nI T)) f').2.2 537 = _) (Nat.le_of_ble_eq_true rfl) (by decide) (by decide) ?_
      show XGo _ _ (38, [some (.ref 536), some (.int (nI g)), none], [], xup (MH h (upd e 9 (nI T)) f') 537 (.inr (.inl (0, 490, upd f' 4 (Int32.ofInt 0))))) _ _
      rw [MH.ro]
      refine XGo.go 2 rfl ?_
      refine XGo.putf rfl (rfl : (MH h (upd e 9 (nI T)) (upd f' 4 (Int32.ofInt 0))).2.2 536 = _) (Nat.le_of_ble_eq_true rfl) (by decide) (Nat.le_of_ble_eq_true rfl) rfl rfl ?_
      rw [show (mO (upd e 9 (nI T))).set 8 (.int (Int32.ofInt 0)) = mO (upd (upd e 9 (nI T)) 8 (nI 0)) from rfl, MH.ob]
      refine XGo.go 2 rfl ?_
      refine XGo.putf rfl (rfl : (MH h (upd (upd e 9 (nI T)) 8 (nI 0)) (upd f' 4 (Int32.ofInt 0))).2.2 536 = _) (Nat.le_of_ble_eq_true rfl) (by decide) (Nat.le_of_ble_eq_true rfl) rfl rfl ?_
      rw [show (mO (upd (upd e 9 (nI T)) 8 (nI 0))).set 10 (.int (Int32.ofInt 0)) = mO (ME (upd e 9 (nI T)) 0 false) from rfl, MH.ob]
      refine XGo.go 5 rfl ?_
      refine XGo.call _ rfl xm_X7_at rfl rfl [.int (nI g), .int (nI 0)] [.ref 536] rfl rfl (fun z => absurd rfl z) (Nat.le_of_ble_eq_true rfl) (k_atg (d + 6) hg6 (by decide)) ?_
      refine XGo.go 1 rfl ?_
      refine XGo.call _ rfl xm_X7_clause rfl rfl [.ref 536, .int (nI (140 + 8 * (6 * g + 0))), .int 1] [] rfl rfl (rr536 rfl rfl) (Nat.le_of_ble_eq_true rfl) c1 ?_
      exact go
    · obtain ⟨n, n1, n2, n3, n4, n5, n6⟩ := y2 z
      exact ⟨n, n1, n2, n3, n4, n5, fun j h1 h2 h3 h4 => by rw [n6 j h1 h2 h3, c2 _ (by omega), upd_ne h4]⟩
