/-! the class's grant -/
theorem xlt {h : XH} (hN : h.1 = 549) {k : Nat} (hk : k < 549) : k < h.1 := by omega
theorem cpy24 {f g : Nat → Int32} {n j : Nat} (hj : j < n) : va_cpy f g 0 0 n j = f j := by
  unfold va_cpy
  rw [if_pos (by omega)]
  congr 1
  omega
set_option maxRecDepth 100000 in
/-- Grant.repeat -/
theorem k_repeat (d : Nat) {H : XH} (hN : H.1 = 549) {t lt nt s ls ns : Nat} {kt ks : Int32} {Lt Nt Ls Ns : Nat → Int32} (o1 : H.2.2 t = .inl (1, [.int kt, .ref lt, .ref nt])) (o2 : H.2.2 lt = .inr (.inl (0, 24, Lt))) (o3 : H.2.2 nt = .inr (.inl (0, 24, Nt))) (s1 : H.2.2 s = .inl (1, [.int ks, .ref ls, .ref ns])) (s2 : H.2.2 ls = .inr (.inl (0, 24, Ls))) (s3 : H.2.2 ns = .inr (.inl (0, 24, Ns)))
    (b : (13 ≤ t ∧ t < 549) ∧ (13 ≤ lt ∧ lt < 549) ∧ (13 ≤ nt ∧ nt < 549) ∧ (13 ≤ s ∧ s < 549) ∧ (13 ≤ ls ∧ ls < 549) ∧ (13 ≤ ns ∧ ns < 549)) (ne : ¬ t = lt ∧ ¬ t = nt ∧ ¬ lt = nt ∧ ¬ t = s ∧ ¬ t = ls ∧ ¬ t = ns ∧ ¬ lt = s ∧ ¬ lt = ls ∧ ¬ lt = ns ∧ ¬ nt = s ∧ ¬ nt = ns) :
    ∃ H1 : XH, XCall xM (d + 2) 12 [.ref t, .ref s] H none H1 ∧ H1.1 = H.1 ∧ H1.2.1 = H.2.1 ∧ H1.2.2 t = .inl (1, [.int ks, .ref lt, .ref nt]) ∧ H1.2.2 lt = .inr (.inl (0, 24, va_cpy Ls Lt 0 0 24)) ∧ H1.2.2 nt = .inr (.inl (0, 24, va_cpy Ns Nt 0 0 24)) ∧ ∀ z, ¬ z = t → ¬ z = lt → ¬ z = nt → H1.2.2 z = H.2.2 z := by
  obtain ⟨⟨b1, b2⟩, ⟨b3, b4⟩, ⟨b5, b6⟩, ⟨b7, b8⟩, ⟨b9, b10⟩, b11, b12⟩ := b
  obtain ⟨n1, n2, n3, n4, n5, n6, n7, n8, n9, n10, n11⟩ := ne
  let A : XH := xup H t (.inl (1, [.int ks, .ref lt, .ref nt]))
  have At : A.2.2 t = .inl (1, [.int ks, .ref lt, .ref nt]) := xup_eq _ _ _
  have An : ∀ z, ¬ z = t → A.2.2 z = H.2.2 z := fun z hz => xup_ne _ _ hz
  have q1 := k_copy d (h := A) (s := ls) (t := lt) (n := 24) (f := Ls) (g := Lt) ((An _ (fun z => n5 z.symm)).trans s2) ((An _ (fun z => n1 z.symm)).trans o2) (xlt (h := A) hN b10) (xlt (h := A) hN b4) b9 b3 (by decide)
  let B : XH := xup A lt (.inr (.inl (0, 24, va_cpy Ls Lt 0 0 24)))
  have Bl : B.2.2 lt = .inr (.inl (0, 24, va_cpy Ls Lt 0 0 24)) := xup_eq _ _ _
  have Bn : ∀ z, ¬ z = lt → B.2.2 z = A.2.2 z := fun z hz => xup_ne _ _ hz
  have q2 := k_copy d (h := B) (s := ns) (t := nt) (n := 24) (f := Ns) (g := Nt) ((Bn _ (fun z => n9 z.symm)).trans ((An _ (fun z => n6 z.symm)).trans s3)) ((Bn _ (fun z => n3 z.symm)).trans ((An _ (fun z => n2 z.symm)).trans o3)) (xlt (h := B) hN b12) (xlt (h := B) hN b6) b11 b5 (by decide)
  have As : A.2.2 s = .inl (1, [.int ks, .ref ls, .ref ns]) := (An _ (fun z => n4 z.symm)).trans s1
  have Bs : B.2.2 s = .inl (1, [.int ks, .ref ls, .ref ns]) := (Bn _ (fun z => n7 z.symm)).trans As
  have Bt : B.2.2 t = .inl (1, [.int ks, .ref lt, .ref nt]) := (Bn _ n1).trans At
  refine ⟨xup B nt (.inr (.inl (0, 24, va_cpy Ns Nt 0 0 24))), XCall.of (M := xm_X1_repeat) rfl (Nat.le_of_ble_eq_true rfl) ?_, rfl, rfl, (xup_ne _ _ n2).trans Bt, (xup_ne _ _ n3).trans Bl, xup_eq _ _ _, fun z h1 h2 h3 => (xup_ne _ _ h3).trans ((Bn z h2).trans (An z h1))⟩
  refine XGo.go 2 rfl ?_
  refine XGo.getf rfl (xfd_o s1 (xlt hN b8) b7 rfl) ?_
  refine XGo.putf rfl o1 (xlt hN b2) b1 (Nat.le_of_ble_eq_true rfl) rfl rfl ?_
  show XGo _ _ (8, [some (.ref t), some (.ref s)], [], A) _ _
  refine XGo.go 1 rfl ?_
  refine XGo.getf rfl (xfd_o As (xlt (h := A) hN b8) b7 rfl) ?_
  refine XGo.go 1 rfl ?_
  refine XGo.getf rfl (xfd_o At (xlt (h := A) hN b2) b1 rfl) ?_
  refine XGo.call _ rfl xm_X6_copy rfl rfl [.ref ls, .ref lt] [] rfl rfl (fun z => absurd rfl z) (Nat.le_of_ble_eq_true rfl) q1 ?_
  refine XGo.go 1 rfl ?_
  refine XGo.getf rfl (xfd_o Bs (xlt (h := B) hN b8) b7 rfl) ?_
  refine XGo.go 1 rfl ?_
  refine XGo.getf rfl (xfd_o Bt (xlt (h := B) hN b2) b1 rfl) ?_
  refine XGo.call _ rfl xm_X6_copy rfl rfl [.ref ns, .ref nt] [] rfl rfl (fun z => absurd rfl z) (Nat.le_of_ble_eq_true rfl) q2 ?_
  exact XGo.vret _ rfl rfl rfl
section RD
variable {h : XH} {tx : Nat → Int32} {sz pl : Nat} {k : Int32} {L N : Nat → Int32}
theorem rh_fill81 {h1 : XH} {g : Nat → Int32} (o : RO 81 (RH h tx sz pl k L N) h1) (e : h1.2.2 81 = .inr (.inl (0, 24, g))) : h1 = RH h tx sz pl k g N := by
  refine Prod.ext o.1 (Prod.ext o.2.1 (funext fun j => ?_))
  by_cases q : j = 81
  · rw [q, e]
    rfl
  · rw [o.2.2 j q]
    show (if j = 79 then _ else if j = 80 then _ else if j = 81 then _ else if j = 82 then _ else if j = 83 then _ else h.2.2 j) = (if j = 79 then _ else if j = 80 then _ else if j = 81 then _ else if j = 82 then _ else if j = 83 then _ else h.2.2 j)
    simp only [if_neg q]
theorem rh_fill82 {h1 : XH} {g : Nat → Int32} (o : RO 82 (RH h tx sz pl k L N) h1) (e : h1.2.2 82 = .inr (.inl (0, 24, g))) : h1 = RH h tx sz pl k L g := by
  refine Prod.ext o.1 (Prod.ext o.2.1 (funext fun j => ?_))
  by_cases q : j = 82
  · rw [q, e]
    rfl
  · rw [o.2.2 j q]
    show (if j = 79 then _ else if j = 80 then _ else if j = 81 then _ else if j = 82 then _ else if j = 83 then _ else h.2.2 j) = (if j = 79 then _ else if j = 80 then _ else if j = 81 then _ else if j = 82 then _ else if j = 83 then _ else h.2.2 j)
    simp only [if_neg q]
set_option maxRecDepth 100000 in
theorem k_clear (d : Nat) : ∃ L2 N2 : Nat → Int32, XCall xM (d + 2) 11 [.ref 80] (RH h tx sz pl k L N) none (RH h tx sz pl (Int32.ofInt 0) L2 N2) ∧ ∀ j, j < 24 → L2 j = Int32.ofInt 0 ∧ N2 j = Int32.ofInt 0 := by
  obtain ⟨h1, g1, c1, o1, e1, z1⟩ := k_fill d (h := RH h tx sz pl (Int32.ofInt 0) L N) (r := 81) (n := 24) (f := L) rfl (Nat.le_of_ble_eq_true rfl) (by decide) (by decide) (Int32.ofInt 0)
  have r1 := rh_fill81 o1 e1
  subst r1
  obtain ⟨h2, g2, c2, o2, e2, z2⟩ := k_fill d (h := RH h tx sz pl (Int32.ofInt 0) g1 N) (r := 82) (n := 24) (f := N) rfl (Nat.le_of_ble_eq_true rfl) (by decide) (by decide) (Int32.ofInt 0)
  have r2 := rh_fill82 o2 e2
  subst r2
  refine ⟨g1, g2, XCall.of (M := xm_X1_clear) rfl (Nat.le_of_ble_eq_true rfl) ?_, fun j hj => ⟨z1 j hj, z2 j hj⟩⟩
  refine XGo.go 2 rfl ?_
  refine XGo.putf rfl (rfl : (RH h tx sz pl k L N).2.2 80 = _) (Nat.le_of_ble_eq_true rfl) (by decide) (Nat.le_of_ble_eq_true rfl) rfl rfl ?_
  show XGo _ _ (5, _, [], xup (RH h tx sz pl k L N) 80 (.inl (1, [.int (Int32.ofInt 0), .ref 81, .ref 82]))) _ _
  rw [RH.cla]
  refine XGo.go 3 rfl ?_
  refine XGo.call _ rfl xm_X6_fill rfl rfl [.ref 81, .int (Int32.ofInt 0)] [] rfl rfl (fun z => absurd rfl z) (Nat.le_of_ble_eq_true rfl) c1 ?_
  refine XGo.go 3 rfl ?_
  refine XGo.call _ rfl xm_X6_fill rfl rfl [.ref 82, .int (Int32.ofInt 0)] [] rfl rfl (fun z => absurd rfl z) (Nat.le_of_ble_eq_true rfl) c2 ?_
  exact XGo.vret _ rfl rfl rfl
set_option maxRecDepth 100000 in
theorem k_read (d : Nat) (hN : h.1 = 549) (hS : h.2.1 = 14048) (hB : SB0 h) {a b : Int32} {tp t0 : Nat → Int32} {ta : Nat} (ht : 13 ≤ ta ∧ ta < 79) (o79 : h.2.2 79 = .inl (3, [.ref 80, .ref 83, .int a, .int b])) (o80 : h.2.2 80 = .inl (1, [.int k, .ref 81, .ref 82])) (o81 : h.2.2 81 = .inr (.inl (0, 24, L))) (o82 : h.2.2 82 = .inr (.inl (0, 24, N))) (o83 : h.2.2 83 = .inr (.inl (0, 80, t0))) (oT : h.2.2 ta = .inr (.inl (0, 80, tp))) (hsz : sz ≤ 80) :
    ∃ L2 N2 : Nat → Int32, (∀ j, j < 24 → L2 j = Int32.ofInt 0 ∧ N2 j = Int32.ofInt 0) ∧ XCall xM (d + 8) 31 [.ref 79, .ref ta, .int (nI sz)] h (some (.int (cLoop (va_cpy tp t0 0 0 80) sz 6 (Int32.ofInt 0) (0, L2, N2)).1)) (RS h (va_cpy tp t0 0 0 80) sz (cLoop (va_cpy tp t0 0 0 80) sz 6 (Int32.ofInt 0) (0, L2, N2)).2.1 (cLoop (va_cpy tp t0 0 0 80) sz 6 (Int32.ofInt 0) (0, L2, N2)).2.2) := by
  have q1 := k_copy (d + 6) (h := h) (s := ta) (t := 83) (n := 80) (f := tp) (g := t0) oT o83 (by omega) (by omega) ht.1 (by decide) (by decide)
  obtain ⟨L2, N2, c2, z2⟩ := k_clear (h := h) (tx := va_cpy tp t0 0 0 80) (sz := sz) (pl := 0) (k := k) (L := L) (N := N) (d + 5)
  refine ⟨L2, N2, z2, XCall.of (M := xm_X3_read) rfl (Nat.le_of_ble_eq_true rfl) ?_⟩
  let A : XH := xup h 83 (.inr (.inl (0, 80, va_cpy tp t0 0 0 80)))
  have A79 : A.2.2 79 = .inl (3, [.ref 80, .ref 83, .int a, .int b]) := (xup_ne _ _ (by decide)).trans o79
  let B : XH := xup A 79 (.inl (3, [.ref 80, .ref 83, .int (nI sz), .int b]))
  have B79 : B.2.2 79 = .inl (3, [.ref 80, .ref 83, .int (nI sz), .int b]) := xup_eq _ _ _
  have eR : xup B 79 (.inl (3, [.ref 80, .ref 83, .int (nI sz), .int (nI 0)])) = RH h (va_cpy tp t0 0 0 80) sz 0 k L N := by
    refine Prod.ext hN (Prod.ext hS (funext fun j => ?_))
    show (xup B 79 (.inl (3, [.ref 80, .ref 83, .int (nI sz), .int (nI 0)]))).2.2 j = (if j = 79 then _ else if j = 80 then _ else if j = 81 then _ else if j = 82 then _ else if j = 83 then _ else h.2.2 j)
    by_cases j1 : j = 79
    · rw [if_pos j1, j1]
      exact xup_eq _ _ _
    · rw [if_neg j1, xup_ne _ _ j1]
      rw [show B.2.2 j = A.2.2 j from xup_ne _ _ j1]
      by_cases j2 : j = 80
      · rw [if_pos j2, j2]
        exact (xup_ne _ _ (by decide)).trans o80
      · rw [if_neg j2]
        by_cases j3 : j = 81
        · rw [if_pos j3, j3]
          exact (xup_ne _ _ (by decide)).trans o81
        · rw [if_neg j3]
          by_cases j4 : j = 82
          · rw [if_pos j4, j4]
            exact (xup_ne _ _ (by decide)).trans o82
          · rw [if_neg j4]
            by_cases j5 : j = 83
            · rw [if_pos j5, j5]
              exact xup_eq _ _ _
            · rw [if_neg j5]
              exact xup_ne _ _ j5
  refine XGo.go 2 rfl ?_
  refine XGo.getf rfl (xfd_o o79 (by omega) (by decide) rfl) ?_
  refine XGo.call _ rfl xm_X6_copy rfl rfl [.ref ta, .ref 83] [] rfl rfl (fun z => absurd rfl z) (Nat.le_of_ble_eq_true rfl) q1 ?_
  refine XGo.go 2 rfl ?_
  refine XGo.putf rfl A79 (xlt (h := A) hN (by decide)) (by decide) (Nat.le_of_ble_eq_true rfl) rfl rfl ?_
  show XGo _ _ (13, _, [], B) _ _
  refine XGo.go 2 rfl ?_
  refine XGo.putf rfl B79 (xlt (h := B) hN (by decide)) (by decide) (Nat.le_of_ble_eq_true rfl) rfl rfl ?_
  show XGo _ _ (18, _, [], xup B 79 (.inl (3, [.ref 80, .ref 83, .int (nI sz), .int (nI 0)]))) _ _
  rw [eR]
  refine XGo.go 2 rfl ?_
  refine XGo.call _ rfl xm_X1_clear rfl rfl [.ref 80] [] rfl rfl (fun _ => ⟨80, _, rfl, rfl, by decide, Nat.le_of_ble_eq_true rfl⟩) (Nat.le_of_ble_eq_true rfl) c2 ?_
  refine XGo.go 2 rfl ?_
  exact read_l d hB hsz ta (nI sz) 6 0 (Int32.ofInt 0) (0, L2, N2) rfl (Nat.zero_le _)
end RD
/-! the class's grant: kept or refused -/
/-- a grant of the class's world: object, letters, numbers -/
def CG (h : XH) (p : Nat) (k : Int32) (L N : Nat → Int32) : Prop := h.2.2 p = .inl (1, [.int k, .ref (p + 1), .ref (p + 2)]) ∧ h.2.2 (p + 1) = .inr (.inl (0, 24, L)) ∧ h.2.2 (p + 2) = .inr (.inl (0, 24, N))
/-- what grant asks of the heap -/
abbrev GH (h : XH) (fw : List Value) (G T : Nat) : Prop :=
  (h.1 = 549) ∧
  (h.2.1 = 14048) ∧
  (∃ fs : List Value, h.2.2 13 = .inl (6, fs) ∧ fs[0]? = some (.ref 14) ∧ fs[6]? = some (.ref 79)) ∧
  (h.2.2 14 = .inl (5, fw)) ∧
  (fw.length = 15) ∧
  (fw[7]? = some (.int (nI G))) ∧
  (fw[8]? = some (.ref 20)) ∧
  (fw[9]? = some (.int (nI T))) ∧
  (fw[10]? = some (.ref 21)) ∧
  (∃ f : Nat → Option Nat, h.2.2 20 = .inr (.inr (3, 6, f)) ∧ ∀ g, g < 6 → f g = some (24 + 3 * g)) ∧
  (∀ g, g < 6 → ∃ k L N, CG h (24 + 3 * g) k L N) ∧
  (∃ tp : Nat → Int32, h.2.2 21 = .inr (.inl (0, 80, tp))) ∧
  (∃ (a b k : Int32) (L N t0 : Nat → Int32), h.2.2 79 = .inl (3, [.ref 80, .ref 83, .int a, .int b]) ∧ h.2.2 80 = .inl (1, [.int k, .ref 81, .ref 82]) ∧ h.2.2 81 = .inr (.inl (0, 24, L)) ∧ h.2.2 82 = .inr (.inl (0, 24, N)) ∧ h.2.2 83 = .inr (.inl (0, 80, t0)))
theorem GH.N {h : XH} {fw : List Value} {G T : Nat} (u : GH h fw G T) : h.1 = 549 := u.1
theorem GH.S {h : XH} {fw : List Value} {G T : Nat} (u : GH h fw G T) : h.2.1 = 14048 := u.2.1
theorem GH.o13 {h : XH} {fw : List Value} {G T : Nat} (u : GH h fw G T) : ∃ fs : List Value, h.2.2 13 = .inl (6, fs) ∧ fs[0]? = some (.ref 14) ∧ fs[6]? = some (.ref 79) := u.2.2.1
theorem GH.o14 {h : XH} {fw : List Value} {G T : Nat} (u : GH h fw G T) : h.2.2 14 = .inl (5, fw) := u.2.2.2.1
theorem GH.len {h : XH} {fw : List Value} {G T : Nat} (u : GH h fw G T) : fw.length = 15 := u.2.2.2.2.1
theorem GH.w7 {h : XH} {fw : List Value} {G T : Nat} (u : GH h fw G T) : fw[7]? = some (.int (nI G)) := u.2.2.2.2.2.1
theorem GH.w8 {h : XH} {fw : List Value} {G T : Nat} (u : GH h fw G T) : fw[8]? = some (.ref 20) := u.2.2.2.2.2.2.1
theorem GH.w9 {h : XH} {fw : List Value} {G T : Nat} (u : GH h fw G T) : fw[9]? = some (.int (nI T)) := u.2.2.2.2.2.2.2.1
theorem GH.w10 {h : XH} {fw : List Value} {G T : Nat} (u : GH h fw G T) : fw[10]? = some (.ref 21) := u.2.2.2.2.2.2.2.2.1
theorem GH.o20 {h : XH} {fw : List Value} {G T : Nat} (u : GH h fw G T) : ∃ f : Nat → Option Nat, h.2.2 20 = .inr (.inr (3, 6, f)) ∧ ∀ g, g < 6 → f g = some (24 + 3 * g) := u.2.2.2.2.2.2.2.2.2.1
theorem GH.gs {h : XH} {fw : List Value} {G T : Nat} (u : GH h fw G T) : ∀ g, g < 6 → ∃ k L N, CG h (24 + 3 * g) k L N := u.2.2.2.2.2.2.2.2.2.2.1
theorem GH.tp {h : XH} {fw : List Value} {G T : Nat} (u : GH h fw G T) : ∃ tp : Nat → Int32, h.2.2 21 = .inr (.inl (0, 80, tp)) := u.2.2.2.2.2.2.2.2.2.2.2.1
theorem GH.rd {h : XH} {fw : List Value} {G T : Nat} (u : GH h fw G T) : ∃ (a b k : Int32) (L N t0 : Nat → Int32), h.2.2 79 = .inl (3, [.ref 80, .ref 83, .int a, .int b]) ∧ h.2.2 80 = .inl (1, [.int k, .ref 81, .ref 82]) ∧ h.2.2 81 = .inr (.inl (0, 24, L)) ∧ h.2.2 82 = .inr (.inl (0, 24, N)) ∧ h.2.2 83 = .inr (.inl (0, 80, t0)) := u.2.2.2.2.2.2.2.2.2.2.2.2
theorem xra_of {h : XH} {f : Nat → Option Nat} (hN : h.1 = 549) (h20 : h.2.2 20 = .inr (.inr (3, 6, f))) {g : Nat} (hg : g < 6) : xra h 20 (nI g) = some (f g) := by
  unfold xra
  rw [h20]
  dsimp only
  rw [if_pos ⟨by omega, by decide, Or.inr rfl, ca_nI hg (by decide)⟩, xnI_nat (by omega)]
set_option maxRecDepth 100000 in
/-- World.keep of the grant at 80 -/
theorem k_keep (d : Nat) {H : XH} {fw : List Value} {G : Nat} {ks : Int32} {Ls Ns : Nat → Int32} (hN : H.1 = 549) (o14 : H.2.2 14 = .inl (5, fw)) (len : fw.length = 15) (w7 : fw[7]? = some (.int (nI G))) (w8 : fw[8]? = some (.ref 20)) (hG : G < 6) {f : Nat → Option Nat} (o20 : H.2.2 20 = .inr (.inr (3, 6, f))) (hf : f G = some (24 + 3 * G)) {kt : Int32} {Lt Nt : Nat → Int32} (hc : CG H (24 + 3 * G) kt Lt Nt) {s : Nat} (hs : CG H s ks Ls Ns) (hs2 : (13 ≤ s ∧ s + 2 < 549) ∧ (42 ≤ s ∨ s + 2 < 14)) :
    ∃ H1 : XH, XCall xM (d + 3) 59 [.ref 14, .ref s] H (some (.int (nI G))) H1 ∧ H1.2.2 14 = .inl (5, fw.set 7 (.int (nI (G + 1)))) ∧ CG H1 (24 + 3 * G) ks (va_cpy Ls Lt 0 0 24) (va_cpy Ns Nt 0 0 24) ∧ ∀ z, ¬ z = 14 → ¬ (24 + 3 * G ≤ z ∧ z ≤ 26 + 3 * G) → H1.2.2 z = H.2.2 z := by
  obtain ⟨H1, c1, N1, S1, t1, t2, t3, t4⟩ := k_repeat d hN hc.1 hc.2.1 hc.2.2 hs.1 hs.2.1 hs.2.2 (by omega) (by omega)
  have A14 : H1.2.2 14 = .inl (5, fw) := (t4 14 (by omega) (by omega) (by omega)).trans o14
  have hN1 : H1.1 = 549 := N1.trans hN
  let B : XH := xup H1 14 (.inl (5, fw.set 7 (.int (nI (G + 1)))))
  have B14 : B.2.2 14 = .inl (5, fw.set 7 (.int (nI (G + 1)))) := xup_eq _ _ _
  have B7 : (fw.set 7 (.int (nI (G + 1))))[7]? = some (.int (nI (G + 1))) := by rw [List.getElem?_set_self (by omega)]
  refine ⟨B, XCall.of (M := xm_X5_keep) rfl (Nat.le_of_ble_eq_true rfl) ?_, B14, ⟨?_, ?_, ?_⟩, fun z h1 h2 => ?_⟩
  · refine XGo.go 1 rfl ?_
    refine XGo.getf rfl (xfd_o o14 (xlt hN (by decide)) (by decide) w7) ?_
    refine XGo.go 1 rfl ?_
    refine XGo.getf rfl (xfd_o o14 (xlt hN (by decide)) (by decide) w8) ?_
    refine XGo.alen rfl (n := 6) ?_ ?_
    · unfold xlen
      rw [o20]
      dsimp only
      rw [if_pos (show 20 < H.1 by omega), if_pos ⟨by decide, Or.inr rfl⟩]
    refine XGo.go 1 rfl ?_
    refine XGo.ifp (Int32.not_le.mp fun q => absurd ((xnI_ge (m := 6) (by decide) (by omega)).mp q) (by omega)) ?_
    refine XGo.go 1 rfl ?_
    refine XGo.getf rfl (xfd_o o14 (xlt hN (by decide)) (by decide) w8) ?_
    refine XGo.go 1 rfl ?_
    refine XGo.getf rfl (xfd_o o14 (xlt hN (by decide)) (by decide) w7) ?_
    refine XGo.aald rfl (xra_of hN o20 hG) ?_
    rw [hf]
    refine XGo.go 1 rfl ?_
    refine XGo.call _ rfl xm_X1_repeat rfl rfl [.ref (24 + 3 * G), .ref s] [] rfl rfl (fun _ => ⟨24 + 3 * G, _, rfl, hc.1, by omega, by omega⟩) (Nat.le_of_ble_eq_true rfl) c1 ?_
    refine XGo.go 2 rfl ?_
    refine XGo.getf rfl (xfd_o A14 (xlt hN1 (by decide)) (by decide) w7) ?_
    refine XGo.go 2 rfl ?_
    refine XGo.putf rfl A14 (xlt hN1 (by decide)) (by decide) (by omega) rfl rfl ?_
    show XGo _ _ (38, _, [], xup H1 14 (.inl (5, fw.set 7 (.int (nI G + Int32.ofInt 1))))) _ _
    rw [show nI G + Int32.ofInt 1 = nI (G + 1) from nI_1 G]
    show XGo _ _ (38, _, [], B) _ _
    refine XGo.go 1 rfl ?_
    refine XGo.getf rfl (xfd_o B14 (xlt (h := B) hN1 (by decide)) (by decide) B7) ?_
    refine XGo.go 2 rfl ?_
    show XGo _ _ (_, _, [.int (nI (G + 1) - Int32.ofInt 1)], _) _ _
    rw [show nI (G + 1) - Int32.ofInt 1 = nI G by rw [← show nI G + Int32.ofInt 1 = nI (G + 1) from nI_1 G]; exact nI_pm (by omega)]
    exact XGo.iret _ rfl rfl .int rfl rfl
  · exact (xup_ne _ _ (by omega)).trans t1
  · exact (xup_ne _ _ (by omega)).trans t2
  · exact (xup_ne _ _ (by omega)).trans t3
  · exact (xup_ne _ _ h1).trans (t4 z (by omega) (by omega) (by omega))
/-- a fault's place isn't below 0 -/
theorem cLoop_pos {tx : Nat → Int32} {sz : Nat} : ∀ (q : Nat) (k : Int32) (s : PS), ¬ (cLoop tx sz q k s).1 = Int32.ofInt (-1) → s.1 ≤ sz → sz ≤ 80 → ¬ (cLoop tx sz q k s).1 < 0
  | 0, _, s, _, h1, h2 => xnI_lt0 (by omega)
  | q + 1, k, s, z, h1, h2 => by
    have l1 : (cClause tx sz (5 - q) s).2.1 ≤ sz := cClause_le h1
    rw [cLoop_v] at z ⊢
    split
    · rename_i a
      rw [if_pos a] at z
      split
      · rename_i b
        rw [if_pos b] at z
        exact absurd rfl z
      · rename_i b
        rw [if_neg b] at z
        split
        · rename_i c
          rw [if_pos c] at z
          exact cLoop_pos q _ _ z (nxt_lt (by decide) c.1) h2
        · exact xnI_lt0 (by omega)
    · exact xnI_lt0 (by omega)
set_option maxRecDepth 100000 in
/-- GRANT OF THE CLASS -/
theorem k_cgrant (d : Nat) {h : XH} {fw : List Value} {G T : Nat} (hH : GH h fw G T) (hB : SB0 h) (hG : G ≤ 6) (hT : T ≤ 80) : ∃ (v : Int32) (h1 : XH) (tx L0 N0 : Nat → Int32), XCall xM (d + 9) 66 [.ref 13] h (some (.int v)) h1 ∧ (∀ j, j < 80 → h.2.2 21 = .inr (.inl (0, 80, tx)) ∨ ∃ tp, h.2.2 21 = .inr (.inl (0, 80, tp)) ∧ tx j = tp j) ∧ (∀ j, j < 24 → L0 j = Int32.ofInt 0 ∧ N0 j = Int32.ofInt 0) ∧
    ((G = 6 ∧ v = (Int8.ofInt (-4)).toInt32 ∧ h1 = h) ∨ (G < 6 ∧ v = mAns G (cLoop tx T 6 (Int32.ofInt 0) (0, L0, N0)).1 ∧
      (¬ (cLoop tx T 6 (Int32.ofInt 0) (0, L0, N0)).1 = Int32.ofInt (-1) → h1.2.2 14 = .inl (5, fw.set 9 (.int (nI 0))) ∧ ∀ z, z < 79 → ¬ z = 14 → h1.2.2 z = h.2.2 z) ∧
      ((cLoop tx T 6 (Int32.ofInt 0) (0, L0, N0)).1 = Int32.ofInt (-1) → h1.2.2 14 = .inl (5, (fw.set 9 (.int (nI 0))).set 7 (.int (nI (G + 1)))) ∧ (∃ L N : Nat → Int32, CG h1 (24 + 3 * G) (cLoop tx T 6 (Int32.ofInt 0) (0, L0, N0)).2.1 L N ∧ ∀ j, j < 24 → L j = (cLoop tx T 6 (Int32.ofInt 0) (0, L0, N0)).2.2.2.1 j ∧ N j = (cLoop tx T 6 (Int32.ofInt 0) (0, L0, N0)).2.2.2.2 j) ∧ ∀ z, z < 79 → ¬ z = 14 → ¬ (24 + 3 * G ≤ z ∧ z ≤ 26 + 3 * G) → h1.2.2 z = h.2.2 z))) := by
  obtain ⟨hN, hS, ⟨fs, h13, f0, f6⟩, o14, len, w7, w8, w9, w10, ⟨f20, o20, e20⟩, gs, ⟨tp, o21⟩, ⟨a, b, k, L, N, t0, o79, o80, o81, o82, o83⟩⟩ := hH
  have head : ∀ {v : Option Value} {hend : XH}, XGo (d + 8) xm_X6_grant (if nI G < (Int8.ofInt 6).toInt32 then 15 else 12, [some (.ref 13), none], [], h) v hend → XCall xM (d + 9) 66 [.ref 13] h v hend := fun g => by
    refine XCall.of (M := xm_X6_grant) rfl (Nat.le_of_ble_eq_true rfl) ?_
    refine XGo.go 1 rfl ?_
    refine XGo.getf rfl (xfd_o h13 (xlt hN (by decide)) (by decide) f0) ?_
    refine XGo.getf rfl (xfd_o o14 (xlt hN (by decide)) (by decide) w7) ?_
    exact XGo.go 2 rfl g
  obtain ⟨L0, N0, z0, cR⟩ := k_read (sz := T) d hN hS hB (by decide) o79 o80 o81 o82 o83 o21 hT
  by_cases g6 : G = 6
  · subst g6
    refine ⟨(Int8.ofInt (-4)).toInt32, h, tp, L0, N0, head ?_, fun j _ => Or.inl o21, z0, Or.inl ⟨rfl, rfl, rfl⟩⟩
    refine XGo.ifn (by decide) ?_
    refine XGo.go 1 rfl ?_
    exact XGo.iret _ rfl rfl .int rfl rfl
  · have hG6 : G < 6 := by omega
    have hn : nxt (va_cpy tp t0 0 0 80) T = nxt tp T := nxt_c fun j hj => cpy24 (by omega)
    rw [loop_c hn] at cR
    let R := cLoop tp T 6 (Int32.ofInt 0) (0, L0, N0)
    let H : XH := RS h (va_cpy tp t0 0 0 80) T R.2.1 R.2.2
    have cR : XCall xM (d + 8) 31 [.ref 79, .ref 21, .int (nI T)] h (some (.int R.1)) H := cR
    have Hlo : ∀ z, z < 79 → H.2.2 z = h.2.2 z := fun z hz => rs_lo hz
    have H13 : H.2.2 13 = .inl (6, fs) := (Hlo 13 (by decide)).trans h13
    have H14 : H.2.2 14 = .inl (5, fw) := (Hlo 14 (by decide)).trans o14
    let B : XH := xup H 14 (.inl (5, fw.set 9 (.int (nI 0))))
    have B14 : B.2.2 14 = .inl (5, fw.set 9 (.int (nI 0))) := xup_eq _ _ _
    have Bn : ∀ z, ¬ z = 14 → B.2.2 z = H.2.2 z := fun z hz => xup_ne _ _ hz
    have to46 : ∀ {v : Option Value} {hend : XH}, XGo (d + 8) xm_X6_grant (if R.1 < 0 then 56 else 49, [some (.ref 13), some (.int R.1)], [], B) v hend → XCall xM (d + 9) 66 [.ref 13] h v hend := fun g => by
      refine head ?_
      refine XGo.ifp (Int32.not_le.mp fun q => absurd ((xnI_ge (m := 6) (by decide) (by omega)).mp q) (by omega)) ?_
      refine XGo.go 1 rfl ?_
      refine XGo.getf rfl (xfd_o h13 (xlt hN (by decide)) (by decide) f6) ?_
      refine XGo.go 1 rfl ?_
      refine XGo.getf rfl (xfd_o h13 (xlt hN (by decide)) (by decide) f0) ?_
      refine XGo.getf rfl (xfd_o o14 (xlt hN (by decide)) (by decide) w10) ?_
      refine XGo.go 1 rfl ?_
      refine XGo.getf rfl (xfd_o h13 (xlt hN (by decide)) (by decide) f0) ?_
      refine XGo.getf rfl (xfd_o o14 (xlt hN (by decide)) (by decide) w9) ?_
      refine XGo.call _ rfl xm_X3_read rfl rfl [.ref 79, .ref 21, .int (nI T)] [] rfl rfl (fun _ => ⟨79, _, rfl, o79, by decide, by omega⟩) (Nat.le_of_ble_eq_true rfl) cR ?_
      refine XGo.go 2 rfl ?_
      refine XGo.getf rfl (xfd_o H13 (Nat.le_of_ble_eq_true rfl) (by decide) f0) ?_
      refine XGo.go 1 rfl ?_
      refine XGo.putf rfl H14 (Nat.le_of_ble_eq_true rfl) (by decide) (by omega) rfl rfl ?_
      show XGo _ _ (45, [some (.ref 13), some (.int R.1)], [], B) _ _
      exact XGo.go 2 rfl g
    by_cases z : R.1 = Int32.ofInt (-1)
    · obtain ⟨kt, Lt, Nt, ct⟩ := gs G hG6
      have cB : CG B (24 + 3 * G) kt Lt Nt := ⟨(Bn _ (by omega)).trans ((Hlo _ (by omega)).trans ct.1), (Bn _ (by omega)).trans ((Hlo _ (by omega)).trans ct.2.1), (Bn _ (by omega)).trans ((Hlo _ (by omega)).trans ct.2.2)⟩
      have sB : CG B 80 R.2.1 R.2.2.2.1 R.2.2.2.2 := ⟨Bn _ (by decide), Bn _ (by decide), Bn _ (by decide)⟩
      have e7 : (fw.set 9 (.int (nI 0)))[7]? = some (.int (nI G)) := by rw [List.getElem?_set_ne (by decide)]; exact w7
      have e8 : (fw.set 9 (.int (nI 0)))[8]? = some (.ref 20) := by rw [List.getElem?_set_ne (by decide)]; exact w8
      obtain ⟨H1, cK, K14, KG, Kn⟩ := k_keep (d + 5) (H := B) rfl B14 (by rw [List.length_set]; exact len) e7 e8 hG6 ((Bn 20 (by decide)).trans ((Hlo 20 (by decide)).trans o20)) (e20 G hG6) cB sB (by decide)
      refine ⟨mAns G R.1, H1, tp, L0, N0, to46 ?_, fun j _ => Or.inl o21, z0, Or.inr ⟨hG6, rfl, fun w => absurd z w, fun _ => ⟨K14, ⟨_, _, KG, fun j hj => ⟨cpy24 hj, cpy24 hj⟩⟩, fun y h1 h2 h3 => (Kn y h2 h3).trans ((Bn y h2).trans (Hlo y h1))⟩⟩⟩
      unfold mAns
      rw [if_pos z, z]
      refine XGo.ifp (by decide) ?_
      refine XGo.go 1 rfl ?_
      refine XGo.getf rfl (xfd_o ((Bn 13 (by decide)).trans H13) (Nat.le_of_ble_eq_true rfl) (by decide) f0) ?_
      refine XGo.go 1 rfl ?_
      refine XGo.getf rfl (xfd_o ((Bn 13 (by decide)).trans H13) (Nat.le_of_ble_eq_true rfl) (by decide) f6) ?_
      refine XGo.go 1 rfl ?_
      refine XGo.call _ rfl xm_X5_keep rfl rfl [.ref 14, .ref 80] [] rfl rfl (fun _ => ⟨14, _, rfl, B14, by decide, Nat.le_of_ble_eq_true rfl⟩) (Nat.le_of_ble_eq_true rfl) cK ?_
      exact XGo.iret _ rfl rfl .int rfl rfl
    · refine ⟨mAns G R.1, B, tp, L0, N0, to46 ?_, fun j _ => Or.inl o21, z0, Or.inr ⟨hG6, rfl, fun _ => ⟨B14, fun y h1 h2 => (Bn y h2).trans (Hlo y h1)⟩, fun w => absurd w z⟩⟩
      have pos : ¬ R.1 < 0 := cLoop_pos 6 _ _ z (Nat.zero_le _) hT
      unfold mAns
      rw [if_neg z]
      refine XGo.ifn pos ?_
      refine XGo.go 4 rfl ?_
      exact XGo.iret _ rfl rfl .int rfl rfl
/-! grants and tape of both sides: what they have in common -/
/-- a grant on both sides: at p the class's, number g the model's -/
def GA (h : XH) (p : Nat) (f : Nat → Int32) (g : Nat) : Prop := ∃ (k : Nat) (L N : Nat → Int32), (1 ≤ k ∧ k ≤ 6) ∧ rd h p 0 = some (.int (nI k)) ∧ f (130 + g) = nI k ∧ (∀ j, j < 24 → rd h (p + 1) j = some (.int (L j)) ∧ rd h (p + 2) j = some (.int (N j))) ∧ CI f g L N k
def GR (h : XH) (W base tp P : Nat) : Prop := ∃ (f : Nat → Int32) (G T : Nat), (∀ j, j < 490 → rd h P j = some (.int (f j))) ∧ (G ≤ 6 ∧ T ≤ 80) ∧ (rd h W 7 = some (.int (nI G)) ∧ f 2 = nI G) ∧ (rd h W 9 = some (.int (nI T)) ∧ f 4 = nI T) ∧ (∀ i, i < T → rd h tp i = some (.int (f (10 + i)))) ∧ ∀ g, g < G → GA h (base + 3 * g) f g
theorem CI.congr {f f2 L N L2 N2 : Nat → Int32} {g k : Nat} (h : CI f g L N k) (hk : k ≤ 6) (hf : ∀ j, 140 + 48 * g ≤ j → j < 188 + 48 * g → f2 j = f j) (hl : ∀ j, j < 24 → L2 j = L j ∧ N2 j = N j) : CI f2 g L2 N2 k := fun c hc => (h c hc).congr (fun j h1 h2 => hf j (by omega) (by omega)) fun j h1 h2 => hl j (by omega)
theorem GA.fr {h h1 : XH} {p p1 : Nat} {f f1 : Nat → Int32} {g : Nat} (k : GA h p f g) (e0 : rd h1 p1 0 = rd h p 0) (e1 : ∀ j, j < 24 → rd h1 (p1 + 1) j = rd h (p + 1) j) (e2 : ∀ j, j < 24 → rd h1 (p1 + 2) j = rd h (p + 2) j) (ef : f1 (130 + g) = f (130 + g)) (ec : ∀ j, 140 + 48 * g ≤ j → j < 188 + 48 * g → f1 j = f j) : GA h1 p1 f1 g := by
  obtain ⟨n, L, N, n1, n2, n3, n4, n5⟩ := k
  exact ⟨n, L, N, n1, e0.trans n2, ef.trans n3, fun j hj => ⟨(e1 j hj).trans (n4 j hj).1, (e2 j hj).trans (n4 j hj).2⟩, n5.congr n1.2 ec fun j _ => ⟨rfl, rfl⟩⟩
/-- the cells of the row that grants and tape take -/
def gcell (j : Nat) : Prop := j = 2 ∨ j = 4 ∨ (10 ≤ j ∧ j < 90) ∨ (130 ≤ j ∧ j < 136) ∨ (140 ≤ j ∧ j < 428)
theorem GR.fr {h h1 : XH} {W base tp P W1 base1 tp1 P1 : Nat} {f1 : Nat → Int32} (k : GR h W base tp P) (hf1 : ∀ j, j < 490 → rd h1 P1 j = some (.int (f1 j))) (hc : ∀ j, gcell j → rd h1 P1 j = rd h P j) (e7 : rd h1 W1 7 = rd h W 7) (e9 : rd h1 W1 9 = rd h W 9) (et : ∀ i, i < 80 → rd h1 tp1 i = rd h tp i) (eg : ∀ g, g < 6 → rd h1 (base1 + 3 * g) 0 = rd h (base + 3 * g) 0 ∧ (∀ j, j < 24 → rd h1 (base1 + 3 * g + 1) j = rd h (base + 3 * g + 1) j) ∧ ∀ j, j < 24 → rd h1 (base1 + 3 * g + 2) j = rd h (base + 3 * g + 2) j) : GR h1 W1 base1 tp1 P1 := by
  obtain ⟨f, G, T, hf, ⟨hG, hT⟩, ⟨w7, f2⟩, ⟨w9, f4⟩, ht, hg⟩ := k
  have ef : ∀ j, gcell j → f1 j = f j := fun j hj => by
    have hj2 : j < 490 := by unfold gcell at hj; omega
    have := (hf1 j hj2).symm.trans ((hc j hj).trans (hf j hj2))
    exact int_inj this
  refine ⟨f1, G, T, hf1, ⟨hG, hT⟩, ⟨e7.trans w7, (ef 2 (Or.inl rfl)).trans f2⟩, ⟨e9.trans w9, (ef 4 (Or.inr (Or.inl rfl))).trans f4⟩, fun i hi => ?_, fun g hg2 => ?_⟩
  · rw [et i (by omega), ht i hi, ef (10 + i) (by unfold gcell; omega)]
  · obtain ⟨a, b, c⟩ := eg g (by omega)
    exact (hg g hg2).fr a b c (ef _ (by unfold gcell; omega)) fun j h1 h2 => ef j (by unfold gcell; omega)
/-- the grants stand where they were made -/
def GSt (h : XH) : Prop := ∀ g, g < 6 → (rd h 20 g = some (.ref (24 + 3 * g)) ∧ rd h (24 + 3 * g) 1 = some (.ref (25 + 3 * g)) ∧ rd h (24 + 3 * g) 2 = some (.ref (26 + 3 * g))) ∧ rd h 48 g = some (.ref (52 + 3 * g)) ∧ rd h (52 + 3 * g) 1 = some (.ref (53 + 3 * g)) ∧ rd h (52 + 3 * g) 2 = some (.ref (54 + 3 * g))
def INVg (L : Nat) (xs : Nat → Int32) (h : XH) : Prop := INVw L xs h ∧ GR h 14 24 21 537 ∧ GR h 42 52 49 538 ∧ GSt h ∧ SB0 h
theorem w_rg_g : ∀ g : Fin 6, (w_rg (24 + 3 * g.val) = 24 ∧ w_rg (25 + 3 * g.val) = 25 ∧ w_rg (26 + 3 * g.val) = 26) ∧ w_rg (52 + 3 * g.val) = 37 ∧ w_rg (53 + 3 * g.val) = 38 ∧ w_rg (54 + 3 * g.val) = 39 := by decide +kernel
theorem w_rg_x : w_rg 20 = 20 ∧ w_rg 21 = 21 ∧ w_rg 48 = 33 ∧ w_rg 49 = 34 := by decide +kernel
/-- writes that leave the shapes -/
def ssafe (ws : AWr) : Bool := ws.all fun w => !Nat.beq w.1 20 && (!Nat.beq w.1 33 && ((!Nat.beq w.1 24 || decide (w.2.2 ≤ 0)) && (!Nat.beq w.1 37 || decide (w.2.2 ≤ 0))))
theorem AFr.no {ws : AWr} {h h1 : XH} {k r b : Nat} (hF : AFr w_W ws h h1) (hk : k < 549) (hr : w_rg k = r) (hn : ∀ w ∈ ws, w.1 = r → ¬ (w.2.1 ≤ (b : Int) ∧ (b : Int) ≤ w.2.2)) : rd h1 k b = rd h k b := hF k b hk fun w hw hc => hn w hw (hc.1.trans ((w_W1 k).trans hr)) hc.2
theorem gst_fr {ws : AWr} {h h1 : XH} (k : GSt h) (hF : AFr w_W ws h h1) (hs : ssafe ws = true) : GSt h1 := fun g hg => by
  have no : ∀ w ∈ ws, ¬ w.1 = 20 ∧ ¬ w.1 = 33 ∧ (w.1 = 24 → w.2.2 ≤ 0) ∧ (w.1 = 37 → w.2.2 ≤ 0) := fun w hw => by
    have q := List.all_eq_true.mp hs w hw
    simp only [Bool.and_eq_true, Bool.or_eq_true, Bool.not_eq_true', decide_eq_true_eq] at q
    refine ⟨Nat.ne_of_beq_eq_false q.1, Nat.ne_of_beq_eq_false q.2.1, fun e => ?_, fun e => ?_⟩
    · exact q.2.2.1.resolve_left fun z => Nat.ne_of_beq_eq_false z e
    · exact q.2.2.2.resolve_left fun z => Nat.ne_of_beq_eq_false z e
  obtain ⟨⟨r1, r2, r3⟩, r4, r5, r6⟩ := w_rg_g ⟨g, hg⟩
  obtain ⟨x1, -, x3, -⟩ := w_rg_x
  obtain ⟨⟨a, b, c⟩, d, e, f⟩ := k g hg
  refine ⟨⟨(hF.no (by decide) x1 fun w hw z => absurd z (no w hw).1).trans a, (hF.no (by omega) r1 fun w hw z y => ?_).trans b, (hF.no (by omega) r1 fun w hw z y => ?_).trans c⟩, (hF.no (by decide) x3 fun w hw z => absurd z (no w hw).2.1).trans d, (hF.no (by omega) r4 fun w hw z y => ?_).trans e, (hF.no (by omega) r4 fun w hw z y => ?_).trans f⟩
  · have := (no w hw).2.2.1 z; omega
  · have := (no w hw).2.2.1 z; omega
  · have := (no w hw).2.2.2 z; omega
  · have := (no w hw).2.2.2 z; omega
/-- writes that leave the world's grants and tape alone; the image's -/
def gsafeW (ws : AWr) : Bool := ws.all fun w => (!Nat.beq w.1 14 || ((decide (7 < w.2.1) || decide (w.2.2 < 7)) && (decide (9 < w.2.1) || decide (w.2.2 < 9)))) && (!Nat.beq w.1 21 && (!Nat.beq w.1 24 && (!Nat.beq w.1 25 && (!Nat.beq w.1 26 && (!Nat.beq w.1 66 || ((decide (2 < w.2.1) || decide (w.2.2 < 2)) && ((decide (4 < w.2.1) || decide (w.2.2 < 4)) && ((decide (89 < w.2.1) || decide (w.2.2 < 10)) && ((decide (135 < w.2.1) || decide (w.2.2 < 130)) && (decide (427 < w.2.1) || decide (w.2.2 < 140)))))))))))
def gsafeK (ws : AWr) : Bool := ws.all fun w => (!Nat.beq w.1 27 || ((decide (7 < w.2.1) || decide (w.2.2 < 7)) && (decide (9 < w.2.1) || decide (w.2.2 < 9)))) && (!Nat.beq w.1 34 && (!Nat.beq w.1 37 && (!Nat.beq w.1 38 && (!Nat.beq w.1 39 && !Nat.beq w.1 67))))
theorem row_rd {h : XH} (hI : AInv w_W h) {p : Nat} (hp : p = 537 ∨ p = 538) : ∃ f : Nat → Int32, ∀ j, j < 490 → rd h p j = some (.int (f j)) := by
  obtain ⟨f, hf⟩ := w_row hI hp
  exact ⟨f, fun j hj => rd_row hf hj⟩
theorem grW_fr {ws : AWr} {h h1 : XH} (k : GR h 14 24 21 537) (hI : AInv w_W h1) (hF : AFr w_W ws h h1) (hs : gsafeW ws = true) : GR h1 14 24 21 537 := by
  have no : ∀ w ∈ ws, (w.1 = 14 → (7 < w.2.1 ∨ w.2.2 < 7) ∧ (9 < w.2.1 ∨ w.2.2 < 9)) ∧ ¬ w.1 = 21 ∧ ¬ w.1 = 24 ∧ ¬ w.1 = 25 ∧ ¬ w.1 = 26 ∧ (w.1 = 66 → (2 < w.2.1 ∨ w.2.2 < 2) ∧ (4 < w.2.1 ∨ w.2.2 < 4) ∧ (89 < w.2.1 ∨ w.2.2 < 10) ∧ (135 < w.2.1 ∨ w.2.2 < 130) ∧ (427 < w.2.1 ∨ w.2.2 < 140)) := fun w hw => by
    have q := List.all_eq_true.mp hs w hw
    simp only [Bool.and_eq_true, Bool.or_eq_true, Bool.not_eq_true', decide_eq_true_eq] at q
    obtain ⟨q1, q2, q3, q4, q5, q6⟩ := q
    exact ⟨fun e => q1.resolve_left fun z => Nat.ne_of_beq_eq_false z e, Nat.ne_of_beq_eq_false q2, Nat.ne_of_beq_eq_false q3, Nat.ne_of_beq_eq_false q4, Nat.ne_of_beq_eq_false q5, fun e => q6.resolve_left fun z => Nat.ne_of_beq_eq_false z e⟩
  obtain ⟨f1, hf1⟩ := row_rd hI (Or.inl rfl)
  obtain ⟨-, x2, -, -⟩ := w_rg_x
  refine k.fr hf1 (fun j hj => hF.no (by decide) w_rg_537 fun w hw z y => ?_) (hF.no (by decide) w_rg_14 fun w hw z y => ?_) (hF.no (by decide) w_rg_14 fun w hw z y => ?_) (fun i _ => hF.no (by decide) x2 fun w hw z => absurd z (no w hw).2.1) fun g hg => ?_
  · have := (no w hw).2.2.2.2.2 z
    unfold gcell at hj
    omega
  · have := (no w hw).1 z; omega
  · have := (no w hw).1 z; omega
  · obtain ⟨⟨r1, r2, r3⟩, -⟩ := w_rg_g ⟨g, hg⟩
    have r2 : w_rg (24 + 3 * g + 1) = 25 := by rw [show 24 + 3 * g + 1 = 25 + 3 * g by omega]; exact r2
    have r3 : w_rg (24 + 3 * g + 2) = 26 := by rw [show 24 + 3 * g + 2 = 26 + 3 * g by omega]; exact r3
    exact ⟨hF.no (by omega) r1 fun w hw z => absurd z (no w hw).2.2.1, fun j _ => hF.no (by omega) r2 fun w hw z => absurd z (no w hw).2.2.2.1, fun j _ => hF.no (by omega) r3 fun w hw z => absurd z (no w hw).2.2.2.2.1⟩
theorem grK_fr {ws : AWr} {h h1 : XH} (k : GR h 42 52 49 538) (hI : AInv w_W h1) (hF : AFr w_W ws h h1) (hs : gsafeK ws = true) : GR h1 42 52 49 538 := by
  have no : ∀ w ∈ ws, (w.1 = 27 → (7 < w.2.1 ∨ w.2.2 < 7) ∧ (9 < w.2.1 ∨ w.2.2 < 9)) ∧ ¬ w.1 = 34 ∧ ¬ w.1 = 37 ∧ ¬ w.1 = 38 ∧ ¬ w.1 = 39 ∧ ¬ w.1 = 67 := fun w hw => by
    have q := List.all_eq_true.mp hs w hw
    simp only [Bool.and_eq_true, Bool.or_eq_true, Bool.not_eq_true', decide_eq_true_eq] at q
    obtain ⟨q1, q2, q3, q4, q5, q6⟩ := q
    exact ⟨fun e => q1.resolve_left fun z => Nat.ne_of_beq_eq_false z e, Nat.ne_of_beq_eq_false q2, Nat.ne_of_beq_eq_false q3, Nat.ne_of_beq_eq_false q4, Nat.ne_of_beq_eq_false q5, Nat.ne_of_beq_eq_false q6⟩
  obtain ⟨f1, hf1⟩ := row_rd hI (Or.inr rfl)
  obtain ⟨-, -, -, x4⟩ := w_rg_x
  refine k.fr hf1 (fun j hj => hF.no (by decide) w_rg_538 fun w hw z => absurd z (no w hw).2.2.2.2.2) (hF.no (by decide) w_rg_42 fun w hw z y => ?_) (hF.no (by decide) w_rg_42 fun w hw z y => ?_) (fun i _ => hF.no (by decide) x4 fun w hw z => absurd z (no w hw).2.1) fun g hg => ?_
  · have := (no w hw).1 z; omega
  · have := (no w hw).1 z; omega
  · obtain ⟨-, r1, r2, r3⟩ := w_rg_g ⟨g, hg⟩
    have r2 : w_rg (52 + 3 * g + 1) = 38 := by rw [show 52 + 3 * g + 1 = 53 + 3 * g by omega]; exact r2
    have r3 : w_rg (52 + 3 * g + 2) = 39 := by rw [show 52 + 3 * g + 2 = 54 + 3 * g by omega]; exact r3
    exact ⟨hF.no (by omega) r1 fun w hw z => absurd z (no w hw).2.2.1, fun j _ => hF.no (by omega) r2 fun w hw z => absurd z (no w hw).2.2.2.1, fun j _ => hF.no (by omega) r3 fun w hw z => absurd z (no w hw).2.2.2.2.1⟩
theorem sb0_ext {h h1 : XH} (k : SB0 h) (e : ∀ j, j < 13 → h1.2.2 j = h.2.2 j) : SB0 h1 := fun w a b => by
  rw [e w (by omega), e (w + 5) (by omega)]
  exact k w a b
/-- one side's call that leaves all of it -/
theorem G_one {c : ACt} (hc : AHp w_W w_P c) (hs : vsafe c.1.2.2.2.1 = true) (hg : (ssafe c.1.2.2.2.1 && (gsafeW c.1.2.2.2.1 && gsafeK c.1.2.2.2.1)) = true) (ho : aints c.1.2.2.1 = true) (hm : c.2.1 = []) (hd : c.1.2.2.2.2 ≤ 11) {as : List Value} (ha : gal w_W c.1.2.1 as) {L : Nat} {xs : Nat → Int32} {h : XH} (hI : INVg L xs h) : ∃ (v : Int32) (h1 : XH), XCall xM 11 c.1.1 as h (some (.int v)) h1 ∧ INVg L xs h1 := by
  obtain ⟨hw, g1, g2, g3, g4⟩ := hI
  obtain ⟨v, h1, k1, k2, k3, k4, o, ho2, o1, -, -⟩ := hc.2 as h hw.1 hw.2.1 ha (by rw [hm]; exact fun q hq => by cases hq)
  obtain ⟨x, rfl⟩ := aints_ok ho ho2 o1
  have e := XCall.ext _ _ _ _ _ _ k1 (by rw [hw.1.1]; decide)
  rw [Bool.and_eq_true, Bool.and_eq_true] at hg
  exact ⟨x, h1, XCall.up hd k1, invw_fr hw k2 k3 k4 hs (e 1 (by decide)), grW_fr g1 k2 k4 hg.2.1, grK_fr g2 k2 k4 hg.2.2, gst_fr g3 k4 hg.1, sb0_ext g4 e⟩
