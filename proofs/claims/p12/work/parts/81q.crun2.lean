/-! the class's run (the Run at 71): it settles, it goes -/
section CRa
variable {H : XH} {ho cl : Nat → Int32} {p bb nc : Nat} {Lt Nt al we de bi ch : Nat → Int32}
set_option maxRecDepth 100000 in
theorem sea_l (d : Nat) (hE : CE H p bb nc Lt Nt al we de bi ch) (hp : p + 2 < 71 ∨ 79 ≤ p) (hnc : nc ≤ 6) (hr : ∀ c, c < nc → rg 7 (Nt (4 * c + 1))) {y : Nat} (hy : y < 41) : ∀ (k i : Nat) (σ : KS), i + k = 6 → σ.1 < nc → XGo (d + 4) xm_X4_settle (3, [some (.ref 71), some (.ref p), some (.ref bb), some (.int (nI y)), some (.int (nI i))], [], UHa H ho cl σ) none (UHa H ho cl (seC Lt Nt al we de bi ch nc y k σ))
  | 0, i, σ, hi, hc => by
    have hi : i = 6 := by omega
    subst hi
    refine XGo.go 3 rfl ?_
    refine XGo.ifp (Int32.le_refl _) ?_
    exact XGo.vret _ rfl rfl rfl
  | k + 1, i, (c, r, b, hv, bg), hi, hc => by
    have hc : c < nc := hc
    have i6 : i < 6 := by omega
    have ih := fun (σ : KS) (h : σ.1 < nc) => sea_l d hE hp hnc hr hy k (i + 1) σ (by omega) h
    rw [← show nI i + Int32.ofInt 1 = nI (i + 1) from nI_1 i] at ih
    refine XGo.go 3 rfl ?_
    refine XGo.ifn (fun z => absurd ((xnI_ge (m := 6) (by decide) (by omega)).mp z) (by omega)) ?_
    refine XGo.go 3 rfl ?_
    cases r with
    | false =>
      refine XGo.ifp rfl ?_
      exact XGo.vret _ rfl rfl rfl
    | true =>
      refine XGo.ifn (show ¬ b01 true = 0 by decide) ?_
      refine XGo.go 3 rfl ?_
      -- the rest, from 31 on
      have rest : ∀ β : KS, β.1 = c → XGo (d + 4) xm_X4_settle (31, [some (.ref 71), some (.ref p), some (.ref bb), some (.int (nI y)), some (.int (nI i))], [], UHa H ho cl β) none (UHa H ho cl (if β.2.2.1 = true then (if enB Lt Nt al y β = true then seC Lt Nt al we de bi ch nc y k (tnC Lt nc (enH Lt al y β)) else enH Lt al y β) else (if faC Lt Nt al ch c y = true then seC Lt Nt al we de bi ch nc y k (tnC Lt nc β) else β))) := fun β eβ => by
        obtain ⟨c2, r2, b2, hv2, bg2⟩ := β
        have eβ : c2 = c := eβ
        subst eβ
        -- on to the next
        have next : ∀ σ : KS, σ.1 = c2 → XGo (d + 4) xm_X4_settle (67, [some (.ref 71), some (.ref p), some (.ref bb), some (.int (nI y)), some (.int (nI i))], [], UHa H ho cl σ) none (UHa H ho cl (seC Lt Nt al we de bi ch nc y k (tnC Lt nc σ))) := fun σ eσ => by
          refine XGo.go 2 rfl ?_
          refine XGo.call _ rfl xm_X4_turnToNext rfl rfl [.ref 71, .ref p] [] rfl rfl (uha_r rfl rfl) (Nat.le_of_ble_eq_true rfl) (k_tna (d + 1) hE hp hnc σ (by omega)) ?_
          exact XGo.go 2 rfl (ih _ (tnC_1 (by omega)))
        refine XGo.go 2 rfl ?_
        cases b2 with
        | true =>
          rw [if_pos (show ((c2, r2, true, hv2, bg2) : KS).2.2.1 = true from rfl)]
          refine XGo.go 1 rfl ?_
          refine XGo.ifn (show ¬ b01 true = 0 by decide) ?_
          refine XGo.go 4 rfl ?_
          refine XGo.call _ rfl xm_X4_hasEnded rfl rfl [.ref 71, .ref p, .ref bb, .int (nI y)] [] rfl rfl (uha_r rfl rfl) (Nat.le_of_ble_eq_true rfl) (k_hea (d + 2) hE hp (c2, r2, true, hv2, bg2) (by show c2 < 6; omega) hy) ?_
          refine XGo.go 1 rfl ?_
          cases he : enB Lt Nt al y (c2, r2, true, hv2, bg2)
          · refine XGo.ifp (show b01 false = 0 by decide) ?_
            exact XGo.vret _ rfl rfl rfl
          · refine XGo.ifn (show ¬ b01 true = 0 by decide) ?_
            have eb : enH Lt al y (c2, r2, true, hv2, bg2) = ((enH Lt al y (c2, r2, true, hv2, bg2)).1, (enH Lt al y (c2, r2, true, hv2, bg2)).2.1, true, (enH Lt al y (c2, r2, true, hv2, bg2)).2.2.2) := by
              unfold enH
              split <;> rfl
            have n1 := next (enH Lt al y (c2, r2, true, hv2, bg2)) enH_1
            rw [eb] at n1 ⊢
            refine XGo.go 3 rfl ?_
            refine XGo.ifn (show ¬ b01 true = 0 by decide) ?_
            exact n1
        | false =>
          rw [if_neg (show ¬ ((c2, r2, false, hv2, bg2) : KS).2.2.1 = true from Bool.false_ne_true)]
          refine XGo.go 1 rfl ?_
          refine XGo.ifp (show b01 false = 0 by decide) ?_
          refine XGo.go 3 rfl ?_
          refine XGo.ifp (show b01 false = 0 by decide) ?_
          refine XGo.go 4 rfl ?_
          refine XGo.call _ rfl xm_X4_hasFailed rfl rfl [.ref 71, .ref p, .ref bb, .int (nI y)] [] rfl rfl (uha_r rfl rfl) (Nat.le_of_ble_eq_true rfl) (k_hfa (d + 1) hE hp (c2, r2, false, hv2, bg2) (by show c2 < 6; omega) (hr _ (by show c2 < nc; omega)) hy) ?_
          refine XGo.go 1 rfl ?_
          show XGo _ _ (if b01 (faC Lt Nt al ch c2 y) = 0 then 66 else 67, _, _, _) _ _
          cases hf : faC Lt Nt al ch c2 y
          · refine XGo.ifp (show b01 false = 0 by decide) ?_
            exact XGo.vret _ rfl rfl rfl
          · refine XGo.ifn (show ¬ b01 true = 0 by decide) ?_
            exact next (c2, r2, false, hv2, bg2) rfl
      have eS : seC Lt Nt al we de bi ch nc y (k + 1) (c, true, b, hv, bg) = if (beC Lt Nt al we de bi ch y (c, true, b, hv, bg)).2.2.1 = true then (if enB Lt Nt al y (beC Lt Nt al we de bi ch y (c, true, b, hv, bg)) = true then seC Lt Nt al we de bi ch nc y k (tnC Lt nc (enH Lt al y (beC Lt Nt al we de bi ch y (c, true, b, hv, bg)))) else enH Lt al y (beC Lt Nt al we de bi ch y (c, true, b, hv, bg))) else (if faC Lt Nt al ch c y = true then seC Lt Nt al we de bi ch nc y k (tnC Lt nc (beC Lt Nt al we de bi ch y (c, true, b, hv, bg))) else beC Lt Nt al we de bi ch y (c, true, b, hv, bg)) := rfl
      rw [eS]
      have rB := rest (beC Lt Nt al we de bi ch y (c, true, b, hv, bg)) beC_1
      cases b with
      | true =>
        refine XGo.ifn (show ¬ b01 true = 0 by decide) ?_
        exact rB
      | false =>
        refine XGo.ifp (show b01 false = 0 by decide) ?_
        refine XGo.go 4 rfl ?_
        refine XGo.call _ rfl xm_X4_begin rfl rfl [.ref 71, .ref p, .ref bb, .int (nI y)] [] rfl rfl (uha_r rfl rfl) (Nat.le_of_ble_eq_true rfl) (k_bga d hE hp (c, true, false, hv, bg) (by show c < 6; omega) (hr _ hc) hy) ?_
        exact rB
  termination_by k => k
theorem k_sea (d : Nat) (hE : CE H p bb nc Lt Nt al we de bi ch) (hp : p + 2 < 71 ∨ 79 ≤ p) (hnc : nc ≤ 6) (hr : ∀ c, c < nc → rg 7 (Nt (4 * c + 1))) {y : Nat} (hy : y < 41) (σ : KS) (hc : σ.1 < nc) : XCall xM (d + 5) 47 [.ref 71, .ref p, .ref bb, .int (nI y)] (UHa H ho cl σ) none (UHa H ho cl (seC Lt Nt al we de bi ch nc y 6 σ)) :=
  XCall.of (M := xm_X4_settle) rfl (Nat.le_of_ble_eq_true rfl) (XGo.go 2 rfl (sea_l d hE hp hnc hr hy 6 0 σ rfl hc))
set_option maxRecDepth 100000 in
theorem goa_l (d : Nat) (hE : CE H p bb nc Lt Nt al we de bi ch) (hp : p + 2 < 71 ∨ 79 ≤ p) (hnc : nc ≤ 6) (hn0 : 0 < nc) (hr : ∀ c, c < nc → rg 7 (Nt (4 * c + 1))) {b0 : Nat → Int32} : ∀ (q y : Nat) (ho cl : Nat → Int32), y + q = 41 → GCK Lt Nt al we de bi ch nc b0 ho cl y → ∃ ho2 cl2 : Nat → Int32, GCK Lt Nt al we de bi ch nc b0 ho2 cl2 41 ∧ XGo (d + 5) xm_X4_go (16, [some (.ref 71), some (.ref p), some (.ref bb), some (.int (nI y))], [], UHa H ho cl (goC Lt Nt al we de bi ch nc b0 y)) none (UHa H ho2 cl2 (goC Lt Nt al we de bi ch nc b0 41))
  | 0, y, ho, cl, hy, hg => by
    have hy : y = 41 := by omega
    subst hy
    refine ⟨ho, cl, hg, ?_⟩
    refine XGo.go 3 rfl ?_
    refine XGo.ifp (Int32.le_refl _) ?_
    exact XGo.vret _ rfl rfl rfl
  | q + 1, y, ho, cl, hy, hg => by
    have y41 : y < 41 := by omega
    have g1 := goC_1 (Lt := Lt) (Nt := Nt) (al := al) (we := we) (de := de) (bi := bi) (ch := ch) (b0 := b0) hn0 y
    have cS := k_shfa (ho := ho) (cl := cl) (d + 2) hE hp hnc y41 (goC Lt Nt al we de bi ch nc b0 y) (by omega)
    have cE := k_sea (ho := ho) (cl := cl) d hE hp hnc hr y41 (ysC Lt Nt de nc y (goC Lt Nt al we de bi ch nc b0 y)) (ysC_1 g1)
    rw [show seC Lt Nt al we de bi ch nc y 6 (ysC Lt Nt de nc y (goC Lt Nt al we de bi ch nc b0 y)) = goC Lt Nt al we de bi ch nc b0 (y + 1) from rfl] at cE
    obtain ⟨ho2, cl2, ok, go⟩ := goa_l d hE hp hnc hn0 hr (b0 := b0) q (y + 1) (upd ho y (goC Lt Nt al we de bi ch nc b0 (y + 1)).2.2.2.1) (upd cl y (if (goC Lt Nt al we de bi ch nc b0 (y + 1)).2.2.2.1 = 0 then m5 else nI (goC Lt Nt al we de bi ch nc b0 (y + 1)).1)) (by omega) (fun j hj => by
      by_cases ej : j = y
      · rw [ej, upd_at, upd_at]
        exact ⟨rfl, rfl⟩
      · rw [upd_ne ej, upd_ne ej]
        exact hg j (by omega))
    refine ⟨ho2, cl2, ok, ?_⟩
    refine XGo.go 3 rfl ?_
    refine XGo.ifn (fun z => absurd ((xnI_ge (m := 41) (by decide) (by omega)).mp z) (by omega)) ?_
    refine XGo.go 4 rfl ?_
    refine XGo.call _ rfl xm_X4_shift rfl rfl [.ref 71, .ref p, .ref bb, .int (nI y)] [] rfl rfl (uha_r rfl rfl) (Nat.le_of_ble_eq_true rfl) cS ?_
    refine XGo.go 4 rfl ?_
    refine XGo.call _ rfl xm_X4_settle rfl rfl [.ref 71, .ref p, .ref bb, .int (nI y)] [] rfl rfl (uha_r rfl rfl) (Nat.le_of_ble_eq_true rfl) cE ?_
    rw [← show nI y + Int32.ofInt 1 = nI (y + 1) from nI_1 y] at go
    generalize goC Lt Nt al we de bi ch nc b0 (y + 1) = σ at go ⊢
    obtain ⟨c, r, b, hv, bg⟩ := σ
    refine XGo.go 5 rfl ?_
    refine XGo.iast rfl (n := 41) (f := ho) rfl (Nat.le_of_ble_eq_true rfl) (by decide) (ca_nI y41 (by decide)) ?_
    rw [xnI_nat (by omega), UHa.sho]
    refine XGo.go 6 rfl ?_
    have fin : ∀ x : Int32, x = (if hv = 0 then m5 else nI c) → XGo (d + 5) xm_X4_go (67, [some (.ref 71), some (.ref p), some (.ref bb), some (.int (nI y))], [.int x, .int (nI y), .ref 73], UHa H (upd ho y hv) cl (c, r, b, hv, bg)) none (UHa H ho2 cl2 (goC Lt Nt al we de bi ch nc b0 41)) := fun x ex => by
      subst ex
      refine XGo.iast rfl (n := 41) (f := cl) rfl (Nat.le_of_ble_eq_true rfl) (by decide) (ca_nI y41 (by decide)) ?_
      rw [xnI_nat (by omega), UHa.scl]
      refine XGo.go 2 rfl ?_
      exact go
    by_cases e0 : hv = 0
    · refine XGo.ifp e0 ?_
      refine XGo.go 2 rfl ?_
      exact fin _ (if_pos e0).symm
    · refine XGo.ifn e0 ?_
      refine XGo.go 2 rfl ?_
      exact fin _ (if_neg e0).symm
  termination_by q => q
theorem rowsa {c : Nat} {r b : Bool} {hv : Int32} {bg : Nat → Int32} {h : XH} (hN : h.1 = 549) (hS : h.2.1 = 14048) (h0 : h.2.2 71 = .inl (4, uOa c r b hv)) (h1 : h.2.2 72 = .inr (.inl (0, 41, ho))) (h2 : h.2.2 73 = .inr (.inl (0, 41, cl))) (h3 : h.2.2 74 = .inr (.inl (0, 6, bg))) : h = UHa h ho cl (c, r, b, hv, bg) := by
  refine Prod.ext hN (Prod.ext hS (funext fun j => ?_))
  show h.2.2 j = (if j = 71 then _ else if j = 72 then _ else if j = 73 then _ else if j = 74 then _ else h.2.2 j)
  by_cases j1 : j = 71
  · rw [if_pos j1, j1]; exact h0
  · rw [if_neg j1]
    by_cases j2 : j = 72
    · rw [if_pos j2, j2]; exact h1
    · rw [if_neg j2]
      by_cases j3 : j = 73
      · rw [if_pos j3, j3]; exact h2
      · rw [if_neg j3]
        by_cases j4 : j = 74
        · rw [if_pos j4, j4]; exact h3
        · rw [if_neg j4]
set_option maxRecDepth 100000 in
/-- Run.go -/
theorem k_goa (d : Nat) {h : XH} (hN : h.1 = 549) (hS : h.2.1 = 14048) {c0 : Int32} {r b : Int32} {hv : Int32} {bg : Nat → Int32} (h0 : h.2.2 71 = .inl (4, [.ref 72, .ref 73, .ref 74, .int c0, .int r, .int b, .int hv])) (h1 : h.2.2 72 = .inr (.inl (0, 41, ho))) (h2 : h.2.2 73 = .inr (.inl (0, 41, cl))) (h3 : h.2.2 74 = .inr (.inl (0, 6, bg))) (hE : CE h p bb nc Lt Nt al we de bi ch) (hp : p + 2 < 71 ∨ 79 ≤ p) (hnc : nc ≤ 6) (hn0 : 0 < nc) (hr : ∀ c, c < nc → rg 7 (Nt (4 * c + 1))) :
    ∃ b0 ho2 cl2 : Nat → Int32, (∀ j, j < 6 → b0 j = m5) ∧ GCK Lt Nt al we de bi ch nc b0 ho2 cl2 41 ∧ XCall xM (d + 6) 43 [.ref 71, .ref p, .ref bb] h none (UHa h ho2 cl2 (goC Lt Nt al we de bi ch nc b0 41)) := by
  obtain ⟨A, b0, cF, oF, eF, jF⟩ := k_fill (d + 4) (h := h) (r := 74) (n := 6) (f := bg) h3 (by omega) (by decide) (by decide) m5
  let B : XH := UHa h ho cl (0, true, false, Int32.ofInt 0, b0)
  have AN := oF.1.trans hN
  have A0 := (oF.2.2 71 (by decide)).trans h0
  have A1 := (oF.2.2 72 (by decide)).trans h1
  have A2 := (oF.2.2 73 (by decide)).trans h2
  -- turnTo of the heap as it is
  have cT : XCall xM (d + 5) 45 [.ref 71, .int (Int32.ofInt 0)] A none B := by
    refine XCall.of (M := xm_X4_turnTo) rfl (Nat.le_of_ble_eq_true rfl) ?_
    let A3 : XH := xup A 71 (.inl (4, [.ref 72, .ref 73, .ref 74, .int (Int32.ofInt 0), .int r, .int b, .int hv]))
    let A4 : XH := xup A3 71 (.inl (4, [.ref 72, .ref 73, .ref 74, .int (Int32.ofInt 0), .int (Int32.ofInt 1), .int b, .int hv]))
    let A5 : XH := xup A4 71 (.inl (4, [.ref 72, .ref 73, .ref 74, .int (Int32.ofInt 0), .int (Int32.ofInt 1), .int (Int32.ofInt 0), .int hv]))
    have e3 : A3.2.2 71 = .inl (4, [.ref 72, .ref 73, .ref 74, .int (Int32.ofInt 0), .int r, .int b, .int hv]) := xup_eq _ _ _
    have e4 : A4.2.2 71 = .inl (4, [.ref 72, .ref 73, .ref 74, .int (Int32.ofInt 0), .int (Int32.ofInt 1), .int b, .int hv]) := xup_eq _ _ _
    have e5 : A5.2.2 71 = .inl (4, [.ref 72, .ref 73, .ref 74, .int (Int32.ofInt 0), .int (Int32.ofInt 1), .int (Int32.ofInt 0), .int hv]) := xup_eq _ _ _
    have eB : xup A5 71 (.inl (4, [.ref 72, .ref 73, .ref 74, .int (Int32.ofInt 0), .int (Int32.ofInt 1), .int (Int32.ofInt 0), .int (Int32.ofInt 0)])) = B := by
      refine Prod.ext AN (Prod.ext (oF.2.1.trans hS) (funext fun j => ?_))
      show (xup A5 71 _).2.2 j = (if j = 71 then _ else if j = 72 then _ else if j = 73 then _ else if j = 74 then _ else h.2.2 j)
      by_cases j1 : j = 71
      · rw [if_pos j1, j1]; exact xup_eq _ _ _
      · rw [if_neg j1, xup_ne _ _ j1, show A5.2.2 j = A.2.2 j from (xup_ne _ _ j1).trans ((xup_ne _ _ j1).trans (xup_ne _ _ j1))]
        by_cases j2 : j = 72
        · rw [if_pos j2, j2]; exact A1
        · rw [if_neg j2]
          by_cases j3 : j = 73
          · rw [if_pos j3, j3]; exact A2
          · rw [if_neg j3]
            by_cases j4 : j = 74
            · rw [if_pos j4, j4]; exact eF
            · rw [if_neg j4]; exact oF.2.2 j j4
    refine XGo.go 2 rfl ?_
    refine XGo.putf rfl A0 (by omega) (by decide) (show 3 < 7 by decide) rfl rfl ?_
    show XGo _ _ (_, _, [], A3) _ _
    refine XGo.go 2 rfl ?_
    refine XGo.putf rfl e3 (show 71 < A.1 by omega) (by decide) (show 4 < 7 by decide) rfl rfl ?_
    show XGo _ _ (_, _, [], A4) _ _
    refine XGo.go 2 rfl ?_
    refine XGo.putf rfl e4 (show 71 < A.1 by omega) (by decide) (show 5 < 7 by decide) rfl rfl ?_
    show XGo _ _ (_, _, [], A5) _ _
    refine XGo.go 2 rfl ?_
    refine XGo.putf rfl e5 (show 71 < A.1 by omega) (by decide) (show 6 < 7 by decide) rfl rfl ?_
    show XGo _ _ (_, _, [], xup A5 71 (.inl (4, [.ref 72, .ref 73, .ref 74, .int (Int32.ofInt 0), .int (Int32.ofInt 1), .int (Int32.ofInt 0), .int (Int32.ofInt 0)]))) _ _
    rw [eB]
    exact XGo.vret _ rfl rfl rfl
  obtain ⟨ho2, cl2, ok, go⟩ := goa_l d hE hp hnc hn0 hr (b0 := b0) 41 0 ho cl rfl (fun j hj => absurd hj (by omega))
  refine ⟨b0, ho2, cl2, jF, ok, XCall.of (M := xm_X4_go) rfl (Nat.le_of_ble_eq_true rfl) ?_⟩
  refine XGo.go 1 rfl ?_
  refine XGo.getf rfl (xfd_o h0 (by omega) (by decide) rfl) ?_
  refine XGo.go 1 rfl ?_
  refine XGo.call _ rfl xm_X6_fill rfl rfl [.ref 74, .int m5] [] rfl rfl (fun z => absurd rfl z) (Nat.le_of_ble_eq_true rfl) cF ?_
  refine XGo.go 2 rfl ?_
  refine XGo.call _ rfl xm_X4_turnTo rfl rfl [.ref 71, .int (Int32.ofInt 0)] [] rfl rfl (fun _ => ⟨71, _, rfl, A0, by decide, by omega⟩) (Nat.le_of_ble_eq_true rfl) cT ?_
  refine XGo.go 2 rfl ?_
  exact go
end CRa
/-! the class's run (the Run at 75): it settles, it goes -/
section CRb
variable {H : XH} {ho cl : Nat → Int32} {p bb nc : Nat} {Lt Nt al we de bi ch : Nat → Int32}
set_option maxRecDepth 100000 in
theorem seb_l (d : Nat) (hE : CE H p bb nc Lt Nt al we de bi ch) (hp : p + 2 < 71 ∨ 79 ≤ p) (hnc : nc ≤ 6) (hr : ∀ c, c < nc → rg 7 (Nt (4 * c + 1))) {y : Nat} (hy : y < 41) : ∀ (k i : Nat) (σ : KS), i + k = 6 → σ.1 < nc → XGo (d + 4) xm_X4_settle (3, [some (.ref 75), some (.ref p), some (.ref bb), some (.int (nI y)), some (.int (nI i))], [], UHb H ho cl σ) none (UHb H ho cl (seC Lt Nt al we de bi ch nc y k σ))
  | 0, i, σ, hi, hc => by
    have hi : i = 6 := by omega
    subst hi
    refine XGo.go 3 rfl ?_
    refine XGo.ifp (Int32.le_refl _) ?_
    exact XGo.vret _ rfl rfl rfl
  | k + 1, i, (c, r, b, hv, bg), hi, hc => by
    have hc : c < nc := hc
    have i6 : i < 6 := by omega
    have ih := fun (σ : KS) (h : σ.1 < nc) => seb_l d hE hp hnc hr hy k (i + 1) σ (by omega) h
    rw [← show nI i + Int32.ofInt 1 = nI (i + 1) from nI_1 i] at ih
    refine XGo.go 3 rfl ?_
    refine XGo.ifn (fun z => absurd ((xnI_ge (m := 6) (by decide) (by omega)).mp z) (by omega)) ?_
    refine XGo.go 3 rfl ?_
    cases r with
    | false =>
      refine XGo.ifp rfl ?_
      exact XGo.vret _ rfl rfl rfl
    | true =>
      refine XGo.ifn (show ¬ b01 true = 0 by decide) ?_
      refine XGo.go 3 rfl ?_
      -- the rest, from 31 on
      have rest : ∀ β : KS, β.1 = c → XGo (d + 4) xm_X4_settle (31, [some (.ref 75), some (.ref p), some (.ref bb), some (.int (nI y)), some (.int (nI i))], [], UHb H ho cl β) none (UHb H ho cl (if β.2.2.1 = true then (if enB Lt Nt al y β = true then seC Lt Nt al we de bi ch nc y k (tnC Lt nc (enH Lt al y β)) else enH Lt al y β) else (if faC Lt Nt al ch c y = true then seC Lt Nt al we de bi ch nc y k (tnC Lt nc β) else β))) := fun β eβ => by
        obtain ⟨c2, r2, b2, hv2, bg2⟩ := β
        have eβ : c2 = c := eβ
        subst eβ
        -- on to the next
        have next : ∀ σ : KS, σ.1 = c2 → XGo (d + 4) xm_X4_settle (67, [some (.ref 75), some (.ref p), some (.ref bb), some (.int (nI y)), some (.int (nI i))], [], UHb H ho cl σ) none (UHb H ho cl (seC Lt Nt al we de bi ch nc y k (tnC Lt nc σ))) := fun σ eσ => by
          refine XGo.go 2 rfl ?_
          refine XGo.call _ rfl xm_X4_turnToNext rfl rfl [.ref 75, .ref p] [] rfl rfl (uhb_r rfl rfl) (Nat.le_of_ble_eq_true rfl) (k_tnb (d + 1) hE hp hnc σ (by omega)) ?_
          exact XGo.go 2 rfl (ih _ (tnC_1 (by omega)))
        refine XGo.go 2 rfl ?_
        cases b2 with
        | true =>
          rw [if_pos (show ((c2, r2, true, hv2, bg2) : KS).2.2.1 = true from rfl)]
          refine XGo.go 1 rfl ?_
          refine XGo.ifn (show ¬ b01 true = 0 by decide) ?_
          refine XGo.go 4 rfl ?_
          refine XGo.call _ rfl xm_X4_hasEnded rfl rfl [.ref 75, .ref p, .ref bb, .int (nI y)] [] rfl rfl (uhb_r rfl rfl) (Nat.le_of_ble_eq_true rfl) (k_heb (d + 2) hE hp (c2, r2, true, hv2, bg2) (by show c2 < 6; omega) hy) ?_
          refine XGo.go 1 rfl ?_
          cases he : enB Lt Nt al y (c2, r2, true, hv2, bg2)
          · refine XGo.ifp (show b01 false = 0 by decide) ?_
            exact XGo.vret _ rfl rfl rfl
          · refine XGo.ifn (show ¬ b01 true = 0 by decide) ?_
            have eb : enH Lt al y (c2, r2, true, hv2, bg2) = ((enH Lt al y (c2, r2, true, hv2, bg2)).1, (enH Lt al y (c2, r2, true, hv2, bg2)).2.1, true, (enH Lt al y (c2, r2, true, hv2, bg2)).2.2.2) := by
              unfold enH
              split <;> rfl
            have n1 := next (enH Lt al y (c2, r2, true, hv2, bg2)) enH_1
            rw [eb] at n1 ⊢
            refine XGo.go 3 rfl ?_
            refine XGo.ifn (show ¬ b01 true = 0 by decide) ?_
            exact n1
        | false =>
          rw [if_neg (show ¬ ((c2, r2, false, hv2, bg2) : KS).2.2.1 = true from Bool.false_ne_true)]
          refine XGo.go 1 rfl ?_
          refine XGo.ifp (show b01 false = 0 by decide) ?_
          refine XGo.go 3 rfl ?_
          refine XGo.ifp (show b01 false = 0 by decide) ?_
          refine XGo.go 4 rfl ?_
          refine XGo.call _ rfl xm_X4_hasFailed rfl rfl [.ref 75, .ref p, .ref bb, .int (nI y)] [] rfl rfl (uhb_r rfl rfl) (Nat.le_of_ble_eq_true rfl) (k_hfb (d + 1) hE hp (c2, r2, false, hv2, bg2) (by show c2 < 6; omega) (hr _ (by show c2 < nc; omega)) hy) ?_
          refine XGo.go 1 rfl ?_
          show XGo _ _ (if b01 (faC Lt Nt al ch c2 y) = 0 then 66 else 67, _, _, _) _ _
          cases hf : faC Lt Nt al ch c2 y
          · refine XGo.ifp (show b01 false = 0 by decide) ?_
            exact XGo.vret _ rfl rfl rfl
          · refine XGo.ifn (show ¬ b01 true = 0 by decide) ?_
            exact next (c2, r2, false, hv2, bg2) rfl
      have eS : seC Lt Nt al we de bi ch nc y (k + 1) (c, true, b, hv, bg) = if (beC Lt Nt al we de bi ch y (c, true, b, hv, bg)).2.2.1 = true then (if enB Lt Nt al y (beC Lt Nt al we de bi ch y (c, true, b, hv, bg)) = true then seC Lt Nt al we de bi ch nc y k (tnC Lt nc (enH Lt al y (beC Lt Nt al we de bi ch y (c, true, b, hv, bg)))) else enH Lt al y (beC Lt Nt al we de bi ch y (c, true, b, hv, bg))) else (if faC Lt Nt al ch c y = true then seC Lt Nt al we de bi ch nc y k (tnC Lt nc (beC Lt Nt al we de bi ch y (c, true, b, hv, bg))) else beC Lt Nt al we de bi ch y (c, true, b, hv, bg)) := rfl
      rw [eS]
      have rB := rest (beC Lt Nt al we de bi ch y (c, true, b, hv, bg)) beC_1
      cases b with
      | true =>
        refine XGo.ifn (show ¬ b01 true = 0 by decide) ?_
        exact rB
      | false =>
        refine XGo.ifp (show b01 false = 0 by decide) ?_
        refine XGo.go 4 rfl ?_
        refine XGo.call _ rfl xm_X4_begin rfl rfl [.ref 75, .ref p, .ref bb, .int (nI y)] [] rfl rfl (uhb_r rfl rfl) (Nat.le_of_ble_eq_true rfl) (k_bgb d hE hp (c, true, false, hv, bg) (by show c < 6; omega) (hr _ hc) hy) ?_
        exact rB
  termination_by k => k
theorem k_seb (d : Nat) (hE : CE H p bb nc Lt Nt al we de bi ch) (hp : p + 2 < 71 ∨ 79 ≤ p) (hnc : nc ≤ 6) (hr : ∀ c, c < nc → rg 7 (Nt (4 * c + 1))) {y : Nat} (hy : y < 41) (σ : KS) (hc : σ.1 < nc) : XCall xM (d + 5) 47 [.ref 75, .ref p, .ref bb, .int (nI y)] (UHb H ho cl σ) none (UHb H ho cl (seC Lt Nt al we de bi ch nc y 6 σ)) :=
  XCall.of (M := xm_X4_settle) rfl (Nat.le_of_ble_eq_true rfl) (XGo.go 2 rfl (seb_l d hE hp hnc hr hy 6 0 σ rfl hc))
set_option maxRecDepth 100000 in
theorem gob_l (d : Nat) (hE : CE H p bb nc Lt Nt al we de bi ch) (hp : p + 2 < 71 ∨ 79 ≤ p) (hnc : nc ≤ 6) (hn0 : 0 < nc) (hr : ∀ c, c < nc → rg 7 (Nt (4 * c + 1))) {b0 : Nat → Int32} : ∀ (q y : Nat) (ho cl : Nat → Int32), y + q = 41 → GCK Lt Nt al we de bi ch nc b0 ho cl y → ∃ ho2 cl2 : Nat → Int32, GCK Lt Nt al we de bi ch nc b0 ho2 cl2 41 ∧ XGo (d + 5) xm_X4_go (16, [some (.ref 75), some (.ref p), some (.ref bb), some (.int (nI y))], [], UHb H ho cl (goC Lt Nt al we de bi ch nc b0 y)) none (UHb H ho2 cl2 (goC Lt Nt al we de bi ch nc b0 41))
  | 0, y, ho, cl, hy, hg => by
    have hy : y = 41 := by omega
    subst hy
    refine ⟨ho, cl, hg, ?_⟩
    refine XGo.go 3 rfl ?_
    refine XGo.ifp (Int32.le_refl _) ?_
    exact XGo.vret _ rfl rfl rfl
  | q + 1, y, ho, cl, hy, hg => by
    have y41 : y < 41 := by omega
    have g1 := goC_1 (Lt := Lt) (Nt := Nt) (al := al) (we := we) (de := de) (bi := bi) (ch := ch) (b0 := b0) hn0 y
    have cS := k_shfb (ho := ho) (cl := cl) (d + 2) hE hp hnc y41 (goC Lt Nt al we de bi ch nc b0 y) (by omega)
    have cE := k_seb (ho := ho) (cl := cl) d hE hp hnc hr y41 (ysC Lt Nt de nc y (goC Lt Nt al we de bi ch nc b0 y)) (ysC_1 g1)
    rw [show seC Lt Nt al we de bi ch nc y 6 (ysC Lt Nt de nc y (goC Lt Nt al we de bi ch nc b0 y)) = goC Lt Nt al we de bi ch nc b0 (y + 1) from rfl] at cE
    obtain ⟨ho2, cl2, ok, go⟩ := gob_l d hE hp hnc hn0 hr (b0 := b0) q (y + 1) (upd ho y (goC Lt Nt al we de bi ch nc b0 (y + 1)).2.2.2.1) (upd cl y (if (goC Lt Nt al we de bi ch nc b0 (y + 1)).2.2.2.1 = 0 then m5 else nI (goC Lt Nt al we de bi ch nc b0 (y + 1)).1)) (by omega) (fun j hj => by
      by_cases ej : j = y
      · rw [ej, upd_at, upd_at]
        exact ⟨rfl, rfl⟩
      · rw [upd_ne ej, upd_ne ej]
        exact hg j (by omega))
    refine ⟨ho2, cl2, ok, ?_⟩
    refine XGo.go 3 rfl ?_
    refine XGo.ifn (fun z => absurd ((xnI_ge (m := 41) (by decide) (by omega)).mp z) (by omega)) ?_
    refine XGo.go 4 rfl ?_
    refine XGo.call _ rfl xm_X4_shift rfl rfl [.ref 75, .ref p, .ref bb, .int (nI y)] [] rfl rfl (uhb_r rfl rfl) (Nat.le_of_ble_eq_true rfl) cS ?_
    refine XGo.go 4 rfl ?_
    refine XGo.call _ rfl xm_X4_settle rfl rfl [.ref 75, .ref p, .ref bb, .int (nI y)] [] rfl rfl (uhb_r rfl rfl) (Nat.le_of_ble_eq_true rfl) cE ?_
    rw [← show nI y + Int32.ofInt 1 = nI (y + 1) from nI_1 y] at go
    generalize goC Lt Nt al we de bi ch nc b0 (y + 1) = σ at go ⊢
    obtain ⟨c, r, b, hv, bg⟩ := σ
    refine XGo.go 5 rfl ?_
    refine XGo.iast rfl (n := 41) (f := ho) rfl (Nat.le_of_ble_eq_true rfl) (by decide) (ca_nI y41 (by decide)) ?_
    rw [xnI_nat (by omega), UHb.sho]
    refine XGo.go 6 rfl ?_
    have fin : ∀ x : Int32, x = (if hv = 0 then m5 else nI c) → XGo (d + 5) xm_X4_go (67, [some (.ref 75), some (.ref p), some (.ref bb), some (.int (nI y))], [.int x, .int (nI y), .ref 77], UHb H (upd ho y hv) cl (c, r, b, hv, bg)) none (UHb H ho2 cl2 (goC Lt Nt al we de bi ch nc b0 41)) := fun x ex => by
      subst ex
      refine XGo.iast rfl (n := 41) (f := cl) rfl (Nat.le_of_ble_eq_true rfl) (by decide) (ca_nI y41 (by decide)) ?_
      rw [xnI_nat (by omega), UHb.scl]
      refine XGo.go 2 rfl ?_
      exact go
    by_cases e0 : hv = 0
    · refine XGo.ifp e0 ?_
      refine XGo.go 2 rfl ?_
      exact fin _ (if_pos e0).symm
    · refine XGo.ifn e0 ?_
      refine XGo.go 2 rfl ?_
      exact fin _ (if_neg e0).symm
  termination_by q => q
theorem rowsb {c : Nat} {r b : Bool} {hv : Int32} {bg : Nat → Int32} {h : XH} (hN : h.1 = 549) (hS : h.2.1 = 14048) (h0 : h.2.2 75 = .inl (4, uOb c r b hv)) (h1 : h.2.2 76 = .inr (.inl (0, 41, ho))) (h2 : h.2.2 77 = .inr (.inl (0, 41, cl))) (h3 : h.2.2 78 = .inr (.inl (0, 6, bg))) : h = UHb h ho cl (c, r, b, hv, bg) := by
  refine Prod.ext hN (Prod.ext hS (funext fun j => ?_))
  show h.2.2 j = (if j = 75 then _ else if j = 76 then _ else if j = 77 then _ else if j = 78 then _ else h.2.2 j)
  by_cases j1 : j = 75
  · rw [if_pos j1, j1]; exact h0
  · rw [if_neg j1]
    by_cases j2 : j = 76
    · rw [if_pos j2, j2]; exact h1
    · rw [if_neg j2]
      by_cases j3 : j = 77
      · rw [if_pos j3, j3]; exact h2
      · rw [if_neg j3]
        by_cases j4 : j = 78
        · rw [if_pos j4, j4]; exact h3
        · rw [if_neg j4]
set_option maxRecDepth 100000 in
/-- Run.go -/
theorem k_gob (d : Nat) {h : XH} (hN : h.1 = 549) (hS : h.2.1 = 14048) {c0 : Int32} {r b : Int32} {hv : Int32} {bg : Nat → Int32} (h0 : h.2.2 75 = .inl (4, [.ref 76, .ref 77, .ref 78, .int c0, .int r, .int b, .int hv])) (h1 : h.2.2 76 = .inr (.inl (0, 41, ho))) (h2 : h.2.2 77 = .inr (.inl (0, 41, cl))) (h3 : h.2.2 78 = .inr (.inl (0, 6, bg))) (hE : CE h p bb nc Lt Nt al we de bi ch) (hp : p + 2 < 71 ∨ 79 ≤ p) (hnc : nc ≤ 6) (hn0 : 0 < nc) (hr : ∀ c, c < nc → rg 7 (Nt (4 * c + 1))) :
    ∃ b0 ho2 cl2 : Nat → Int32, (∀ j, j < 6 → b0 j = m5) ∧ GCK Lt Nt al we de bi ch nc b0 ho2 cl2 41 ∧ XCall xM (d + 6) 43 [.ref 75, .ref p, .ref bb] h none (UHb h ho2 cl2 (goC Lt Nt al we de bi ch nc b0 41)) := by
  obtain ⟨A, b0, cF, oF, eF, jF⟩ := k_fill (d + 4) (h := h) (r := 78) (n := 6) (f := bg) h3 (by omega) (by decide) (by decide) m5
  let B : XH := UHb h ho cl (0, true, false, Int32.ofInt 0, b0)
  have AN := oF.1.trans hN
  have A0 := (oF.2.2 75 (by decide)).trans h0
  have A1 := (oF.2.2 76 (by decide)).trans h1
  have A2 := (oF.2.2 77 (by decide)).trans h2
  -- turnTo of the heap as it is
  have cT : XCall xM (d + 5) 45 [.ref 75, .int (Int32.ofInt 0)] A none B := by
    refine XCall.of (M := xm_X4_turnTo) rfl (Nat.le_of_ble_eq_true rfl) ?_
    let A3 : XH := xup A 75 (.inl (4, [.ref 76, .ref 77, .ref 78, .int (Int32.ofInt 0), .int r, .int b, .int hv]))
    let A4 : XH := xup A3 75 (.inl (4, [.ref 76, .ref 77, .ref 78, .int (Int32.ofInt 0), .int (Int32.ofInt 1), .int b, .int hv]))
    let A5 : XH := xup A4 75 (.inl (4, [.ref 76, .ref 77, .ref 78, .int (Int32.ofInt 0), .int (Int32.ofInt 1), .int (Int32.ofInt 0), .int hv]))
    have e3 : A3.2.2 75 = .inl (4, [.ref 76, .ref 77, .ref 78, .int (Int32.ofInt 0), .int r, .int b, .int hv]) := xup_eq _ _ _
    have e4 : A4.2.2 75 = .inl (4, [.ref 76, .ref 77, .ref 78, .int (Int32.ofInt 0), .int (Int32.ofInt 1), .int b, .int hv]) := xup_eq _ _ _
    have e5 : A5.2.2 75 = .inl (4, [.ref 76, .ref 77, .ref 78, .int (Int32.ofInt 0), .int (Int32.ofInt 1), .int (Int32.ofInt 0), .int hv]) := xup_eq _ _ _
    have eB : xup A5 75 (.inl (4, [.ref 76, .ref 77, .ref 78, .int (Int32.ofInt 0), .int (Int32.ofInt 1), .int (Int32.ofInt 0), .int (Int32.ofInt 0)])) = B := by
      refine Prod.ext AN (Prod.ext (oF.2.1.trans hS) (funext fun j => ?_))
      show (xup A5 75 _).2.2 j = (if j = 75 then _ else if j = 76 then _ else if j = 77 then _ else if j = 78 then _ else h.2.2 j)
      by_cases j1 : j = 75
      · rw [if_pos j1, j1]; exact xup_eq _ _ _
      · rw [if_neg j1, xup_ne _ _ j1, show A5.2.2 j = A.2.2 j from (xup_ne _ _ j1).trans ((xup_ne _ _ j1).trans (xup_ne _ _ j1))]
        by_cases j2 : j = 76
        · rw [if_pos j2, j2]; exact A1
        · rw [if_neg j2]
          by_cases j3 : j = 77
          · rw [if_pos j3, j3]; exact A2
          · rw [if_neg j3]
            by_cases j4 : j = 78
            · rw [if_pos j4, j4]; exact eF
            · rw [if_neg j4]; exact oF.2.2 j j4
    refine XGo.go 2 rfl ?_
    refine XGo.putf rfl A0 (by omega) (by decide) (show 3 < 7 by decide) rfl rfl ?_
    show XGo _ _ (_, _, [], A3) _ _
    refine XGo.go 2 rfl ?_
    refine XGo.putf rfl e3 (show 75 < A.1 by omega) (by decide) (show 4 < 7 by decide) rfl rfl ?_
    show XGo _ _ (_, _, [], A4) _ _
    refine XGo.go 2 rfl ?_
    refine XGo.putf rfl e4 (show 75 < A.1 by omega) (by decide) (show 5 < 7 by decide) rfl rfl ?_
    show XGo _ _ (_, _, [], A5) _ _
    refine XGo.go 2 rfl ?_
    refine XGo.putf rfl e5 (show 75 < A.1 by omega) (by decide) (show 6 < 7 by decide) rfl rfl ?_
    show XGo _ _ (_, _, [], xup A5 75 (.inl (4, [.ref 76, .ref 77, .ref 78, .int (Int32.ofInt 0), .int (Int32.ofInt 1), .int (Int32.ofInt 0), .int (Int32.ofInt 0)]))) _ _
    rw [eB]
    exact XGo.vret _ rfl rfl rfl
  obtain ⟨ho2, cl2, ok, go⟩ := gob_l d hE hp hnc hn0 hr (b0 := b0) 41 0 ho cl rfl (fun j hj => absurd hj (by omega))
  refine ⟨b0, ho2, cl2, jF, ok, XCall.of (M := xm_X4_go) rfl (Nat.le_of_ble_eq_true rfl) ?_⟩
  refine XGo.go 1 rfl ?_
  refine XGo.getf rfl (xfd_o h0 (by omega) (by decide) rfl) ?_
  refine XGo.go 1 rfl ?_
  refine XGo.call _ rfl xm_X6_fill rfl rfl [.ref 78, .int m5] [] rfl rfl (fun z => absurd rfl z) (Nat.le_of_ble_eq_true rfl) cF ?_
  refine XGo.go 2 rfl ?_
  refine XGo.call _ rfl xm_X4_turnTo rfl rfl [.ref 75, .int (Int32.ofInt 0)] [] rfl rfl (fun _ => ⟨75, _, rfl, A0, by decide, by omega⟩) (Nat.le_of_ble_eq_true rfl) cT ?_
  refine XGo.go 2 rfl ?_
  exact go
end CRb
