/-! the model: a grant goes in a course -/
/-- what goes leaves in its three rows -/
def GOK (f : Nat → Int32) (n m : Nat) (s : LV) (g nc : Nat) (b0 hs hc : Nat → Int32) (y : Nat) : Prop := ∀ j, j < y → hs j = hsS f s g j (goY f n m s g nc b0 (j + 1)) ∧ hc j = hcS (goY f n m s g nc b0 (j + 1))
section MR
variable {H : XH} {e hs hc bg f : Nat → Int32} {s : LV} {n m : Nat}
set_option maxRecDepth 100000 in
theorem goes_l (d : Nat) (h7 : H.2.2 537 = .inr (.inl (0, 490, f))) (hS : LVr H s) (h0 : f 0 = nI n) (hn : n ≤ 8) (h1 : f 1 = nI m) (hm : m ≤ 6) {g nc : Nat} (hg : g < 6) (hnc : nc ≤ 6) (hn0 : 0 < nc) (hf : f (130 + g) = nI nc) (hC : ∀ c, c < nc → CB f (atC g c)) {b0 : Nat → Int32} {co : Int32} : ∀ (q y : Nat) (hs hc : Nat → Int32) (l4 : Option Value), y + q = 41 → GOK f n m s g nc b0 hs hc y → ∃ hs2 hc2 : Nat → Int32, GOK f n m s g nc b0 hs2 hc2 41 ∧ XGo (d + 6) xm_X7_goes (39, [some (.ref 536), some (.int (nI g)), some (.int co), some (.int (nI y)), l4], [], MGs H e hs hc (goY f n m s g nc b0 y)) none (MGs H e hs2 hc2 (goY f n m s g nc b0 41))
  | 0, y, hs, hc, l4, hy, ho => by
    have hy : y = 41 := by omega
    subst hy
    refine ⟨hs, hc, ho, ?_⟩
    refine XGo.go 3 rfl ?_
    refine XGo.ifp (Int32.le_refl _) ?_
    exact XGo.vret _ rfl rfl rfl
  | q + 1, y, hs, hc, l4, hy, ho => by
    have y41 : y < 41 := by omega
    have kg := gk_go (f := f) (n := n) (m := m) (s := s) (g := g) (b0 := b0) hn0 y
    have kg1 := gk_go (f := f) (n := n) (m := m) (s := s) (g := g) (b0 := b0) hn0 (y + 1)
    have c1 := k_yg (e := e) (hs := hs) (hc := hc) d h7 hS h0 hn h1 hm hg hnc hf hC (show y < 2147483648 by omega) _ kg
    rw [show seS f n m s g nc y 6 (ysS f s g nc y (goY f n m s g nc b0 y)) = goY f n m s g nc b0 (y + 1) from rfl] at c1
    have ih := fun (l4 : Option Value) => goes_l d h7 hS h0 hn h1 hm hg hnc hn0 hf hC (co := co) (b0 := b0) q (y + 1) (upd hs y (hsS f s g y (goY f n m s g nc b0 (y + 1)))) (upd hc y (hcS (goY f n m s g nc b0 (y + 1)))) l4 (by omega) (fun j hj => by
      by_cases ej : j = y
      · rw [ej, upd_at, upd_at]
        exact ⟨rfl, rfl⟩
      · rw [upd_ne ej, upd_ne ej]
        exact ho j (by omega))
    generalize goY f n m s g nc b0 (y + 1) = σ at *
    have hK := fun x => mg_k (e := GE e σ) (hs := hs) (hc := x) (bg := σ.2.2.2.2) h7
    have hS' := fun x => mg_s (e := GE e σ) (hs := hs) (hc := x) (bg := σ.2.2.2.2) hS
    obtain ⟨o, l, b, t, bg⟩ := σ
    have tail : ∀ (has : Bool) (x : Int32), x = hcS (o, l, b, t, bg) → (∀ {w : Option Value} {hend : XH}, XGo (d + 6) xm_X7_goes (142, [some (.ref 536), some (.int (nI g)), some (.int co), some (.int (nI y)), some (.int (b01 has))], [.int (hsS f s g y (o, l, b, t, bg)), .int (nI y), .ref 543], MGs H e hs (upd hc y x) (o, l, b, t, bg)) w hend → XGo (d + 6) xm_X7_goes (if b01 has = 0 then 103 else 107, [some (.ref 536), some (.int (nI g)), some (.int co), some (.int (nI y)), some (.int (b01 has))], [.int (nI y), .ref 543], MGs H e hs (upd hc y x) (o, l, b, t, bg)) w hend) → ∃ hs2 hc2 : Nat → Int32, GOK f n m s g nc b0 hs2 hc2 41 ∧ XGo (d + 6) xm_X7_goes (92, [some (.ref 536), some (.int (nI g)), some (.int co), some (.int (nI y)), some (.int (b01 has))], [.int x, .int (nI y), .ref 544], MGs H e hs hc (o, l, b, t, bg)) none (MGs H e hs2 hc2 (goY f n m s g nc b0 41)) := fun has x ex road => by
      subst ex
      obtain ⟨hs2, hc2, ok, go⟩ := ih (some (.int (b01 has)))
      refine ⟨hs2, hc2, ok, ?_⟩
      refine XGo.ihc y41 rfl rfl ?_
      refine XGo.go 5 rfl ?_
      refine road ?_
      refine XGo.ihs y41 rfl rfl ?_
      refine XGo.go 2 rfl ?_
      rw [← show nI y + Int32.ofInt 1 = nI (y + 1) from nI_1 y] at go
      exact go
    have head : ∀ {w : Option Value} {hend : XH}, XGo (d + 6) xm_X7_goes (if o2i o = Int32.ofInt (-1) then 70 else 59, [some (.ref 536), some (.int (nI g)), some (.int co), some (.int (nI y)), l4], [], MGs H e hs hc (o, l, b, t, bg)) w hend → XGo (d + 6) xm_X7_goes (39, [some (.ref 536), some (.int (nI g)), some (.int co), some (.int (nI y)), l4], [], MGs H e hs hc (goY f n m s g nc b0 y)) w hend := fun k => by
      refine XGo.go 3 rfl ?_
      refine XGo.ifn (fun z => absurd ((xnI_ge (m := 41) (by decide) (by omega)).mp z) (by omega)) ?_
      refine XGo.go 3 rfl ?_
      refine XGo.call _ rfl xm_X7_yearGoes rfl rfl [.ref 536, .int (nI g), .int (nI y)] [] rfl rfl (mg_r rfl rfl) (Nat.le_of_ble_eq_true rfl) c1 ?_
      exact XGo.go 4 rfl k
    have none_ : hsS f s g y (o, l, b, t, bg) = Int32.ofInt 0 → hcS (o, l, b, t, bg) = m5 → ∃ hs2 hc2 : Nat → Int32, GOK f n m s g nc b0 hs2 hc2 41 ∧ XGo (d + 6) xm_X7_goes (70, [some (.ref 536), some (.int (nI g)), some (.int co), some (.int (nI y)), l4], [], MGs H e hs hc (o, l, b, t, bg)) none (MGs H e hs2 hc2 (goY f n m s g nc b0 41)) := fun e1 e2 => by
      obtain ⟨hs2, hc2, ok, go⟩ := tail false m5 e2.symm (fun k => by
        refine XGo.ifp (show b01 false = 0 by decide) ?_
        refine XGo.go 2 rfl ?_
        rw [e1] at k
        exact k)
      refine ⟨hs2, hc2, ok, ?_⟩
      refine XGo.go 6 rfl ?_
      refine XGo.go 1 rfl ?_
      refine XGo.ifp (show b01 false = 0 by decide) ?_
      refine XGo.go 1 rfl ?_
      exact go
    cases o with
    | none =>
      obtain ⟨hs2, hc2, ok, go⟩ := none_ rfl rfl
      exact ⟨hs2, hc2, ok, head (XGo.ifp rfl go)⟩
    | some c =>
      have ec : c = l := kg1.2 c rfl
      have cn : c < nc := by
        have : l < nc := kg1.1
        omega
      cases b with
      | false =>
        obtain ⟨hs2, hc2, ok, go⟩ := none_ rfl rfl
        refine ⟨hs2, hc2, ok, head (XGo.ifn (nI_nm1 (by omega)) ?_)⟩
        refine XGo.go 3 rfl ?_
        refine XGo.ifp (show b01 false = 0 by decide) ?_
        exact go
      | true =>
        obtain ⟨hs2, hc2, ok, go⟩ := tail true (nI c) rfl (fun {w hend} k => by
          refine XGo.ifn (show ¬ b01 true = 0 by decide) ?_
          refine XGo.go 5 rfl ?_
          refine XGo.call _ rfl xm_X7_at rfl rfl [.int (nI g), .int (nI c)] [.ref 537, .int (nI y), .ref 543] rfl rfl (fun z => absurd rfl z) (Nat.le_of_ble_eq_true rfl) (k_atg (d + 5) hg (by omega)) ?_
          refine XGo.go 2 rfl ?_
          refine XGo.top (nI_add (140 + 8 * (6 * g + c)) 4) ?_
          refine XGo.iald rfl (row_i (hK _) (by omega)) ?_
          refine XGo.go 2 rfl ?_
          have k : XGo (d + 6) xm_X7_goes (142, [some (.ref 536), some (.int (nI g)), some (.int co), some (.int (nI y)), some (.int (b01 true))], [.int (if f (140 + 8 * (6 * g + c) + 4) = Int32.ofInt 1 then t else alS s t y), .int (nI y), .ref 543], MGs H e hs (upd hc y (nI c)) (some c, l, true, t, bg)) w hend := k
          by_cases e1 : f (140 + 8 * (6 * g + c) + 4) = Int32.ofInt 1
          · rw [if_pos e1] at k
            refine XGo.ifp e1 ?_
            refine XGo.go 3 rfl ?_
            exact k
          · rw [if_neg e1] at k
            refine XGo.ifn e1 ?_
            refine XGo.go 4 rfl ?_
            refine XGo.call _ rfl xm_X7_aliveOf rfl rfl [.ref 536, .int t, .int (nI y)] [.int (nI y), .ref 543] rfl rfl (mg_r rfl rfl) (Nat.le_of_ble_eq_true rfl) (k_als (d + 4) (hK _) (hS' _) t (by omega)) ?_
            exact k)
        refine ⟨hs2, hc2, ok, head (XGo.ifn (nI_nm1 (by omega)) ?_)⟩
        refine XGo.go 3 rfl ?_
        refine XGo.ifn (show ¬ b01 true = 0 by decide) ?_
        refine XGo.go 8 rfl ?_
        refine XGo.ifn (show ¬ b01 true = 0 by decide) ?_
        refine XGo.go 3 rfl ?_
        exact go
  termination_by q => q
end MR
/-! the model's goes -/
section MR
variable {H : XH} {e hs hc bg f : Nat → Int32} {s : LV} {n m : Nat}
theorem rows_mg {h : XH} (hN : h.1 = 549) (hS : h.2.1 = 14048) (h6 : h.2.2 536 = .inl (7, mO e)) (h3 : h.2.2 543 = .inr (.inl (0, 41, hs))) (h4 : h.2.2 544 = .inr (.inl (0, 41, hc))) (h5 : h.2.2 545 = .inr (.inl (0, 6, bg))) : h = MG h e hs hc bg := by
  refine Prod.ext hN (Prod.ext hS (funext fun j => ?_))
  show h.2.2 j = (if j = 536 then _ else if j = 543 then _ else if j = 544 then _ else if j = 545 then _ else h.2.2 j)
  by_cases j1 : j = 536
  · rw [if_pos j1, j1]; exact h6
  · rw [if_neg j1]
    by_cases j2 : j = 543
    · rw [if_pos j2, j2]; exact h3
    · rw [if_neg j2]
      by_cases j3 : j = 544
      · rw [if_pos j3, j3]; exact h4
      · rw [if_neg j3]
        by_cases j4 : j = 545
        · rw [if_pos j4, j4]; exact h5
        · rw [if_neg j4]
set_option maxRecDepth 100000 in
theorem k_rn0 (d : Nat) : XCall xM (d + 1) 144 [.ref 536, .int (Int32.ofInt 0)] (MG H e hs hc bg) none (MGs H e hs hc (some 0, 0, false, Int32.ofInt 0, bg)) := by
  refine XCall.of (M := xm_X7_runsNext) rfl (Nat.le_of_ble_eq_true rfl) ?_
  refine XGo.go 2 rfl ?_
  refine XGo.p14 rfl ?_
  refine XGo.go 4 rfl ?_
  refine XGo.ifn (by decide) ?_
  refine XGo.go 1 rfl ?_
  refine XGo.p15 rfl ?_
  refine XGo.go 2 rfl ?_
  refine XGo.p16 false rfl ?_
  refine XGo.go 2 rfl ?_
  refine XGo.p17 rfl ?_
  rw [show MGs H e hs hc (some 0, 0, false, Int32.ofInt 0, bg) = MG H (upd (upd (upd (upd e 14 (Int32.ofInt 0)) 15 (Int32.ofInt 0)) 16 (b01 false)) 17 (Int32.ofInt 0)) hs hc bg from MG.eq rfl]
  exact XGo.vret _ rfl rfl rfl
/-- what goes leaves -/
abbrev GoR (h h1 : XH) (e f : Nat → Int32) (n m g nc : Nat) (s : LV) (b0 : Nat → Int32) : Prop :=
  (h1.1 = 549) ∧
  (h1.2.1 = 14048) ∧
  (LVr h1 s) ∧
  (∀ j, j < 6 → b0 j = m5) ∧
  (∃ e2 : Nat → Int32, h1.2.2 536 = .inl (7, mO e2) ∧ ∀ j, ¬ (14 ≤ j ∧ j ≤ 17) → e2 j = e j) ∧
  (∃ hs hc : Nat → Int32, h1.2.2 543 = .inr (.inl (0, 41, hs)) ∧ h1.2.2 544 = .inr (.inl (0, 41, hc)) ∧ GOK f n m s g nc b0 hs hc 41) ∧
  (h1.2.2 545 = .inr (.inl (0, 6, (goY f n m s g nc b0 41).2.2.2.2))) ∧
  (∀ k, ¬ k = 536 → ¬ (539 ≤ k ∧ k ≤ 545) → h1.2.2 k = h.2.2 k)
theorem GoR.N {h h1 : XH} {e f : Nat → Int32} {n m g nc : Nat} {s : LV} {b0 : Nat → Int32} (u : GoR h h1 e f n m g nc s b0) : h1.1 = 549 := u.1
theorem GoR.S {h h1 : XH} {e f : Nat → Int32} {n m g nc : Nat} {s : LV} {b0 : Nat → Int32} (u : GoR h h1 e f n m g nc s b0) : h1.2.1 = 14048 := u.2.1
theorem GoR.lr {h h1 : XH} {e f : Nat → Int32} {n m g nc : Nat} {s : LV} {b0 : Nat → Int32} (u : GoR h h1 e f n m g nc s b0) : LVr h1 s := u.2.2.1
theorem GoR.b {h h1 : XH} {e f : Nat → Int32} {n m g nc : Nat} {s : LV} {b0 : Nat → Int32} (u : GoR h h1 e f n m g nc s b0) : ∀ j, j < 6 → b0 j = m5 := u.2.2.2.1
theorem GoR.o {h h1 : XH} {e f : Nat → Int32} {n m g nc : Nat} {s : LV} {b0 : Nat → Int32} (u : GoR h h1 e f n m g nc s b0) : ∃ e2 : Nat → Int32, h1.2.2 536 = .inl (7, mO e2) ∧ ∀ j, ¬ (14 ≤ j ∧ j ≤ 17) → e2 j = e j := u.2.2.2.2.1
theorem GoR.r {h h1 : XH} {e f : Nat → Int32} {n m g nc : Nat} {s : LV} {b0 : Nat → Int32} (u : GoR h h1 e f n m g nc s b0) : ∃ hs hc : Nat → Int32, h1.2.2 543 = .inr (.inl (0, 41, hs)) ∧ h1.2.2 544 = .inr (.inl (0, 41, hc)) ∧ GOK f n m s g nc b0 hs hc 41 := u.2.2.2.2.2.1
theorem GoR.bgs {h h1 : XH} {e f : Nat → Int32} {n m g nc : Nat} {s : LV} {b0 : Nat → Int32} (u : GoR h h1 e f n m g nc s b0) : h1.2.2 545 = .inr (.inl (0, 6, (goY f n m s g nc b0 41).2.2.2.2)) := u.2.2.2.2.2.2.1
theorem GoR.oth {h h1 : XH} {e f : Nat → Int32} {n m g nc : Nat} {s : LV} {b0 : Nat → Int32} (u : GoR h h1 e f n m g nc s b0) : ∀ k, ¬ k = 536 → ¬ (539 ≤ k ∧ k ≤ 545) → h1.2.2 k = h.2.2 k := u.2.2.2.2.2.2.2
set_option maxRecDepth 100000 in
theorem k_goes (d : Nat) {h : XH} (hN : h.1 = 549) (hS : h.2.1 = 14048) (h6 : h.2.2 536 = .inl (7, mO e)) (h7 : h.2.2 537 = .inr (.inl (0, 490, f))) (hl : LVr h s) (h3 : h.2.2 543 = .inr (.inl (0, 41, hs))) (h4 : h.2.2 544 = .inr (.inl (0, 41, hc))) (h5 : h.2.2 545 = .inr (.inl (0, 6, bg))) (h0 : f 0 = nI n) (hn : n ≤ 8) (h1 : f 1 = nI m) (hm : m ≤ 6) (hmb : mbOK f m) {g nc : Nat} (hg : g < 6) (hnc : nc ≤ 6) (hn0 : 0 < nc) (hf : f (130 + g) = nI nc) (hC : ∀ c, c < nc → CB f (atC g c)) (co : Int32) :
    ∃ (H1 : XH) (s1 : LV) (b0 : Nat → Int32), XCall xM (d + 7) 146 [.ref 536, .int (nI g), .int co] h none H1 ∧ LVe s1 (lvOf f n m co) ∧ GoR h H1 e f n m g nc s1 b0 := by
  have hK : LVk h (mO e) f := ⟨hN, h6, h7, rfl, rfl, rfl, rfl, rfl⟩
  obtain ⟨A, s1, cA, oA, rA, eA⟩ := k_lives (d + 4) hK hl h0 hn h1 hm hmb co
  have AN := oA.1.trans hN
  have AS := oA.2.1.trans hS
  have A6 := (oA.2.2 536 (by omega)).trans h6
  have A7 := (oA.2.2 537 (by omega)).trans h7
  have A3 := (oA.2.2 543 (by omega)).trans h3
  have A4 := (oA.2.2 544 (by omega)).trans h4
  have A5 := (oA.2.2 545 (by omega)).trans h5
  have eM := rows_mg AN AS A6 A3 A4 A5
  -- the years
  have yrs : ∀ b0 : Nat → Int32, ∃ hs2 hc2 : Nat → Int32, GOK f n m s1 g nc b0 hs2 hc2 41 ∧ XGo (d + 6) xm_X7_goes (39, [some (.ref 536), some (.int (nI g)), some (.int co), some (.int (nI 0)), none], [], MGs A e hs hc (goY f n m s1 g nc b0 0)) none (MGs A e hs2 hc2 (goY f n m s1 g nc b0 41)) := fun b0 => goes_l d A7 rA h0 hn h1 hm hg hnc hn0 hf hC 41 0 hs hc none rfl (fun j hj => absurd hj (by omega))
  have fst : ∃ b0 : Nat → Int32, (∀ j, j < 6 → b0 j = m5) ∧ ∃ hs2 hc2 : Nat → Int32, GOK f n m s1 g nc b0 hs2 hc2 41 ∧ XGo (d + 6) xm_X7_goes (7, [some (.ref 536), some (.int (nI g)), some (.int co), some (.int (nI 0)), none], [], MG A e hs hc bg) none (MGs A e hs2 hc2 (goY f n m s1 g nc b0 41)) := by
    let b0 : Nat → Int32 := upd (upd (upd (upd (upd (upd bg 0 m5) 1 m5) 2 m5) 3 m5) 4 m5) 5 m5
    have b6 : ∀ j, j < 6 → b0 j = m5 := fun j hj => by
      match j, hj with
      | 0, _ => rfl
      | 1, _ => rfl
      | 2, _ => rfl
      | 3, _ => rfl
      | 4, _ => rfl
      | 5, _ => rfl
    obtain ⟨hs2, hc2, ok, go⟩ := yrs b0
    refine ⟨b0, b6, hs2, hc2, ok, ?_⟩
    have one : ∀ (i : Nat) (bg : Nat → Int32) {v : Option Value} {hend : XH}, i < 6 → XGo (d + 6) xm_X7_goes (7, [some (.ref 536), some (.int (nI g)), some (.int co), some (.int (nI (i + 1))), none], [], MG A e hs hc (upd bg i m5)) v hend → XGo (d + 6) xm_X7_goes (7, [some (.ref 536), some (.int (nI g)), some (.int co), some (.int (nI i)), none], [], MG A e hs hc bg) v hend := fun i bg v hend i6 k => by
      refine XGo.go 3 rfl ?_
      refine XGo.ifn (fun z => absurd ((xnI_ge (m := 6) (by decide) (by omega)).mp z) (by omega)) ?_
      refine XGo.go 4 rfl ?_
      refine XGo.ibg i6 rfl rfl ?_
      refine XGo.go 2 rfl ?_
      rw [← show nI i + Int32.ofInt 1 = nI (i + 1) from nI_1 i] at k
      exact k
    refine one 0 _ (by decide) (one 1 _ (by decide) (one 2 _ (by decide) (one 3 _ (by decide) (one 4 _ (by decide) (one 5 _ (by decide) ?_)))))
    refine XGo.go 3 rfl ?_
    refine XGo.ifp (Int32.le_refl _) ?_
    refine XGo.go 2 rfl ?_
    refine XGo.p15 rfl ?_
    refine XGo.go 2 rfl ?_
    refine XGo.call _ rfl xm_X7_runsNext rfl rfl [.ref 536, .int (Int32.ofInt 0)] [] rfl rfl (mg_r rfl rfl) (Nat.le_of_ble_eq_true rfl) (k_rn0 (d + 5)) ?_
    refine XGo.go 2 rfl ?_
    rw [show MGs A (upd e 15 (Int32.ofInt 0)) hs hc (some 0, 0, false, Int32.ofInt 0, b0) = MGs A e hs hc (goY f n m s1 g nc b0 0) from MG.eq rfl]
    exact go
  obtain ⟨b0, b6, hs2, hc2, ok, go⟩ := fst
  refine ⟨MGs A e hs2 hc2 (goY f n m s1 g nc b0 41), s1, b0, XCall.of (M := xm_X7_goes) rfl (Nat.le_of_ble_eq_true rfl) ?_, eA, ⟨rfl, rfl, mg_s rA, b6, ⟨GE e (goY f n m s1 g nc b0 41), rfl, fun j hj => ?_⟩, ⟨hs2, hc2, rfl, rfl, ok⟩, rfl, fun k k1 k2 => ?_⟩⟩
  · refine XGo.go 2 rfl ?_
    refine XGo.call _ rfl xm_X7_lives rfl rfl [.ref 536, .int co] [] rfl rfl (rc7 hK rfl rfl) (Nat.le_of_ble_eq_true rfl) cA ?_
    refine XGo.go 2 rfl ?_
    rw [← eM] at go
    exact go
  · show upd (upd (upd (upd e 14 _) 15 _) 16 _) 17 _ j = e j
    rw [upd_ne (by omega), upd_ne (by omega), upd_ne (by omega), upd_ne (by omega)]
  · show (if k = 536 then _ else if k = 543 then _ else if k = 544 then _ else if k = 545 then _ else A.2.2 k) = _
    rw [if_neg k1, if_neg (by omega), if_neg (by omega), if_neg (by omega)]
    exact oA.2.2 k (by omega)
end MR
