/-! the numbers of a grant: where they stand, on both sides -/
def nmB (f : Nat → Int32) (g j : Nat) : Bool := if j % 3 = 0 then decide (f (atC g (j / 3)) = Int32.ofInt 1) else if j % 3 = 1 then decide (f (atC g (j / 3) + 4) = Int32.ofInt 2) else decide (f (atC g (j / 3) + 6) = Int32.ofInt 1)
def nmW (g j : Nat) : Nat := atC g (j / 3) + (if j % 3 = 0 then 1 else if j % 3 = 1 then 5 else 7)
def nmQ (j : Nat) : Nat := 4 * (j / 3) + (if j % 3 = 0 then 0 else if j % 3 = 1 then 2 else 3)
/-- the number with this number, or how many there are -/
def plS (f : Nat → Int32) (g : Nat) (i : Int32) : Nat → Nat → Nat → Nat ⊕ Nat
  | 0, _, n => .inl n
  | q + 1, j, n => if nmB f g j = true then (if nI n = i then .inr j else plS f g i q (j + 1) (n + 1)) else plS f g i q (j + 1) n
theorem nmB_0 (f : Nat → Int32) (g c : Nat) : nmB f g (3 * c) = decide (f (atC g c) = Int32.ofInt 1) := by
  unfold nmB
  rw [if_pos (by omega), show 3 * c / 3 = c by omega]
theorem nmB_1 (f : Nat → Int32) (g c : Nat) : nmB f g (3 * c + 1) = decide (f (atC g c + 4) = Int32.ofInt 2) := by
  unfold nmB
  rw [if_neg (by omega), if_pos (by omega), show (3 * c + 1) / 3 = c by omega]
theorem nmB_2 (f : Nat → Int32) (g c : Nat) : nmB f g (3 * c + 2) = decide (f (atC g c + 6) = Int32.ofInt 1) := by
  unfold nmB
  rw [if_neg (by omega), if_neg (by omega), show (3 * c + 2) / 3 = c by omega]
theorem nmW_0 (g c : Nat) : nmW g (3 * c) = atC g c + 1 := by
  unfold nmW
  rw [if_pos (by omega), show 3 * c / 3 = c by omega]
theorem nmW_1 (g c : Nat) : nmW g (3 * c + 1) = atC g c + 5 := by
  unfold nmW
  rw [if_neg (by omega), if_pos (by omega), show (3 * c + 1) / 3 = c by omega]
theorem nmW_2 (g c : Nat) : nmW g (3 * c + 2) = atC g c + 7 := by
  unfold nmW
  rw [if_neg (by omega), if_neg (by omega), show (3 * c + 2) / 3 = c by omega]
theorem nmQ_0 (c : Nat) : nmQ (3 * c) = 4 * c := by
  unfold nmQ
  rw [if_pos (by omega), show 3 * c / 3 = c by omega]
  rfl
theorem nmQ_1 (c : Nat) : nmQ (3 * c + 1) = 4 * c + 2 := by
  unfold nmQ
  rw [if_neg (by omega), if_pos (by omega), show (3 * c + 1) / 3 = c by omega]
theorem nmQ_2 (c : Nat) : nmQ (3 * c + 2) = 4 * c + 3 := by
  unfold nmQ
  rw [if_neg (by omega), if_neg (by omega), show (3 * c + 2) / 3 = c by omega]
theorem plS_h {f : Nat → Int32} {g : Nat} {i : Int32} {q j n : Nat} (h : nmB f g j = true) (e : nI n = i) : plS f g i (q + 1) j n = .inr j := by
  show (if nmB f g j = true then _ else _) = _
  rw [if_pos h, if_pos e]
theorem plS_n {f : Nat → Int32} {g : Nat} {i : Int32} {q j n : Nat} (h : nmB f g j = true) (e : ¬ nI n = i) : plS f g i (q + 1) j n = plS f g i q (j + 1) (n + 1) := by
  show (if nmB f g j = true then _ else _) = _
  rw [if_pos h, if_neg e]
theorem plS_f {f : Nat → Int32} {g : Nat} {i : Int32} {q j n : Nat} (h : nmB f g j = false) : plS f g i (q + 1) j n = plS f g i q (j + 1) n := by
  show (if nmB f g j = true then _ else _) = _
  rw [if_neg (by rw [h]; decide)]
theorem plS_lt {f : Nat → Int32} {g : Nat} {i : Int32} {k : Nat} : ∀ (q j n : Nat), plS f g i q j n = .inr k → j ≤ k ∧ k < j + q ∧ nmB f g k = true
  | 0, _, _, h => by cases h
  | q + 1, j, n, h => by
    cases b : nmB f g j
    · rw [plS_f b] at h
      have := plS_lt q (j + 1) n h
      exact ⟨by omega, by omega, this.2.2⟩
    · by_cases e : nI n = i
      · rw [plS_h b e] at h
        cases h
        exact ⟨Nat.le_refl _, by omega, b⟩
      · rw [plS_n b e] at h
        have := plS_lt q (j + 1) (n + 1) h
        exact ⟨by omega, by omega, this.2.2⟩
/-- no number has a number below 0 -/
theorem plS_neg {f : Nat → Int32} {g : Nat} {i : Int32} (hi : i < 0) : ∀ (q j n : Nat), n + q < 2147483648 → ∃ z, plS f g i q j n = .inl z
  | 0, _, n, _ => ⟨n, rfl⟩
  | q + 1, j, n, hn => by
    cases b : nmB f g j
    · rw [plS_f b]
      exact plS_neg hi q (j + 1) n (by omega)
    · rw [plS_n b fun e => absurd (e ▸ hi) (xnI_lt0 (by omega))]
      exact plS_neg hi q (j + 1) (n + 1) (by omega)
abbrev i97 : Int32 := (Int8.ofInt 97).toInt32
abbrev i121 : Int32 := (Int8.ofInt 121).toInt32
def ltN (l : Int32) : Bool := decide (l = i97) || decide (l = i121)
theorem zcl_n {k n l m : Int32} (h : ZC k n l m) : ltN l = decide (k = Int32.ofInt 1) := by
  rcases h with ⟨rfl, rfl, -⟩ | ⟨-, ⟨rfl, rfl⟩ | ⟨rfl, rfl, -⟩ | ⟨rfl, rfl, -⟩⟩ <;> decide
theorem hkl_n {k n l m : Int32} (h : HK k n l m) : ltN l = false := by
  rcases h with ⟨-, -, ⟨rfl, rfl⟩ | ⟨rfl, rfl⟩ | ⟨rfl, rfl⟩⟩ <;> decide
theorem tkl_n {k n l m : Int32} (h : TK k n l m) : ltN l = decide (k = Int32.ofInt 2) := by
  rcases h with ⟨-, -, ⟨rfl, rfl⟩ | ⟨rfl, rfl⟩ | ⟨rfl, rfl⟩⟩ <;> decide
theorem ltN_t {l : Int32} (h : ltN l = true) : l = i97 ∨ l = i121 := by
  unfold ltN at h
  rw [Bool.or_eq_true, decide_eq_true_eq, decide_eq_true_eq] at h
  exact h
theorem ltN_f {l : Int32} (h : ltN l = false) : ¬ l = i97 ∧ ¬ l = i121 := by
  unfold ltN at h
  rw [Bool.or_eq_false_iff, decide_eq_false_iff_not, decide_eq_false_iff_not] at h
  exact h
section CP
variable {H : XH} {p nc : Nat} {Lt Nt : Nat → Int32}
set_option maxRecDepth 100000 in
theorem k_nAt (d : Nat) (hN : H.1 = 549) (hG : CG H p (nI nc) Lt Nt) (hp : 13 ≤ p ∧ p + 2 < 549) {r : Nat} (hr : r < 24) : XCall xM (d + 2) 19 [.ref p, .int (nI r)] H (some (.int (b01 (ltN (Lt r))))) H := by
  refine XCall.of (M := xm_X1_isNumberAt) rfl (Nat.le_of_ble_eq_true rfl) ?_
  refine XGo.go 1 rfl ?_
  refine XGo.getf rfl (xfd_o hG.1 (xlt hN (by omega)) (by omega) rfl) ?_
  refine XGo.go 1 rfl ?_
  refine XGo.call _ rfl xm_X6_at rfl rfl [.ref (p + 1), .int (nI r)] [] rfl rfl (fun z => absurd rfl z) (Nat.le_of_ble_eq_true rfl) (at_row (d := d) hG.2.1 (xlt hN (by omega)) (by decide) hr) ?_
  refine XGo.go 4 rfl ?_
  cases e : ltN (Lt r)
  · obtain ⟨e1, e2⟩ := ltN_f e
    refine XGo.ifn e1 ?_
    refine XGo.go 3 rfl ?_
    refine XGo.ifn e2 ?_
    refine XGo.go 1 rfl ?_
    exact XGo.ib (b := false) _ rfl rfl rfl rfl
  · by_cases e1 : Lt r = i97
    · refine XGo.ifp e1 ?_
      refine XGo.go 2 rfl ?_
      exact XGo.ib (b := true) _ rfl rfl rfl rfl
    · refine XGo.ifn e1 ?_
      refine XGo.go 3 rfl ?_
      refine XGo.ifp ((ltN_t e).resolve_left e1) ?_
      refine XGo.go 2 rfl ?_
      exact XGo.ib (b := true) _ rfl rfl rfl rfl
abbrev plL (p : Nat) (i : Int32) (n r : Nat) : XL := [some (.ref p), some (.int i), some (.int (nI n)), some (.int (nI r))]
set_option maxRecDepth 100000 in
theorem pl_s (d : Nat) (hN : H.1 = 549) (hG : CG H p (nI nc) Lt Nt) (hp : 13 ≤ p ∧ p + 2 < 549) (hnc : nc ≤ 6) {i : Int32} {n r : Nat} (hr : r < 4 * nc) {v : Option Value} {hend : XH} (k : XGo (d + 2) xm_X1_placeOfNumber (if b01 (ltN (Lt r)) = 0 then 32 else 22, plL p i n r, [], H) v hend) : XGo (d + 2) xm_X1_placeOfNumber (4, plL p i n r, [], H) v hend := by
  refine XGo.go 2 rfl ?_
  refine XGo.getf rfl (xfd_o hG.1 (xlt hN (by omega)) (by omega) rfl) ?_
  refine XGo.go 2 rfl ?_
  refine XGo.top (show nI nc * Int32.ofInt 4 = nI (4 * nc) by
    have t : ∀ c : Fin 7, nI c.val * Int32.ofInt 4 = nI (4 * c.val) := by decide +kernel
    exact t ⟨nc, by omega⟩) ?_
  refine XGo.go 1 rfl ?_
  refine XGo.ifn (fun z => absurd ((xnI_ge (by omega) (by omega)).mp z) (by omega)) ?_
  refine XGo.go 2 rfl ?_
  refine XGo.call _ rfl xm_X1_isNumberAt rfl rfl [.ref p, .int (nI r)] [] rfl rfl (fun _ => ⟨p, _, rfl, hG.1, by omega, by omega⟩) (Nat.le_of_ble_eq_true rfl) (k_nAt d hN hG hp (by omega)) ?_
  exact XGo.go 1 rfl k
/-- what the class says of a search -/
def plC (o : Nat ⊕ Nat) : Int32 := match o with
  | .inl _ => Int32.ofInt (-1)
  | .inr j => nI (nmQ j)
theorem pl_no (d : Nat) (hN : H.1 = 549) (hG : CG H p (nI nc) Lt Nt) (hp : 13 ≤ p ∧ p + 2 < 549) (hnc : nc ≤ 6) {i : Int32} {n r : Nat} (hr : r < 4 * nc) (e : ltN (Lt r) = false) {v : Option Value} {hend : XH} (k : XGo (d + 2) xm_X1_placeOfNumber (4, plL p i n (r + 1), [], H) v hend) : XGo (d + 2) xm_X1_placeOfNumber (4, plL p i n r, [], H) v hend := by
  refine pl_s d hN hG hp hnc hr ?_
  rw [e]
  refine XGo.ifp rfl ?_
  unfold plL at k
  rw [← show nI r + Int32.ofInt 1 = nI (r + 1) from nI_1 r] at k
  exact XGo.go 2 rfl k
theorem pl_j (d : Nat) (hN : H.1 = 549) (hG : CG H p (nI nc) Lt Nt) (hp : 13 ≤ p ∧ p + 2 < 549) (hnc : nc ≤ 6) {f : Nat → Int32} {g : Nat} {i : Int32} {q j r : Nat} (hr : r < 4 * nc) (e : ltN (Lt r) = nmB f g j) (er : nmQ j = r) (k : ∀ n, XGo (d + 2) xm_X1_placeOfNumber (4, plL p i n (r + 1), [], H) (some (.int (plC (plS f g i q (j + 1) n)))) H) (n : Nat) : XGo (d + 2) xm_X1_placeOfNumber (4, plL p i n r, [], H) (some (.int (plC (plS f g i (q + 1) j n)))) H := by
  cases b : nmB f g j
  · rw [plS_f b]
    exact pl_no d hN hG hp hnc hr (e.trans b) (k n)
  · refine pl_s d hN hG hp hnc hr ?_
    rw [e, b]
    refine XGo.ifn (by decide) ?_
    refine XGo.go 3 rfl ?_
    by_cases ei : nI n = i
    · rw [plS_h b ei]
      refine XGo.ifp ei ?_
      refine XGo.go 1 rfl ?_
      show XGo _ _ (_, _, [.int (nI r)], _) (some (.int (nI (nmQ j)))) _
      rw [er]
      exact XGo.iret _ rfl rfl .int rfl rfl
    · rw [plS_n b ei]
      have k := k (n + 1)
      unfold plL at k
      rw [← show nI r + Int32.ofInt 1 = nI (r + 1) from nI_1 r, ← show nI n + Int32.ofInt 1 = nI (n + 1) from nI_1 n] at k
      refine XGo.ifn ei ?_
      exact XGo.go 3 rfl k
set_option maxRecDepth 100000 in
theorem pl_l (d : Nat) (hN : H.1 = 549) (hG : CG H p (nI nc) Lt Nt) (hp : 13 ≤ p ∧ p + 2 < 549) (hnc : nc ≤ 6) {f : Nat → Int32} {g : Nat} (hC : CI f g Lt Nt nc) (i : Int32) : ∀ (q c : Nat), c + q = nc → ∀ n, XGo (d + 2) xm_X1_placeOfNumber (4, plL p i n (4 * c), [], H) (some (.int (plC (plS f g i (3 * q) (3 * c) n)))) H
  | 0, c, hc, n => by
    have hc : c = nc := by omega
    subst hc
    refine XGo.go 2 rfl ?_
    refine XGo.getf rfl (xfd_o hG.1 (xlt hN (by omega)) (by omega) rfl) ?_
    refine XGo.go 2 rfl ?_
    refine XGo.top (show nI c * Int32.ofInt 4 = nI (4 * c) by
      have t : ∀ c : Fin 7, nI c.val * Int32.ofInt 4 = nI (4 * c.val) := by decide +kernel
      exact t ⟨c, by omega⟩) ?_
    refine XGo.go 1 rfl ?_
    refine XGo.ifp (Int32.le_refl _) ?_
    refine XGo.go 1 rfl ?_
    exact XGo.iret _ rfl rfl .int rfl rfl
  | q + 1, c, hc, n => by
    obtain ⟨k0, k1, k2, k3⟩ := hC c (by omega)
    rw [show 3 * (q + 1) = 3 * q + 1 + 1 + 1 by omega]
    refine pl_j d hN hG hp hnc (by omega) ((zcl_n k0).trans (nmB_0 f g c).symm) (nmQ_0 c) (fun n => ?_) n
    refine pl_no d hN hG hp hnc (by omega) (hkl_n k1) ?_
    refine pl_j d hN hG hp hnc (by omega) ((tkl_n k2).trans (nmB_1 f g c).symm) (nmQ_1 c) (fun n => ?_) n
    refine pl_j d hN hG hp hnc (by omega) ((zcl_n k3).trans (nmB_2 f g c).symm) (nmQ_2 c) (fun n => ?_) n
    exact pl_l d hN hG hp hnc hC i q (c + 1) (by omega) n
/-- Grant.placeOfNumber -/
theorem k_pl (d : Nat) (hN : H.1 = 549) (hG : CG H p (nI nc) Lt Nt) (hp : 13 ≤ p ∧ p + 2 < 549) (hnc : nc ≤ 6) {f : Nat → Int32} {g : Nat} (hC : CI f g Lt Nt nc) (i : Int32) : XCall xM (d + 3) 21 [.ref p, .int i] H (some (.int (plC (plS f g i (3 * nc) 0 0)))) H :=
  XCall.of (M := xm_X1_placeOfNumber) rfl (Nat.le_of_ble_eq_true rfl) (XGo.go 4 rfl (pl_l d hN hG hp hnc hC i nc 0 (by omega) 0))
end CP
section MP
variable {h : XH} {f e : Nat → Int32} {g nc : Nat} {i : Int32}
/-- what the model says of a search -/
def plM (g : Nat) (i : Int32) (o : Nat ⊕ Nat) : Int32 := match o with
  | .inl n => if i = Int32.ofInt (-1) then nI n else Int32.ofInt (-1)
  | .inr j => nI (nmW g j)
abbrev mpL (g : Nat) (i : Int32) (n c a : Nat) (k : Int32) (l7 l8 : Option Value) : XL := [some (.ref 536), some (.int (nI g)), some (.int i), some (.int (nI n)), some (.int (nI c)), some (.int (nI a)), some (.int k), l7, l8]
set_option maxRecDepth 100000 in
theorem mp_t (d : Nat) {q j n c a : Nat} {k pl : Int32} {l8 : Option Value} (ep : nI (nmW g j) = pl) (nx : ∀ (n : Nat) (l8 : Option Value), XGo d xm_X7_placeOf (31, mpL g i n c a (k + Int32.ofInt 1) (some (.int pl)) l8, [], h) (some (.int (plM g i (plS f g i q (j + 1) n)))) h) : XGo d xm_X7_placeOf (114, mpL g i n c a k (some (.int pl)) l8, [.int (b01 (nmB f g j))], h) (some (.int (plM g i (plS f g i (q + 1) j n)))) h := by
  refine XGo.go 3 rfl ?_
  cases b : nmB f g j
  · rw [plS_f b]
    refine XGo.ifp rfl ?_
    refine XGo.go 3 rfl ?_
    refine XGo.ifp rfl ?_
    have nx := nx n (some (.int (b01 false)))
    unfold mpL at nx
    rw [← show nI n + Int32.ofInt 0 = nI n from Int32.add_zero _] at nx
    exact XGo.go 5 rfl nx
  · refine XGo.ifn (by decide) ?_
    refine XGo.go 3 rfl ?_
    by_cases ei : nI n = i
    · rw [plS_h b ei]
      refine XGo.ifp ei ?_
      refine XGo.go 1 rfl ?_
      show XGo _ _ (_, _, [.int pl], _) (some (.int (nI (nmW g j)))) _
      rw [ep]
      exact XGo.iret _ rfl rfl .int rfl rfl
    · rw [plS_n b ei]
      refine XGo.ifn ei ?_
      refine XGo.go 3 rfl ?_
      refine XGo.ifn (by decide) ?_
      have nx := nx (n + 1) (some (.int (b01 true)))
      unfold mpL at nx
      rw [← show nI n + Int32.ofInt 1 = nI (n + 1) from nI_1 n] at nx
      exact XGo.go 6 rfl nx
theorem nI_d (a b : Nat) : nI (a + b) = nI a + nI b := (nI_add a b).symm
set_option maxRecDepth 100000 in
theorem mp_l (d : Nat) (hN : h.1 = 549) (o36 : h.2.2 536 = .inl (7, mO e)) (hf : h.2.2 537 = .inr (.inl (0, 490, f))) (hg : g < 6) (hnc : nc ≤ 6) (hfn : f (130 + g) = nI nc) : ∀ (q c : Nat), c + q = nc → ∀ (n : Nat) (l5 l6 l7 l8 : Option Value), (∀ v, l5 = some v → v.category ≠ 2) → XGo (d + 1) xm_X7_placeOf (5, [some (.ref 536), some (.int (nI g)), some (.int i), some (.int (nI n)), some (.int (nI c)), l5, l6, l7, l8], [], h) (some (.int (plM g i (plS f g i (3 * q) (3 * c) n)))) h
  | q, c, hc, n, l5, l6, l7, l8, h5 => by
    have head : ∀ {v : Option Value} {hend : XH}, XGo (d + 1) xm_X7_placeOf (if nI nc ≤ nI c then 154 else 20, [some (.ref 536), some (.int (nI g)), some (.int i), some (.int (nI n)), some (.int (nI c)), l5, l6, l7, l8], [], h) v hend → XGo (d + 1) xm_X7_placeOf (5, [some (.ref 536), some (.int (nI g)), some (.int i), some (.int (nI n)), some (.int (nI c)), l5, l6, l7, l8], [], h) v hend := fun {v hend} k => by
      refine XGo.go 2 rfl ?_
      refine XGo.getf rfl (xfd_o o36 (xlt hN (by decide)) (by decide) rfl) ?_
      refine XGo.go 3 rfl ?_
      refine XGo.top (c130 ⟨g, hg⟩) ?_
      refine XGo.iald rfl (ia_nI hf (xlt hN (by decide)) (show 130 + g < 490 by omega) (by decide)) ?_
      rw [hfn]
      exact XGo.go 1 rfl k
    match q, hc with
    | 0, hc =>
      have hc : c = nc := by omega
      subst hc
      refine head (XGo.ifp (Int32.le_refl _) ?_)
      refine XGo.go 3 rfl ?_
      by_cases ei : i = Int32.ofInt (-1)
      · rw [show plM g i (plS f g i (3 * 0) (3 * c) n) = nI n from if_pos ei]
        refine XGo.ifp ei ?_
        refine XGo.go 2 rfl ?_
        exact XGo.iret _ rfl rfl .int rfl rfl
      · rw [show plM g i (plS f g i (3 * 0) (3 * c) n) = Int32.ofInt (-1) from if_neg ei]
        refine XGo.ifn ei ?_
        refine XGo.go 1 rfl ?_
        exact XGo.iret _ rfl rfl .int rfl rfl
    | q + 1, hc =>
      have a1 : atC g c + 8 ≤ 428 := by unfold atC; omega
      refine head (XGo.ifn (fun z => absurd ((xnI_ge (by omega) (by omega)).mp z) (by omega)) ?_)
      refine XGo.go 2 rfl ?_
      refine XGo.call _ rfl xm_X7_at rfl rfl [.int (nI g), .int (nI c)] [] rfl rfl (fun z => absurd rfl z) (Nat.le_of_ble_eq_true rfl) (k_at7 d h hg (show c < 6 by omega)) ?_
      show XGo _ _ (_, _, [.int (nI (atC g c))], _) _ _
      rw [show 3 * (q + 1) = 3 * q + 1 + 1 + 1 by omega]
      generalize ha : atC g c = a at *
      refine XGo.go 3 rfl ?_
      show XGo _ _ (31, mpL g i n c a (nI 0) l7 l8, [], h) _ _
      have ia : ∀ b, b < 8 → xia h 0 537 (nI (a + b)) = some (f (a + b)) := fun b hb => ia_nI hf (xlt hN (by decide)) (by omega) (by decide)
      have bd : ∀ {x y : Int32} {pc1 pc2 : Nat}, True := fun {_ _ _ _} => trivial
      -- the IF's number
      have s2 : ∀ (n : Nat) (l7 l8 : Option Value), (∀ v, l7 = some v → v.category ≠ 2) → XGo (d + 1) xm_X7_placeOf (31, mpL g i n c a (Int32.ofInt 2) l7 l8, [], h) (some (.int (plM g i (plS f g i (3 * q + 1) (3 * c + 2) n)))) h := fun n l7 l8 h7 => by
        refine XGo.go 3 rfl ?_
        refine XGo.ifn (by decide) ?_
        refine XGo.go 2 rfl ?_
        refine XGo.ifn (by decide) ?_
        refine XGo.go 3 rfl ?_
        refine XGo.ifn (by decide) ?_
        refine XGo.go 4 rfl ?_
        show XGo _ _ (69, mpL g i n c a (Int32.ofInt 2) (some (.int (nI a + nI 7))) l8, [], h) _ _
        rw [nI_add a 7]
        refine XGo.go 3 rfl ?_
        refine XGo.ifn (by decide) ?_
        refine XGo.go 1 rfl ?_
        refine XGo.getf rfl (xfd_o o36 (xlt hN (by decide)) (by decide) rfl) ?_
        refine XGo.go 3 rfl ?_
        refine XGo.top (show nI (a + 7) - Int32.ofInt 1 = nI (a + 6) by rw [show nI (a + 7) = nI (a + 6) + Int32.ofInt 1 from (nI_1 (a + 6)).symm]; exact Int32.add_sub_cancel _ _) ?_
        refine XGo.iald rfl (ia 6 (by decide)) ?_
        have t := mp_t (d + 1) (f := f) (h := h) (i := i) (q := 3 * q) (j := 3 * c + 2) (n := n) (c := c) (a := a) (k := Int32.ofInt 2) (l8 := l8) (show nI (nmW g (3 * c + 2)) = nI (a + 7) by rw [nmW_2, ha]) (fun n l8 => by
          refine XGo.go 3 rfl ?_
          refine XGo.ifp (by decide) ?_
          have ih := mp_l d hN o36 hf hg hnc hfn q (c + 1) (by omega) n (some (.int (nI a))) (some (.int (Int32.ofInt 2 + Int32.ofInt 1))) (some (.int (nI (a + 7)))) l8 (fun v e => by cases e; exact (by decide : (1 : Nat) ≠ 2))
          rw [← show nI c + Int32.ofInt 1 = nI (c + 1) from nI_1 c] at ih
          exact XGo.go 2 rfl ih)
        rw [nmB_2, ha] at t
        refine XGo.go 2 rfl ?_
        by_cases z : f (a + 6) = Int32.ofInt 1
        · rw [decide_eq_true z] at t
          refine XGo.ifp z ?_
          exact XGo.go 2 rfl t
        · rw [decide_eq_false z] at t
          refine XGo.ifn z ?_
          exact XGo.go 1 rfl t
      have s1 : ∀ (n : Nat) (l7 l8 : Option Value), (∀ v, l7 = some v → v.category ≠ 2) → XGo (d + 1) xm_X7_placeOf (31, mpL g i n c a (Int32.ofInt 1) l7 l8, [], h) (some (.int (plM g i (plS f g i (3 * q + 1 + 1) (3 * c + 1) n)))) h := fun n l7 l8 h7 => by
        refine XGo.go 3 rfl ?_
        refine XGo.ifn (by decide) ?_
        refine XGo.go 2 rfl ?_
        refine XGo.ifn (by decide) ?_
        refine XGo.go 3 rfl ?_
        refine XGo.ifp rfl ?_
        refine XGo.go 5 rfl ?_
        show XGo _ _ (69, mpL g i n c a (Int32.ofInt 1) (some (.int (nI a + nI 5))) l8, [], h) _ _
        rw [nI_add a 5]
        refine XGo.go 3 rfl ?_
        refine XGo.ifp rfl ?_
        refine XGo.go 1 rfl ?_
        refine XGo.getf rfl (xfd_o o36 (xlt hN (by decide)) (by decide) rfl) ?_
        refine XGo.go 3 rfl ?_
        refine XGo.top (show nI a + Int32.ofInt 4 = nI (a + 4) from nI_add a 4) ?_
        refine XGo.iald rfl (ia 4 (by decide)) ?_
        have t := mp_t (d + 1) (f := f) (h := h) (i := i) (q := 3 * q + 1) (j := 3 * c + 1) (n := n) (c := c) (a := a) (k := Int32.ofInt 1) (l8 := l8) (show nI (nmW g (3 * c + 1)) = nI (a + 5) by rw [nmW_1, ha]) (fun n l8 => s2 n _ l8 (fun v e => by cases e; exact (by decide : (1 : Nat) ≠ 2)))
        rw [nmB_1, ha] at t
        refine XGo.go 2 rfl ?_
        by_cases z : f (a + 4) = Int32.ofInt 2
        · rw [decide_eq_true z] at t
          refine XGo.ifp z ?_
          exact XGo.go 2 rfl t
        · rw [decide_eq_false z] at t
          refine XGo.ifn z ?_
          exact XGo.go 2 rfl t
      refine XGo.go 3 rfl ?_
      refine XGo.ifn (by decide) ?_
      refine XGo.go 2 rfl ?_
      refine XGo.ifp rfl ?_
      refine XGo.go 5 rfl ?_
      show XGo _ _ (69, mpL g i n c a (Int32.ofInt 0) (some (.int (nI a + nI 1))) l8, [], h) _ _
      rw [nI_add a 1]
      refine XGo.go 3 rfl ?_
      refine XGo.ifn (by decide) ?_
      refine XGo.go 1 rfl ?_
      refine XGo.getf rfl (xfd_o o36 (xlt hN (by decide)) (by decide) rfl) ?_
      refine XGo.go 3 rfl ?_
      refine XGo.top (show nI (a + 1) - Int32.ofInt 1 = nI (a + 0) by rw [show nI (a + 1) = nI a + Int32.ofInt 1 from (nI_1 a).symm]; exact Int32.add_sub_cancel _ _) ?_
      refine XGo.iald rfl (ia 0 (by decide)) ?_
      have t := mp_t (d + 1) (f := f) (h := h) (i := i) (q := 3 * q + 1 + 1) (j := 3 * c) (n := n) (c := c) (a := a) (k := Int32.ofInt 0) (l8 := l8) (show nI (nmW g (3 * c)) = nI (a + 1) by rw [nmW_0, ha]) (fun n l8 => s1 n _ l8 (fun v e => by cases e; exact (by decide : (1 : Nat) ≠ 2)))
      rw [nmB_0, ha] at t
      refine XGo.go 2 rfl ?_
      by_cases z : f a = Int32.ofInt 1
      · rw [decide_eq_true z] at t
        refine XGo.ifp z ?_
        exact XGo.go 2 rfl t
      · rw [decide_eq_false z] at t
        refine XGo.ifn z ?_
        exact XGo.go 1 rfl t
  termination_by q => q
theorem k_plm (d : Nat) (hN : h.1 = 549) (o36 : h.2.2 536 = .inl (7, mO e)) (hf : h.2.2 537 = .inr (.inl (0, 490, f))) (hg : g < 6) (hnc : nc ≤ 6) (hfn : f (130 + g) = nI nc) (i : Int32) : XCall xM (d + 2) 131 [.ref 536, .int (nI g), .int i] h (some (.int (plM g i (plS f g i (3 * nc) 0 0)))) h :=
  XCall.of (M := xm_X7_placeOf) rfl (Nat.le_of_ble_eq_true rfl) (XGo.go 4 rfl (mp_l d hN o36 hf hg hnc hfn nc 0 (by omega) 0 none none none none (fun v e => by cases e)))
end MP
/-! mend: a number changed, on both sides; the class's side -/
theorem num_at {f : Nat → Int32} {g nc : Nat} {Lt Nt : Nat → Int32} (hC : CI f g Lt Nt nc) {j : Nat} (hj : j < 3 * nc) (hb : nmB f g j = true) : Nt (nmQ j) = f (nmW g j) ∧ rg 99 (f (nmW g j)) := by
  obtain ⟨k0, k1, k2, k3⟩ := hC (j / 3) (by omega)
  have zc : ∀ {k n l m : Int32}, ZC k n l m → k = Int32.ofInt 1 → m = n ∧ rg 99 n := fun h e => by
    subst e
    rcases h with ⟨z, -⟩ | ⟨e, ⟨z, -⟩ | ⟨-, -, r⟩ | ⟨z, -⟩⟩
    · exact absurd z (by decide)
    · exact absurd z (by decide)
    · exact ⟨e, r⟩
    · exact absurd z (by decide)
  unfold nmB at hb
  unfold nmQ nmW
  by_cases h0 : j % 3 = 0
  · rw [if_pos h0] at hb ⊢
    rw [if_pos h0]
    exact zc k0 (of_decide_eq_true hb)
  · rw [if_neg h0] at hb ⊢
    rw [if_neg h0]
    by_cases h1 : j % 3 = 1
    · rw [if_pos h1] at hb ⊢
      rw [if_pos h1]
      exact ⟨k2.1, k2.2.1⟩
    · rw [if_neg h1] at hb ⊢
      rw [if_neg h1]
      exact zc k3 (of_decide_eq_true hb)
theorem nmW_in {g j nc : Nat} (hj : j < 3 * nc) (hnc : nc ≤ 6) (hg : g < 6) : 140 + 48 * g ≤ nmW g j ∧ nmW g j < 188 + 48 * g := by
  unfold nmW atC
  by_cases h0 : j % 3 = 0
  · rw [if_pos h0]; omega
  · rw [if_neg h0]
    by_cases h1 : j % 3 = 1
    · rw [if_pos h1]; omega
    · rw [if_neg h1]; omega
theorem nmQ_in {j nc : Nat} (hj : j < 3 * nc) (hnc : nc ≤ 6) : nmQ j < 24 := by
  unfold nmQ
  by_cases h0 : j % 3 = 0
  · rw [if_pos h0]; omega
  · rw [if_neg h0]
    by_cases h1 : j % 3 = 1
    · rw [if_pos h1]; omega
    · rw [if_neg h1]; omega
theorem zc_put {k n l m v : Int32} (h : ZC k n l m) (e : k = Int32.ofInt 1) (hv : rg 99 v) : ZC k v l v := by
  subst e
  rcases h with ⟨z, -⟩ | ⟨-, ⟨z, -⟩ | ⟨-, l, -⟩ | ⟨z, -⟩⟩
  · exact absurd z (by decide)
  · exact absurd z (by decide)
  · exact Or.inr ⟨rfl, Or.inr (Or.inl ⟨rfl, l, hv⟩)⟩
  · exact absurd z (by decide)
/-- another number at a number's place -/
theorem ci_put {f : Nat → Int32} {g nc : Nat} {Lt Nt : Nat → Int32} (hC : CI f g Lt Nt nc) {j : Nat} (hj : j < 3 * nc) (hb : nmB f g j = true) {v : Int32} (hv : rg 99 v) : CI (upd f (nmW g j) v) g Lt (upd Nt (nmQ j) v) nc := fun c hc => by
  by_cases hcj : c = j / 3
  · obtain ⟨k0, k1, k2, k3⟩ := hC c hc
    have ea : 140 + 8 * (6 * g + c) = atC g c := rfl
    rw [ea] at k0 k1 k2 k3 ⊢
    unfold CLR
    have U : ∀ q, ¬ atC g c + q = nmW g j → upd f (nmW g j) v (atC g c + q) = f (atC g c + q) := fun q hq => upd_ne hq
    have V : ∀ q, ¬ 4 * c + q = nmQ j → upd Nt (nmQ j) v (4 * c + q) = Nt (4 * c + q) := fun q hq => upd_ne hq
    have U0 : ¬ atC g c = nmW g j → upd f (nmW g j) v (atC g c) = f (atC g c) := fun hq => upd_ne hq
    have V0 : ¬ 4 * c = nmQ j → upd Nt (nmQ j) v (4 * c) = Nt (4 * c) := fun hq => upd_ne hq
    unfold nmB at hb
    by_cases h0 : j % 3 = 0
    · rw [if_pos h0, ← hcj] at hb
      have eW : nmW g j = atC g c + 1 := by unfold nmW; rw [if_pos h0, ← hcj]
      have eQ : nmQ j = 4 * c := by unfold nmQ; rw [if_pos h0, ← hcj]; rfl
      rw [eW] at U U0 ⊢
      rw [eQ] at V V0 ⊢
      rw [upd_at, upd_at, U0 (by omega), U 2 (by omega), U 3 (by omega), U 4 (by omega), U 5 (by omega), U 6 (by omega), U 7 (by omega), V 1 (by omega), V 2 (by omega), V 3 (by omega)]
      exact ⟨zc_put k0 (of_decide_eq_true hb) hv, k1, k2, k3⟩
    · rw [if_neg h0] at hb
      by_cases h1 : j % 3 = 1
      · rw [if_pos h1, ← hcj] at hb
        have eW : nmW g j = atC g c + 5 := by unfold nmW; rw [if_neg h0, if_pos h1, ← hcj]
        have eQ : nmQ j = 4 * c + 2 := by unfold nmQ; rw [if_neg h0, if_pos h1, ← hcj]
        rw [eW] at U U0 ⊢
        rw [eQ] at V V0 ⊢
        rw [upd_at, upd_at, U0 (by omega), U 1 (by omega), U 2 (by omega), U 3 (by omega), U 4 (by omega), U 6 (by omega), U 7 (by omega), V0 (by omega), V 1 (by omega), V 3 (by omega)]
        exact ⟨k0, k1, ⟨rfl, hv, k2.2.2⟩, k3⟩
      · rw [if_neg h1, ← hcj] at hb
        have eW : nmW g j = atC g c + 7 := by unfold nmW; rw [if_neg h0, if_neg h1, ← hcj]
        have eQ : nmQ j = 4 * c + 3 := by unfold nmQ; rw [if_neg h0, if_neg h1, ← hcj]
        rw [eW] at U U0 ⊢
        rw [eQ] at V V0 ⊢
        rw [upd_at, upd_at, U0 (by omega), U 1 (by omega), U 2 (by omega), U 3 (by omega), U 4 (by omega), U 5 (by omega), U 6 (by omega), V0 (by omega), V 1 (by omega), V 2 (by omega)]
        exact ⟨k0, k1, k2, zc_put k3 (of_decide_eq_true hb) hv⟩
  · refine (hC c hc).congr (fun q h1 h2 => upd_ne ?_) fun q h1 h2 => ⟨rfl, upd_ne ?_⟩
    · unfold nmW atC
      by_cases h0 : j % 3 = 0
      · rw [if_pos h0]; omega
      · rw [if_neg h0]
        by_cases h1 : j % 3 = 1
        · rw [if_pos h1]; omega
        · rw [if_neg h1]; omega
    · unfold nmQ
      by_cases h0 : j % 3 = 0
      · rw [if_pos h0]; omega
      · rw [if_neg h0]
        by_cases h1 : j % 3 = 1
        · rw [if_pos h1]; omega
        · rw [if_neg h1]; omega
/-- the changes, in their order -/
def mchg (k : Nat) : Int32 := if nI k - nI k / Int32.ofInt 2 * Int32.ofInt 2 = 0 then - (nI k / Int32.ofInt 2 + Int32.ofInt 1) else nI k / Int32.ofInt 2 + Int32.ofInt 1
abbrev i100 : Int32 := (Int8.ofInt (-100)).toInt32
def okS (f : Nat → Int32) (n m g nc : Nat) (x : Int32) (P : Nat) (num : Int32) (k : Nat) : Bool := decide (0 ≤ (num + mchg k).toInt ∧ (num + mchg k).toInt ≤ 99) && decide (ltS (upd f P (num + mchg k)) n m g nc x (2 ^ m) = 0)
def mdS (ok : Nat → Bool) : Nat → Nat → Int32
  | 0, _ => i100
  | q + 1, k => if ok k = true then mchg k else mdS ok q (k + 1)
set_option maxRecDepth 100000 in
theorem k_isNum (d : Nat) (h : XH) (p : Int32) : XCall xM (d + 1) 91 [.int p] h (some (.int (if 0 ≤ p.toInt ∧ p.toInt ≤ 99 then 1 else 0))) h := by
  have z : ((Int8.ofInt 99).toInt32).toInt = 99 := by decide
  refine XCall.of (M := xm_X6_isNumber) rfl (Nat.le_of_ble_eq_true rfl) ?_
  refine XGo.go 2 rfl ?_
  by_cases h1 : p < 0
  · have := lt0_iff.mp h1
    rw [if_neg (show ¬ (0 ≤ p.toInt ∧ p.toInt ≤ 99) by omega)]
    refine XGo.ifp h1 ?_
    refine XGo.go 1 rfl ?_
    exact XGo.iret _ rfl rfl .boolean rfl rfl
  · have e1 : ¬ p.toInt < 0 := fun q => h1 (lt0_iff.mpr q)
    refine XGo.ifn h1 ?_
    refine XGo.go 3 rfl ?_
    by_cases h2 : (Int8.ofInt 99).toInt32 < p
    · have := Int32.lt_iff_toInt_lt.mp h2
      rw [if_neg (show ¬ (0 ≤ p.toInt ∧ p.toInt ≤ 99) by omega)]
      refine XGo.ifp h2 ?_
      refine XGo.go 1 rfl ?_
      exact XGo.iret _ rfl rfl .boolean rfl rfl
    · have e2 : ¬ (99 : Int) < p.toInt := fun q => h2 (Int32.lt_iff_toInt_lt.mpr (by rw [z]; exact q))
      rw [if_pos (show 0 ≤ p.toInt ∧ p.toInt ≤ 99 by omega)]
      refine XGo.ifn h2 ?_
      refine XGo.go 2 rfl ?_
      exact XGo.iret _ rfl rfl .boolean rfl rfl
section MD
variable {L : Nat} {xs : Nat → Int32} {f : Nat → Int32} {n m g nc j : Nat} {Lt Nt : Nat → Int32} {x : Int32}
set_option maxRecDepth 100000 in
theorem md_c (W : RW f n m) (hg : g < 6) (hnc : 1 ≤ nc ∧ nc ≤ 6) (hC : CI f g Lt Nt nc) (hj : j < 3 * nc) (hb : nmB f g j = true) (gr i : Int32) (p : Nat) : ∀ (q k : Nat) (h : XH) (l8 : Option Value) (Ld Nd : Nat → Int32), k + q = 10 → INVg L xs h → h.2.2 537 = .inr (.inl (0, 490, f)) → CG h 84 (nI nc) Ld Nd → (∀ z, z < 24 → Ld z = Lt z) → (∀ z, z < 24 → ¬ z = nmQ j → Nd z = Nt z) → ∃ h1 : XH, XGo 8 xm_X6_mend (85, [some (.ref 13), some (.int gr), some (.int i), some (.int x), some (.ref p), some (.int (nI (nmQ j))), some (.int (Nt (nmQ j))), some (.int (nI k)), l8], [], h) (some (.int (mdS (okS f n m g nc x (nmW g j) (Nt (nmQ j))) q k))) h1 ∧ INVg L xs h1 ∧ ∀ z, (z < 71 ∨ 535 < z) → h1.2.2 z = h.2.2 z
  | 0, k, h, l8, Ld, Nd, hk, hI, hf, hG, hL, hN => by
    have hk : k = 10 := by omega
    subst hk
    refine ⟨h, ?_, hI, fun _ _ => rfl⟩
    refine XGo.go 3 rfl ?_
    refine XGo.ifp (by decide) ?_
    refine XGo.go 1 rfl ?_
    exact XGo.iret _ rfl rfl .int rfl rfl
  | q + 1, k, h, l8, Ld, Nd, hk, hI, hf, hG, hL, hN => by
    obtain ⟨hNn, hNr⟩ := num_at hC hj hb
    obtain ⟨w1, w2⟩ := nmW_in hj hnc.2 hg
    have hr := nmQ_in hj hnc.2
    have hN1 : h.1 = 549 := hI.1.1.1
    obtain ⟨rg84, rg85, rg86⟩ := w_rg_84
    -- the number is put
    let v : Int32 := Nt (nmQ j) + mchg k
    let B : XH := xup h 86 (.inr (.inl (0, 24, upd Nd (nmQ j) v)))
    have cP : XCall xM 1 103 [.ref 86, .int (nI (nmQ j)), .int v] h none B := by
      have t := k_put 0 h 86 24 Nd (nI (nmQ j)) v hG.2.2 (xlt hN1 (by decide)) (by decide) (by decide)
      rw [if_neg (ca_nI hr (by decide)), xnI_nat (by omega)] at t
      exact t
    obtain ⟨v0, B0, d1, j1, j2, jF, -⟩ := h_146.2 [.ref 86, .int (nI (nmQ j)), .int v] h hI.1.1 hI.1.2.1 ⟨w_ga58 (b := 0) rg86 (by decide), galT _ (galT _ gal0)⟩ (fun q hq => by cases hq)
    obtain ⟨-, e2⟩ := XCall.det cP d1
    subst e2
    have xB := XCall.ext _ _ _ _ _ _ cP (by rw [hN1]; decide)
    have hIB : INVg L xs B := invg_fr hI j1 j2 jF (by decide +kernel) (by decide +kernel) xB
    have Bn : ∀ z, ¬ z = 86 → B.2.2 z = h.2.2 z := fun z hz => xup_ne _ _ hz
    have hfB : B.2.2 537 = .inr (.inl (0, 490, f)) := (Bn 537 (by decide)).trans hf
    have hGB : CG B 84 (nI nc) Ld (upd Nd (nmQ j) v) := ⟨(Bn 84 (by decide)).trans hG.1, (Bn 85 (by decide)).trans hG.2.1, xup_eq _ _ _⟩
    have hNB : ∀ z, z < 24 → ¬ z = nmQ j → upd Nd (nmQ j) v z = Nt z := fun z z1 z2 => (upd_ne z2).trans (hN z z1 z2)
    obtain ⟨fs, o13, l13, -⟩ := w_obj hIB.1.1 (k := 13) (by decide) w_rg_13 k13S
    have NB : B.1 = 549 := hN1
    have put : ∀ {w : Option Value} {hend : XH}, XGo 8 xm_X6_mend (142, [some (.ref 13), some (.int gr), some (.int i), some (.int x), some (.ref p), some (.int (nI (nmQ j))), some (.int (Nt (nmQ j))), some (.int (nI k)), some (.int (mchg k))], [.int (if 0 ≤ v.toInt ∧ v.toInt ≤ 99 then 1 else 0)], B) w hend → XGo 8 xm_X6_mend (85, [some (.ref 13), some (.int gr), some (.int i), some (.int x), some (.ref p), some (.int (nI (nmQ j))), some (.int (Nt (nmQ j))), some (.int (nI k)), l8], [], h) w hend := fun {w hend} t => by
      have tl : XGo 8 xm_X6_mend (115, [some (.ref 13), some (.int gr), some (.int i), some (.int x), some (.ref p), some (.int (nI (nmQ j))), some (.int (Nt (nmQ j))), some (.int (nI k)), l8], [.int (mchg k)], h) w hend := by
        refine XGo.go 2 rfl ?_
        refine XGo.getr rfl hI.1.1 (by decide) (by decide) w_rg_13 k13s (by decide) (r13_7 hI.1.1) ?_
        refine XGo.getf rfl (xfd_o hG.1 (xlt hN1 (by decide)) (by decide) rfl) ?_
        refine XGo.go 4 rfl ?_
        refine XGo.call _ rfl xm_X6_put rfl rfl [.ref 86, .int (nI (nmQ j)), .int v] [] rfl rfl (fun z => absurd rfl z) (Nat.le_of_ble_eq_true rfl) (XCall.up (by decide) cP) ?_
        refine XGo.go 3 rfl ?_
        exact XGo.call _ rfl xm_X6_isNumber rfl rfl [.int v] [] rfl rfl (fun z => absurd rfl z) (Nat.le_of_ble_eq_true rfl) (k_isNum 7 B v) t
      refine XGo.go 3 rfl ?_
      refine XGo.ifn (fun z => absurd ((xnI_ge (m := 10) (by decide) (by omega)).mp z) (by omega)) ?_
      refine XGo.go 4 rfl ?_
      by_cases e : nI k - nI k / Int32.ofInt 2 * Int32.ofInt 2 = 0
      · rw [show mchg k = _ from if_pos e] at tl
        refine XGo.ifp e ?_
        exact XGo.go 7 rfl tl
      · rw [show mchg k = _ from if_neg e] at tl
        refine XGo.ifn e ?_
        exact XGo.go 5 rfl tl
    have nxt : ∀ (C : XH) (Nd' : Nat → Int32), INVg L xs C → C.2.2 537 = .inr (.inl (0, 490, f)) → CG C 84 (nI nc) Ld Nd' → (∀ z, z < 24 → ¬ z = nmQ j → Nd' z = Nt z) → okS f n m g nc x (nmW g j) (Nt (nmQ j)) k = false → (∀ z, (z < 71 ∨ 535 < z) → C.2.2 z = h.2.2 z) → ∃ h1 : XH, XGo 8 xm_X6_mend (160, [some (.ref 13), some (.int gr), some (.int i), some (.int x), some (.ref p), some (.int (nI (nmQ j))), some (.int (Nt (nmQ j))), some (.int (nI k)), some (.int (mchg k))], [], C) (some (.int (mdS (okS f n m g nc x (nmW g j) (Nt (nmQ j))) (q + 1) k))) h1 ∧ INVg L xs h1 ∧ ∀ z, (z < 71 ∨ 535 < z) → h1.2.2 z = h.2.2 z := fun C Nd' a1 a2 a3 a4 a5 a6 => by
      obtain ⟨h1, c1, hI1, o1⟩ := md_c W hg hnc hC hj hb gr i p q (k + 1) C (some (.int (mchg k))) Ld Nd' (by omega) a1 a2 a3 hL a4
      refine ⟨h1, ?_, hI1, fun z hz => (o1 z hz).trans (a6 z hz)⟩
      rw [show mdS (okS f n m g nc x (nmW g j) (Nt (nmQ j))) (q + 1) k = mdS (okS f n m g nc x (nmW g j) (Nt (nmQ j))) q (k + 1) from if_neg (by rw [a5]; decide)]
      rw [← show nI k + Int32.ofInt 1 = nI (k + 1) from nI_1 k] at c1
      exact XGo.go 2 rfl c1
    by_cases hv : 0 ≤ v.toInt ∧ v.toInt ≤ 99
    · have hC2 : CI (upd f (nmW g j) v) g Ld (upd Nd (nmQ j) v) nc := (ci_put hC hj hb hv).congr hnc.2 (fun _ _ _ => rfl) fun z hz => ⟨hL z hz, by
        by_cases e : z = nmQ j
        · rw [e, upd_at, upd_at]
        · rw [upd_ne e, upd_ne e]
          exact hN z hz e⟩
      obtain ⟨C, cL, hIC, oC⟩ := G_lcl h_168 rfl rfl rfl (by decide +kernel) (by decide +kernel) W (fun z hz => upd_ne (by omega)) (p := 84) (by decide) (Or.inr (by decide)) rg84 hnc hC2 x hIB hfB hGB
      have head : ∀ {w : Option Value} {hend : XH}, XGo 8 xm_X6_mend (if ltS (upd f (nmW g j) v) n m g nc x (2 ^ m) = 0 then 157 else 160, [some (.ref 13), some (.int gr), some (.int i), some (.int x), some (.ref p), some (.int (nI (nmQ j))), some (.int (Nt (nmQ j))), some (.int (nI k)), some (.int (mchg k))], [], C) w hend → XGo 8 xm_X6_mend (85, [some (.ref 13), some (.int gr), some (.int i), some (.int x), some (.ref p), some (.int (nI (nmQ j))), some (.int (Nt (nmQ j))), some (.int (nI k)), l8], [], h) w hend := fun {w hend} t => by
        refine put ?_
        rw [if_pos hv]
        refine XGo.go 1 rfl ?_
        refine XGo.ifn (by decide) ?_
        refine XGo.go 2 rfl ?_
        refine XGo.getr rfl hIB.1.1 (by decide) (by decide) w_rg_13 k13s (by decide) (r13_7 hIB.1.1) ?_
        refine XGo.go 1 rfl ?_
        refine XGo.call _ rfl xm_X6_lateClauses rfl rfl [.ref 13, .ref 84, .int x] [] rfl rfl (fun _ => ⟨13, _, rfl, o13, by decide, by omega⟩) (Nat.le_of_ble_eq_true rfl) (XCall.up (by decide) cL) ?_
        exact XGo.go 1 rfl t
      have oC2 : ∀ z, (z < 71 ∨ 535 < z) → C.2.2 z = h.2.2 z := fun z hz => (oC z (by omega)).trans (Bn z (by omega))
      by_cases hz : ltS (upd f (nmW g j) v) n m g nc x (2 ^ m) = 0
      · refine ⟨C, head (XGo.ifp hz ?_), hIC, oC2⟩
        have ok : okS f n m g nc x (nmW g j) (Nt (nmQ j)) k = true := by
          show (decide _ && decide _) = true
          rw [decide_eq_true hv, decide_eq_true hz]
          rfl
        rw [show mdS (okS f n m g nc x (nmW g j) (Nt (nmQ j))) (q + 1) k = mchg k from if_pos ok]
        refine XGo.go 1 rfl ?_
        exact XGo.iret _ rfl rfl .int rfl rfl
      · have ok : okS f n m g nc x (nmW g j) (Nt (nmQ j)) k = false := by
          show (decide _ && decide _) = false
          rw [decide_eq_false (p := ltS (upd f (nmW g j) v) n m g nc x (2 ^ m) = 0) hz, Bool.and_false]
        obtain ⟨h1, c1, hI1, o1⟩ := nxt C _ hIC ((oC 537 (by omega)).trans hfB) ⟨(oC 84 (by omega)).trans hGB.1, (oC 85 (by omega)).trans hGB.2.1, (oC 86 (by omega)).trans hGB.2.2⟩ hNB ok oC2
        exact ⟨h1, head (XGo.ifn hz c1), hI1, o1⟩
    · have ok : okS f n m g nc x (nmW g j) (Nt (nmQ j)) k = false := by
        show (decide _ && decide _) = false
        rw [decide_eq_false (p := 0 ≤ v.toInt ∧ v.toInt ≤ 99) hv, Bool.false_and]
      obtain ⟨h1, c1, hI1, o1⟩ := nxt B _ hIB hfB hGB hNB ok (fun z hz => Bn z (by omega))
      refine ⟨h1, put ?_, hI1, o1⟩
      rw [if_neg hv]
      refine XGo.go 1 rfl ?_
      exact XGo.ifp rfl c1
  termination_by q => q
end MD
/-! mend: the class's side as a whole -/
/-- what mend answers for a grant that is there -/
def meS (f : Nat → Int32) (n m g nc : Nat) (x i : Int32) : Int32 := match plS f g i (3 * nc) 0 0 with
  | .inl _ => Int32.ofInt (-1)
  | .inr j => if 0 ≤ x.toInt ∧ x.toInt ≤ 40 then (if ltS f n m g nc x (2 ^ m) = 0 then Int32.ofInt 0 else mdS (okS f n m g nc x (nmW g j) (f (nmW g j))) 10 0) else i2m
theorem meS_l {f : Nat → Int32} {n m g nc : Nat} {x i : Int32} {z : Nat} (h : plS f g i (3 * nc) 0 0 = .inl z) : meS f n m g nc x i = Int32.ofInt (-1) := by
  unfold meS
  rw [h]
theorem meS_r {f : Nat → Int32} {n m g nc : Nat} {x i : Int32} {j : Nat} (h : plS f g i (3 * nc) 0 0 = .inr j) : meS f n m g nc x i = if 0 ≤ x.toInt ∧ x.toInt ≤ 40 then (if ltS f n m g nc x (2 ^ m) = 0 then Int32.ofInt 0 else mdS (okS f n m g nc x (nmW g j) (f (nmW g j))) 10 0) else i2m := by
  unfold meS
  rw [h]
section CM
variable {L : Nat} {xs : Nat → Int32} {h : XH} {fw : List Value} {G T : Nat}
theorem cme_h (d : Nat) (hI : AInv w_W h) {gr i x : Int32} {w : Value} (c58 : XCall xM (d + 1) 58 [.ref 14, .int gr] h (some w) h) (hH : GH h fw G T) {v : Option Value} {hend : XH} (k : XGo (d + 1) xm_X6_mend (8, [some (.ref 13), some (.int gr), some (.int i), some (.int x), none, none, none, none, none], [w], h) v hend) : XCall xM (d + 2) 79 [.ref 13, .int gr, .int i, .int x] h v hend := by
  have hN := hH.N
  refine XCall.of (M := xm_X6_mend) rfl (Nat.le_of_ble_eq_true rfl) ?_
  refine XGo.go 1 rfl ?_
  refine XGo.getr rfl hI (by decide) (by decide) w_rg_13 k13s (by decide) (r13_0 hI) ?_
  refine XGo.go 1 rfl ?_
  exact XGo.call _ rfl xm_X5_grantAt rfl rfl [.ref 14, .int gr] [] rfl rfl (fun _ => ⟨14, _, rfl, hH.o14, by decide, by omega⟩) (Nat.le_of_ble_eq_true rfl) c58 k
theorem k_cme1 (d : Nat) (hI : AInv w_W h) (hH : GH h fw G T) (hG : G ≤ 6) {gr i x : Int32} (hb : ¬ (0 ≤ gr.toInt ∧ gr.toInt < (G : Int))) : XCall xM (d + 2) 79 [.ref 13, .int gr, .int i, .int x] h (some (.int (Int32.ofInt (-1)))) h := by
  refine cme_h d hI (k_gNo d hH hG hb) hH ?_
  refine XGo.go 9 rfl ?_
  exact XGo.iret _ rfl rfl .int rfl rfl
set_option maxRecDepth 100000 in
theorem k_cme3 (hI : INVg L xs h) {f : Nat → Int32} (hf : h.2.2 537 = .inr (.inl (0, 490, f))) (hH : GH h fw G T) (hG : G ≤ 6) {n m : Nat} (W : RW f n m) {g nc : Nat} (hg : g < G) (hnc : 1 ≤ nc ∧ nc ≤ 6) {Lt Nt : Nat → Int32} (hCG : CG h (24 + 3 * g) (nI nc) Lt Nt) (hC : CI f g Lt Nt nc) (i x : Int32) :
    ∃ h1 : XH, XCall xM 9 79 [.ref 13, .int (nI g), .int i, .int x] h (some (.int (meS f n m g nc x i))) h1 ∧ INVg L xs h1 ∧ ∀ z, (z < 71 ∨ 535 < z) → h1.2.2 z = h.2.2 z := by
  have hN := hH.N
  obtain ⟨⟨r1, -, -⟩, -⟩ := w_rg_g ⟨g, by omega⟩
  have pl := k_pl 5 hN hCG (by omega) hnc.2 hC i
  obtain ⟨fs, o13, l13, -⟩ := w_obj hI.1.1 (k := 13) (by decide) w_rg_13 k13S
  have head : ∀ {v : Option Value} {hend : XH}, XGo 8 xm_X6_mend (if 0 ≤ plC (plS f g i (3 * nc) 0 0) then 39 else 37, [some (.ref 13), some (.int (nI g)), some (.int i), some (.int x), some (.ref (24 + 3 * g)), some (.int (plC (plS f g i (3 * nc) 0 0))), none, none, none], [], h) v hend → XCall xM 9 79 [.ref 13, .int (nI g), .int i, .int x] h v hend := fun {v hend} k => by
    refine cme_h 7 hI.1.1 (k_gAt 7 hH hg hG) hH ?_
    refine XGo.go 3 rfl ?_
    refine XGo.go 2 rfl ?_
    refine XGo.call _ rfl xm_X1_placeOfNumber rfl rfl [.ref (24 + 3 * g), .int i] [] rfl rfl (fun _ => ⟨24 + 3 * g, _, rfl, hCG.1, by omega, by omega⟩) (Nat.le_of_ble_eq_true rfl) pl ?_
    exact XGo.go 5 rfl k
  match hp : plS f g i (3 * nc) 0 0 with
  | .inl z =>
    rw [hp] at head
    refine ⟨h, head (XGo.ifn (show ¬ (0 : Int32) ≤ Int32.ofInt (-1) by decide) ?_), hI, fun _ _ => rfl⟩
    rw [meS_l hp]
    refine XGo.go 1 rfl ?_
    exact XGo.iret _ rfl rfl .int rfl rfl
  | .inr j =>
    rw [hp] at head
    rw [meS_r hp]
    obtain ⟨-, hj, hb⟩ := plS_lt _ _ _ hp
    have hj : j < 3 * nc := by omega
    have hr := nmQ_in hj hnc.2
    have head2 : ∀ {v : Option Value} {hend : XH}, XGo 8 xm_X6_mend (43, [some (.ref 13), some (.int (nI g)), some (.int i), some (.int x), some (.ref (24 + 3 * g)), some (.int (nI (nmQ j))), none, none, none], [.int (if 0 ≤ x.toInt ∧ x.toInt ≤ 40 then 1 else 0)], h) v hend → XCall xM 9 79 [.ref 13, .int (nI g), .int i, .int x] h v hend := fun {v hend} k => by
      refine head (XGo.ifp (show (0 : Int32) ≤ nI (nmQ j) from Int32.not_lt.mp (xnI_lt0 (by omega))) ?_)
      refine XGo.go 1 rfl ?_
      exact XGo.call _ rfl xm_X6_isYear rfl rfl [.int x] [] rfl rfl (fun z => absurd rfl z) (Nat.le_of_ble_eq_true rfl) (k_isYear 7 h x) k
    by_cases hx : 0 ≤ x.toInt ∧ x.toInt ≤ 40
    · rw [if_pos hx]
      obtain ⟨h1, cL, hI1, o1⟩ := G_lcl h_118 rfl rfl rfl (by decide +kernel) (by decide +kernel) W (fun _ _ => rfl) (p := 24 + 3 * g) (by omega) (Or.inl (by omega)) r1 hnc hC x hI hf hCG
      have hN1 : h1.1 = 549 := hI1.1.1.1
      have head3 : ∀ {v : Option Value} {hend : XH}, XGo 8 xm_X6_mend (if ltS f n m g nc x (2 ^ m) = 0 then 59 else 61, [some (.ref 13), some (.int (nI g)), some (.int i), some (.int x), some (.ref (24 + 3 * g)), some (.int (nI (nmQ j))), none, none, none], [], h1) v hend → XCall xM 9 79 [.ref 13, .int (nI g), .int i, .int x] h v hend := fun {v hend} k => by
        refine head2 ?_
        rw [if_pos hx]
        refine XGo.go 1 rfl ?_
        refine XGo.ifn (by decide) ?_
        refine XGo.go 3 rfl ?_
        refine XGo.call _ rfl xm_X6_lateClauses rfl rfl [.ref 13, .ref (24 + 3 * g), .int x] [] rfl rfl (fun _ => ⟨13, _, rfl, o13, by decide, by omega⟩) (Nat.le_of_ble_eq_true rfl) (XCall.up (by decide) cL) ?_
        exact XGo.go 1 rfl k
      by_cases hz : ltS f n m g nc x (2 ^ m) = 0
      · refine ⟨h1, head3 (XGo.ifp hz ?_), hI1, fun z hz => o1 z (by omega)⟩
        rw [if_pos hz]
        refine XGo.go 1 rfl ?_
        exact XGo.iret _ rfl rfl .int rfl rfl
      · rw [if_neg hz]
        obtain ⟨k84, L84, N84, h84⟩ := cg84 hI1.1.1
        obtain ⟨rg84, rg85, rg86⟩ := w_rg_84
        have hCG1 : CG h1 (24 + 3 * g) (nI nc) Lt Nt := ⟨(o1 _ (by omega)).trans hCG.1, (o1 _ (by omega)).trans hCG.2.1, (o1 _ (by omega)).trans hCG.2.2⟩
        obtain ⟨H2, cR, -, -, t1, t2, t3, t4⟩ := k_repeat 6 hN1 h84.1 h84.2.1 h84.2.2 hCG1.1 hCG1.2.1 hCG1.2.2 (by omega) (by omega)
        obtain ⟨v0, B0, d1, j1, j2, jF, -⟩ := h_156.2 [.ref 84, .ref (24 + 3 * g)] h1 hI1.1.1 hI1.1.2.1 ⟨w_ga58 (b := 0) rg84 (by decide), w_ga58 (b := 0) r1 (by omega), trivial⟩ (fun q hq => by cases hq)
        obtain ⟨-, e2⟩ := XCall.det cR d1
        subst e2
        have x2 := XCall.ext _ _ _ _ _ _ cR (by rw [hN1]; decide)
        have hI2 : INVg L xs H2 := invg_fr hI1 j1 j2 jF (by decide +kernel) (by decide +kernel) x2
        have q2 : ∀ z, ¬ z = 84 → ¬ z = 85 → ¬ z = 86 → H2.2.2 z = h1.2.2 z := t4
        have hf2 : H2.2.2 537 = .inr (.inl (0, 490, f)) := (q2 537 (by decide) (by decide) (by decide)).trans ((o1 537 (by omega)).trans hf)
        have hN2 : H2.1 = 549 := hI2.1.1.1
        have hp2 : H2.2.2 (24 + 3 * g) = .inl (1, [.int (nI nc), .ref (24 + 3 * g + 1), .ref (24 + 3 * g + 2)]) := (q2 _ (by omega) (by omega) (by omega)).trans hCG1.1
        have hp3 : H2.2.2 (24 + 3 * g + 2) = .inr (.inl (0, 24, Nt)) := (q2 _ (by omega) (by omega) (by omega)).trans hCG1.2.2
        obtain ⟨h3, c3, hI3, o3⟩ := md_c (x := x) W (show g < 6 by omega) hnc hC hj hb (nI g) i (24 + 3 * g) 10 0 H2 none _ _ (by omega) hI2 hf2 ⟨t1, t2, t3⟩ (fun z hz => cpy24 hz) (fun z hz _ => cpy24 hz)
        rw [← (num_at hC hj hb).1]
        refine ⟨h3, head3 (XGo.ifn hz ?_), hI3, fun z hz => (o3 z hz).trans ((q2 z (by omega) (by omega) (by omega)).trans (o1 z (by omega)))⟩
        refine XGo.go 1 rfl ?_
        refine XGo.getr rfl hI1.1.1 (by decide) (by decide) w_rg_13 k13s (by decide) (r13_7 hI1.1.1) ?_
        refine XGo.go 1 rfl ?_
        refine XGo.call _ rfl xm_X1_repeat rfl rfl [.ref 84, .ref (24 + 3 * g)] [] rfl rfl (fun _ => ⟨84, _, rfl, h84.1, by decide, by omega⟩) (Nat.le_of_ble_eq_true rfl) cR ?_
        refine XGo.go 1 rfl ?_
        refine XGo.getf rfl (xfd_o hp2 (xlt hN2 (by omega)) (by omega) rfl) ?_
        refine XGo.go 1 rfl ?_
        refine XGo.call _ rfl xm_X6_at rfl rfl [.ref (24 + 3 * g + 2), .int (nI (nmQ j))] [] rfl rfl (fun z => absurd rfl z) (Nat.le_of_ble_eq_true rfl) (at_row (d := 7) hp3 (xlt hN2 (by omega)) (by decide) hr) ?_
        exact XGo.go 3 rfl c3
    · rw [if_neg hx]
      refine ⟨h, head2 ?_, hI, fun _ _ => rfl⟩
      rw [if_neg hx]
      refine XGo.go 1 rfl ?_
      refine XGo.ifp rfl ?_
      refine XGo.go 1 rfl ?_
      exact XGo.iret _ rfl rfl .int rfl rfl
end CM
/-! mend: the model's side -/
theorem mchg_a : ∀ s : Fin 5, Int32.ofInt (-1) * nI (s.val + 1) = mchg (2 * s.val) ∧ Int32.ofInt 1 * nI (s.val + 1) = mchg (2 * s.val + 1) ∧ ¬ mchg (2 * s.val) = i100 ∧ ¬ mchg (2 * s.val + 1) = i100 := by decide +kernel
theorem upd_upd {f : Nat → Int32} {p : Nat} {a b : Int32} : upd (upd f p a) p b = upd f p b := funext fun j => by
  unfold upd
  by_cases e : j = p
  · rw [if_pos e, if_pos e]
  · rw [if_neg e, if_neg e, if_neg e]
theorem mbk_put {h : XH} {f : Nat → Int32} (hB : MBk h f) (f2 : Nat → Int32) : MBk (xup h 537 (.inr (.inl (0, 490, f2)))) f2 := by
  obtain ⟨hN, hS, ⟨e, o36⟩, hf, ⟨s, s0, s1, s2, s3⟩, ⟨a3, e3⟩, ⟨a4, e4⟩, ⟨a5, e5⟩⟩ := hB
  exact ⟨hN, hS, ⟨e, (xup_ne _ _ (by decide)).trans o36⟩, xup_eq _ _ _, ⟨s, (xup_ne _ _ (by decide)).trans s0, (xup_ne _ _ (by decide)).trans s1, (xup_ne _ _ (by decide)).trans s2, (xup_ne _ _ (by decide)).trans s3⟩, ⟨a3, (xup_ne _ _ (by decide)).trans e3⟩, ⟨a4, (xup_ne _ _ (by decide)).trans e4⟩, ⟨a5, (xup_ne _ _ (by decide)).trans e5⟩⟩
theorem k_in99 (d : Nat) (h : XH) (x : Int32) : XCall xM (d + 1) 107 [.int x, .int (Int32.ofInt 0), .int (Int8.ofInt 99).toInt32] h (some (.int (if 0 ≤ x.toInt ∧ x.toInt ≤ 99 then 1 else 0))) h := by
  have q := k_inI d h x (Int32.ofInt 0) (Int8.ofInt 99).toInt32
  rw [show (Int32.ofInt 0).toInt = 0 by decide, show ((Int8.ofInt 99).toInt32).toInt = 99 by decide] at q
  exact q
section MM
variable {f : Nat → Int32} {n m g nc j : Nat} {Lt Nt : Nat → Int32} {x : Int32}
abbrev mmL (g : Nat) (i x : Int32) (P : Nat) (was fo si : Int32) (l8 : Option Value) : XL := [some (.ref 536), some (.int (nI g)), some (.int i), some (.int x), some (.int (nI P)), some (.int was), some (.int fo), some (.int si), l8]
set_option maxRecDepth 100000 in
/-- one number tried -/
theorem mm_t (W : RW f n m) (hg : g < 6) (hnc : 1 ≤ nc ∧ nc ≤ 6) (hfn : f (130 + g) = nI nc) (hC : CI f g Lt Nt nc) (hj : j < 3 * nc) (hb : nmB f g j = true) (hx : 0 ≤ x.toInt ∧ x.toInt ≤ 40) (i : Int32) {h : XH} {y : Int32} (hB : MBk h (upd f (nmW g j) y)) {sg si : Int32} {k : Nat} (ek : sg * si = mchg k) :
    ∃ h1 : XH, MBk h1 (upd f (nmW g j) (f (nmW g j) + mchg k)) ∧ (∀ z, ¬ z = 536 → ¬ z = 537 → ¬ (539 ≤ z ∧ z ≤ 545) → h1.2.2 z = h.2.2 z) ∧ ∀ {w : Option Value} {hend : XH}, XGo 9 xm_X7_mend (151, mmL g i x (nmW g j) (f (nmW g j)) i100 si (some (.int sg)), [.int (if okS f n m g nc x (nmW g j) (f (nmW g j)) k = true then mchg k else i100)], h1) w hend → XGo 9 xm_X7_mend (101, mmL g i x (nmW g j) (f (nmW g j)) i100 si (some (.int sg)), [], h) w hend := by
  obtain ⟨w1, w2⟩ := nmW_in hj hnc.2 hg
  obtain ⟨hNn, hNr⟩ := num_at hC hj hb
  generalize hP : nmW g j = P at *
  obtain ⟨hN, hS, ⟨e, o36⟩, hf, -⟩ := id hB
  let v : Int32 := f P + mchg k
  have hBB := mbk_put hB (upd f P v)
  obtain ⟨hNB, -, ⟨e', oB36⟩, hfB, -⟩ := id hBB
  have put : ∀ {w : Option Value} {hend : XH}, XGo 9 xm_X7_mend (129, mmL g i x P (f P) i100 si (some (.int sg)), [.int (if 0 ≤ v.toInt ∧ v.toInt ≤ 99 then 1 else 0)], xup h 537 (.inr (.inl (0, 490, upd f P v)))) w hend → XGo 9 xm_X7_mend (101, mmL g i x P (f P) i100 si (some (.int sg)), [], h) w hend := fun {w hend} t => by
    refine XGo.go 1 rfl ?_
    refine XGo.getf rfl (xfd_o o36 (xlt hN (by decide)) (by decide) rfl) ?_
    refine XGo.go 6 rfl ?_
    refine XGo.iast rfl hf (xlt hN (by decide)) (by decide) (ca_nI (show P < 490 by omega) (by decide)) ?_
    show XGo _ _ (116, _, [], xup h 537 (.inr (.inl (0, 490, upd (upd f P y) (nI P).toNatClampNeg (f P + sg * si))))) _ _
    rw [ek, xnI_nat (by omega), upd_upd]
    refine XGo.go 1 rfl ?_
    refine XGo.getf rfl (xfd_o oB36 (xlt hNB (by decide)) (by decide) rfl) ?_
    refine XGo.go 1 rfl ?_
    refine XGo.iald rfl (ia_nI hfB (xlt hNB (by decide)) (show P < 490 by omega) (by decide)) ?_
    rw [upd_at]
    refine XGo.go 2 rfl ?_
    exact XGo.call _ rfl xm_X7_in rfl rfl [.int v, .int (Int32.ofInt 0), .int (Int8.ofInt 99).toInt32] [] rfl rfl (fun z => absurd rfl z) (Nat.le_of_ble_eq_true rfl) (k_in99 8 _ v) t
  by_cases hv : 0 ≤ v.toInt ∧ v.toInt ≤ 99
  · have hC2 := ci_put hC hj hb (v := v) hv
    rw [hP] at hC2
    have W2 : RW (upd f P v) n m := rw_f W fun z hz => upd_ne (by omega)
    obtain ⟨C, cL, hBC, oC⟩ := G_lml W2 hg hnc ((upd_ne (by omega)).trans hfn) hC2 hx.1 hx.2 hBB
    refine ⟨C, hBC, fun z z1 z2 z3 => (oC z z1 z3).trans (xup_ne _ _ z2), fun {w hend} t => put ?_⟩
    rw [if_pos hv]
    refine XGo.go 1 rfl ?_
    refine XGo.ifn (by decide) ?_
    refine XGo.go 3 rfl ?_
    refine XGo.call _ rfl xm_X7_lates rfl rfl [.ref 536, .int (nI g), .int x] [] rfl rfl (fun _ => ⟨536, _, rfl, oB36, by decide, by omega⟩) (Nat.le_of_ble_eq_true rfl) (XCall.up (by decide) cL) ?_
    refine XGo.go 1 rfl ?_
    by_cases hz : ltS (upd f P v) n m g nc x (2 ^ m) = 0
    · have ok : okS f n m g nc x P (f P) k = true := by
        show (decide _ && decide _) = true
        rw [decide_eq_true hv, decide_eq_true hz]
        rfl
      rw [if_pos ok, ← ek] at t
      refine XGo.ifp hz ?_
      exact XGo.go 4 rfl t
    · have ok : ¬ okS f n m g nc x P (f P) k = true := by
        show ¬ (decide _ && decide _) = true
        rw [decide_eq_false (p := ltS (upd f P v) n m g nc x (2 ^ m) = 0) hz, Bool.and_false]
        decide
      rw [if_neg ok] at t
      refine XGo.ifn hz ?_
      exact XGo.go 1 rfl t
  · have ok : ¬ okS f n m g nc x P (f P) k = true := by
      show ¬ (decide _ && decide _) = true
      rw [decide_eq_false (p := 0 ≤ v.toInt ∧ v.toInt ≤ 99) hv, Bool.false_and]
      decide
    refine ⟨_, hBB, fun z z1 z2 z3 => xup_ne _ _ z2, fun {w hend} t => put ?_⟩
    rw [if_neg ok] at t
    rw [if_neg hv]
    refine XGo.go 1 rfl ?_
    refine XGo.ifp rfl ?_
    exact XGo.go 1 rfl t
set_option maxRecDepth 100000 in
theorem mm_e (i : Int32) {P : Nat} (hP : P < 490) {h : XH} {y : Int32} (hB : MBk h (upd f P y)) (fo si : Int32) (l8 : Option Value) : ∃ h1 : XH, XGo 9 xm_X7_mend (165, mmL g i x P (f P) fo si l8, [], h) (some (.int fo)) h1 ∧ h1.2.2 537 = .inr (.inl (0, 490, f)) ∧ ∀ z, ¬ z = 537 → h1.2.2 z = h.2.2 z := by
  obtain ⟨hN, hS, ⟨e, o36⟩, hf, -⟩ := id hB
  refine ⟨xup h 537 (.inr (.inl (0, 490, upd (upd f P y) (nI P).toNatClampNeg (f P)))), ?_, ?_, fun z hz => xup_ne _ _ hz⟩
  · refine XGo.go 1 rfl ?_
    refine XGo.getf rfl (xfd_o o36 (xlt hN (by decide)) (by decide) rfl) ?_
    refine XGo.go 2 rfl ?_
    refine XGo.iast rfl hf (xlt hN (by decide)) (by decide) (ca_nI hP (by decide)) ?_
    refine XGo.go 1 rfl ?_
    exact XGo.iret _ rfl rfl .int rfl rfl
  · rw [xup_eq, xnI_nat (by omega), upd_upd, upd_self]
theorem mm_f (i : Int32) {P : Nat} (hP : P < 490) {h : XH} {y : Int32} (hB : MBk h (upd f P y)) {fo si : Int32} (hfo : ¬ fo = i100) (l8 : Option Value) : ∃ h1 : XH, XGo 9 xm_X7_mend (72, mmL g i x P (f P) fo si l8, [], h) (some (.int fo)) h1 ∧ h1.2.2 537 = .inr (.inl (0, 490, f)) ∧ ∀ z, ¬ z = 537 → h1.2.2 z = h.2.2 z := by
  obtain ⟨h1, c1, q1, q2⟩ := mm_e (g := g) (x := x) i hP hB fo si l8
  refine ⟨h1, ?_, q1, q2⟩
  refine XGo.go 3 rfl ?_
  by_cases z : Int32.ofInt 5 < si
  · exact XGo.ifp z c1
  · refine XGo.ifn z ?_
    refine XGo.go 3 rfl ?_
    exact XGo.ifn hfo c1
set_option maxRecDepth 100000 in
theorem mm_l (W : RW f n m) (hg : g < 6) (hnc : 1 ≤ nc ∧ nc ≤ 6) (hfn : f (130 + g) = nI nc) (hC : CI f g Lt Nt nc) (hj : j < 3 * nc) (hb : nmB f g j = true) (hx : 0 ≤ x.toInt ∧ x.toInt ≤ 40) (i : Int32) : ∀ (q s : Nat) (h : XH) (y : Int32) (l8 : Option Value), s + q = 5 → MBk h (upd f (nmW g j) y) → ∃ h1 : XH, XGo 9 xm_X7_mend (72, mmL g i x (nmW g j) (f (nmW g j)) i100 (nI (s + 1)) l8, [], h) (some (.int (mdS (okS f n m g nc x (nmW g j) (f (nmW g j))) (2 * q) (2 * s)))) h1 ∧ h1.2.2 537 = .inr (.inl (0, 490, f)) ∧ ∀ z, ¬ z = 536 → ¬ z = 537 → ¬ (539 ≤ z ∧ z ≤ 545) → h1.2.2 z = h.2.2 z
  | 0, s, h, y, l8, hs, hB => by
    have hs : s = 5 := by omega
    subst hs
    obtain ⟨w1, w2⟩ := nmW_in hj hnc.2 hg
    obtain ⟨h1, c1, q1, q2⟩ := mm_e (g := g) (x := x) i (show nmW g j < 490 by omega) hB i100 (nI (5 + 1)) l8
    refine ⟨h1, ?_, q1, fun z _ z2 _ => q2 z z2⟩
    refine XGo.go 3 rfl ?_
    exact XGo.ifp (by decide) c1
  | q + 1, s, h, y, l8, hs, hB => by
    obtain ⟨w1, w2⟩ := nmW_in hj hnc.2 hg
    have hP : nmW g j < 490 := by omega
    obtain ⟨a1, a2, a3, a4⟩ := mchg_a ⟨s, by omega⟩
    dsimp only at a1 a2 a3 a4
    obtain ⟨A, hA, oA, tA⟩ := mm_t W hg hnc hfn hC hj hb hx i hB (k := 2 * s) a1
    rw [show 2 * (q + 1) = 2 * q + 1 + 1 by omega]
    have head : ∀ {w : Option Value} {hend : XH}, XGo 9 xm_X7_mend (151, mmL g i x (nmW g j) (f (nmW g j)) i100 (nI (s + 1)) (some (.int (Int32.ofInt (-1)))), [.int (if okS f n m g nc x (nmW g j) (f (nmW g j)) (2 * s) = true then mchg (2 * s) else i100)], A) w hend → XGo 9 xm_X7_mend (72, mmL g i x (nmW g j) (f (nmW g j)) i100 (nI (s + 1)) l8, [], h) w hend := fun {w hend} t => by
      refine XGo.go 3 rfl ?_
      refine XGo.ifn (fun z => ?_) ?_
      · have := Int32.lt_iff_toInt_lt.mp z
        rw [nI_toInt (by omega), show (Int32.ofInt 5).toInt = 5 by decide] at this
        omega
      refine XGo.go 3 rfl ?_
      refine XGo.ifp rfl ?_
      refine XGo.go 2 rfl ?_
      refine XGo.go 3 rfl ?_
      refine XGo.ifn (by decide) ?_
      refine XGo.go 3 rfl ?_
      refine XGo.ifp rfl ?_
      exact tA t
    by_cases ok : okS f n m g nc x (nmW g j) (f (nmW g j)) (2 * s) = true
    · obtain ⟨h1, c1, q1, q2⟩ := mm_f (g := g) (x := x) i hP hA (fo := mchg (2 * s)) (si := nI (s + 1) + Int32.ofInt 1) a3 (some (.int (Int32.ofInt (-1) + Int32.ofInt 2)))
      rw [if_pos ok] at head
      rw [show mdS (okS f n m g nc x (nmW g j) (f (nmW g j))) (2 * q + 1 + 1) (2 * s) = mchg (2 * s) from if_pos ok]
      refine ⟨h1, head ?_, q1, fun z z1 z2 z3 => (q2 z z2).trans (oA z z1 z2 z3)⟩
      refine XGo.go 3 rfl ?_
      refine XGo.go 3 rfl ?_
      refine XGo.ifn (by decide) ?_
      refine XGo.go 3 rfl ?_
      refine XGo.ifn a3 ?_
      exact XGo.go 2 rfl c1
    · rw [if_neg ok] at head
      rw [show mdS (okS f n m g nc x (nmW g j) (f (nmW g j))) (2 * q + 1 + 1) (2 * s) = mdS (okS f n m g nc x (nmW g j) (f (nmW g j))) (2 * q + 1) (2 * s + 1) from if_neg ok]
      obtain ⟨B, hBB, oB, tB⟩ := mm_t W hg hnc hfn hC hj hb hx i hA (sg := Int32.ofInt (-1) + Int32.ofInt 2) (si := nI (s + 1)) (k := 2 * s + 1) a2
      have head2 : ∀ {w : Option Value} {hend : XH}, XGo 9 xm_X7_mend (72, mmL g i x (nmW g j) (f (nmW g j)) (if okS f n m g nc x (nmW g j) (f (nmW g j)) (2 * s + 1) = true then mchg (2 * s + 1) else i100) (nI (s + 1) + Int32.ofInt 1) (some (.int (Int32.ofInt (-1) + Int32.ofInt 2 + Int32.ofInt 2))), [], B) w hend → XGo 9 xm_X7_mend (72, mmL g i x (nmW g j) (f (nmW g j)) i100 (nI (s + 1)) l8, [], h) w hend := fun {w hend} t => by
        refine head ?_
        refine XGo.go 3 rfl ?_
        refine XGo.go 3 rfl ?_
        refine XGo.ifn (by decide) ?_
        refine XGo.go 3 rfl ?_
        refine XGo.ifp rfl ?_
        refine tB ?_
        refine XGo.go 3 rfl ?_
        refine XGo.go 3 rfl ?_
        refine XGo.ifp (by decide) ?_
        exact XGo.go 2 rfl t
      by_cases ok2 : okS f n m g nc x (nmW g j) (f (nmW g j)) (2 * s + 1) = true
      · obtain ⟨h1, c1, q1, q2⟩ := mm_f (g := g) (x := x) i hP hBB (fo := mchg (2 * s + 1)) (si := nI (s + 1) + Int32.ofInt 1) a4 (some (.int (Int32.ofInt (-1) + Int32.ofInt 2 + Int32.ofInt 2)))
        rw [if_pos ok2] at head2
        rw [show mdS (okS f n m g nc x (nmW g j) (f (nmW g j))) (2 * q + 1) (2 * s + 1) = mchg (2 * s + 1) from if_pos ok2]
        exact ⟨h1, head2 c1, q1, fun z z1 z2 z3 => (q2 z z2).trans ((oB z z1 z2 z3).trans (oA z z1 z2 z3))⟩
      · rw [if_neg ok2] at head2
        rw [show mdS (okS f n m g nc x (nmW g j) (f (nmW g j))) (2 * q + 1) (2 * s + 1) = mdS (okS f n m g nc x (nmW g j) (f (nmW g j))) (2 * q) (2 * s + 1 + 1) from if_neg ok2, show 2 * s + 1 + 1 = 2 * (s + 1) by omega]
        obtain ⟨h1, c1, q1, q2⟩ := mm_l W hg hnc hfn hC hj hb hx i q (s + 1) B _ (some (.int (Int32.ofInt (-1) + Int32.ofInt 2 + Int32.ofInt 2))) (by omega) hBB
        rw [← show nI (s + 1) + Int32.ofInt 1 = nI (s + 1 + 1) from nI_1 (s + 1)] at c1
        exact ⟨h1, head2 c1, q1, fun z z1 z2 z3 => (q2 z z1 z2 z3).trans ((oB z z1 z2 z3).trans (oA z z1 z2 z3))⟩
  termination_by q => q
set_option maxRecDepth 100000 in
theorem mme_n {h : XH} {gr i x : Int32} : XGo 9 xm_X7_mend (21, [some (.ref 536), some (.int gr), some (.int i), some (.int x), none, none, none, none, none], [], h) (some (.int (Int32.ofInt (-1)))) h := by
  refine XGo.go 5 rfl ?_
  refine XGo.ifp rfl ?_
  refine XGo.go 1 rfl ?_
  exact XGo.iret _ rfl rfl .int rfl rfl
variable {G : Nat} {h : XH}
set_option maxRecDepth 100000 in
theorem k_mme1 (hB : MBk h f) (hG : G ≤ 6) (f2 : f 2 = nI G) {gr i x : Int32} (hb : ¬ (0 ≤ gr.toInt ∧ gr.toInt < (G : Int))) : XCall xM 10 163 [.ref 536, .int gr, .int i, .int x] h (some (.int (Int32.ofInt (-1)))) h := by
  obtain ⟨hN, hS, ⟨e, o36⟩, hf, -⟩ := id hB
  have q := k_isGr 7 hB hG f2 gr
  rw [if_neg hb] at q
  refine XCall.of (M := xm_X7_mend) rfl (Nat.le_of_ble_eq_true rfl) ?_
  refine XGo.go 2 rfl ?_
  refine XGo.call _ rfl xm_X7_isGrant rfl rfl [.ref 536, .int gr] [] rfl rfl (fun _ => ⟨536, _, rfl, o36, by decide, by omega⟩) (Nat.le_of_ble_eq_true rfl) q ?_
  refine XGo.go 1 rfl ?_
  refine XGo.ifp rfl ?_
  exact mme_n
set_option maxRecDepth 100000 in
theorem k_mme3 (hB : MBk h f) (hG : G ≤ 6) (f2 : f 2 = nI G) (W : RW f n m) (hg : g < G) (hnc : 1 ≤ nc ∧ nc ≤ 6) (hfn : f (130 + g) = nI nc) (hC : CI f g Lt Nt nc) (i x : Int32) : ∃ h1 : XH, XCall xM 10 163 [.ref 536, .int (nI g), .int i, .int x] h (some (.int (meS f n m g nc x i))) h1 ∧ h1.2.2 537 = .inr (.inl (0, 490, f)) ∧ ∀ z, ¬ z = 536 → ¬ z = 537 → ¬ (539 ≤ z ∧ z ≤ 545) → h1.2.2 z = h.2.2 z := by
  obtain ⟨hN, hS, ⟨e, o36⟩, hf, -⟩ := id hB
  have tg := nI_toInt (n := g) (by omega)
  have q := k_isGr 7 hB hG f2 (nI g)
  rw [if_pos ⟨by omega, by omega⟩] at q
  have head : ∀ {v : Option Value} {hend : XH}, XGo 9 xm_X7_mend (if i < 0 then 21 else 12, [some (.ref 536), some (.int (nI g)), some (.int i), some (.int x), none, none, none, none, none], [], h) v hend → XCall xM 10 163 [.ref 536, .int (nI g), .int i, .int x] h v hend := fun {v hend} k => by
    refine XCall.of (M := xm_X7_mend) rfl (Nat.le_of_ble_eq_true rfl) ?_
    refine XGo.go 2 rfl ?_
    refine XGo.call _ rfl xm_X7_isGrant rfl rfl [.ref 536, .int (nI g)] [] rfl rfl (fun _ => ⟨536, _, rfl, o36, by decide, by omega⟩) (Nat.le_of_ble_eq_true rfl) q ?_
    refine XGo.go 1 rfl ?_
    refine XGo.ifn (by decide) ?_
    exact XGo.go 2 rfl k
  by_cases hi : i < 0
  · obtain ⟨z, hz⟩ := plS_neg (f := f) (g := g) hi (3 * nc) 0 0 (by omega)
    rw [meS_l hz]
    exact ⟨h, head (XGo.ifp hi mme_n), hf, fun _ _ _ _ => rfl⟩
  · have hi1 : ¬ i = Int32.ofInt (-1) := fun e => hi (by rw [e]; decide)
    have head2 : ∀ {v : Option Value} {hend : XH}, XGo 9 xm_X7_mend (if plM g i (plS f g i (3 * nc) 0 0) = Int32.ofInt (-1) then 30 else 32, [some (.ref 536), some (.int (nI g)), some (.int i), some (.int x), some (.int (plM g i (plS f g i (3 * nc) 0 0))), none, none, none, none], [], h) v hend → XCall xM 10 163 [.ref 536, .int (nI g), .int i, .int x] h v hend := fun {v hend} k => by
      refine head (XGo.ifn hi ?_)
      refine XGo.go 3 rfl ?_
      refine XGo.call _ rfl xm_X7_placeOf rfl rfl [.ref 536, .int (nI g), .int i] [] rfl rfl (fun _ => ⟨536, _, rfl, o36, by decide, by omega⟩) (Nat.le_of_ble_eq_true rfl) (k_plm 7 hN o36 hf (show g < 6 by omega) hnc.2 hfn i) ?_
      exact XGo.go 5 rfl k
    match hp : plS f g i (3 * nc) 0 0 with
    | .inl z =>
      rw [hp] at head2
      rw [meS_l hp]
      refine ⟨h, head2 (XGo.ifp (show plM g i (.inl z) = Int32.ofInt (-1) from if_neg hi1) ?_), hf, fun _ _ _ _ => rfl⟩
      refine XGo.go 1 rfl ?_
      exact XGo.iret _ rfl rfl .int rfl rfl
    | .inr j =>
      rw [hp] at head2
      rw [meS_r hp]
      obtain ⟨-, hj, hb⟩ := plS_lt _ _ _ hp
      have hj : j < 3 * nc := by omega
      obtain ⟨w1, w2⟩ := nmW_in hj hnc.2 (show g < 6 by omega)
      have head3 : ∀ {v : Option Value} {hend : XH}, XGo 9 xm_X7_mend (39, [some (.ref 536), some (.int (nI g)), some (.int i), some (.int x), some (.int (nI (nmW g j))), none, none, none, none], [.int (if 0 ≤ x.toInt ∧ x.toInt ≤ 40 then 1 else 0)], h) v hend → XCall xM 10 163 [.ref 536, .int (nI g), .int i, .int x] h v hend := fun {v hend} k => by
        refine head2 (XGo.ifn (show ¬ nI (nmW g j) = Int32.ofInt (-1) from nI_m1 (by omega)) ?_)
        refine XGo.go 3 rfl ?_
        exact XGo.call _ rfl xm_X7_in rfl rfl [.int x, .int (Int32.ofInt 0), .int i40] [] rfl rfl (fun z => absurd rfl z) (Nat.le_of_ble_eq_true rfl) (k_in40 8 h x) k
      by_cases hx : 0 ≤ x.toInt ∧ x.toInt ≤ 40
      · rw [if_pos hx]
        obtain ⟨A, cL, hBA, oA⟩ := G_lml W (show g < 6 by omega) hnc hfn hC hx.1 hx.2 hB
        obtain ⟨hNA, -, ⟨eA, oA36⟩, hfA, -⟩ := id hBA
        have head4 : ∀ {v : Option Value} {hend : XH}, XGo 9 xm_X7_mend (if ltS f n m g nc x (2 ^ m) = 0 then 54 else 56, [some (.ref 536), some (.int (nI g)), some (.int i), some (.int x), some (.int (nI (nmW g j))), none, none, none, none], [], A) v hend → XCall xM 10 163 [.ref 536, .int (nI g), .int i, .int x] h v hend := fun {v hend} k => by
          refine head3 ?_
          rw [if_pos hx]
          refine XGo.go 1 rfl ?_
          refine XGo.ifn (by decide) ?_
          refine XGo.go 3 rfl ?_
          refine XGo.call _ rfl xm_X7_lates rfl rfl [.ref 536, .int (nI g), .int x] [] rfl rfl (fun _ => ⟨536, _, rfl, o36, by decide, by omega⟩) (Nat.le_of_ble_eq_true rfl) (XCall.up (by decide) cL) ?_
          exact XGo.go 1 rfl k
        by_cases hz : ltS f n m g nc x (2 ^ m) = 0
        · rw [if_pos hz]
          refine ⟨A, head4 (XGo.ifp hz ?_), hfA, fun z z1 _ z3 => oA z z1 z3⟩
          refine XGo.go 1 rfl ?_
          exact XGo.iret _ rfl rfl .int rfl rfl
        · rw [if_neg hz]
          have hBA2 : MBk A (upd f (nmW g j) (f (nmW g j))) := by rw [upd_self]; exact hBA
          obtain ⟨h1, c1, q1, q2⟩ := mm_l W (show g < 6 by omega) hnc hfn hC hj hb hx i 5 0 A _ none rfl hBA2
          refine ⟨h1, head4 (XGo.ifn hz ?_), q1, fun z z1 z2 z3 => (q2 z z1 z2 z3).trans (oA z z1 z3)⟩
          refine XGo.go 1 rfl ?_
          refine XGo.getf rfl (xfd_o oA36 (xlt hNA (by decide)) (by decide) rfl) ?_
          refine XGo.go 1 rfl ?_
          refine XGo.iald rfl (ia_nI hfA (xlt hNA (by decide)) (show nmW g j < 490 by omega) (by decide)) ?_
          exact XGo.go 5 rfl c1
      · rw [if_neg hx]
        refine ⟨h, head3 ?_, hf, fun _ _ _ _ => rfl⟩
        rw [if_neg hx]
        refine XGo.go 1 rfl ?_
        refine XGo.ifp rfl ?_
        refine XGo.go 1 rfl ?_
        exact XGo.iret _ rfl rfl .int rfl rfl
end MM
/-- MEND ON BOTH SIDES -/
theorem G_mend (gr i x : Int32) {L : Nat} {xs : Nat → Int32} {h : XH} (hI : INVg L xs h) : ∃ (v : Int32) (h1 h2 : XH), XCall xM 11 79 [.ref 13, .int gr, .int i, .int x] h (some (.int v)) h1 ∧ AInv w_W h1 ∧ h1.2.2 1 = h.2.2 1 ∧ XCall xM 11 163 [.ref 536, .int gr, .int i, .int x] h1 (some (.int v)) h2 ∧ INVg L xs h2 := by
  obtain ⟨f, n, m, -, hf, W, -⟩ := G_base hI
  obtain ⟨G, T, fw, hH, ⟨hG, hT⟩, f2, f4, ht, hg⟩ := gh_of2 hI hf
  have fin : ∀ (v : Int32) (h1 h2 : XH), XCall xM 9 79 [.ref 13, .int gr, .int i, .int x] h (some (.int v)) h1 → INVg L xs h1 → XCall xM 10 163 [.ref 536, .int gr, .int i, .int x] h1 (some (.int v)) h2 → h1.2.2 537 = .inr (.inl (0, 490, f)) → h2.2.2 537 = .inr (.inl (0, 490, f)) → (∀ z, ¬ z = 536 → ¬ z = 537 → ¬ (539 ≤ z ∧ z ≤ 545) → h2.2.2 z = h1.2.2 z) → ∃ (v : Int32) (h1 h2 : XH), XCall xM 11 79 [.ref 13, .int gr, .int i, .int x] h (some (.int v)) h1 ∧ AInv w_W h1 ∧ h1.2.2 1 = h.2.2 1 ∧ XCall xM 11 163 [.ref 536, .int gr, .int i, .int x] h1 (some (.int v)) h2 ∧ INVg L xs h2 := fun v h1 h2 c1 hI1 c2 f1 f2 o2 => by
    obtain ⟨hw1, gW1, gK1, gS1, gB1⟩ := hI1
    obtain ⟨hw2, gK2, gS2, gB2, x2⟩ := G_mid h_963 (by decide +kernel) rfl (by decide +kernel) (by decide +kernel) (by decide +kernel) (gal536 (galT gr (galT i (galT x gal0)))) hw1 gK1 gS1 gB1 c2
    refine ⟨v, h1, h2, XCall.up (by decide) c1, hw1.1, XCall.ext _ _ _ _ _ _ c1 (by rw [hI.1.1.1]; decide) 1 (by decide), XCall.up (by decide) c2, hw2, gr_pl gW1 fun z hz => ?_, gK2, gS2, gB2⟩
    by_cases z5 : z = 537
    · rw [z5, f1, f2]
    · exact o2 z (by omega) z5 (by omega)
  rcases gr_dec hG gr with hb | ⟨g, hgG, rfl⟩
  · exact fin _ h h (XCall.up (by decide) (k_cme1 0 hI.1.1 hH hG hb)) hI (k_mme1 (mbk_of hI.1.1 hf) hG f2 hb) hf hf fun _ _ _ _ => rfl
  · obtain ⟨nc, Lt, Nt, hnc, hCG, hfn, hC⟩ := cg_of hI.1.1 hI.2.2.2.1 (by omega) (hg g hgG)
    obtain ⟨h1, c1, hI1, o1⟩ := k_cme3 hI hf hH hG W hgG hnc hCG hC i x
    have hf1 := (o1 537 (by omega)).trans hf
    obtain ⟨h2, c2, q1, q2⟩ := k_mme3 (mbk_of hI1.1.1 hf1) hG f2 W hgG hnc hfn hC i x
    exact fin _ h1 h2 c1 hI1 c2 hf1 q1 q2
