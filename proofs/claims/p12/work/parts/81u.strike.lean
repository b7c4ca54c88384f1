/-! strike: which clauses are kept; the class's side -/
def kpS (msk : Int32) (c : Nat) : Bool := decide ((msk >>> (nI c &&& 31)) &&& Int32.ofInt 1 = 0)
def mnS (msk : Int32) : Nat → Nat
  | 0 => 0
  | c + 1 => if kpS msk c = true then mnS msk c + 1 else mnS msk c
def cp4 (L : Nat → Int32) (t : Nat) (Lt : Nat → Int32) (s : Nat) : Nat → Int32 := upd (upd (upd (upd L (4 * t) (Lt (4 * s))) (4 * t + 1) (Lt (4 * s + 1))) (4 * t + 2) (Lt (4 * s + 2))) (4 * t + 3) (Lt (4 * s + 3))
def cpL (msk : Int32) (L0 Lt : Nat → Int32) : Nat → Nat → Int32
  | 0 => L0
  | c + 1 => if kpS msk c = true then cp4 (cpL msk L0 Lt c) (mnS msk c) Lt c else cpL msk L0 Lt c
theorem mnS_t {msk : Int32} {c : Nat} (h : kpS msk c = true) : mnS msk (c + 1) = mnS msk c + 1 := if_pos h
theorem mnS_f {msk : Int32} {c : Nat} (h : ¬ kpS msk c = true) : mnS msk (c + 1) = mnS msk c := if_neg h
theorem mnS_le {msk : Int32} : ∀ c, mnS msk c ≤ c
  | 0 => Nat.le_refl 0
  | c + 1 => by
    have := mnS_le (msk := msk) c
    by_cases h : kpS msk c = true
    · rw [mnS_t h]; omega
    · rw [mnS_f h]; omega
theorem mnS_mono {msk : Int32} {a : Nat} : ∀ q, mnS msk a ≤ mnS msk (a + q)
  | 0 => Nat.le_refl _
  | q + 1 => by
    have := mnS_mono (msk := msk) (a := a) q
    by_cases h : kpS msk (a + q) = true
    · rw [show a + (q + 1) = a + q + 1 by omega, mnS_t h]; omega
    · rw [show a + (q + 1) = a + q + 1 by omega, mnS_f h]; omega
theorem mnS_lt {msk : Int32} {j c : Nat} (hj : j < c) (h : kpS msk j = true) : mnS msk j < mnS msk c := by
  have := mnS_mono (msk := msk) (a := j + 1) (c - (j + 1))
  rw [show j + 1 + (c - (j + 1)) = c by omega, mnS_t h] at this
  omega
theorem mnS_on {msk : Int32} : ∀ (c i : Nat), i < mnS msk c → ∃ j, j < c ∧ kpS msk j = true ∧ mnS msk j = i
  | 0, i, h => absurd h (Nat.not_lt_zero _)
  | c + 1, i, h => by
    by_cases k : kpS msk c = true
    · rw [mnS_t k] at h
      by_cases e : i = mnS msk c
      · exact ⟨c, by omega, k, e.symm⟩
      · obtain ⟨j, j1, j2, j3⟩ := mnS_on (msk := msk) c i (by omega)
        exact ⟨j, by omega, j2, j3⟩
    · rw [mnS_f k] at h
      obtain ⟨j, j1, j2, j3⟩ := mnS_on (msk := msk) c i h
      exact ⟨j, by omega, j2, j3⟩
theorem cp4_lo {L Lt : Nat → Int32} {t s j : Nat} (hj : j < 4 * t) : cp4 L t Lt s j = L j := by
  unfold cp4 upd
  rw [if_neg (by omega), if_neg (by omega), if_neg (by omega), if_neg (by omega)]
theorem cp4_at {L Lt : Nat → Int32} {t s q : Nat} (hq : q < 4) : cp4 L t Lt s (4 * t + q) = Lt (4 * s + q) := by
  unfold cp4 upd
  match q, hq with
  | 0, _ => rw [if_neg (by omega), if_neg (by omega), if_neg (by omega), if_pos (by omega)]; rfl
  | 1, _ => rw [if_neg (by omega), if_neg (by omega), if_pos (by omega)]
  | 2, _ => rw [if_neg (by omega), if_pos (by omega)]
  | 3, _ => rw [if_pos (by omega)]
theorem cpL_at {msk : Int32} {L0 Lt : Nat → Int32} : ∀ (c j : Nat), j < c → kpS msk j = true → ∀ q, q < 4 → cpL msk L0 Lt c (4 * mnS msk j + q) = Lt (4 * j + q)
  | 0, j, h, _, _, _ => absurd h (Nat.not_lt_zero _)
  | c + 1, j, h, k, q, hq => by
    unfold cpL
    by_cases e : j = c
    · subst e
      rw [if_pos k]
      exact cp4_at hq
    · have hj : j < c := by omega
      by_cases kc : kpS msk c = true
      · rw [if_pos kc]
        have := mnS_lt hj k
        rw [cp4_lo (by omega)]
        exact cpL_at c j hj k q hq
      · rw [if_neg kc]
        exact cpL_at c j hj k q hq
/-- a heap with this draft -/
def DH (h : XH) (k : Int32) (L N : Nat → Int32) : XH := (549, 14048, fun j => if j = 84 then .inl (1, [.int k, .ref 85, .ref 86]) else if j = 85 then .inr (.inl (0, 24, L)) else if j = 86 then .inr (.inl (0, 24, N)) else h.2.2 j)
section DD
variable {h : XH} {k : Int32} {L N : Nat → Int32}
theorem DH.ne {z : Nat} (hz : z < 84 ∨ 86 < z) : (DH h k L N).2.2 z = h.2.2 z := by
  show (if z = 84 then _ else if z = 85 then _ else if z = 86 then _ else h.2.2 z) = _
  rw [if_neg (by omega), if_neg (by omega), if_neg (by omega)]
theorem DH.cla {k2 : Int32} : xup (DH h k L N) 84 (.inl (1, [.int k2, .ref 85, .ref 86])) = DH h k2 L N := by
  unfold xup DH
  refine Prod.ext rfl (Prod.ext rfl (funext fun j => ?_))
  dsimp only
  by_cases q : j = 84
  · rw [if_pos q, if_pos q]
  · rw [if_neg q, if_neg q, if_neg q]
theorem DH.let {L2 : Nat → Int32} : xup (DH h k L N) 85 (.inr (.inl (0, 24, L2))) = DH h k L2 N := by
  unfold xup DH
  refine Prod.ext rfl (Prod.ext rfl (funext fun j => ?_))
  dsimp only
  by_cases q : j = 85
  · rw [if_pos q, if_neg (by omega), if_pos q]
  · rw [if_neg q]
    by_cases q2 : j = 84
    · rw [if_pos q2, if_pos q2]
    · rw [if_neg q2, if_neg q, if_neg q2, if_neg q]
theorem DH.num {N2 : Nat → Int32} : xup (DH h k L N) 86 (.inr (.inl (0, 24, N2))) = DH h k L N2 := by
  unfold xup DH
  refine Prod.ext rfl (Prod.ext rfl (funext fun j => ?_))
  dsimp only
  by_cases q : j = 86
  · rw [if_pos q, if_neg (by omega), if_neg (by omega), if_pos q]
  · rw [if_neg q]
    by_cases q2 : j = 84
    · rw [if_pos q2, if_pos q2]
    · rw [if_neg q2, if_neg q2]
      by_cases q3 : j = 85
      · rw [if_pos q3, if_pos q3]
      · rw [if_neg q3, if_neg q, if_neg q3, if_neg q]
theorem DH.of (hN : h.1 = 549) (hS : h.2.1 = 14048) (hG : CG h 84 k L N) : h = DH h k L N := by
  refine Prod.ext hN (Prod.ext hS (funext fun j => ?_))
  show _ = (if j = 84 then _ else if j = 85 then _ else if j = 86 then _ else h.2.2 j)
  by_cases q : j = 84
  · rw [if_pos q, q]; exact hG.1
  · rw [if_neg q]
    by_cases q2 : j = 85
    · rw [if_pos q2, q2]; exact hG.2.1
    · rw [if_neg q2]
      by_cases q3 : j = 86
      · rw [if_pos q3, q3]; exact hG.2.2
      · rw [if_neg q3]
theorem dh_fill85 {h1 : XH} {g : Nat → Int32} (o : RO 85 (DH h k L N) h1) (e : h1.2.2 85 = .inr (.inl (0, 24, g))) : h1 = DH h k g N := by
  refine Prod.ext o.1 (Prod.ext o.2.1 (funext fun j => ?_))
  by_cases q : j = 85
  · rw [q, e]
    rfl
  · rw [o.2.2 j q]
    show (if j = 84 then _ else if j = 85 then _ else if j = 86 then _ else h.2.2 j) = (if j = 84 then _ else if j = 85 then _ else if j = 86 then _ else h.2.2 j)
    simp only [if_neg q]
theorem dh_fill86 {h1 : XH} {g : Nat → Int32} (o : RO 86 (DH h k L N) h1) (e : h1.2.2 86 = .inr (.inl (0, 24, g))) : h1 = DH h k L g := by
  refine Prod.ext o.1 (Prod.ext o.2.1 (funext fun j => ?_))
  by_cases q : j = 86
  · rw [q, e]
    rfl
  · rw [o.2.2 j q]
    show (if j = 84 then _ else if j = 85 then _ else if j = 86 then _ else h.2.2 j) = (if j = 84 then _ else if j = 85 then _ else if j = 86 then _ else h.2.2 j)
    simp only [if_neg q]
set_option maxRecDepth 100000 in
theorem k_clear84 (d : Nat) : ∃ L2 N2 : Nat → Int32, XCall xM (d + 2) 11 [.ref 84] (DH h k L N) none (DH h (Int32.ofInt 0) L2 N2) := by
  obtain ⟨h1, g1, c1, o1, e1, z1⟩ := k_fill d (h := DH h (Int32.ofInt 0) L N) (r := 85) (n := 24) (f := L) rfl (Nat.le_of_ble_eq_true rfl) (by decide) (by decide) (Int32.ofInt 0)
  have r1 := dh_fill85 o1 e1
  subst r1
  obtain ⟨h2, g2, c2, o2, e2, z2⟩ := k_fill d (h := DH h (Int32.ofInt 0) g1 N) (r := 86) (n := 24) (f := N) rfl (Nat.le_of_ble_eq_true rfl) (by decide) (by decide) (Int32.ofInt 0)
  have r2 := dh_fill86 o2 e2
  subst r2
  refine ⟨g1, g2, XCall.of (M := xm_X1_clear) rfl (Nat.le_of_ble_eq_true rfl) ?_⟩
  refine XGo.go 2 rfl ?_
  refine XGo.putf rfl (rfl : (DH h k L N).2.2 84 = _) (Nat.le_of_ble_eq_true rfl) (by decide) (Nat.le_of_ble_eq_true rfl) rfl rfl ?_
  show XGo _ _ (5, _, [], xup (DH h k L N) 84 (.inl (1, [.int (Int32.ofInt 0), .ref 85, .ref 86]))) _ _
  rw [DH.cla]
  refine XGo.go 3 rfl ?_
  refine XGo.call _ rfl xm_X6_fill rfl rfl [.ref 85, .int (Int32.ofInt 0)] [] rfl rfl (fun z => absurd rfl z) (Nat.le_of_ble_eq_true rfl) c1 ?_
  refine XGo.go 3 rfl ?_
  refine XGo.call _ rfl xm_X6_fill rfl rfl [.ref 86, .int (Int32.ofInt 0)] [] rfl rfl (fun z => absurd rfl z) (Nat.le_of_ble_eq_true rfl) c2 ?_
  exact XGo.vret _ rfl rfl rfl
theorem dput_l (d : Nat) {j : Nat} (hj : j < 24) (x : Int32) : XCall xM (d + 1) 103 [.ref 85, .int (nI j), .int x] (DH h k L N) none (DH h k (upd L j x) N) := by
  have q := k_put d (DH h k L N) 85 24 L (nI j) x rfl (Nat.le_of_ble_eq_true rfl) (by decide) (by decide)
  rw [if_neg (ca_nI hj (by decide)), xnI_nat (by omega), DH.let] at q
  exact q
theorem dput_n (d : Nat) {j : Nat} (hj : j < 24) (x : Int32) : XCall xM (d + 1) 103 [.ref 86, .int (nI j), .int x] (DH h k L N) none (DH h k L (upd N j x)) := by
  have q := k_put d (DH h k L N) 86 24 N (nI j) x rfl (Nat.le_of_ble_eq_true rfl) (by decide) (by decide)
  rw [if_neg (ca_nI hj (by decide)), xnI_nat (by omega), DH.num] at q
  exact q
set_option maxRecDepth 100000 in
theorem k_say84 (d : Nat) {c q : Nat} (hc : c < 6) (hq : q < 4) (l x : Int32) : XCall xM (d + 2) 14 [.ref 84, .int (nI c), .int (nI q), .int l, .int x] (DH h k L N) none (DH h k (upd L (4 * c + q) l) (upd N (4 * c + q) x)) := by
  have e := c4p ⟨c, by omega⟩ ⟨q, hq⟩
  dsimp only at e
  refine XCall.of (M := xm_X1_say) rfl (Nat.le_of_ble_eq_true rfl) ?_
  refine XGo.go 8 rfl ?_
  refine XGo.top2 e ?_
  refine XGo.call _ rfl xm_X6_put rfl rfl [.ref 85, .int (nI (4 * c + q)), .int l] [] rfl rfl (fun z => absurd rfl z) (Nat.le_of_ble_eq_true rfl) (dput_l d (by omega) l) ?_
  refine XGo.go 8 rfl ?_
  refine XGo.top2 e ?_
  refine XGo.call _ rfl xm_X6_put rfl rfl [.ref 86, .int (nI (4 * c + q)), .int x] [] rfl rfl (fun z => absurd rfl z) (Nat.le_of_ble_eq_true rfl) (dput_n d (by omega) x) ?_
  exact XGo.vret _ rfl rfl rfl
end DD
section LN
variable {H : XH} {p nc : Nat} {Lt Nt : Nat → Int32}
set_option maxRecDepth 100000 in
theorem k_let2 (d : Nat) (hN : H.1 = 549) (hG : CG H p (nI nc) Lt Nt) (hp : 13 ≤ p ∧ p + 2 < 549) {c q : Nat} (hc : c < 6) (hq : q < 4) : XCall xM (d + 1) 15 [.ref p, .int (nI c), .int (nI q)] H (some (.int (Lt (4 * c + q)))) H := by
  refine XCall.of (M := xm_X1_letter) rfl (Nat.le_of_ble_eq_true rfl) ?_
  refine XGo.go 5 rfl ?_
  refine XGo.top (c4p ⟨c, by omega⟩ ⟨q, hq⟩) ?_
  refine XGo.go 3 rfl ?_
  refine XGo.ifn (xnI_lt0 (by show 4 * c + q < 2147483648; omega)) ?_
  refine XGo.go 2 rfl ?_
  refine XGo.getf rfl (xfd_o hG.1 (xlt hN (by omega)) (by omega) rfl) ?_
  refine XGo.alen rfl (xlen_i hG.2.1 (xlt hN (by omega)) (by decide)) ?_
  refine XGo.go 1 rfl ?_
  refine XGo.ifn (fun z => absurd ((xnI_ge (m := 24) (by decide) (by show 4 * c + q < 2147483648; omega)).mp z) (by show ¬ 24 ≤ 4 * c + q; omega)) ?_
  refine XGo.go 1 rfl ?_
  refine XGo.getf rfl (xfd_o hG.1 (xlt hN (by omega)) (by omega) rfl) ?_
  refine XGo.go 1 rfl ?_
  refine XGo.iald rfl (ia_nI hG.2.1 (xlt hN (by omega)) (show 4 * c + q < 24 by omega) (by decide)) ?_
  refine XGo.go 1 rfl ?_
  exact XGo.iret _ rfl rfl .int rfl rfl
set_option maxRecDepth 100000 in
theorem k_num2 (d : Nat) (hN : H.1 = 549) (hG : CG H p (nI nc) Lt Nt) (hp : 13 ≤ p ∧ p + 2 < 549) {c q : Nat} (hc : c < 6) (hq : q < 4) : XCall xM (d + 1) 16 [.ref p, .int (nI c), .int (nI q)] H (some (.int (Nt (4 * c + q)))) H := by
  refine XCall.of (M := xm_X1_number) rfl (Nat.le_of_ble_eq_true rfl) ?_
  refine XGo.go 5 rfl ?_
  refine XGo.top (c4p ⟨c, by omega⟩ ⟨q, hq⟩) ?_
  refine XGo.go 3 rfl ?_
  refine XGo.ifn (xnI_lt0 (by show 4 * c + q < 2147483648; omega)) ?_
  refine XGo.go 2 rfl ?_
  refine XGo.getf rfl (xfd_o hG.1 (xlt hN (by omega)) (by omega) rfl) ?_
  refine XGo.alen rfl (xlen_i hG.2.2 (xlt hN (by omega)) (by decide)) ?_
  refine XGo.go 1 rfl ?_
  refine XGo.ifn (fun z => absurd ((xnI_ge (m := 24) (by decide) (by show 4 * c + q < 2147483648; omega)).mp z) (by show ¬ 24 ≤ 4 * c + q; omega)) ?_
  refine XGo.go 1 rfl ?_
  refine XGo.getf rfl (xfd_o hG.1 (xlt hN (by omega)) (by omega) rfl) ?_
  refine XGo.go 1 rfl ?_
  refine XGo.iald rfl (ia_nI hG.2.2 (xlt hN (by omega)) (show 4 * c + q < 24 by omega) (by decide)) ?_
  refine XGo.go 1 rfl ?_
  exact XGo.iret _ rfl rfl .int rfl rfl
end LN
section RW
variable {h : XH} {p nc : Nat} {Lt Nt : Nat → Int32}
theorem dh_cg {k : Int32} {L N : Nat → Int32} (hG : CG h p (nI nc) Lt Nt) (hp : p + 2 < 84) : CG (DH h k L N) p (nI nc) Lt Nt := ⟨(DH.ne (by omega)).trans hG.1, (DH.ne (by omega)).trans hG.2.1, (DH.ne (by omega)).trans hG.2.2⟩
set_option maxRecDepth 100000 in
theorem rw_one (d : Nat) (hG : CG h p (nI nc) Lt Nt) (hp : 13 ≤ p ∧ p + 2 < 84) {msk : Int32} {c t q : Nat} (hc : c < 6) (ht : t < 6) (hq : q < 4) {L N : Nat → Int32} {v : Option Value} {hend : XH} (k : XGo (d + 2) xm_X1_repeatWithout (25, [some (.ref 84), some (.ref p), some (.int msk), some (.int (nI c)), some (.int (nI (q + 1)))], [], DH h (nI t) (upd L (4 * t + q) (Lt (4 * c + q))) (upd N (4 * t + q) (Nt (4 * c + q)))) v hend) : XGo (d + 2) xm_X1_repeatWithout (25, [some (.ref 84), some (.ref p), some (.int msk), some (.int (nI c)), some (.int (nI q))], [], DH h (nI t) L N) v hend := by
  have hD := dh_cg (k := nI t) (L := L) (N := N) hG hp.2
  have hp2 : 13 ≤ p ∧ p + 2 < 549 := by omega
  have lp : p < (DH h (nI t) L N).1 := by show p < 549; omega
  refine XGo.go 3 rfl ?_
  refine XGo.ifn (fun z => absurd ((xnI_ge (m := 4) (by decide) (by omega)).mp z) (by omega)) ?_
  refine XGo.go 7 rfl ?_
  refine XGo.call _ rfl xm_X1_letter rfl rfl [.ref p, .int (nI c), .int (nI q)] [.int (nI q), .int (nI t), .ref 84] rfl rfl (fun _ => ⟨p, _, rfl, hD.1, by omega, lp⟩) (Nat.le_of_ble_eq_true rfl) (k_let2 (d + 1) rfl hD hp2 hc hq) ?_
  refine XGo.go 3 rfl ?_
  refine XGo.call _ rfl xm_X1_number rfl rfl [.ref p, .int (nI c), .int (nI q)] [.int (Lt (4 * c + q)), .int (nI q), .int (nI t), .ref 84] rfl rfl (fun _ => ⟨p, _, rfl, hD.1, by omega, lp⟩) (Nat.le_of_ble_eq_true rfl) (k_num2 (d + 1) rfl hD hp2 hc hq) ?_
  refine XGo.call _ rfl xm_X1_say rfl rfl [.ref 84, .int (nI t), .int (nI q), .int (Lt (4 * c + q)), .int (Nt (4 * c + q))] [] rfl rfl (fun _ => ⟨84, _, rfl, rfl, by decide, Nat.le_of_ble_eq_true rfl⟩) (Nat.le_of_ble_eq_true rfl) (k_say84 d ht hq _ _) ?_
  refine XGo.go 2 rfl ?_
  rw [← show nI q + Int32.ofInt 1 = nI (q + 1) from nI_1 q] at k
  exact k
set_option maxRecDepth 100000 in
theorem rw_l (d : Nat) (hG : CG h p (nI nc) Lt Nt) (hp : 13 ≤ p ∧ p + 2 < 84) (hnc : nc ≤ 6) (msk : Int32) (L0 N0 : Nat → Int32) : ∀ (q c : Nat) (l4 : Option Value), c + q = nc → XGo (d + 2) xm_X1_repeatWithout (6, [some (.ref 84), some (.ref p), some (.int msk), some (.int (nI c)), l4], [], DH h (nI (mnS msk c)) (cpL msk L0 Lt c) (cpL msk N0 Nt c)) none (DH h (nI (mnS msk nc)) (cpL msk L0 Lt nc) (cpL msk N0 Nt nc))
  | q, c, l4, hq => by
    have hD := dh_cg (k := nI (mnS msk c)) (L := cpL msk L0 Lt c) (N := cpL msk N0 Nt c) hG hp.2
    have lp : p < (DH h (nI (mnS msk c)) (cpL msk L0 Lt c) (cpL msk N0 Nt c)).1 := by show p < 549; omega
    have ml := mnS_le (msk := msk) c
    have head : ∀ {v : Option Value} {hend : XH}, XGo (d + 2) xm_X1_repeatWithout (if nI nc ≤ nI c then 77 else 14, [some (.ref 84), some (.ref p), some (.int msk), some (.int (nI c)), l4], [], DH h (nI (mnS msk c)) (cpL msk L0 Lt c) (cpL msk N0 Nt c)) v hend → XGo (d + 2) xm_X1_repeatWithout (6, [some (.ref 84), some (.ref p), some (.int msk), some (.int (nI c)), l4], [], DH h (nI (mnS msk c)) (cpL msk L0 Lt c) (cpL msk N0 Nt c)) v hend := fun {v hend} g => by
      refine XGo.go 2 rfl ?_
      refine XGo.getf rfl (xfd_o hD.1 lp (by omega) rfl) ?_
      exact XGo.go 1 rfl g
    match q, hq with
    | 0, hq =>
      have hq : c = nc := by omega
      subst hq
      exact head (XGo.ifp (Int32.le_refl _) (XGo.vret _ rfl rfl rfl))
    | q + 1, hq =>
      refine head (XGo.ifn (fun z => absurd ((xnI_ge (by omega) (by omega)).mp z) (by omega)) ?_)
      refine XGo.go 6 rfl ?_
      by_cases kc : kpS msk c = true
      · have z : (msk >>> (nI c &&& 31)) &&& Int32.ofInt 1 = 0 := of_decide_eq_true kc
        have nx := rw_l d hG hp hnc msk L0 N0 q (c + 1) (some (.int (nI 4))) (by omega)
        rw [mnS_t kc, show cpL msk L0 Lt (c + 1) = cp4 (cpL msk L0 Lt c) (mnS msk c) Lt c from if_pos kc, show cpL msk N0 Nt (c + 1) = cp4 (cpL msk N0 Nt c) (mnS msk c) Nt c from if_pos kc] at nx
        refine XGo.ifp z ?_
        refine XGo.go 2 rfl ?_
        refine rw_one d hG hp (by omega) (show mnS msk c < 6 by omega) (q := 0) (by decide) ?_
        refine rw_one d hG hp (by omega) (show mnS msk c < 6 by omega) (q := 1) (by decide) ?_
        refine rw_one d hG hp (by omega) (show mnS msk c < 6 by omega) (q := 2) (by decide) ?_
        refine rw_one d hG hp (by omega) (show mnS msk c < 6 by omega) (q := 3) (by decide) ?_
        refine XGo.go 3 rfl ?_
        refine XGo.ifp (by decide) ?_
        refine XGo.go 5 rfl ?_
        refine XGo.putf rfl (rfl : (DH h (nI (mnS msk c)) _ _).2.2 84 = _) (Nat.le_of_ble_eq_true rfl) (by decide) (Nat.le_of_ble_eq_true rfl) rfl rfl ?_
        show XGo _ _ (71, _, [], xup (DH h (nI (mnS msk c)) _ _) 84 (.inl (1, [.int (nI (mnS msk c) + Int32.ofInt 1), .ref 85, .ref 86]))) _ _
        rw [DH.cla, show nI (mnS msk c) + Int32.ofInt 1 = nI (mnS msk c + 1) from nI_1 _]
        refine XGo.go 2 rfl ?_
        show XGo _ _ (6, [some (.ref 84), some (.ref p), some (.int msk), some (.int (nI c + Int32.ofInt 1)), some (.int (nI 4))], [], _) _ _
        rw [show nI c + Int32.ofInt 1 = nI (c + 1) from nI_1 c]
        exact nx
      · have z : ¬ (msk >>> (nI c &&& 31)) &&& Int32.ofInt 1 = 0 := fun w => kc (decide_eq_true w)
        have nx := rw_l d hG hp hnc msk L0 N0 q (c + 1) l4 (by omega)
        rw [mnS_f kc, show cpL msk L0 Lt (c + 1) = cpL msk L0 Lt c from if_neg kc, show cpL msk N0 Nt (c + 1) = cpL msk N0 Nt c from if_neg kc, ← show nI c + Int32.ofInt 1 = nI (c + 1) from nI_1 c] at nx
        refine XGo.ifn z ?_
        exact XGo.go 2 rfl nx
  termination_by q => q
/-- Grant.repeatWithout onto the draft -/
theorem k_rw (d : Nat) (hN : h.1 = 549) (hS : h.2.1 = 14048) {k : Int32} {L N : Nat → Int32} (h84 : CG h 84 k L N) (hG : CG h p (nI nc) Lt Nt) (hp : 13 ≤ p ∧ p + 2 < 84) (hnc : nc ≤ 6) (msk : Int32) : ∃ L0 N0 : Nat → Int32, XCall xM (d + 3) 13 [.ref 84, .ref p, .int msk] h none (DH h (nI (mnS msk nc)) (cpL msk L0 Lt nc) (cpL msk N0 Nt nc)) := by
  obtain ⟨L0, N0, cC⟩ := k_clear84 (h := h) (k := k) (L := L) (N := N) d
  rw [← DH.of hN hS h84] at cC
  refine ⟨L0, N0, XCall.of (M := xm_X1_repeatWithout) rfl (Nat.le_of_ble_eq_true rfl) ?_⟩
  refine XGo.go 1 rfl ?_
  refine XGo.call _ rfl xm_X1_clear rfl rfl [.ref 84] [] rfl rfl (fun _ => ⟨84, _, rfl, h84.1, by decide, by omega⟩) (Nat.le_of_ble_eq_true rfl) cC ?_
  exact XGo.go 2 rfl (rw_l d hG hp hnc msk L0 N0 nc 0 none (by omega))
end RW
/-! strike: the model's side; which grant is meant -/
def cp8 (f : Nat → Int32) (t s : Nat) : Nat → Int32 := fun j => if t ≤ j ∧ j < t + 8 then f (s + (j - t)) else f j
def cpF (msk : Int32) (f : Nat → Int32) (g G : Nat) : Nat → Nat → Int32
  | 0 => f
  | c + 1 => if kpS msk c = true then cp8 (cpF msk f g G c) (atC G (mnS msk c)) (atC g c) else cpF msk f g G c
theorem cpF_out {msk : Int32} {f : Nat → Int32} {g G : Nat} : ∀ c, c ≤ 6 → ∀ j, (j < 140 + 48 * G ∨ 188 + 48 * G ≤ j) → cpF msk f g G c j = f j
  | 0, _, _, _ => rfl
  | c + 1, hc, j, hj => by
    unfold cpF
    have := mnS_le (msk := msk) c
    split
    · unfold cp8 atC
      rw [if_neg (by omega)]
      exact cpF_out c (by omega) j hj
    · exact cpF_out c (by omega) j hj
theorem cpF_at {msk : Int32} {f : Nat → Int32} {g G : Nat} (hg : g < G) : ∀ (c j : Nat), c ≤ 6 → j < c → kpS msk j = true → ∀ q, q < 8 → cpF msk f g G c (atC G (mnS msk j) + q) = f (atC g j + q)
  | 0, j, _, h, _, _, _ => absurd h (Nat.not_lt_zero _)
  | c + 1, j, hc, h, k, q, hq => by
    unfold cpF
    have ml := mnS_le (msk := msk) c
    by_cases e : j = c
    · subst e
      rw [if_pos k]
      unfold cp8
      rw [if_pos (by omega), show atC g j + (atC G (mnS msk j) + q - atC G (mnS msk j)) = atC g j + q by omega]
      exact cpF_out j (by omega) _ (Or.inl (by unfold atC; omega))
    · have hj : j < c := by omega
      by_cases kc : kpS msk c = true
      · rw [if_pos kc]
        have := mnS_lt hj k
        unfold cp8
        rw [if_neg (by unfold atC; omega)]
        exact cpF_at hg c j (by omega) hj k q hq
      · rw [if_neg kc]
        exact cpF_at hg c j (by omega) hj k q hq
theorem xup_sm {h : XH} {k : Nat} {e : XE} (hk : h.2.2 k = e) : xup h k e = h := by
  refine Prod.ext rfl (Prod.ext rfl (funext fun j => ?_))
  by_cases hj : j = k
  · subst hj
    rw [xup_eq, hk]
  · rw [xup_ne _ _ hj]
/-- the numbers of grants -/
theorem gr_dec {G : Nat} (hG : G ≤ 6) (gr : Int32) : (¬ (0 ≤ gr.toInt ∧ gr.toInt < (G : Int))) ∨ ∃ g, g < G ∧ gr = nI g := by
  by_cases h : 0 ≤ gr.toInt ∧ gr.toInt < (G : Int)
  · obtain ⟨e, e2⟩ := i32_nI (x := gr) (hi := (G : Int) - 1) h.1 (by omega)
    exact Or.inr ⟨gr.toNatClampNeg, by omega, e⟩
  · exact Or.inl h
section GA
variable {h : XH} {fw : List Value} {G T : Nat}
set_option maxRecDepth 100000 in
theorem k_gAt (d : Nat) (hH : GH h fw G T) {g : Nat} (hg : g < G) (hG : G ≤ 6) : XCall xM (d + 1) 58 [.ref 14, .int (nI g)] h (some (.ref (24 + 3 * g))) h := by
  have hN := hH.N
  obtain ⟨f, o20, ef⟩ := hH.o20
  refine XCall.of (M := xm_X5_grantAt) rfl (Nat.le_of_ble_eq_true rfl) ?_
  refine XGo.go 2 rfl ?_
  refine XGo.ifn (xnI_lt0 (by omega)) ?_
  refine XGo.go 2 rfl ?_
  refine XGo.getf rfl (xfd_o hH.o14 (xlt hN (by decide)) (by decide) hH.w7) ?_
  refine XGo.go 1 rfl ?_
  refine XGo.ifn (fun z => absurd ((xnI_ge (by omega) (by omega)).mp z) (by omega)) ?_
  refine XGo.go 2 rfl ?_
  refine XGo.getf rfl (xfd_o hH.o14 (xlt hN (by decide)) (by decide) hH.w8) ?_
  refine XGo.alen rfl (xlen_r o20 (xlt hN (by decide)) (by decide) (Or.inr rfl)) ?_
  refine XGo.go 1 rfl ?_
  refine XGo.ifn (fun z => absurd ((xnI_ge (m := 6) (by decide) (by omega)).mp z) (by omega)) ?_
  refine XGo.go 1 rfl ?_
  refine XGo.getf rfl (xfd_o hH.o14 (xlt hN (by decide)) (by decide) hH.w8) ?_
  refine XGo.go 1 rfl ?_
  refine XGo.aald rfl (xra_of hN o20 (by omega)) ?_
  rw [ef g (by omega)]
  refine XGo.go 1 rfl ?_
  exact XGo.aret _ rfl rfl _ rfl (Or.inr ⟨_, rfl⟩)
set_option maxRecDepth 100000 in
theorem k_gNo (d : Nat) (hH : GH h fw G T) (hG : G ≤ 6) {gr : Int32} (hb : ¬ (0 ≤ gr.toInt ∧ gr.toInt < (G : Int))) : XCall xM (d + 1) 58 [.ref 14, .int gr] h (some .null) h := by
  have hN := hH.N
  have tG := nI_toInt (n := G) (by omega)
  refine XCall.of (M := xm_X5_grantAt) rfl (Nat.le_of_ble_eq_true rfl) ?_
  refine XGo.go 2 rfl ?_
  by_cases h0 : gr < 0
  · refine XGo.ifp h0 ?_
    refine XGo.go 1 rfl ?_
    exact XGo.aret _ rfl rfl _ rfl (Or.inl rfl)
  · have e0 : ¬ gr.toInt < 0 := fun q => h0 (lt0_iff.mpr q)
    refine XGo.ifn h0 ?_
    refine XGo.go 2 rfl ?_
    refine XGo.getf rfl (xfd_o hH.o14 (xlt hN (by decide)) (by decide) hH.w7) ?_
    refine XGo.go 1 rfl ?_
    refine XGo.ifp (Int32.le_iff_toInt_le.mpr (by omega)) ?_
    refine XGo.go 1 rfl ?_
    exact XGo.aret _ rfl rfl _ rfl (Or.inl rfl)
end GA
section MG
variable {h : XH} {f : Nat → Int32} {G : Nat}
set_option maxRecDepth 100000 in
theorem k_isGr (d : Nat) (hB : MBk h f) (hG : G ≤ 6) (f2 : f 2 = nI G) (gr : Int32) : XCall xM (d + 2) 108 [.ref 536, .int gr] h (some (.int (if 0 ≤ gr.toInt ∧ gr.toInt < (G : Int) then 1 else 0))) h := by
  obtain ⟨hN, hS, ⟨e, o36⟩, hf, -⟩ := hB
  refine XCall.of (M := xm_X7_isGrant) rfl (Nat.le_of_ble_eq_true rfl) ?_
  refine XGo.go 3 rfl ?_
  refine XGo.getf rfl (xfd_o o36 (xlt hN (by decide)) (by decide) rfl) ?_
  refine XGo.go 1 rfl ?_
  refine XGo.iald rfl (ia_nI (k := 2) hf (xlt hN (by decide)) (by decide) (by decide)) ?_
  rw [f2]
  refine XGo.go 2 rfl ?_
  have q := k_inI d h gr (Int32.ofInt 0) (nI G - Int32.ofInt 1)
  have z : (nI G - Int32.ofInt 1).toInt = (G : Int) - 1 := by
    have t : ∀ G : Fin 7, (nI G.val - Int32.ofInt 1).toInt = (G.val : Int) - 1 := by decide +kernel
    exact t ⟨G, by omega⟩
  have e2 : ((Int32.ofInt 0).toInt ≤ gr.toInt ∧ gr.toInt ≤ (nI G - Int32.ofInt 1).toInt) = (0 ≤ gr.toInt ∧ gr.toInt < (G : Int)) := propext (by
    rw [z, show (Int32.ofInt 0).toInt = 0 by decide]
    exact ⟨fun q => ⟨q.1, by omega⟩, fun q => ⟨q.1, by omega⟩⟩)
  have q2 : XCall xM (d + 1) 107 [.int gr, .int (Int32.ofInt 0), .int (nI G - Int32.ofInt 1)] h (some (.int (if 0 ≤ gr.toInt ∧ gr.toInt < (G : Int) then 1 else 0))) h := by
    by_cases hc : 0 ≤ gr.toInt ∧ gr.toInt < (G : Int)
    · rw [if_pos hc]
      rw [if_pos (by rw [e2]; exact hc)] at q
      exact q
    · rw [if_neg hc]
      rw [if_neg (by rw [e2]; exact hc)] at q
      exact q
  refine XGo.call _ rfl xm_X7_in rfl rfl [.int gr, .int (Int32.ofInt 0), .int (nI G - Int32.ofInt 1)] [] rfl rfl (fun z => absurd rfl z) (Nat.le_of_ble_eq_true rfl) q2 ?_
  exact XGo.iret _ rfl rfl .boolean rfl (by split <;> rfl)
theorem k_in40 (d : Nat) (h : XH) (x : Int32) : XCall xM (d + 1) 107 [.int x, .int (Int32.ofInt 0), .int i40] h (some (.int (if 0 ≤ x.toInt ∧ x.toInt ≤ 40 then 1 else 0))) h := by
  have q := k_inI d h x (Int32.ofInt 0) i40
  rw [show (Int32.ofInt 0).toInt = 0 by decide, show i40.toInt = 40 by decide] at q
  exact q
abbrev msL (g : Nat) (x msk : Int32) (G t c : Nat) (l7 : Option Value) : XL := [some (.ref 536), some (.int (nI g)), some (.int x), some (.int msk), some (.int (nI G)), some (.int (nI t)), some (.int (nI c)), l7]
set_option maxRecDepth 100000 in
theorem ms_l (d : Nat) {e : Nat → Int32} (hN : h.1 = 549) (o36 : h.2.2 536 = .inl (7, mO e)) {g nc : Nat} (hgG : g < G) (hG : G < 6) (hnc : nc ≤ 6) (hfn : f (130 + g) = nI nc) (x msk : Int32) {v : Option Value} {hend : XH} (fin : ∀ l7, XGo (d + 1) xm_X7_strike (146, msL g x msk G (mnS msk nc) nc l7, [], xup h 537 (.inr (.inl (0, 490, cpF msk f g G nc)))) v hend) : ∀ (q c : Nat) (l7 : Option Value), c + q = nc → XGo (d + 1) xm_X7_strike (68, msL g x msk G (mnS msk c) c l7, [], xup h 537 (.inr (.inl (0, 490, cpF msk f g G c)))) v hend
  | q, c, l7, hq => by
    have hN' : (xup h 537 (.inr (.inl (0, 490, cpF msk f g G c)))).1 = 549 := hN
    have o36' : (xup h 537 (.inr (.inl (0, 490, cpF msk f g G c)))).2.2 536 = .inl (7, mO e) := (xup_ne _ _ (by decide)).trans o36
    have hf' : (xup h 537 (.inr (.inl (0, 490, cpF msk f g G c)))).2.2 537 = .inr (.inl (0, 490, cpF msk f g G c)) := xup_eq _ _ _
    have ml := mnS_le (msk := msk) c
    have head : XGo (d + 1) xm_X7_strike (if nI nc ≤ nI c then 146 else 83, msL g x msk G (mnS msk c) c l7, [], xup h 537 (.inr (.inl (0, 490, cpF msk f g G c)))) v hend → XGo (d + 1) xm_X7_strike (68, msL g x msk G (mnS msk c) c l7, [], xup h 537 (.inr (.inl (0, 490, cpF msk f g G c)))) v hend := fun k => by
      refine XGo.go 2 rfl ?_
      refine XGo.getf rfl (xfd_o o36' (xlt hN' (by decide)) (by decide) rfl) ?_
      refine XGo.go 3 rfl ?_
      refine XGo.top (c130 ⟨g, by omega⟩) ?_
      refine XGo.iald rfl (ia_nI hf' (xlt hN' (by decide)) (show 130 + g < 490 by omega) (by decide)) ?_
      rw [cpF_out c (by omega) (130 + g) (by omega), hfn]
      exact XGo.go 1 rfl k
    match q, hq with
    | 0, hq =>
      have hq : c = nc := by omega
      subst hq
      exact head (XGo.ifp (Int32.le_refl _) (fin l7))
    | q + 1, hq =>
      refine head (XGo.ifn (fun z => absurd ((xnI_ge (by omega) (by omega)).mp z) (by omega)) ?_)
      refine XGo.go 6 rfl ?_
      by_cases kc : kpS msk c = true
      · have z : (msk >>> (nI c &&& 31)) &&& Int32.ofInt 1 = 0 := of_decide_eq_true kc
        have nx := ms_l d hN o36 hgG hG hnc hfn x msk fin q (c + 1) (some (.int (nI 8))) (by omega)
        rw [mnS_t kc, show cpF msk f g G (c + 1) = cp8 (cpF msk f g G c) (atC G (mnS msk c)) (atC g c) from if_pos kc] at nx
        refine XGo.ifp z ?_
        refine XGo.go 2 rfl ?_
        have p := stk_in d _ (mO e) (cpF msk f g G c) hN' o36' rfl hf' (gr := g) (g := G) (many := mnS msk c) (c := c) (by omega) hG (by omega) (by omega) (.int x) (.int msk) (v := v) (hend := hend) (by
          refine XGo.go 3 rfl ?_
          rw [show nI c + Int32.ofInt 1 = nI (c + 1) from nI_1 c, show nI (mnS msk c) + Int32.ofInt 1 = nI (mnS msk c + 1) from nI_1 _]
          unfold cpb
          rw [xup_up]
          exact nx) 8 0 rfl
        rw [cpb_0 _ _ _ _ hf'] at p
        exact p
      · have z : ¬ (msk >>> (nI c &&& 31)) &&& Int32.ofInt 1 = 0 := fun w => kc (decide_eq_true w)
        have nx := ms_l d hN o36 hgG hG hnc hfn x msk fin q (c + 1) l7 (by omega)
        unfold msL at nx
        rw [mnS_f kc, show cpF msk f g G (c + 1) = cpF msk f g G c from if_neg kc, ← show nI c + Int32.ofInt 1 = nI (c + 1) from nI_1 c] at nx
        refine XGo.ifn z ?_
        exact XGo.go 2 rfl nx
  termination_by q => q
end MG
abbrev i2m : Int32 := (Int8.ofInt (-2)).toInt32
abbrev i3m : Int32 := (Int8.ofInt (-3)).toInt32
abbrev i4m : Int32 := (Int8.ofInt (-4)).toInt32
section MS
variable {h : XH} {f : Nat → Int32} {G : Nat}
set_option maxRecDepth 100000 in
theorem k_mst1 (d : Nat) (hB : MBk h f) (hG : G ≤ 6) (f2 : f 2 = nI G) {gr x : Int32} (hb : ¬ (0 ≤ gr.toInt ∧ gr.toInt < (G : Int))) : XCall xM (d + 3) 162 [.ref 536, .int gr, .int x] h (some (.int (Int32.ofInt (-1)))) h := by
  obtain ⟨hN, hS, ⟨e, o36⟩, hf, -⟩ := id hB
  have q := k_isGr d hB hG f2 gr
  rw [if_neg hb] at q
  refine XCall.of (M := xm_X7_strike) rfl (Nat.le_of_ble_eq_true rfl) ?_
  refine XGo.go 2 rfl ?_
  refine XGo.call _ rfl xm_X7_isGrant rfl rfl [.ref 536, .int gr] [] rfl rfl (fun _ => ⟨536, _, rfl, o36, by decide, by omega⟩) (Nat.le_of_ble_eq_true rfl) q ?_
  refine XGo.go 1 rfl ?_
  refine XGo.ifp rfl ?_
  refine XGo.go 1 rfl ?_
  exact XGo.iret _ rfl rfl .int rfl rfl
theorem mst_h (d : Nat) (hB : MBk h f) (hG : G ≤ 6) (f2 : f 2 = nI G) {g : Nat} (hg : g < G) {x : Int32} {v : Option Value} {hend : XH} (k : XGo (d + 2) xm_X7_strike (17, [some (.ref 536), some (.int (nI g)), some (.int x), none, none, none, none, none], [.int (if 0 ≤ x.toInt ∧ x.toInt ≤ 40 then 1 else 0)], h) v hend) : XCall xM (d + 3) 162 [.ref 536, .int (nI g), .int x] h v hend := by
  obtain ⟨hN, hS, ⟨e, o36⟩, hf, -⟩ := id hB
  have tg := nI_toInt (n := g) (by omega)
  have q := k_isGr d hB hG f2 (nI g)
  rw [if_pos ⟨by omega, by omega⟩] at q
  refine XCall.of (M := xm_X7_strike) rfl (Nat.le_of_ble_eq_true rfl) ?_
  refine XGo.go 2 rfl ?_
  refine XGo.call _ rfl xm_X7_isGrant rfl rfl [.ref 536, .int (nI g)] [] rfl rfl (fun _ => ⟨536, _, rfl, o36, by decide, by omega⟩) (Nat.le_of_ble_eq_true rfl) q ?_
  refine XGo.go 1 rfl ?_
  refine XGo.ifn (by decide) ?_
  refine XGo.go 3 rfl ?_
  exact XGo.call _ rfl xm_X7_in rfl rfl [.int x, .int (Int32.ofInt 0), .int i40] [] rfl rfl (fun z => absurd rfl z) (Nat.le_of_ble_eq_true rfl) (k_in40 (d + 1) h x) k
theorem k_mst2 (d : Nat) (hB : MBk h f) (hG : G ≤ 6) (f2 : f 2 = nI G) {g : Nat} (hg : g < G) {x : Int32} (hx : ¬ (0 ≤ x.toInt ∧ x.toInt ≤ 40)) : XCall xM (d + 3) 162 [.ref 536, .int (nI g), .int x] h (some (.int i2m)) h := by
  refine mst_h d hB hG f2 hg ?_
  rw [if_neg hx]
  refine XGo.go 1 rfl ?_
  refine XGo.ifp rfl ?_
  refine XGo.go 1 rfl ?_
  exact XGo.iret _ rfl rfl .int rfl rfl
set_option maxRecDepth 100000 in
/-- a strike of the model that comes so far -/
theorem k_mst3 (hB : MBk h f) (hG : G ≤ 6) (f2 : f 2 = nI G) {n m : Nat} (W : RW f n m) {g nc : Nat} (hg : g < G) (hnc : 1 ≤ nc ∧ nc ≤ 6) (hfn : f (130 + g) = nI nc) {Lt Nt : Nat → Int32} (hC : CI f g Lt Nt nc) {x : Int32} (hx : 0 ≤ x.toInt ∧ x.toInt ≤ 40) :
    ∃ (v : Int32) (h1 : XH), XCall xM 9 162 [.ref 536, .int (nI g), .int x] h (some (.int v)) h1 ∧ (∀ z, ¬ z = 536 → ¬ z = 537 → ¬ (539 ≤ z ∧ z ≤ 545) → h1.2.2 z = h.2.2 z) ∧
    ((ltS f n m g nc x (2 ^ m) &&& i2m = 0 ∧ v = i3m ∧ h1.2.2 537 = .inr (.inl (0, 490, f))) ∨ (¬ ltS f n m g nc x (2 ^ m) &&& i2m = 0 ∧ G = 6 ∧ v = i4m ∧ h1.2.2 537 = .inr (.inl (0, 490, f))) ∨ (¬ ltS f n m g nc x (2 ^ m) &&& i2m = 0 ∧ G < 6 ∧ v = nI G ∧ h1.2.2 537 = .inr (.inl (0, 490, upd (upd (cpF (ltS f n m g nc x (2 ^ m) &&& i2m) f g G nc) (130 + G) (nI (mnS (ltS f n m g nc x (2 ^ m) &&& i2m) nc))) 2 (nI (G + 1)))))) := by
  obtain ⟨h1, cL, hB1, o1⟩ := G_lml W (by omega) hnc hfn hC hx.1 hx.2 hB
  obtain ⟨hN, hS, ⟨e0, o36⟩, hf, -⟩ := id hB
  obtain ⟨hN1, hS1, ⟨e, o361⟩, hf1, -⟩ := id hB1
  generalize ltS f n m g nc x (2 ^ m) = lt at cL ⊢
  generalize em : lt &&& i2m = msk
  have head : ∀ {v : Option Value} {hend : XH}, XGo 8 xm_X7_strike (if msk = 0 then 37 else 40, [some (.ref 536), some (.int (nI g)), some (.int x), some (.int msk), none, none, none, none], [], h1) v hend → XCall xM 9 162 [.ref 536, .int (nI g), .int x] h v hend := fun {v hend} k => by
    refine mst_h 6 hB hG f2 hg ?_
    rw [if_pos hx]
    refine XGo.go 1 rfl ?_
    refine XGo.ifn (by decide) ?_
    refine XGo.go 3 rfl ?_
    refine XGo.call _ rfl xm_X7_lates rfl rfl [.ref 536, .int (nI g), .int x] [] rfl rfl (fun _ => ⟨536, _, rfl, o36, by decide, by omega⟩) (Nat.le_of_ble_eq_true rfl) cL ?_
    subst em
    exact XGo.go 5 rfl k
  by_cases hz : msk = 0
  · refine ⟨i3m, h1, head (XGo.ifp hz ?_), fun z z1 _ z2 => o1 z z1 z2, Or.inl ⟨hz, rfl, hf1⟩⟩
    refine XGo.go 1 rfl ?_
    exact XGo.iret _ rfl rfl .int rfl rfl
  · have head2 : ∀ {v : Option Value} {hend : XH}, XGo 8 xm_X7_strike (if nI G = (Int8.ofInt 6).toInt32 then 51 else 54, [some (.ref 536), some (.int (nI g)), some (.int x), some (.int msk), none, none, none, none], [], h1) v hend → XCall xM 9 162 [.ref 536, .int (nI g), .int x] h v hend := fun {v hend} k => by
      refine head (XGo.ifn hz ?_)
      refine XGo.go 1 rfl ?_
      refine XGo.getf rfl (xfd_o o361 (xlt hN1 (by decide)) (by decide) rfl) ?_
      refine XGo.go 1 rfl ?_
      refine XGo.iald rfl (ia_nI (k := 2) hf1 (xlt hN1 (by decide)) (by decide) (by decide)) ?_
      rw [f2]
      exact XGo.go 2 rfl k
    by_cases g6 : G = 6
    · subst g6
      refine ⟨i4m, h1, head2 (XGo.ifp rfl ?_), fun z z1 _ z2 => o1 z z1 z2, Or.inr (Or.inl ⟨hz, rfl, rfl, hf1⟩)⟩
      refine XGo.go 1 rfl ?_
      exact XGo.iret _ rfl rfl .int rfl rfl
    · have hG6 : G < 6 := by omega
      let F := cpF msk f g G nc
      let A : XH := xup h1 537 (.inr (.inl (0, 490, F)))
      let F1 := upd F (130 + G) (nI (mnS msk nc))
      let B : XH := xup h1 537 (.inr (.inl (0, 490, F1)))
      let C : XH := xup h1 537 (.inr (.inl (0, 490, upd F1 2 (nI (G + 1)))))
      have A36 : A.2.2 536 = .inl (7, mO e) := (xup_ne _ _ (by decide)).trans o361
      have B36 : B.2.2 536 = .inl (7, mO e) := (xup_ne _ _ (by decide)).trans o361
      have A37 : A.2.2 537 = .inr (.inl (0, 490, F)) := xup_eq _ _ _
      have B37 : B.2.2 537 = .inr (.inl (0, 490, F1)) := xup_eq _ _ _
      have AN : A.1 = 549 := hN1
      have BN : B.1 = 549 := hN1
      refine ⟨nI G, C, head2 (XGo.ifn (fun z => g6 (nI_inj (by omega) (by decide) (z.trans (show (Int8.ofInt 6).toInt32 = nI 6 by decide)))) ?_), fun z z1 z0 z2 => (xup_ne _ _ z0).trans (o1 z z1 z2), Or.inr (Or.inr ⟨hz, hG6, rfl, xup_eq _ _ _⟩)⟩
      refine XGo.go 1 rfl ?_
      refine XGo.getf rfl (xfd_o o361 (xlt hN1 (by decide)) (by decide) rfl) ?_
      refine XGo.go 1 rfl ?_
      refine XGo.iald rfl (ia_nI (k := 2) hf1 (xlt hN1 (by decide)) (by decide) (by decide)) ?_
      rw [f2]
      refine XGo.go 5 rfl ?_
      have p := ms_l 7 hN1 o361 hg hG6 hnc.2 hfn x msk (v := some (.int (nI G))) (hend := C) (fun l7 => by
        refine XGo.go 1 rfl ?_
        refine XGo.getf rfl (xfd_o A36 (xlt AN (by decide)) (by decide) rfl) ?_
        refine XGo.go 4 rfl ?_
        refine XGo.top2 (c130 ⟨G, hG6⟩) ?_
        refine XGo.iast rfl A37 (xlt AN (by decide)) (by decide) (ca_nI (show 130 + G < 490 by omega) (by decide)) ?_
        rw [xnI_nat (by omega), xup_up]
        show XGo _ _ (159, _, [], B) _ _
        refine XGo.go 1 rfl ?_
        refine XGo.getf rfl (xfd_o B36 (xlt BN (by decide)) (by decide) rfl) ?_
        refine XGo.go 2 rfl ?_
        refine XGo.iald rfl (ia_nI (k := 2) B37 (xlt BN (by decide)) (by decide) (by decide)) ?_
        rw [show F1 2 = nI G by
          show upd F (130 + G) _ 2 = nI G
          unfold upd
          rw [if_neg (by omega)]
          exact (cpF_out nc hnc.2 2 (by omega)).trans f2]
        refine XGo.go 2 rfl ?_
        refine XGo.iast rfl B37 (xlt BN (by decide)) (by decide) (ca_nI (k := 2) (by decide) (by decide)) ?_
        rw [xup_up]
        show XGo _ _ (169, _, [], xup h1 537 (.inr (.inl (0, 490, upd F1 2 (nI G + Int32.ofInt 1))))) _ _
        rw [show nI G + Int32.ofInt 1 = nI (G + 1) from nI_1 G]
        refine XGo.go 1 rfl ?_
        exact XGo.iret _ rfl rfl .int rfl rfl) nc 0 none (by omega)
      rw [show xup h1 537 (.inr (.inl (0, 490, cpF msk f g G 0))) = h1 from xup_sm hf1] at p
      exact p
end MS
/-! strike on both sides: the same answer, and alike behind it -/
theorem w_rg_84 : w_rg 84 = 54 ∧ w_rg 85 = 55 ∧ w_rg 86 = 56 := by decide +kernel
theorem k54s : w_S 54 = (0, 1, 0, w_s54.2.2.2.1, []) := rfl
theorem r13_7 {h : XH} (hI : AInv w_W h) : rd h 13 7 = some (.ref 84) := rd_ref hI (by decide) w_rg_13 k13S (b := 7) rfl rfl w_rg_84.1 (by decide)
theorem cg84 {h : XH} (hI : AInv w_W h) : ∃ (k : Int32) (L N : Nat → Int32), CG h 84 k L N := by
  obtain ⟨r0, r1, r2⟩ := w_rg_84
  obtain ⟨gf, o1, l1, -⟩ := w_obj hI (k := 84) (by decide) r0 k54s
  obtain ⟨k, hk⟩ := int_at hI (by decide) r0 k54s (b := 0) rfl rfl o1
  obtain ⟨Lt, hL⟩ := w_ints hI (k := 85) (by decide) r1 (show w_S 55 = (1, 0, 24, [], w_s55.2.2.2.2) from rfl)
  obtain ⟨Nt, hN⟩ := w_ints hI (k := 86) (by decide) r2 (show w_S 56 = (1, 0, 24, [], w_s56.2.2.2.2) from rfl)
  exact ⟨k, Lt, Nt, by rw [o1, list3 l1 hk (ref_at hI (by decide) r0 k54s (b := 1) rfl rfl r1 (by decide) o1) (ref_at hI (by decide) r0 k54s (b := 2) rfl rfl r2 (by decide) o1)], hL, hN⟩
theorem gh_of2 {L : Nat} {xs : Nat → Int32} {h : XH} (hI : INVg L xs h) {f : Nat → Int32} (hf : h.2.2 537 = .inr (.inl (0, 490, f))) : ∃ (G T : Nat) (fw : List Value), GH h fw G T ∧ (G ≤ 6 ∧ T ≤ 80) ∧ f 2 = nI G ∧ f 4 = nI T ∧ (∀ i, i < T → rd h 21 i = some (.int (f (10 + i)))) ∧ ∀ g, g < G → GA h (24 + 3 * g) f g := by
  obtain ⟨G, T, hGT, ⟨w7, f2⟩, ⟨w9, f4⟩, ht, hg⟩ := hI.2.1.f fun j hj => rd_row hf hj
  obtain ⟨fw, GHh⟩ := gh_of hI.1.1 hI.2.2.2.1 w7 w9
  exact ⟨G, T, fw, GHh, hGT, f2, f4, ht, hg⟩
section CS
variable {L : Nat} {xs : Nat → Int32} {h : XH} {fw : List Value} {G T : Nat}
theorem cst_h (d : Nat) (hI : AInv w_W h) {gr x : Int32} {w : Value} (c58 : XCall xM (d + 1) 58 [.ref 14, .int gr] h (some w) h) (hH : GH h fw G T) {v : Option Value} {hend : XH} (k : XGo (d + 1) xm_X6_strike (8, [some (.ref 13), some (.int gr), some (.int x), none, none], [w], h) v hend) : XCall xM (d + 2) 78 [.ref 13, .int gr, .int x] h v hend := by
  have hN := hH.N
  refine XCall.of (M := xm_X6_strike) rfl (Nat.le_of_ble_eq_true rfl) ?_
  refine XGo.go 1 rfl ?_
  refine XGo.getr rfl hI (by decide) (by decide) w_rg_13 k13s (by decide) (r13_0 hI) ?_
  refine XGo.go 1 rfl ?_
  exact XGo.call _ rfl xm_X5_grantAt rfl rfl [.ref 14, .int gr] [] rfl rfl (fun _ => ⟨14, _, rfl, hH.o14, by decide, by omega⟩) (Nat.le_of_ble_eq_true rfl) c58 k
theorem k_cst1 (d : Nat) (hI : AInv w_W h) (hH : GH h fw G T) (hG : G ≤ 6) {gr x : Int32} (hb : ¬ (0 ≤ gr.toInt ∧ gr.toInt < (G : Int))) : XCall xM (d + 2) 78 [.ref 13, .int gr, .int x] h (some (.int (Int32.ofInt (-1)))) h := by
  refine cst_h d hI (k_gNo d hH hG hb) hH ?_
  refine XGo.go 3 rfl ?_
  refine XGo.go 1 rfl ?_
  exact XGo.iret _ rfl rfl .int rfl rfl
theorem cst_y (d : Nat) (hI : AInv w_W h) (hH : GH h fw G T) (hG : G ≤ 6) {g : Nat} (hg : g < G) {x : Int32} {v : Option Value} {hend : XH} (k : XGo (d + 1) xm_X6_strike (19, [some (.ref 13), some (.int (nI g)), some (.int x), some (.ref (24 + 3 * g)), none], [.int (if 0 ≤ x.toInt ∧ x.toInt ≤ 40 then 1 else 0)], h) v hend) : XCall xM (d + 2) 78 [.ref 13, .int (nI g), .int x] h v hend := by
  refine cst_h d hI (k_gAt d hH hg hG) hH ?_
  refine XGo.go 3 rfl ?_
  refine XGo.go 1 rfl ?_
  exact XGo.call _ rfl xm_X6_isYear rfl rfl [.int x] [] rfl rfl (fun z => absurd rfl z) (Nat.le_of_ble_eq_true rfl) (k_isYear d h x) k
theorem k_cst2 (d : Nat) (hI : AInv w_W h) (hH : GH h fw G T) (hG : G ≤ 6) {g : Nat} (hg : g < G) {x : Int32} (hx : ¬ (0 ≤ x.toInt ∧ x.toInt ≤ 40)) : XCall xM (d + 2) 78 [.ref 13, .int (nI g), .int x] h (some (.int i2m)) h := by
  refine cst_y d hI hH hG hg ?_
  rw [if_neg hx]
  refine XGo.go 1 rfl ?_
  refine XGo.ifp rfl ?_
  refine XGo.go 1 rfl ?_
  exact XGo.iret _ rfl rfl .int rfl rfl
set_option maxRecDepth 100000 in
/-- a strike of the other side that comes so far -/
theorem k_cst3 (hI : INVg L xs h) {f : Nat → Int32} (hf : h.2.2 537 = .inr (.inl (0, 490, f))) (hH : GH h fw G T) (hG : G ≤ 6) (f2 : f 2 = nI G) {n m : Nat} (W : RW f n m) {g nc : Nat} (hg : g < G) (hnc : 1 ≤ nc ∧ nc ≤ 6) {Lt Nt : Nat → Int32} (hCG : CG h (24 + 3 * g) (nI nc) Lt Nt) (hC : CI f g Lt Nt nc) {x : Int32} (hx : 0 ≤ x.toInt ∧ x.toInt ≤ 40) :
    ∃ (v : Int32) (h1 : XH), XCall xM 8 78 [.ref 13, .int (nI g), .int x] h (some (.int v)) h1 ∧
    ((ltS f n m g nc x (2 ^ m) &&& i2m = 0 ∧ v = i3m ∧ ∀ z, (z < 71 ∨ 535 < z) → h1.2.2 z = h.2.2 z) ∨ (¬ ltS f n m g nc x (2 ^ m) &&& i2m = 0 ∧ G = 6 ∧ v = i4m ∧ ∀ z, (z < 71 ∨ 535 < z) → h1.2.2 z = h.2.2 z) ∨ (¬ ltS f n m g nc x (2 ^ m) &&& i2m = 0 ∧ G < 6 ∧ v = nI G ∧ h1.2.2 14 = .inl (5, fw.set 7 (.int (nI (G + 1)))) ∧ (∃ L0 N0 L1 N1 : Nat → Int32, CG h1 (24 + 3 * G) (nI (mnS (ltS f n m g nc x (2 ^ m) &&& i2m) nc)) L1 N1 ∧ ∀ j, j < 24 → L1 j = cpL (ltS f n m g nc x (2 ^ m) &&& i2m) L0 Lt nc j ∧ N1 j = cpL (ltS f n m g nc x (2 ^ m) &&& i2m) N0 Nt nc j) ∧ ∀ z, (z < 71 ∨ 535 < z) → ¬ z = 14 → ¬ (24 + 3 * G ≤ z ∧ z ≤ 26 + 3 * G) → h1.2.2 z = h.2.2 z)) := by
  obtain ⟨⟨r1, -, -⟩, -⟩ := w_rg_g ⟨g, by omega⟩
  obtain ⟨h1, cL, hI1, o1⟩ := G_lcl h_118 rfl rfl rfl (by decide +kernel) (by decide +kernel) W (fun _ _ => rfl) (p := 24 + 3 * g) (by omega) (Or.inl (by omega)) r1 hnc hC x hI hf hCG
  generalize ltS f n m g nc x (2 ^ m) = lt at cL ⊢
  generalize em : lt &&& i2m = msk
  have hN := hH.N
  have hN1 : h1.1 = 549 := hI1.1.1.1
  have hS1 : h1.2.1 = 14048 := hI1.1.1.2.1
  obtain ⟨fs, o13, l13, -⟩ := w_obj hI.1.1 (k := 13) (by decide) w_rg_13 k13S
  obtain ⟨fs1, o131, l131, -⟩ := w_obj hI1.1.1 (k := 13) (by decide) w_rg_13 k13S
  have e0 := ref_at hI1.1.1 (by decide) w_rg_13 k13S (b := 0) rfl rfl w_rg_14 (by decide) o131
  have e7 := ref_at hI1.1.1 (by decide) w_rg_13 k13S (b := 7) rfl rfl w_rg_84.1 (by decide) o131
  have o141 : h1.2.2 14 = .inl (5, fw) := (o1 14 (by omega)).trans hH.o14
  have head : ∀ {v : Option Value} {hend : XH}, XGo 7 xm_X6_strike (if msk = 0 then 41 else 44, [some (.ref 13), some (.int (nI g)), some (.int x), some (.ref (24 + 3 * g)), some (.int msk)], [], h1) v hend → XCall xM 8 78 [.ref 13, .int (nI g), .int x] h v hend := fun {v hend} k => by
    refine cst_y 6 hI.1.1 hH hG hg ?_
    rw [if_pos hx]
    refine XGo.go 1 rfl ?_
    refine XGo.ifn (by decide) ?_
    refine XGo.go 3 rfl ?_
    refine XGo.call _ rfl xm_X6_lateClauses rfl rfl [.ref 13, .ref (24 + 3 * g), .int x] [] rfl rfl (fun _ => ⟨13, _, rfl, o13, by decide, by omega⟩) (Nat.le_of_ble_eq_true rfl) cL ?_
    subst em
    exact XGo.go 5 rfl k
  by_cases hz : msk = 0
  · refine ⟨i3m, h1, head (XGo.ifp hz ?_), Or.inl ⟨hz, rfl, fun z hz => o1 z (by omega)⟩⟩
    refine XGo.go 1 rfl ?_
    exact XGo.iret _ rfl rfl .int rfl rfl
  · have head2 : ∀ {v : Option Value} {hend : XH}, XGo 7 xm_X6_strike (if nI G < (Int8.ofInt 6).toInt32 then 59 else 56, [some (.ref 13), some (.int (nI g)), some (.int x), some (.ref (24 + 3 * g)), some (.int msk)], [], h1) v hend → XCall xM 8 78 [.ref 13, .int (nI g), .int x] h v hend := fun {v hend} k => by
      refine head (XGo.ifn hz ?_)
      refine XGo.go 1 rfl ?_
      refine XGo.getf rfl (xfd_o o131 (xlt hN1 (by decide)) (by decide) e0) ?_
      refine XGo.getf rfl (xfd_o o141 (xlt hN1 (by decide)) (by decide) hH.w7) ?_
      exact XGo.go 2 rfl k
    by_cases g6 : G = 6
    · subst g6
      refine ⟨i4m, h1, head2 (XGo.ifn (by decide) ?_), Or.inr (Or.inl ⟨hz, rfl, rfl, fun z hz => o1 z (by omega)⟩)⟩
      refine XGo.go 1 rfl ?_
      exact XGo.iret _ rfl rfl .int rfl rfl
    · have hG6 : G < 6 := by omega
      obtain ⟨k84, L84, N84, h84⟩ := cg84 hI1.1.1
      have hCG1 : CG h1 (24 + 3 * g) (nI nc) Lt Nt := ⟨(o1 _ (by omega)).trans hCG.1, (o1 _ (by omega)).trans hCG.2.1, (o1 _ (by omega)).trans hCG.2.2⟩
      obtain ⟨L0, N0, cR⟩ := k_rw 4 hN1 hS1 h84 hCG1 (by omega) hnc.2 msk
      obtain ⟨f20, o20, e20⟩ := hH.o20
      obtain ⟨kt, Lq, Nq, hq⟩ := hH.gs G hG6
      let H := DH h1 (nI (mnS msk nc)) (cpL msk L0 Lt nc) (cpL msk N0 Nt nc)
      have Hn : ∀ z, (z < 84 ∨ 86 < z) → H.2.2 z = h1.2.2 z := fun z hz => DH.ne hz
      have H14 : H.2.2 14 = .inl (5, fw) := (Hn 14 (by omega)).trans o141
      have Hq : CG H (24 + 3 * G) kt Lq Nq := ⟨(Hn _ (by omega)).trans ((o1 _ (by omega)).trans hq.1), (Hn _ (by omega)).trans ((o1 _ (by omega)).trans hq.2.1), (Hn _ (by omega)).trans ((o1 _ (by omega)).trans hq.2.2)⟩
      obtain ⟨H1, cK, K14, KG, Kn⟩ := k_keep 4 (H := H) rfl H14 hH.len hH.w7 hH.w8 hG6 ((Hn 20 (by omega)).trans ((o1 20 (by omega)).trans o20)) (e20 G hG6) Hq (s := 84) (ks := nI (mnS msk nc)) (Ls := cpL msk L0 Lt nc) (Ns := cpL msk N0 Nt nc) ⟨rfl, rfl, rfl⟩ (by decide)
      refine ⟨nI G, H1, head2 (XGo.ifp (Int32.not_le.mp fun q => absurd ((xnI_ge (m := 6) (by decide) (by omega)).mp q) (by omega)) ?_), Or.inr (Or.inr ⟨hz, hG6, rfl, K14, ⟨L0, N0, _, _, KG, fun j hj => ⟨cpy24 hj, cpy24 hj⟩⟩, fun z z1 z2 z3 => (Kn z z2 z3).trans ((Hn z (by omega)).trans (o1 z (by omega)))⟩)⟩
      refine XGo.go 1 rfl ?_
      refine XGo.getf rfl (xfd_o o131 (xlt hN1 (by decide)) (by decide) e7) ?_
      refine XGo.go 2 rfl ?_
      refine XGo.call _ rfl xm_X1_repeatWithout rfl rfl [.ref 84, .ref (24 + 3 * g), .int msk] [] rfl rfl (fun _ => ⟨84, _, rfl, h84.1, by decide, by omega⟩) (Nat.le_of_ble_eq_true rfl) cR ?_
      refine XGo.go 1 rfl ?_
      refine XGo.getf rfl (xfd_o ((Hn 13 (by omega)).trans o131) (Nat.le_of_ble_eq_true rfl) (by decide) e0) ?_
      refine XGo.go 1 rfl ?_
      refine XGo.getf rfl (xfd_o ((Hn 13 (by omega)).trans o131) (Nat.le_of_ble_eq_true rfl) (by decide) e7) ?_
      refine XGo.call _ rfl xm_X5_keep rfl rfl [.ref 14, .ref 84] [] rfl rfl (fun _ => ⟨14, _, rfl, H14, by decide, Nat.le_of_ble_eq_true rfl⟩) (Nat.le_of_ble_eq_true rfl) cK ?_
      exact XGo.iret _ rfl rfl .int rfl rfl
end CS
theorem CLR.mv {f f2 : Nat → Int32} {a a2 : Nat} {L N L2 N2 : Nat → Int32} {c c2 : Nat} (h : CLR f a L N c) (hf : ∀ q, q < 8 → f2 (a2 + q) = f (a + q)) (hl : ∀ q, q < 4 → L2 (4 * c2 + q) = L (4 * c + q) ∧ N2 (4 * c2 + q) = N (4 * c + q)) : CLR f2 a2 L2 N2 c2 := by
  have z0 := hf 0 (by decide)
  obtain ⟨l0, n0⟩ := hl 0 (by decide)
  simp only [Nat.add_zero] at z0 l0 n0
  unfold CLR at h ⊢
  rw [z0, hf 1 (by decide), hf 2 (by decide), hf 3 (by decide), hf 4 (by decide), hf 5 (by decide), hf 6 (by decide), hf 7 (by decide), l0, n0, (hl 1 (by decide)).1, (hl 1 (by decide)).2, (hl 2 (by decide)).1, (hl 2 (by decide)).2, (hl 3 (by decide)).1, (hl 3 (by decide)).2]
  exact h
theorem kp0 (lt : Int32) : kpS (lt &&& i2m) 0 = true := by
  refine decide_eq_true ?_
  rw [show nI 0 &&& 31 = 0 by decide, Int32.shiftRight_zero, Int32.and_assoc, show i2m &&& Int32.ofInt 1 = 0 by decide]
  exact Int32.and_zero
/-- a call that leaves grants and tape -/
theorem gr_pl {h h2 : XH} (k : GR h 14 24 21 537) (e : ∀ z, (z = 14 ∨ z = 21 ∨ (24 ≤ z ∧ z < 42) ∨ z = 537) → h2.2.2 z = h.2.2 z) : GR h2 14 24 21 537 := by
  obtain ⟨f, -, -, hf, -⟩ := id k
  exact k.fr (f1 := f) (fun j hj => (rd_same (e 537 (by omega)) j).trans (hf j hj)) (fun j _ => rd_same (e 537 (by omega)) j) (rd_same (e 14 (by omega)) 7) (rd_same (e 14 (by omega)) 9) (fun i _ => rd_same (e 21 (by omega)) i) fun g hg => ⟨rd_same (e _ (by omega)) 0, fun j _ => rd_same (e _ (by omega)) j, fun j _ => rd_same (e _ (by omega)) j⟩
/-- one side's call behind the other's, contents known -/
theorem G_mid {c : ACt} (hc : AHp w_W w_P c) (ho : aints c.1.2.2.1 = true) (hm : c.2.1 = []) (hv : vsafe c.1.2.2.2.1 = true) (hs : ssafe c.1.2.2.2.1 = true) (hk : gsafeK c.1.2.2.2.1 = true) {as : List Value} (ha : gal w_W c.1.2.1 as) {L : Nat} {xs : Nat → Int32} {h h1 : XH} (hw : INVw L xs h) (gK : GR h 42 52 49 538) (gS : GSt h) (gB : SB0 h) {v : Option Value} {e : Nat} (cc : XCall xM e c.1.1 as h v h1) : INVw L xs h1 ∧ GR h1 42 52 49 538 ∧ GSt h1 ∧ SB0 h1 ∧ h1.2.2 1 = h.2.2 1 := by
  obtain ⟨v', h1', d1, j1, j2, jF⟩ := contract hc ho hm ha hw.1 hw.2.1
  obtain ⟨-, e2⟩ := XCall.det cc d1
  subst e2
  have x1 := XCall.ext _ _ _ _ _ _ cc (by rw [hw.1.1]; decide)
  exact ⟨invw_fr hw j1 j2 jF hv (x1 1 (by decide)), grK_fr gK j1 jF hk, gst_fr gS jF hs, sb0_ext gB x1, x1 1 (by decide)⟩
theorem G_strike (gr x : Int32) {L : Nat} {xs : Nat → Int32} {h : XH} (hI : INVg L xs h) : ∃ (v : Int32) (h1 h2 : XH), XCall xM 11 78 [.ref 13, .int gr, .int x] h (some (.int v)) h1 ∧ AInv w_W h1 ∧ h1.2.2 1 = h.2.2 1 ∧ XCall xM 11 162 [.ref 536, .int gr, .int x] h1 (some (.int v)) h2 ∧ INVg L xs h2 := by
  have fin : ∀ (v : Int32) (h1 : XH) (e : Nat), e ≤ 11 → XCall xM e 78 [.ref 13, .int gr, .int x] h (some (.int v)) h1 → (∀ z, 535 < z → h1.2.2 z = h.2.2 z) → (MBk h1 (fun j => (h.2.2 537).elim (fun _ => 0) (fun q => q.elim (fun w => w.2.2 j) (fun _ => 0))) → ∃ (h2 : XH) (e2 : Nat), e2 ≤ 11 ∧ XCall xM e2 162 [.ref 536, .int gr, .int x] h1 (some (.int v)) h2 ∧ GR h2 14 24 21 537) → ∃ (v : Int32) (h1 h2 : XH), XCall xM 11 78 [.ref 13, .int gr, .int x] h (some (.int v)) h1 ∧ AInv w_W h1 ∧ h1.2.2 1 = h.2.2 1 ∧ XCall xM 11 162 [.ref 536, .int gr, .int x] h1 (some (.int v)) h2 ∧ INVg L xs h2 := fun v h1 e he c1 o1 k => by
    obtain ⟨hw, gW, gK, gS, gB⟩ := hI
    obtain ⟨hw1, gK1, gS1, gB1, x1⟩ := G_mid h_153 (by decide +kernel) rfl (by decide +kernel) (by decide +kernel) (by decide +kernel) (gal13 (galT gr (galT x gal0))) hw gK gS gB c1
    obtain ⟨f0, hf0⟩ := w_row hw.1 (Or.inl rfl)
    obtain ⟨h2, e2, he2, c2, g2⟩ := k (mbk_of hw1.1 (by rw [o1 537 (by decide), hf0]; rfl))
    obtain ⟨hw2, gK2, gS2, gB2, x2⟩ := G_mid h_5000 (by decide +kernel) rfl (by decide +kernel) (by decide +kernel) (by decide +kernel) (gal536 (galT gr (galT x gal0))) hw1 gK1 gS1 gB1 c2
    exact ⟨v, h1, h2, XCall.up he c1, hw1.1, x1, XCall.up he2 c2, hw2, g2, gK2, gS2, gB2⟩
  obtain ⟨f, n, m, -, hf, W, -⟩ := G_base hI
  obtain ⟨G, T, fw, hH, ⟨hG, hT⟩, f2, f4, ht, hg⟩ := gh_of2 hI hf
  have ef : (fun j => (h.2.2 537).elim (fun _ => 0) (fun q => q.elim (fun w => w.2.2 j) (fun _ => 0))) = f := by rw [hf]; rfl
  rw [ef] at fin
  rcases gr_dec hG gr with hb | ⟨g, hgG, rfl⟩
  · exact fin _ h 2 (by decide) (k_cst1 0 hI.1.1 hH hG hb) (fun _ _ => rfl) fun hB => ⟨h, 3, by decide, k_mst1 0 hB hG f2 hb, hI.2.1⟩
  · by_cases hx : 0 ≤ x.toInt ∧ x.toInt ≤ 40
    · obtain ⟨nc, Lt, Nt, hnc, hCG, hfn, hC⟩ := cg_of hI.1.1 hI.2.2.2.1 (by omega) (hg g hgG)
      obtain ⟨v, h1, c1, hc⟩ := k_cst3 hI hf hH hG f2 W hgG hnc hCG hC hx
      have o535 : ∀ z, 535 < z → h1.2.2 z = h.2.2 z := fun z hz => by
        rcases hc with ⟨-, -, o⟩ | ⟨-, -, -, o⟩ | ⟨-, -, -, -, -, o⟩
        · exact o z (Or.inr hz)
        · exact o z (Or.inr hz)
        · exact o z (Or.inr hz) (by omega) (by omega)
      refine fin v h1 8 (by decide) c1 o535 fun hB => ?_
      obtain ⟨u, h2, c2, o2, hm⟩ := k_mst3 hB hG f2 W hgG hnc hfn hC hx
      have same : ∀ (w : Int32), v = w → u = w → (∀ z, (z < 71 ∨ 535 < z) → h1.2.2 z = h.2.2 z) → h2.2.2 537 = .inr (.inl (0, 490, f)) → ∃ (h2 : XH) (e2 : Nat), e2 ≤ 11 ∧ XCall xM e2 162 [.ref 536, .int (nI g), .int x] h1 (some (.int v)) h2 ∧ GR h2 14 24 21 537 := fun w e1 e2 o hf2 => by
        rw [e2, ← e1] at c2
        refine ⟨h2, 9, by decide, c2, gr_pl hI.2.1 fun z hz => ?_⟩
        by_cases z5 : z = 537
        · rw [z5, hf2, hf]
        · exact (o2 z (by omega) z5 (by omega)).trans (o z (by omega))
      rcases hc with ⟨a, b, o⟩ | ⟨a, a2, b, o⟩ | ⟨a, a2, b, p14, ⟨L0, N0, L1, N1, pg, pl⟩, o⟩
      · rcases hm with ⟨-, d, e⟩ | ⟨d, -⟩ | ⟨d, -⟩
        · exact same _ b d o e
        · exact absurd a d
        · exact absurd a d
      · rcases hm with ⟨d, -⟩ | ⟨-, -, d, e⟩ | ⟨-, d, -⟩
        · exact absurd d a
        · exact same _ b d o e
        · exact absurd d (by omega)
      · rcases hm with ⟨d, -⟩ | ⟨-, d, -⟩ | ⟨-, -, d, e⟩
        · exact absurd d a
        · exact absurd d (by omega)
        · rw [d, ← b] at c2
          refine ⟨h2, 9, by decide, c2, ?_⟩
          generalize hmk : ltS f n m g nc x (2 ^ m) &&& i2m = msk at *
          have k0 : kpS msk 0 = true := by rw [← hmk]; exact kp0 _
          have ml := mnS_le (msk := msk) nc
          have m1 : 1 ≤ mnS msk nc := by
            have := mnS_lt (j := 0) (c := nc) (by omega) k0
            omega
          let F := upd (upd (cpF msk f g G nc) (130 + G) (nI (mnS msk nc))) 2 (nI (G + 1))
          have F2 : F 2 = nI (G + 1) := if_pos rfl
          have FG : F (130 + G) = nI (mnS msk nc) := (if_neg (by omega)).trans (if_pos rfl)
          have Fo : ∀ j, ¬ j = 2 → ¬ j = 130 + G → (j < 140 + 48 * G ∨ 188 + 48 * G ≤ j) → F j = f j := fun j j1 j2 j3 => (if_neg j1).trans ((if_neg j2).trans (cpF_out nc hnc.2 j j3))
          have Fi : ∀ j, 140 ≤ j → F j = cpF msk f g G nc j := fun j hj => (if_neg (by omega)).trans (if_neg (by omega))
          have q2 : ∀ z, z < 536 → h2.2.2 z = h1.2.2 z := fun z hz => o2 z (by omega) (by omega) (by omega)
          have P14 : h2.2.2 14 = .inl (5, fw.set 7 (.int (nI (G + 1)))) := (q2 14 (by decide)).trans p14
          refine ⟨F, G + 1, T, fun j hj => rd_row e hj, ⟨by omega, hT⟩, ⟨?_, F2⟩, ⟨?_, (Fo 4 (by decide) (by omega) (by omega)).trans f4⟩, fun i hi => ?_, fun gi hgi => ?_⟩
          · rw [rd_fld P14, List.getElem?_set_self (by rw [hH.len]; decide)]
          · rw [rd_fld P14, List.getElem?_set_ne (by decide)]
            exact hH.w9
          · rw [rd_same ((q2 21 (by decide)).trans (o 21 (by omega) (by decide) (by omega))) i, ht i hi, Fo (10 + i) (by omega) (by omega) (by omega)]
          · by_cases eG : gi = G
            · subst eG
              refine ⟨mnS msk nc, L1, N1, ⟨m1, by omega⟩, ?_, FG, fun j hj => ⟨?_, ?_⟩, fun i hi => ?_⟩
              · rw [rd_fld ((q2 _ (by omega)).trans pg.1)]
                rfl
              · exact rd_ints ((q2 _ (by omega)).trans pg.2.1) hj
              · exact rd_ints ((q2 _ (by omega)).trans pg.2.2) hj
              · obtain ⟨j, j1, j2, j3⟩ := mnS_on nc i hi
                refine (hC j j1).mv (fun q hq => ?_) fun q hq => ?_
                · rw [Fi _ (by omega), ← j3]
                  exact cpF_at hgG nc j hnc.2 j1 j2 q hq
                · have l4 : 4 * i + q < 24 := by omega
                  rw [(pl _ l4).1, (pl _ l4).2, ← j3]
                  exact ⟨cpL_at nc j j1 j2 q hq, cpL_at nc j j1 j2 q hq⟩
            · have hgi2 : gi < G := by omega
              refine (hg gi hgi2).of ((q2 _ (by omega)).trans (o _ (by omega) (by omega) (by omega))) ((q2 _ (by omega)).trans (o _ (by omega) (by omega) (by omega))) ((q2 _ (by omega)).trans (o _ (by omega) (by omega) (by omega))) ?_ fun j h1 h2 => ?_
              · exact Fo _ (by omega) (by omega) (by omega)
              · exact Fo _ (by omega) (by omega) (by omega)
    · exact fin _ h 2 (by decide) (k_cst2 0 hI.1.1 hH hG hgG hx) (fun _ _ => rfl) fun hB => ⟨h, 3, by decide, k_mst2 0 hB hG f2 hgG hx, hI.2.1⟩
