/-! as on both sides: kinds of interests -/
def kiS (f : Nat → Int32) (g c : Nat) : Nat := if c = 0 then 1 else if f (atC g c) = 0 then (if f (atC g c + 6) = 0 then (if f (atC g c + 2) = Int32.ofInt 2 then 5 else 2) else 4) else if f (atC g c + 6) = 0 then 3 else 6
theorem kiS_in (f : Nat → Int32) (g c : Nat) : 1 ≤ kiS f g c ∧ kiS f g c ≤ 6 := by
  unfold kiS
  split
  · omega
  · split
    · split
      · split <;> omega
      · omega
    · split <;> omega
theorem zcl_0 {k n l m : Int32} (h : ZC k n l m) : l = 0 ↔ k = 0 := by
  rcases h with ⟨rfl, rfl, -⟩ | ⟨-, ⟨rfl, rfl⟩ | ⟨rfl, rfl, -⟩ | ⟨rfl, rfl, -⟩⟩ <;> decide
theorem hkl_2 {k n l m : Int32} (h : HK k n l m) : l = (Int8.ofInt 99).toInt32 ↔ k = Int32.ofInt 2 := by
  rcases h with ⟨-, -, ⟨rfl, rfl⟩ | ⟨rfl, rfl⟩ | ⟨rfl, rfl⟩⟩ <;> decide
section KI
variable {H : XH} {p nc : Nat} {Lt Nt : Nat → Int32} {f : Nat → Int32} {g : Nat}
set_option maxRecDepth 100000 in
theorem k_shp2 (d : Nat) (hN : H.1 = 549) (hG : CG H p (nI nc) Lt Nt) (hp : 13 ≤ p ∧ p + 2 < 549) {c : Nat} (hc : c < 6) : XCall xM (d + 2) 18 [.ref p, .int (nI c)] H (some (.int (b01 (!decide (Lt (4 * c) = 0))))) H := by
  refine XCall.of (M := xm_X1_isShift) rfl (Nat.le_of_ble_eq_true rfl) ?_
  refine XGo.go 3 rfl ?_
  refine XGo.call _ rfl xm_X1_letter rfl rfl [.ref p, .int (nI c), .int (nI 0)] [] rfl rfl (fun _ => ⟨p, _, rfl, hG.1, by omega, by omega⟩) (Nat.le_of_ble_eq_true rfl) (k_let2 d hN hG hp hc (q := 0) (by decide)) ?_
  refine XGo.go 1 rfl ?_
  by_cases e : Lt (4 * c) = 0
  · refine XGo.ifp e ?_
    refine XGo.go 1 rfl ?_
    exact XGo.ib (b := false) _ rfl rfl rfl (by rw [dec_t e]; rfl)
  · refine XGo.ifn e ?_
    refine XGo.go 2 rfl ?_
    exact XGo.ib (b := true) _ rfl rfl rfl (by rw [dec_f e]; rfl)
set_option maxRecDepth 100000 in
theorem k_kiC (d : Nat) (hN : H.1 = 549) (hG : CG H p (nI nc) Lt Nt) (hp : 13 ≤ p ∧ p + 2 < 549) (hnc : nc ≤ 6) (hC : CI f g Lt Nt nc) {c : Nat} (hc : c < nc) : XCall xM (d + 3) 22 [.ref p, .int (nI c)] H (some (.int (nI (kiS f g c)))) H := by
  obtain ⟨k0, k1, k2, k3⟩ := hC c hc
  have e0 : Lt (4 * c) = 0 ↔ f (atC g c) = 0 := zcl_0 k0
  have e3 : Lt (4 * c + 3) = 0 ↔ f (atC g c + 6) = 0 := zcl_0 k3
  have e1 : Lt (4 * c + 1) = (Int8.ofInt 99).toInt32 ↔ f (atC g c + 2) = Int32.ofInt 2 := hkl_2 k1
  have c6 : c < 6 := by omega
  have rc : ∀ {as : List Value} {M : XMeth}, xmC M = 1 → as.head? = some (.ref p) → xrecv M as H := fun hM ha _ => ⟨p, _, ha, by rw [hM]; exact hG.1, by omega, by omega⟩
  refine XCall.of (M := xm_X1_kindOf) rfl (Nat.le_of_ble_eq_true rfl) ?_
  refine XGo.go 3 rfl ?_
  refine XGo.call _ rfl xm_X1_letter rfl rfl [.ref p, .int (nI c), .int (nI 3)] [] rfl rfl (rc rfl rfl) (Nat.le_of_ble_eq_true rfl) (k_let2 (d + 1) hN hG hp c6 (q := 3) (by decide)) ?_
  refine XGo.go 1 rfl ?_
  have nx : ∀ b : Bool, b = !decide (f (atC g c + 6) = 0) → XGo (d + 2) xm_X1_kindOf (15, [some (.ref p), some (.int (nI c)), some (.int (b01 b))], [], H) (some (.int (nI (kiS f g c)))) H := fun b hb => by
    refine XGo.go 2 rfl ?_
    by_cases z : c = 0
    · rw [show kiS f g c = 1 from if_pos z]
      refine XGo.ifp (by rw [z]; rfl) ?_
      refine XGo.go 1 rfl ?_
      exact XGo.iret _ rfl rfl .int rfl rfl
    · refine XGo.ifn (fun w => z (nI_inj (by omega) (by decide) (w.trans (show (0 : Int32) = nI 0 by decide)))) ?_
      refine XGo.go 2 rfl ?_
      refine XGo.call _ rfl xm_X1_isShift rfl rfl [.ref p, .int (nI c)] [] rfl rfl (rc rfl rfl) (Nat.le_of_ble_eq_true rfl) (k_shp2 d hN hG hp c6) ?_
      refine XGo.go 1 rfl ?_
      by_cases f0 : f (atC g c) = 0
      · rw [decide_eq_true (e0.mpr f0)]
        refine XGo.ifp rfl ?_
        refine XGo.go 2 rfl ?_
        by_cases f6 : f (atC g c + 6) = 0
        · rw [decide_eq_true f6] at hb
          subst hb
          refine XGo.ifp rfl ?_
          refine XGo.go 3 rfl ?_
          refine XGo.call _ rfl xm_X1_letter rfl rfl [.ref p, .int (nI c), .int (nI 1)] [] rfl rfl (rc rfl rfl) (Nat.le_of_ble_eq_true rfl) (k_let2 (d + 1) hN hG hp c6 (q := 1) (by decide)) ?_
          refine XGo.go 2 rfl ?_
          by_cases f2 : f (atC g c + 2) = Int32.ofInt 2
          · rw [show kiS f g c = 5 from (if_neg z).trans ((if_pos f0).trans ((if_pos f6).trans (if_pos f2)))]
            refine XGo.ifp (e1.mpr f2) ?_
            refine XGo.go 2 rfl ?_
            exact XGo.iret _ rfl rfl .int rfl rfl
          · rw [show kiS f g c = 2 from (if_neg z).trans ((if_pos f0).trans ((if_pos f6).trans (if_neg f2)))]
            refine XGo.ifn (fun w => f2 (e1.mp w)) ?_
            refine XGo.go 1 rfl ?_
            exact XGo.iret _ rfl rfl .int rfl rfl
        · rw [decide_eq_false f6] at hb
          subst hb
          rw [show kiS f g c = 4 from (if_neg z).trans ((if_pos f0).trans (if_neg f6))]
          refine XGo.ifn (by decide) ?_
          refine XGo.go 1 rfl ?_
          exact XGo.iret _ rfl rfl .int rfl rfl
      · rw [decide_eq_false fun w => f0 (e0.mp w)]
        refine XGo.ifn (by decide) ?_
        refine XGo.go 2 rfl ?_
        by_cases f6 : f (atC g c + 6) = 0
        · rw [decide_eq_true f6] at hb
          subst hb
          rw [show kiS f g c = 3 from (if_neg z).trans ((if_neg f0).trans (if_pos f6))]
          refine XGo.ifp rfl ?_
          refine XGo.go 1 rfl ?_
          exact XGo.iret _ rfl rfl .int rfl rfl
        · rw [decide_eq_false f6] at hb
          subst hb
          rw [show kiS f g c = 6 from (if_neg z).trans ((if_neg f0).trans (if_neg f6))]
          refine XGo.ifn (by decide) ?_
          refine XGo.go 2 rfl ?_
          exact XGo.iret _ rfl rfl .int rfl rfl
  by_cases f6 : f (atC g c + 6) = 0
  · refine XGo.ifp (e3.mpr f6) ?_
    have nx := nx false (by rw [decide_eq_true f6]; rfl)
    exact XGo.go 2 rfl nx
  · refine XGo.ifn (fun w => f6 (e3.mp w)) ?_
    have nx := nx true (by rw [decide_eq_false f6]; rfl)
    exact XGo.go 3 rfl nx
set_option maxRecDepth 100000 in
theorem k_kiM (d : Nat) {h : XH} {e : Nat → Int32} (hN : h.1 = 549) (o36 : h.2.2 536 = .inl (7, mO e)) (hf : h.2.2 537 = .inr (.inl (0, 490, f))) (hg : g < 6) {c : Nat} (c6 : c < 6) : XCall xM (d + 2) 169 [.ref 536, .int (nI g), .int (nI c)] h (some (.int (nI (kiS f g c)))) h := by
  have a1 : atC g c + 8 ≤ 428 := by unfold atC; omega
  refine XCall.of (M := xm_X7_kindOf) rfl (Nat.le_of_ble_eq_true rfl) ?_
  refine XGo.go 2 rfl ?_
  refine XGo.call _ rfl xm_X7_at rfl rfl [.int (nI g), .int (nI c)] [] rfl rfl (fun z => absurd rfl z) (Nat.le_of_ble_eq_true rfl) (k_at7 d h hg c6) ?_
  refine XGo.go 3 rfl ?_
  show XGo _ _ (if nI c = 0 then 10 else 12, [some (.ref 536), some (.int (nI g)), some (.int (nI c)), some (.int (nI (atC g c)))], [], h) _ _
  by_cases z : c = 0
  · rw [show kiS f g c = 1 from if_pos z]
    refine XGo.ifp (by rw [z]; rfl) ?_
    refine XGo.go 1 rfl ?_
    exact XGo.iret _ rfl rfl .int rfl rfl
  · refine XGo.ifn (fun w => z (nI_inj (by omega) (by decide) (w.trans (show (0 : Int32) = nI 0 by decide)))) ?_
    have i0 := ia_nI hf (xlt hN (by decide)) (show atC g c < 490 by omega) (by decide)
    have i6 := ia_nI hf (xlt hN (by decide)) (show atC g c + 6 < 490 by omega) (by decide)
    have i2 := ia_nI hf (xlt hN (by decide)) (show atC g c + 2 < 490 by omega) (by decide)
    refine XGo.go 1 rfl ?_
    refine XGo.getf rfl (xfd_o o36 (xlt hN (by decide)) (by decide) rfl) ?_
    refine XGo.go 1 rfl ?_
    refine XGo.iald rfl i0 ?_
    refine XGo.go 1 rfl ?_
    by_cases f0 : f (atC g c) = 0
    · refine XGo.ifp f0 ?_
      refine XGo.go 1 rfl ?_
      refine XGo.getf rfl (xfd_o o36 (xlt hN (by decide)) (by decide) rfl) ?_
      refine XGo.go 3 rfl ?_
      refine XGo.top (show nI (atC g c) + (Int8.ofInt 6).toInt32 = nI (atC g c + 6) from nI_add _ 6) ?_
      refine XGo.iald rfl i6 ?_
      refine XGo.go 1 rfl ?_
      by_cases f6 : f (atC g c + 6) = 0
      · refine XGo.ifp f6 ?_
        refine XGo.go 1 rfl ?_
        refine XGo.getf rfl (xfd_o o36 (xlt hN (by decide)) (by decide) rfl) ?_
        refine XGo.go 3 rfl ?_
        refine XGo.top (show nI (atC g c) + Int32.ofInt 2 = nI (atC g c + 2) from nI_add _ 2) ?_
        refine XGo.iald rfl i2 ?_
        refine XGo.go 2 rfl ?_
        by_cases f2 : f (atC g c + 2) = Int32.ofInt 2
        · rw [show kiS f g c = 5 from (if_neg z).trans ((if_pos f0).trans ((if_pos f6).trans (if_pos f2)))]
          refine XGo.ifp f2 ?_
          refine XGo.go 2 rfl ?_
          exact XGo.iret _ rfl rfl .int rfl rfl
        · rw [show kiS f g c = 2 from (if_neg z).trans ((if_pos f0).trans ((if_pos f6).trans (if_neg f2)))]
          refine XGo.ifn f2 ?_
          refine XGo.go 1 rfl ?_
          exact XGo.iret _ rfl rfl .int rfl rfl
      · rw [show kiS f g c = 4 from (if_neg z).trans ((if_pos f0).trans (if_neg f6))]
        refine XGo.ifn f6 ?_
        refine XGo.go 2 rfl ?_
        exact XGo.iret _ rfl rfl .int rfl rfl
    · refine XGo.ifn f0 ?_
      refine XGo.go 1 rfl ?_
      refine XGo.getf rfl (xfd_o o36 (xlt hN (by decide)) (by decide) rfl) ?_
      refine XGo.go 3 rfl ?_
      refine XGo.top (show nI (atC g c) + (Int8.ofInt 6).toInt32 = nI (atC g c + 6) from nI_add _ 6) ?_
      refine XGo.iald rfl i6 ?_
      refine XGo.go 1 rfl ?_
      by_cases f6 : f (atC g c + 6) = 0
      · rw [show kiS f g c = 3 from (if_neg z).trans ((if_neg f0).trans (if_pos f6))]
        refine XGo.ifp f6 ?_
        refine XGo.go 1 rfl ?_
        exact XGo.iret _ rfl rfl .int rfl rfl
      · rw [show kiS f g c = 6 from (if_neg z).trans ((if_neg f0).trans (if_neg f6))]
        refine XGo.ifn f6 ?_
        refine XGo.go 2 rfl ?_
        exact XGo.iret _ rfl rfl .int rfl rfl
end KI
/-- a kind is under another, as the model says it -/
def unM (a k : Int32) : Bool := decide (k = 0) || (decide (k = a) || ((decide (k = Int32.ofInt 2) && (decide (a = Int32.ofInt 4) || decide (a = Int32.ofInt 5))) || (decide (k = Int32.ofInt 3) && decide (a = (Int8.ofInt 6).toInt32))))
/-- and as the class does -/
def abV (one : Int32) : Int32 := if one < 0 ∨ 7 ≤ one.toNatClampNeg then 0 else xab one.toNatClampNeg
def unR (k : Int32) : Nat → Int32 → Bool
  | 0, one => decide (one = k)
  | q + 1, one => if one < 0 ∨ one = k then decide (one = k) else unR k q (abV one)
theorem unR_M : ∀ (a b : Fin 7), 1 ≤ a.val → unR (nI b.val) 7 (nI a.val) = unM (nI a.val) (nI b.val) := by decide +kernel
section UN
variable {h : XH}
theorem un_x (d : Nat) {a k one st : Int32} : XGo d xm_X6_isUnder (35, [some (.int a), some (.int k), some (.int one), some (.int st)], [], h) (some (.int (b01 (decide (one = k))))) h := by
  refine XGo.go 3 rfl ?_
  by_cases e : one = k
  · refine XGo.ifp e ?_
    refine XGo.go 2 rfl ?_
    exact XGo.ib (b := true) _ rfl rfl rfl (decide_eq_true e)
  · refine XGo.ifn e ?_
    refine XGo.go 1 rfl ?_
    exact XGo.ib (b := false) _ rfl rfl rfl (decide_eq_false e)
set_option maxRecDepth 100000 in
theorem un_l (d : Nat) (hN : h.1 = 549) (h0 : h.2.2 0 = .inr (.inl (0, 7, xab))) (a k : Int32) : ∀ (q s : Nat) (one : Int32), s + q = 7 → XGo (d + 1) xm_X6_isUnder (4, [some (.int a), some (.int k), some (.int one), some (.int (nI s))], [], h) (some (.int (b01 (unR k q one)))) h
  | 0, s, one, hs => by
    have hs : s = 7 := by omega
    subst hs
    refine XGo.go 2 rfl ?_
    refine XGo.alen rfl (xlen_i h0 (xlt hN (by decide)) (by decide)) ?_
    refine XGo.go 1 rfl ?_
    exact XGo.ifp (by decide) (un_x _)
  | q + 1, s, one, hs => by
    refine XGo.go 2 rfl ?_
    refine XGo.alen rfl (xlen_i h0 (xlt hN (by decide)) (by decide)) ?_
    refine XGo.go 1 rfl ?_
    refine XGo.ifn (fun z => absurd ((xnI_ge (m := 7) (by decide) (by omega)).mp z) (by omega)) ?_
    refine XGo.go 2 rfl ?_
    by_cases e1 : one < 0
    · rw [show unR k (q + 1) one = decide (one = k) from if_pos (Or.inl e1)]
      exact XGo.ifp e1 (un_x _)
    · refine XGo.ifn e1 ?_
      refine XGo.go 3 rfl ?_
      by_cases e2 : one = k
      · rw [show unR k (q + 1) one = decide (one = k) from if_pos (Or.inr e2)]
        exact XGo.ifp e2 (un_x _)
      · rw [show unR k (q + 1) one = unR k q (abV one) from if_neg (fun z => z.elim e1 e2)]
        refine XGo.ifn e2 ?_
        refine XGo.go 2 rfl ?_
        have c := k_at d h 0 7 xab one h0 (xlt hN (by decide)) (by decide)
        refine XGo.call _ rfl xm_X6_at rfl rfl [.ref 0, .int one] [] rfl rfl (fun z => absurd rfl z) (Nat.le_of_ble_eq_true rfl) c ?_
        have nx := un_l d hN h0 a k q (s + 1) (abV one) (by omega)
        rw [← show nI s + Int32.ofInt 1 = nI (s + 1) from nI_1 s] at nx
        exact XGo.go 3 rfl nx
  termination_by q => q
theorem k_unC (d : Nat) (hN : h.1 = 549) (h0 : h.2.2 0 = .inr (.inl (0, 7, xab))) {a b : Nat} (ha : 1 ≤ a ∧ a ≤ 6) (hb : b ≤ 6) : XCall xM (d + 2) 94 [.int (nI a), .int (nI b)] h (some (.int (b01 (unM (nI a) (nI b))))) h := by
  rw [← unR_M ⟨a, by omega⟩ ⟨b, by omega⟩ ha.1]
  exact XCall.of (M := xm_X6_isUnder) rfl (Nat.le_of_ble_eq_true rfl) (XGo.go 4 rfl (un_l d hN h0 (nI a) (nI b) 7 0 (nI a) rfl))
set_option maxRecDepth 100000 in
theorem k_unM (d : Nat) (h : XH) (a k : Int32) : XCall xM (d + 1) 170 [.int a, .int k] h (some (.int (b01 (unM a k)))) h := by
  refine XCall.of (M := xm_X7_isUnder) rfl (Nat.le_of_ble_eq_true rfl) ?_
  have yes : unM a k = true → XGo d xm_X7_isUnder (35, [some (.int a), some (.int k)], [], h) (some (.int (b01 (unM a k)))) h := fun e => by
    rw [e]
    refine XGo.go 2 rfl ?_
    exact XGo.ib (b := true) _ rfl rfl rfl rfl
  have no : unM a k = false → XGo d xm_X7_isUnder (39, [some (.int a), some (.int k)], [], h) (some (.int (b01 (unM a k)))) h := fun e => by
    rw [e]
    refine XGo.go 1 rfl ?_
    exact XGo.ib (b := false) _ rfl rfl rfl rfl
  have third : ¬ k = 0 → ¬ k = a → ¬ (k = Int32.ofInt 2 ∧ (a = Int32.ofInt 4 ∨ a = Int32.ofInt 5)) → XGo d xm_X7_isUnder (24, [some (.int a), some (.int k)], [], h) (some (.int (b01 (unM a k)))) h := fun n0 n1 n2 => by
    refine XGo.go 3 rfl ?_
    by_cases k3 : k = Int32.ofInt 3
    · refine XGo.ifp k3 ?_
      refine XGo.go 3 rfl ?_
      by_cases a6 : a = (Int8.ofInt 6).toInt32
      · exact XGo.ifp a6 (yes (by unfold unM; simp [k3, a6]))
      · refine XGo.ifn a6 (no ?_)
        unfold unM
        rw [decide_eq_false n0, decide_eq_false n1, decide_eq_false a6, decide_eq_false (show ¬ k = Int32.ofInt 2 by rw [k3]; decide)]
        simp
    · refine XGo.ifn k3 (no ?_)
      unfold unM
      rw [decide_eq_false n0, decide_eq_false n1, decide_eq_false k3]
      by_cases k2 : k = Int32.ofInt 2
      · rw [decide_eq_false fun w => n2 ⟨k2, Or.inl w⟩, decide_eq_false fun w => n2 ⟨k2, Or.inr w⟩]
        simp
      · rw [decide_eq_false k2]
        simp
  refine XGo.go 2 rfl ?_
  by_cases n0 : k = 0
  · exact XGo.ifp n0 (yes (by unfold unM; simp [n0]))
  · refine XGo.ifn n0 ?_
    refine XGo.go 3 rfl ?_
    by_cases n1 : k = a
    · exact XGo.ifp n1 (yes (by unfold unM; simp [n1]))
    · refine XGo.ifn n1 ?_
      refine XGo.go 3 rfl ?_
      by_cases k2 : k = Int32.ofInt 2
      · refine XGo.ifp k2 ?_
        refine XGo.go 3 rfl ?_
        by_cases a4 : a = Int32.ofInt 4
        · exact XGo.ifp a4 (yes (by unfold unM; simp [k2, a4]))
        · refine XGo.ifn a4 ?_
          refine XGo.go 3 rfl ?_
          by_cases a5 : a = Int32.ofInt 5
          · exact XGo.ifp a5 (yes (by unfold unM; simp [k2, a5]))
          · exact XGo.ifn a5 (third n0 n1 fun w => w.2.elim a4 a5)
      · exact XGo.ifn k2 (third n0 n1 fun w => k2 w.1)
end UN
/-! as on both sides: its answer -/
def INVa (L : Nat) (xs : Nat → Int32) (h : XH) : Prop := INVg L xs h ∧ h.2.2 0 = .inr (.inl (0, 7, xab))
theorem INVa_0 (L : Nat) (xs : Nat → Int32) (fl : Bool) : INVa L xs (xh0 (xg L xs fl)) := ⟨INVg_0 L xs fl, rfl⟩
/-- what as answers for a grant that is there -/
def asS (f : Nat → Int32) (g nc : Nat) (cl k : Int32) : Int32 := if ¬ isCl nc cl then m1 else if ¬ (0 ≤ k.toInt ∧ k.toInt ≤ 6) then m1 else if unM (nI (kiS f g cl.toNatClampNeg)) k = true then nI (kiS f g cl.toNatClampNeg) else (Int8.ofInt (-6)).toInt32
theorem k_in06 (d : Nat) (h : XH) (x : Int32) : XCall xM (d + 1) 107 [.int x, .int (Int32.ofInt 0), .int (Int8.ofInt 6).toInt32] h (some (.int (if 0 ≤ x.toInt ∧ x.toInt ≤ 6 then 1 else 0))) h := by
  have q := k_inI d h x (Int32.ofInt 0) (Int8.ofInt 6).toInt32
  rw [show (Int32.ofInt 0).toInt = 0 by decide, show ((Int8.ofInt 6).toInt32).toInt = 6 by decide] at q
  exact q
section AS
variable {h : XH} {fw : List Value} {G T : Nat} {f : Nat → Int32} {g nc : Nat} {Lt Nt : Nat → Int32}
set_option maxRecDepth 100000 in
theorem k_cas (hI : AInv w_W h) (h0 : h.2.2 0 = .inr (.inl (0, 7, xab))) (hH : GH h fw G T) (hG : G ≤ 6) (hg : g < G) (hnc : 1 ≤ nc ∧ nc ≤ 6) (hCG : CG h (24 + 3 * g) (nI nc) Lt Nt) (hC : CI f g Lt Nt nc) (cl k : Int32) : XCall xM 5 85 [.ref 13, .int (nI g), .int cl, .int k] h (some (.int (asS f g nc cl k))) h := by
  have hN := hH.N
  have e6 : ((Int8.ofInt 6).toInt32).toInt = 6 := by decide
  have head : ∀ {v : Option Value} {hend : XH}, XGo 4 xm_X6_as (21, [some (.ref 13), some (.int (nI g)), some (.int cl), some (.int k), some (.ref (24 + 3 * g)), none], [.int (if isCl nc cl then 1 else 0)], h) v hend → XCall xM 5 85 [.ref 13, .int (nI g), .int cl, .int k] h v hend := fun {v hend} t => by
    refine XCall.of (M := xm_X6_as) rfl (Nat.le_of_ble_eq_true rfl) ?_
    refine XGo.go 1 rfl ?_
    refine XGo.getr rfl hI (by decide) (by decide) w_rg_13 k13s (by decide) (r13_0 hI) ?_
    refine XGo.go 1 rfl ?_
    refine XGo.call _ rfl xm_X5_grantAt rfl rfl [.ref 14, .int (nI g)] [] rfl rfl (fun _ => ⟨14, _, rfl, hH.o14, by decide, by omega⟩) (Nat.le_of_ble_eq_true rfl) (k_gAt 3 hH hg hG) ?_
    refine XGo.go 5 rfl ?_
    exact XGo.call _ rfl xm_X1_hasClause rfl rfl [.ref (24 + 3 * g), .int cl] [] rfl rfl (fun _ => ⟨24 + 3 * g, _, rfl, hCG.1, by omega, by omega⟩) (Nat.le_of_ble_eq_true rfl) (k_hasC 3 hN hCG (by omega) hnc.2 cl) t
  have bad : XGo 4 xm_X6_as (34, [some (.ref 13), some (.int (nI g)), some (.int cl), some (.int k), some (.ref (24 + 3 * g)), none], [], h) (some (.int m1)) h := by
    refine XGo.go 1 rfl ?_
    exact XGo.iret _ rfl rfl .int rfl rfl
  unfold asS
  by_cases hl : isCl nc cl
  · rw [if_neg (fun q => q hl)]
    rw [if_pos hl] at head
    by_cases hk : 0 ≤ k.toInt ∧ k.toInt ≤ 6
    · rw [if_neg (fun q => q hk)]
      obtain ⟨cn, cle⟩ := i32_nI (x := cl) (hi := 5) hl.1 (by have := hl.2; omega)
      obtain ⟨kn, kl⟩ := i32_nI (x := k) (hi := 6) hk.1 hk.2
      have cl2 : cl.toNatClampNeg < nc := by
        have t := nI_toInt (n := cl.toNatClampNeg) (by omega)
        rw [← cn] at t
        have := hl.2
        omega
      have c22 := k_kiC 1 hN hCG (by omega) hnc.2 hC cl2
      rw [← cn] at c22
      have c94 := k_unC 2 hN h0 (kiS_in f g cl.toNatClampNeg) (show k.toNatClampNeg ≤ 6 by omega)
      rw [← kn] at c94
      refine head ?_
      refine XGo.go 1 rfl ?_
      refine XGo.ifn (by decide) ?_
      refine XGo.go 2 rfl ?_
      refine XGo.ifn (fun q => by have := lt0_iff.mp q; omega) ?_
      refine XGo.go 3 rfl ?_
      refine XGo.ifp (Int32.le_iff_toInt_le.mpr (by rw [e6]; exact hk.2)) ?_
      refine XGo.go 2 rfl ?_
      refine XGo.call _ rfl xm_X1_kindOf rfl rfl [.ref (24 + 3 * g), .int cl] [] rfl rfl (fun _ => ⟨24 + 3 * g, _, rfl, hCG.1, by omega, by omega⟩) (Nat.le_of_ble_eq_true rfl) c22 ?_
      refine XGo.go 3 rfl ?_
      refine XGo.call _ rfl xm_X6_isUnder rfl rfl [.int (nI (kiS f g cl.toNatClampNeg)), .int k] [] rfl rfl (fun z => absurd rfl z) (Nat.le_of_ble_eq_true rfl) c94 ?_
      refine XGo.go 1 rfl ?_
      cases u : unM (nI (kiS f g cl.toNatClampNeg)) k
      · refine XGo.ifp rfl ?_
        refine XGo.go 1 rfl ?_
        exact XGo.iret _ rfl rfl .int rfl rfl
      · refine XGo.ifn (by decide) ?_
        refine XGo.go 2 rfl ?_
        exact XGo.iret _ rfl rfl .int rfl rfl
    · rw [if_pos hk]
      refine head ?_
      refine XGo.go 1 rfl ?_
      refine XGo.ifn (by decide) ?_
      refine XGo.go 2 rfl ?_
      by_cases w0 : k < 0
      · exact XGo.ifp w0 bad
      · have e0 : ¬ k.toInt < 0 := fun q => w0 (lt0_iff.mpr q)
        refine XGo.ifn w0 ?_
        refine XGo.go 3 rfl ?_
        exact XGo.ifn (fun q => hk ⟨by omega, by have := Int32.le_iff_toInt_le.mp q; rw [e6] at this; exact this⟩) bad
  · rw [if_pos hl]
    rw [if_neg hl] at head
    refine head ?_
    refine XGo.go 1 rfl ?_
    exact XGo.ifp rfl bad
theorem mas_h (d : Nat) (hB : MBk h f) {gr cl k : Int32} {b : Int32} (q : XCall xM (d + 3) 109 [.ref 536, .int gr, .int cl] h (some (.int b)) h) {v : Option Value} {hend : XH} (t : XGo (d + 3) xm_X7_as (6, [some (.ref 536), some (.int gr), some (.int cl), some (.int k)], [.int b], h) v hend) : XCall xM (d + 4) 179 [.ref 536, .int gr, .int cl, .int k] h v hend := by
  obtain ⟨hN, hS, ⟨e, o36⟩, hf, -⟩ := id hB
  refine XCall.of (M := xm_X7_as) rfl (Nat.le_of_ble_eq_true rfl) ?_
  refine XGo.go 3 rfl ?_
  exact XGo.call _ rfl xm_X7_isClause rfl rfl [.ref 536, .int gr, .int cl] [] rfl rfl (fun _ => ⟨536, _, rfl, o36, by decide, by omega⟩) (Nat.le_of_ble_eq_true rfl) q t
set_option maxRecDepth 100000 in
theorem k_mas (hB : MBk h f) (hG : G ≤ 6) (f2 : f 2 = nI G) (hg : g < G) (hnc : 1 ≤ nc ∧ nc ≤ 6) (hfn : f (130 + g) = nI nc) (cl k : Int32) : XCall xM 4 179 [.ref 536, .int (nI g), .int cl, .int k] h (some (.int (asS f g nc cl k))) h := by
  obtain ⟨hN, hS, ⟨e, o36⟩, hf, -⟩ := id hB
  have head := @mas_h h f 0 hB (nI g) cl k _ (k_isCl7 0 hB hG f2 hg hnc hfn cl)
  have rc : ∀ {as : List Value} {M : XMeth}, xmC M = 7 → as.head? = some (.ref 536) → xrecv M as h := fun hM ha _ => ⟨536, _, ha, by rw [hM]; exact o36, by decide, by omega⟩
  have bad : XGo 3 xm_X7_as (19, [some (.ref 536), some (.int (nI g)), some (.int cl), some (.int k)], [], h) (some (.int m1)) h := by
    refine XGo.go 1 rfl ?_
    exact XGo.iret _ rfl rfl .int rfl rfl
  unfold asS
  by_cases hl : isCl nc cl
  · rw [if_neg (fun q => q hl)]
    have to16 : ∀ {v : Option Value} {hend : XH}, XGo 3 xm_X7_as (16, [some (.ref 536), some (.int (nI g)), some (.int cl), some (.int k)], [.int (if 0 ≤ k.toInt ∧ k.toInt ≤ 6 then 1 else 0)], h) v hend → XCall xM 4 179 [.ref 536, .int (nI g), .int cl, .int k] h v hend := fun {v hend} t => by
      refine head ?_
      rw [if_pos hl]
      refine XGo.go 1 rfl ?_
      refine XGo.ifn (by decide) ?_
      refine XGo.go 3 rfl ?_
      exact XGo.call _ rfl xm_X7_in rfl rfl [.int k, .int (Int32.ofInt 0), .int (Int8.ofInt 6).toInt32] [] rfl rfl (fun z => absurd rfl z) (Nat.le_of_ble_eq_true rfl) (k_in06 2 h k) t
    by_cases hk : 0 ≤ k.toInt ∧ k.toInt ≤ 6
    · rw [if_neg (fun q => q hk)]
      obtain ⟨cn, cle⟩ := i32_nI (x := cl) (hi := 5) hl.1 (by have := hl.2; omega)
      have c169 := k_kiM 1 hN o36 hf (show g < 6 by omega) (show cl.toNatClampNeg < 6 by omega)
      rw [← cn] at c169
      refine to16 ?_
      rw [if_pos hk]
      refine XGo.go 1 rfl ?_
      refine XGo.ifn (by decide) ?_
      refine XGo.go 3 rfl ?_
      refine XGo.call _ rfl xm_X7_kindOf rfl rfl [.ref 536, .int (nI g), .int cl] [] rfl rfl (rc rfl rfl) (Nat.le_of_ble_eq_true rfl) c169 ?_
      refine XGo.go 1 rfl ?_
      refine XGo.call _ rfl xm_X7_isUnder rfl rfl [.int (nI (kiS f g cl.toNatClampNeg)), .int k] [] rfl rfl (fun z => absurd rfl z) (Nat.le_of_ble_eq_true rfl) (k_unM 2 h _ _) ?_
      refine XGo.go 1 rfl ?_
      cases u : unM (nI (kiS f g cl.toNatClampNeg)) k
      · refine XGo.ifp rfl ?_
        refine XGo.go 1 rfl ?_
        exact XGo.iret _ rfl rfl .int rfl rfl
      · refine XGo.ifn (by decide) ?_
        refine XGo.go 3 rfl ?_
        refine XGo.call _ rfl xm_X7_kindOf rfl rfl [.ref 536, .int (nI g), .int cl] [] rfl rfl (rc rfl rfl) (Nat.le_of_ble_eq_true rfl) c169 ?_
        refine XGo.go 1 rfl ?_
        exact XGo.iret _ rfl rfl .int rfl rfl
    · rw [if_pos hk]
      refine to16 ?_
      rw [if_neg hk]
      refine XGo.go 1 rfl ?_
      exact XGo.ifp rfl bad
  · rw [if_pos hl]
    refine head ?_
    rw [if_neg hl]
    refine XGo.go 1 rfl ?_
    exact XGo.ifp rfl bad
end AS
/-- AS ON BOTH SIDES -/
theorem A_as (gr cl k : Int32) {L : Nat} {xs : Nat → Int32} {h : XH} (hA : INVa L xs h) : ∃ (v : Int32) (h1 h2 : XH), XCall xM 11 85 [.ref 13, .int gr, .int cl, .int k] h (some (.int v)) h1 ∧ AInv w_W h1 ∧ h1.2.2 1 = h.2.2 1 ∧ XCall xM 11 179 [.ref 536, .int gr, .int cl, .int k] h1 (some (.int v)) h2 ∧ INVa L xs h2 := by
  obtain ⟨hI, h0⟩ := id hA
  obtain ⟨f, n, m, G, T, fw, hf, W, hH, hG, f2, h3, hg⟩ := G_ctx hI
  have hB := mbk_of hI.1.1 hf
  have hN := hH.N
  rcases gr_dec hG gr with hb | ⟨g, hgG, rfl⟩
  · refine ⟨m1, h, h, XCall.up (by decide) (XCall.of (d := 1) (M := xm_X6_as) rfl (Nat.le_of_ble_eq_true rfl) ?_), hI.1.1, rfl, XCall.up (by decide) (mas_h 0 hB (k_isCl7n 0 hB hG f2 hb cl) ?_), hA⟩
    · refine XGo.go 1 rfl ?_
      refine XGo.getr rfl hI.1.1 (by decide) (by decide) w_rg_13 k13s (by decide) (r13_0 hI.1.1) ?_
      refine XGo.go 1 rfl ?_
      refine XGo.call _ rfl xm_X5_grantAt rfl rfl [.ref 14, .int gr] [] rfl rfl (fun _ => ⟨14, _, rfl, hH.o14, by decide, by omega⟩) (Nat.le_of_ble_eq_true rfl) (k_gNo 0 hH hG hb) ?_
      refine XGo.go 4 rfl ?_
      exact XGo.iret _ rfl rfl .int rfl rfl
    · refine XGo.go 1 rfl ?_
      refine XGo.ifp rfl ?_
      refine XGo.go 1 rfl ?_
      exact XGo.iret _ rfl rfl .int rfl rfl
  · obtain ⟨nc, Lt, Nt, hnc, hCG, hfn, hC⟩ := hg g hgG
    exact ⟨_, h, h, XCall.up (by decide) (k_cas hI.1.1 h0 hH hG hgG hnc hCG hC cl k), hI.1.1, rfl, XCall.up (by decide) (k_mas hB hG f2 hgG hnc hfn cl k), hA⟩
