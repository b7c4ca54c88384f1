/-! feed on both sides -/
def byt (w : Int64) (z : Int32) : Int32 := ((w >>> (((Int8.ofInt 8).toInt32 * z).toInt64 &&& 63)) &&& Int64.ofNat 255).toInt32
def zq (q : Nat) : Int32 := if q = 0 then Int32.ofInt (-1) else nI (q - 1)
theorem zq_s : ∀ q : Fin 9, nI q.val + Int32.ofInt (-1) = zq q.val := by decide +kernel
theorem zq_n : ∀ q : Fin 9, nI q.val - Int32.ofInt 1 = zq q.val := by decide +kernel
/-- q bytes put from place t on -/
def fd (w : Int64) (off : Nat) : Nat → Nat → (Nat → Int32) → Nat → Int32
  | 0, _, f => f
  | q + 1, t, f => fd w off q (t + 1) (upd f (off + t) (byt w (nI q)))
theorem fd_out {w : Int64} {off : Nat} : ∀ (q t : Nat) (f : Nat → Int32) (j : Nat), ¬ (off + t ≤ j ∧ j < off + t + q) → fd w off q t f j = f j
  | 0, _, _, _, _ => rfl
  | q + 1, t, f, j, hj => by
    unfold fd
    rw [fd_out q (t + 1) _ j (by omega), upd_ne (by omega)]
theorem fd_alike {w : Int64} {a b : Nat} : ∀ (q t : Nat) (f g : Nat → Int32), (∀ i, i < t → f (a + i) = g (b + i)) → ∀ i, i < t + q → fd w a q t f (a + i) = fd w b q t g (b + i)
  | 0, t, f, g, h, i, hi => h i (by omega)
  | q + 1, t, f, g, h, i, hi => by
    unfold fd
    refine fd_alike q (t + 1) _ _ (fun j hj => ?_) i (by omega)
    by_cases e : j = t
    · rw [e, upd_at, upd_at]
    · rw [upd_ne (by omega), upd_ne (by omega)]
      exact h j (by omega)
theorem fd_congr {w : Int64} {off j : Nat} (hj : ¬ j = 4) : ∀ (q t : Nat) (f g : Nat → Int32), (∀ i, ¬ i = 4 → f i = g i) → fd w off q t f j = fd w off q t g j
  | 0, _, _, _, h => h j hj
  | q + 1, t, f, g, h => by
    unfold fd
    refine fd_congr hj q (t + 1) _ _ fun i hi => ?_
    by_cases e : i = off + t
    · rw [e, upd_at, upd_at]
    · rw [upd_ne e, upd_ne e]
      exact h i hi
set_option maxRecDepth 100000 in
theorem cfeed_l (d : Nat) (w : Int64) (n : Int32) : ∀ (q t : Nat) (H : XH) (fs fw : List Value) (tp : Nat → Int32), q ≤ 8 → t + q ≤ 80 → H.1 = 549 → H.2.2 13 = .inl (6, fs) → fs[0]? = some (.ref 14) → H.2.2 14 = .inl (5, fw) → fw.length = 15 → fw[9]? = some (.int (nI t)) → fw[10]? = some (.ref 21) → H.2.2 21 = .inr (.inl (0, 80, tp)) →
    ∃ H1 : XH, XGo (d + 1) xm_X6_feed (36, [some (.ref 13), some (.long w), none, some (.int n), some (.int (zq q))], [], H) (some (.int (nI (t + q)))) H1 ∧ rd H1 14 9 = some (.int (nI (t + q))) ∧ (∀ b, ¬ b = 9 → rd H1 14 b = rd H 14 b) ∧ H1.2.2 21 = .inr (.inl (0, 80, fd w 0 q t tp)) ∧ ∀ z, ¬ z = 14 → ¬ z = 21 → H1.2.2 z = H.2.2 z
  | 0, t, H, fs, fw, tp, _, _, hN, o13, f0, o14, len, w9, w10, o21 => by
    refine ⟨H, ?_, by rw [rd_fld o14]; exact w9, fun _ _ => rfl, o21, fun _ _ _ => rfl⟩
    refine XGo.go 2 rfl ?_
    refine XGo.ifp (show zq 0 < 0 by decide) ?_
    refine XGo.go 1 rfl ?_
    refine XGo.getf rfl (xfd_o o13 (xlt hN (by decide)) (by decide) f0) ?_
    refine XGo.getf rfl (xfd_o o14 (xlt hN (by decide)) (by decide) w9) ?_
    exact XGo.iret _ rfl rfl .int rfl rfl
  | q + 1, t, H, fs, fw, tp, hq, ht, hN, o13, f0, o14, len, w9, w10, o21 => by
    have ez : zq (q + 1) = nI q := rfl
    have q1 := k_put_in d H 21 80 tp (nI t) (byt w (nI q)) o21 (xlt hN (by decide)) (by decide) (by decide) (ca_nI (by omega) (by decide))
    rw [xnI_nat (by omega)] at q1
    let A : XH := xup H 21 (.inr (.inl (0, 80, upd tp t (byt w (nI q)))))
    have An : ∀ z, ¬ z = 21 → A.2.2 z = H.2.2 z := fun z hz => xup_ne _ _ hz
    let B : XH := xup A 14 (.inl (5, fw.set 9 (.int (nI (t + 1)))))
    have B14 : B.2.2 14 = .inl (5, fw.set 9 (.int (nI (t + 1)))) := xup_eq _ _ _
    have Bn : ∀ z, ¬ z = 14 → B.2.2 z = A.2.2 z := fun z hz => xup_ne _ _ hz
    obtain ⟨H1, g, r9, rb, e21, en⟩ := cfeed_l d w n q (t + 1) B fs (fw.set 9 (.int (nI (t + 1)))) (upd tp t (byt w (nI q))) (by omega) (by omega) hN ((Bn 13 (by decide)).trans ((An 13 (by decide)).trans o13)) f0 B14 (by rw [List.length_set]; exact len) (List.getElem?_set_self (by omega)) (by rw [List.getElem?_set_ne (by decide)]; exact w10) ((Bn 21 (by decide)).trans (xup_eq _ _ _))
    have e1 : t + (q + 1) = t + 1 + q := by omega
    rw [e1]
    refine ⟨H1, ?_, r9, fun b hb => ?_, ?_, fun z h1 h2 => (en z h1 h2).trans ((Bn z h1).trans (An z h2))⟩
    · rw [ez]
      refine XGo.go 2 rfl ?_
      refine XGo.ifn (xnI_lt0 (by omega)) ?_
      refine XGo.go 1 rfl ?_
      refine XGo.getf rfl (xfd_o o13 (xlt hN (by decide)) (by decide) f0) ?_
      refine XGo.getf rfl (xfd_o o14 (xlt hN (by decide)) (by decide) w10) ?_
      refine XGo.go 1 rfl ?_
      refine XGo.getf rfl (xfd_o o13 (xlt hN (by decide)) (by decide) f0) ?_
      refine XGo.getf rfl (xfd_o o14 (xlt hN (by decide)) (by decide) w9) ?_
      refine XGo.go 8 rfl ?_
      show XGo _ _ (67, _, [.int (byt w (nI q)), .int (nI t), .ref 21], _) _ _
      refine XGo.call _ rfl xm_X6_put rfl rfl [.ref 21, .int (nI t), .int (byt w (nI q))] [] rfl rfl (fun z => absurd rfl z) (Nat.le_of_ble_eq_true rfl) q1 ?_
      show XGo _ _ (70, _, [], A) _ _
      refine XGo.go 1 rfl ?_
      refine XGo.getf rfl (xfd_o ((An 13 (by decide)).trans o13) (xlt (h := A) hN (by decide)) (by decide) f0) ?_
      refine XGo.go 1 rfl ?_
      refine XGo.getf rfl (xfd_o ((An 14 (by decide)).trans o14) (xlt (h := A) hN (by decide)) (by decide) w9) ?_
      refine XGo.go 2 rfl ?_
      refine XGo.putf rfl ((An 14 (by decide)).trans o14) (xlt (h := A) hN (by decide)) (by decide) (by omega) rfl rfl ?_
      show XGo _ _ (83, _, [], xup A 14 (.inl (5, fw.set 9 (.int (nI t + Int32.ofInt 1))))) _ _
      rw [show nI t + Int32.ofInt 1 = nI (t + 1) from nI_1 t]
      refine XGo.go 2 rfl ?_
      show XGo _ _ (36, [some (.ref 13), some (.long w), none, some (.int n), some (.int (nI q + Int32.ofInt (-1)))], [], B) _ _
      rw [zq_s ⟨q, by omega⟩]
      exact g
    · rw [rb b hb, rd_fld B14, rd_fld o14, List.getElem?_set_ne (fun e => hb e.symm)]
    · show H1.2.2 21 = .inr (.inl (0, 80, fd w 0 q (t + 1) (upd tp (0 + t) (byt w (nI q)))))
      rw [Nat.zero_add]
      exact e21
set_option maxRecDepth 100000 in
theorem mfeed_l (d : Nat) {h : XH} {e : Nat → Int32} (w : Int64) (n : Int32) : ∀ (q t : Nat) (f : Nat → Int32), q ≤ 8 → t + q ≤ 80 → f 4 = nI t →
    ∃ f2 : Nat → Int32, XGo d xm_X7_feed (34, [some (.ref 536), some (.long w), none, some (.int n), some (.int (zq q))], [], MH h e f) (some (.int (nI (t + q)))) (MH h e f2) ∧ f2 4 = nI (t + q) ∧ ∀ j, ¬ j = 4 → f2 j = fd w 10 q t f j
  | 0, t, f, _, _, f4 => by
    refine ⟨f, ?_, f4, fun _ _ => rfl⟩
    refine XGo.go 2 rfl ?_
    refine XGo.ifp (show zq 0 < 0 by decide) ?_
    refine XGo.go 3 rfl ?_
    refine XGo.iald rfl (xia_i (n := 490) (f := f) rfl (Nat.le_of_ble_eq_true rfl) (by decide)) ?_
    show XGo _ _ (87, _, [.int (f 4)], _) _ _
    rw [f4]
    exact XGo.iret _ rfl rfl .int rfl rfl
  | q + 1, t, f, hq, ht, f4 => by
    have ez : zq (q + 1) = nI q := rfl
    obtain ⟨f2, g, g4, gf⟩ := mfeed_l d (h := h) (e := e) w n q (t + 1) (upd (upd f (10 + t) (byt w (nI q))) 4 (nI (t + 1))) (by omega) (by omega) upd_at
    have e1 : t + (q + 1) = t + 1 + q := by omega
    rw [e1]
    refine ⟨f2, ?_, g4, fun j hj => ?_⟩
    · rw [ez]
      refine XGo.go 2 rfl ?_
      refine XGo.ifn (xnI_lt0 (by omega)) ?_
      refine XGo.go 6 rfl ?_
      refine XGo.iald rfl (xia_i (n := 490) (f := f) rfl (Nat.le_of_ble_eq_true rfl) (by decide)) ?_
      show XGo _ _ (51, _, [.int (f 4), .int (nI 10), .ref 537], _) _ _
      rw [f4]
      refine XGo.go 9 rfl ?_
      show XGo _ _ (64, _, [.int (byt w (nI q)), .int (nI 10 + nI t), .ref 537], _) _ _
      rw [show nI 10 + nI t = nI (10 + t) from nI_add 10 t]
      refine XGo.iast rfl (rfl : (MH h e f).2.2 537 = _) (Nat.le_of_ble_eq_true rfl) (by decide) (ca_nI (by omega) (by decide)) ?_
      rw [xnI_nat (by omega), MH.ro]
      refine XGo.go 4 rfl ?_
      refine XGo.iald rfl (xia_i (n := 490) (f := upd f (10 + t) (byt w (nI q))) rfl (Nat.le_of_ble_eq_true rfl) (by decide)) ?_
      show XGo _ _ (72, _, [.int (upd f (10 + t) (byt w (nI q)) 4), .int (nI 4), .ref 537], _) _ _
      rw [upd_ne (by omega), f4]
      refine XGo.go 2 rfl ?_
      show XGo _ _ (74, _, [.int (nI t + Int32.ofInt 1), .int (nI 4), .ref 537], _) _ _
      rw [show nI t + Int32.ofInt 1 = nI (t + 1) from nI_1 t]
      refine XGo.iast rfl (rfl : (MH h e (upd f (10 + t) (byt w (nI q)))).2.2 537 = _) (Nat.le_of_ble_eq_true rfl) (by decide) (ca_nI (by decide) (by decide)) ?_
      rw [xnI_nat (by decide), MH.ro]
      refine XGo.go 2 rfl ?_
      show XGo _ _ (34, [some (.ref 536), some (.long w), none, some (.int n), some (.int (nI q + Int32.ofInt (-1)))], [], _) _ _
      rw [zq_s ⟨q, by omega⟩]
      exact g
    · rw [gf j hj]
      show fd w 10 q (t + 1) (upd (upd f (10 + t) (byt w (nI q))) 4 (nI (t + 1))) j = fd w 10 q (t + 1) (upd f (10 + t) (byt w (nI q))) j
      exact fd_congr hj q (t + 1) _ _ (fun i hi => upd_ne hi) 

/-- what feed answers: refused, or the tape's new size -/
def fcode (T : Nat) (n : Int32) : Int32 := if ¬ (1 ≤ n.toInt ∧ n.toInt ≤ 8) then (Int8.ofInt (-2)).toInt32 else if 80 < T + n.toNatClampNeg then (Int8.ofInt (-4)).toInt32 else nI (T + n.toNatClampNeg)
theorem one_int : (Int32.ofInt 1).toInt = 1 := by decide
theorem eight_int : (Int8.ofInt 8).toInt32.toInt = 8 := by decide
set_option maxRecDepth 100000 in
theorem k_cfeed (d : Nat) {h : XH} (hI : AInv w_W h) {T : Nat} (hT : T ≤ 80) (h9 : rd h 14 9 = some (.int (nI T))) {tp : Nat → Int32} (o21 : h.2.2 21 = .inr (.inl (0, 80, tp))) (w : Int64) (n : Int32) : ∃ h1 : XH, XCall xM (d + 2) 65 [.ref 13, .long w, .int n] h (some (.int (fcode T n))) h1 ∧ ((¬ ((1 ≤ n.toInt ∧ n.toInt ≤ 8) ∧ T + n.toNatClampNeg ≤ 80) ∧ h1 = h) ∨ (((1 ≤ n.toInt ∧ n.toInt ≤ 8) ∧ T + n.toNatClampNeg ≤ 80) ∧ rd h1 14 9 = some (.int (nI (T + n.toNatClampNeg))) ∧ (∀ b, ¬ b = 9 → rd h1 14 b = rd h 14 b) ∧ h1.2.2 21 = .inr (.inl (0, 80, fd w 0 n.toNatClampNeg T tp)) ∧ ∀ z, ¬ z = 14 → ¬ z = 21 → h1.2.2 z = h.2.2 z)) := by
  obtain ⟨fs, o13, -, -⟩ := w_obj hI (k := 13) (by decide) w_rg_13 k13S
  obtain ⟨fw, o14, l14, -⟩ := w_obj hI (k := 14) (by decide) w_rg_14 k14s
  have f0 := ref_at hI (by decide) w_rg_13 k13S (b := 0) rfl rfl w_rg_14 (by decide) o13
  have w9 : fw[9]? = some (.int (nI T)) := (rd_fld o14).symm.trans h9
  have w10 := ref_at hI (by decide) w_rg_14 k14s (b := 10) rfl rfl w_rg_x.2.1 (by decide) o14
  have hN : h.1 = 549 := hI.1
  have bad : ¬ (1 ≤ n.toInt ∧ n.toInt ≤ 8) → XGo (d + 1) xm_X6_feed (11, [some (.ref 13), some (.long w), none, some (.int n), none], [], h) (some (.int (fcode T n))) h := fun q => by
    unfold fcode
    rw [if_pos q]
    refine XGo.go 1 rfl ?_
    exact XGo.iret _ rfl rfl .int rfl rfl
  have entry : ∀ {v : Option Value} {hend : XH}, XGo (d + 1) xm_X6_feed (if n < Int32.ofInt 1 then 11 else 5, [some (.ref 13), some (.long w), none, some (.int n), none], [], h) v hend → XCall xM (d + 2) 65 [.ref 13, .long w, .int n] h v hend := fun g => XCall.of (M := xm_X6_feed) rfl (Nat.le_of_ble_eq_true rfl) (XGo.go 3 rfl g)
  by_cases g1 : n < Int32.ofInt 1
  · have := Int32.lt_iff_toInt_lt.mp g1
    rw [one_int] at this
    have q : ¬ (1 ≤ n.toInt ∧ n.toInt ≤ 8) := by omega
    exact ⟨h, entry (XGo.ifp g1 (bad q)), Or.inl ⟨fun z => q z.1, rfl⟩⟩
  · have a1 := Int32.le_iff_toInt_le.mp (Int32.not_lt.mp g1)
    rw [one_int] at a1
    by_cases g2 : n ≤ (Int8.ofInt 8).toInt32
    · have a2 := Int32.le_iff_toInt_le.mp g2
      rw [eight_int] at a2
      have q : 1 ≤ n.toInt ∧ n.toInt ≤ 8 := ⟨a1, a2⟩
      obtain ⟨en, ln⟩ := i32_nI (hi := 8) (by omega) a2
      obtain ⟨m, hm⟩ : ∃ m, m = n.toNatClampNeg := ⟨_, rfl⟩
      have m8 : m ≤ 8 := by omega
      rw [← hm] at en
      have m1 : 1 ≤ m := by
        have := congrArg Int32.toInt en
        rw [nI_toInt (by omega)] at this
        omega
      rw [← hm]
      have road : ∀ {v : Option Value} {hend : XH}, XGo (d + 1) xm_X6_feed (if nI (T + m) ≤ (Int8.ofInt 80).toInt32 then 31 else 28, [some (.ref 13), some (.long w), none, some (.int n), none], [], h) v hend → XCall xM (d + 2) 65 [.ref 13, .long w, .int n] h v hend := fun g => by
        refine entry (XGo.ifn g1 ?_)
        refine XGo.go 3 rfl ?_
        refine XGo.ifp g2 ?_
        refine XGo.go 1 rfl ?_
        refine XGo.getf rfl (xfd_o o13 (xlt hN (by decide)) (by decide) f0) ?_
        refine XGo.getf rfl (xfd_o o14 (xlt hN (by decide)) (by decide) w9) ?_
        refine XGo.go 3 rfl ?_
        show XGo _ _ (25, _, [.int (Int8.ofInt 80).toInt32, .int (nI T + n)], _) _ _
        rw [en, show nI T + nI m = nI (T + m) from nI_add T m, ← en]
        exact XGo.go 1 rfl g
      by_cases g3 : T + m ≤ 80
      · obtain ⟨H1, gl, r9, rb, e21, ez⟩ := cfeed_l d w n m T h fs fw tp m8 g3 hN o13 f0 o14 l14 w9 w10 o21
        refine ⟨H1, ?_, Or.inr ⟨⟨q, g3⟩, r9, rb, e21, ez⟩⟩
        unfold fcode
        rw [if_neg (fun z => z q), ← hm, if_neg (by omega)]
        refine road (XGo.ifp ?_ ?_)
        · rw [Int32.le_iff_toInt_le, nI_toInt (by omega)]
          show ((T + m : Nat) : Int) ≤ 80
          omega
        · refine XGo.go 4 rfl ?_
          show XGo _ _ (36, [some (.ref 13), some (.long w), none, some (.int n), some (.int (n - Int32.ofInt 1))], [], _) _ _
          rw [show n - Int32.ofInt 1 = zq m by rw [en]; exact zq_n ⟨m, by omega⟩]
          exact gl
      · refine ⟨h, ?_, Or.inl ⟨fun z => g3 z.2, rfl⟩⟩
        unfold fcode
        rw [if_neg (fun z => z q), ← hm, if_pos (by omega)]
        refine road (XGo.ifn ?_ ?_)
        · rw [Int32.le_iff_toInt_le, nI_toInt (by omega)]
          show ¬ ((T + m : Nat) : Int) ≤ 80
          omega
        · refine XGo.go 1 rfl ?_
          exact XGo.iret _ rfl rfl .int rfl rfl
    · have a2 := Int32.lt_iff_toInt_lt.mp (Int32.not_le.mp g2)
      rw [eight_int] at a2
      have q : ¬ (1 ≤ n.toInt ∧ n.toInt ≤ 8) := by omega
      refine ⟨h, entry (XGo.ifn g1 ?_), Or.inl ⟨fun z => q z.1, rfl⟩⟩
      refine XGo.go 3 rfl ?_
      exact XGo.ifn g2 (bad q)
set_option maxRecDepth 100000 in
theorem k_mfeed (d : Nat) {h : XH} (hI : AInv w_W h) {T : Nat} (hT : T ≤ 80) {f : Nat → Int32} (o537 : h.2.2 537 = .inr (.inl (0, 490, f))) (f4 : f 4 = nI T) (w : Int64) (n : Int32) : ∃ (h1 : XH) (f2 : Nat → Int32), XCall xM (d + 2) 120 [.ref 536, .long w, .int n] h (some (.int (fcode T n))) h1 ∧ h1.2.2 537 = .inr (.inl (0, 490, f2)) ∧ ((¬ ((1 ≤ n.toInt ∧ n.toInt ≤ 8) ∧ T + n.toNatClampNeg ≤ 80) ∧ f2 = f) ∨ (((1 ≤ n.toInt ∧ n.toInt ≤ 8) ∧ T + n.toNatClampNeg ≤ 80) ∧ f2 4 = nI (T + n.toNatClampNeg) ∧ ∀ j, ¬ j = 4 → f2 j = fd w 10 n.toNatClampNeg T f j)) := by
  obtain ⟨e, f', hh, -, h37⟩ := mh_of hI
  have ef : f' = f := by
    rw [o537] at h37
    cases h37
    rfl
  subst ef
  have entry : ∀ {v : Option Value} {hend : XH}, XGo (d + 1) xm_X7_feed (7, [some (.ref 536), some (.long w), none, some (.int n), none], [.int (if 1 ≤ n.toInt ∧ n.toInt ≤ 8 then 1 else 0)], MH h e f') v hend → XCall xM (d + 2) 120 [.ref 536, .long w, .int n] h v hend := fun {v hend} g => by
    have q1 := k_inI d (MH h e f') n (Int32.ofInt 1) (Int8.ofInt 8).toInt32
    rw [one_int, eight_int] at q1
    have g1 : XCall xM (d + 2) 120 [.ref 536, .long w, .int n] (MH h e f') v hend := XCall.of (M := xm_X7_feed) rfl (Nat.le_of_ble_eq_true rfl) (by
      refine XGo.go 3 rfl ?_
      exact XGo.call _ rfl xm_X7_in rfl rfl [.int n, .int (Int32.ofInt 1), .int (Int8.ofInt 8).toInt32] [] rfl rfl (fun z => absurd rfl z) (Nat.le_of_ble_eq_true rfl) q1 g)
    rw [← hh] at g1
    exact g1
  by_cases q : 1 ≤ n.toInt ∧ n.toInt ≤ 8
  · obtain ⟨en, ln⟩ := i32_nI (hi := 8) (by omega) q.2
    obtain ⟨m, hm⟩ : ∃ m, m = n.toNatClampNeg := ⟨_, rfl⟩
    have m8 : m ≤ 8 := by omega
    rw [← hm] at en
    rw [← hm]
    have road : ∀ {v : Option Value} {hend : XH}, XGo (d + 1) xm_X7_feed (if nI (T + m) ≤ (Int8.ofInt 80).toInt32 then 29 else 26, [some (.ref 536), some (.long w), none, some (.int n), none], [], MH h e f') v hend → XCall xM (d + 2) 120 [.ref 536, .long w, .int n] h v hend := fun g => by
      refine entry ?_
      rw [if_pos q]
      refine XGo.go 1 rfl ?_
      refine XGo.ifn (by decide) ?_
      refine XGo.go 3 rfl ?_
      refine XGo.iald rfl (xia_i (n := 490) (f := f') rfl (Nat.le_of_ble_eq_true rfl) (by decide)) ?_
      show XGo _ _ (19, _, [.int (f' 4)], _) _ _
      rw [f4]
      refine XGo.go 3 rfl ?_
      show XGo _ _ (23, _, [.int (Int8.ofInt 80).toInt32, .int (nI T + n)], _) _ _
      rw [en, show nI T + nI m = nI (T + m) from nI_add T m, ← en]
      exact XGo.go 1 rfl g
    by_cases g3 : T + m ≤ 80
    · obtain ⟨f2, gl, g4, gf⟩ := mfeed_l (d + 1) (h := h) (e := e) w n m T f' m8 g3 f4
      refine ⟨MH h e f2, f2, ?_, rfl, Or.inr ⟨⟨q, g3⟩, g4, gf⟩⟩
      unfold fcode
      rw [if_neg (fun z => z q), ← hm, if_neg (by omega)]
      refine road (XGo.ifp ?_ ?_)
      · rw [Int32.le_iff_toInt_le, nI_toInt (by omega)]
        show ((T + m : Nat) : Int) ≤ 80
        omega
      · refine XGo.go 4 rfl ?_
        show XGo _ _ (34, [some (.ref 536), some (.long w), none, some (.int n), some (.int (n - Int32.ofInt 1))], [], _) _ _
        rw [show n - Int32.ofInt 1 = zq m by rw [en]; exact zq_n ⟨m, by omega⟩]
        exact gl
    · refine ⟨h, f', ?_, o537, Or.inl ⟨fun z => g3 z.2, rfl⟩⟩
      unfold fcode
      rw [if_neg (fun z => z q), ← hm, if_pos (by omega)]
      refine road (XGo.ifn ?_ ?_)
      · rw [Int32.le_iff_toInt_le, nI_toInt (by omega)]
        show ¬ ((T + m : Nat) : Int) ≤ 80
        omega
      · rw [← hh]
        refine XGo.go 1 rfl ?_
        exact XGo.iret _ rfl rfl .int rfl rfl
  · refine ⟨h, f', entry ?_, o537, Or.inl ⟨fun z => q z.1, rfl⟩⟩
    unfold fcode
    rw [if_pos q, if_neg q, ← hh]
    refine XGo.go 1 rfl ?_
    refine XGo.ifp rfl ?_
    refine XGo.go 1 rfl ?_
    exact XGo.iret _ rfl rfl .int rfl rfl
/-- FEED ON BOTH SIDES -/
theorem G_feed (w : Int64) (n : Int32) {L : Nat} {xs : Nat → Int32} {h : XH} (hI : INVg L xs h) : ∃ (v : Int32) (h1 h2 : XH), XCall xM 11 65 [.ref 13, .long w, .int n] h (some (.int v)) h1 ∧ AInv w_W h1 ∧ h1.2.2 1 = h.2.2 1 ∧ XCall xM 11 120 [.ref 536, .long w, .int n] h1 (some (.int v)) h2 ∧ INVg L xs h2 := by
  obtain ⟨hw, gW, gK, gS, gB⟩ := hI
  obtain ⟨f0, hf0⟩ := w_row hw.1 (Or.inl rfl)
  obtain ⟨G, T, ⟨hG, hT⟩, ⟨w7, f2⟩, ⟨w9, f4⟩, ht, hg⟩ := gW.f fun j hj => rd_row hf0 hj
  obtain ⟨tp, o21⟩ := w_ints hw.1 (k := 21) (by decide) w_rg_x.2.1 (show w_S 21 = (1, 0, 80, [], w_s21.2.2.2.2) from rfl)
  obtain ⟨h1, c1, hcase⟩ := k_cfeed 0 hw.1 hT w9 o21 w n
  obtain ⟨v', h1', d1, j1, j2, jF⟩ := contract h_38 (by decide +kernel) rfl (gal13 (galL w (galT n gal0))) hw.1 hw.2.1
  obtain ⟨-, e2⟩ := XCall.det c1 d1
  subst e2
  have x1 := XCall.ext _ _ _ _ _ _ c1 (by rw [hw.1.1]; decide)
  have hI1 := invw_fr hw j1 j2 jF (by decide +kernel) (x1 1 (by decide))
  have gB1 := sb0_ext gB x1
  have gS1 := gst_fr gS jF (by decide +kernel)
  have gK1 := grK_fr gK j1 jF (by decide +kernel)
  have r537 : ∀ j, rd h1 537 j = rd h 537 j := fun j => rdF (b := j) w_rg_537 (by decide) jF (by unfold ahit; rfl)
  obtain ⟨f1, hf1⟩ := w_row j1 (Or.inl rfl)
  have ef : ∀ j, j < 490 → f1 j = f0 j := fun j hj => by
    have := r537 j
    rw [rd_row hf1 hj, rd_row hf0 hj] at this
    exact int_inj this
  obtain ⟨h2, f3, c2, hf3, mcase⟩ := k_mfeed 0 j1 hT hf1 ((ef 4 (by decide)).trans f4) w n
  obtain ⟨u', h2', d2, k1, k2, kF⟩ := contract h_253 (by decide +kernel) rfl (gal536 (galL w (galT n gal0))) j1 j2
  obtain ⟨-, e4⟩ := XCall.det c2 d2
  subst e4
  have x2 := XCall.ext _ _ _ _ _ _ c2 (by rw [j1.1]; decide)
  have hI2 := invw_fr hI1 k1 k2 kF (by decide +kernel) (x2 1 (by decide))
  have lo9 : ∀ z b, 13 ≤ z → z < 536 → rd h2 z b = rd h1 z b := fun z b h13 hz => kF z b (by show z < 549; omega) fun w hw2 hc => by
    have hr : w_W.1 z < 65 := by
      rw [w_W1]
      exact rg_lo hz
    simp only [c_253, List.mem_cons, List.not_mem_nil, or_false] at hw2
    rcases hw2 with rfl | rfl <;> (have := hc.1; dsimp only at this; omega)
  refine ⟨_, h1, h2, XCall.up (by decide) c1, j1, x1 1 (by decide), XCall.up (by decide) c2, hI2, ?_, grK_fr gK1 k1 kF (by decide +kernel), gst_fr gS1 kF (by decide +kernel), sb0_ext gB1 x2⟩
  have hf2' : ∀ j, j < 490 → rd h2 537 j = some (.int (f3 j)) := fun j hj => rd_row hf3 hj
  have up : ∀ {g : Nat} {f : Nat → Int32}, g < 6 → GA h1 (24 + 3 * g) f g → GA h2 (24 + 3 * g) f g := fun hg2 k => k.fr (lo9 _ 0 (by omega) (by omega)) (fun j _ => lo9 _ j (by omega) (by omega)) (fun j _ => lo9 _ j (by omega) (by omega)) rfl fun _ _ _ => rfl
  rcases hcase with ⟨nq, a2⟩ | ⟨yq, a1, a2, a3, a4⟩
  · rcases mcase with ⟨-, m3⟩ | ⟨yq, -⟩
    · subst a2
      subst m3
      exact ⟨f3, G, T, hf2', ⟨hG, hT⟩, ⟨(lo9 14 7 (by decide) (by decide)).trans w7, (ef 2 (by decide)).trans f2⟩, ⟨(lo9 14 9 (by decide) (by decide)).trans w9, (ef 4 (by decide)).trans f4⟩, fun i hi => by rw [lo9 21 i (by decide) (by decide), ht i hi, ef _ (by omega)], fun g hg2 => up (by omega) ((hg g hg2).fr rfl (fun _ _ => rfl) (fun _ _ => rfl) (ef _ (by omega)) fun j h1 h2 => ef j (by omega))⟩
    · exact absurd yq nq
  · rcases mcase with ⟨nq, -⟩ | ⟨-, m4, m5⟩
    · exact absurd yq nq
    · have keep : ∀ j, ¬ j = 4 → ¬ (10 ≤ j ∧ j < 90) → j < 490 → f3 j = f0 j := fun j h1 h2 h3 => by
        rw [m5 j h1, fd_out _ _ _ _ (by omega), ef j h3]
      refine ⟨f3, G, T + n.toNatClampNeg, hf2', ⟨hG, yq.2⟩, ⟨(lo9 14 7 (by decide) (by decide)).trans ((a2 7 (by decide)).trans w7), (keep 2 (by decide) (by decide) (by decide)).trans f2⟩, ⟨(lo9 14 9 (by decide) (by decide)).trans a1, m4⟩, fun i hi => ?_, fun g hg2 => ?_⟩
      · rw [lo9 21 i (by decide) (by decide), rd_ints a3 (by omega), m5 _ (by omega)]
        have al := fd_alike (w := w) (a := 10) (b := 0) n.toNatClampNeg T f1 tp (fun i hi => by
          have := ht i hi
          rw [rd_ints o21 (by omega)] at this
          rw [ef _ (by omega), Nat.zero_add]
          exact (int_inj this).symm) i hi
        rw [Nat.zero_add] at al
        rw [al]
      · exact up (by omega) ((hg g hg2).of (a4 _ (by omega) (by omega)) (a4 _ (by omega) (by omega)) (a4 _ (by omega) (by omega)) (keep _ (by omega) (by omega) (by omega)) fun j h1 h2 => keep j (by omega) (by omega) (by omega))
