/-! a course's lives as the model counts them -/
/-- the model's four rows hold it -/
def LVr (h : XH) (s : LV) : Prop := h.2.2 539 = .inr (.inl (0, 14, s.1)) ∧ h.2.2 540 = .inr (.inl (0, 14, s.2.1)) ∧ h.2.2 541 = .inr (.inl (0, 14, s.2.2.1)) ∧ h.2.2 542 = .inr (.inl (0, 4, s.2.2.2))
theorem w_rg_539 : w_rg 539 = 68 := by decide +kernel
theorem w_rg_540 : w_rg 540 = 69 := by decide +kernel
theorem w_rg_541 : w_rg 541 = 70 := by decide +kernel
theorem w_rg_542 : w_rg 542 = 71 := by decide +kernel
theorem w_mo4 {h : XH} (hI : AInv w_W h) {fs : List Value} (h1 : h.2.2 536 = .inl (7, fs)) : fs[1]? = some (.ref 537) ∧ fs[4]? = some (.ref 539) ∧ fs[5]? = some (.ref 540) ∧ fs[6]? = some (.ref 541) ∧ fs[7]? = some (.ref 542) := by
  have k65 : w_S 65 = (0, 7, 0, w_s65.2.2.2.1, []) := rfl
  refine ⟨?_, ?_, ?_, ?_, ?_⟩
  · exact (rd_fld h1).symm.trans (rd_ref hI (k := 536) (j := 537) (b := 1) (by decide) w_rg_536 k65 rfl rfl w_rg_537 (by decide))
  · exact (rd_fld h1).symm.trans (rd_ref hI (k := 536) (j := 539) (b := 4) (by decide) w_rg_536 k65 rfl rfl w_rg_539 (by decide))
  · exact (rd_fld h1).symm.trans (rd_ref hI (k := 536) (j := 540) (b := 5) (by decide) w_rg_536 k65 rfl rfl w_rg_540 (by decide))
  · exact (rd_fld h1).symm.trans (rd_ref hI (k := 536) (j := 541) (b := 6) (by decide) w_rg_536 k65 rfl rfl w_rg_541 (by decide))
  · exact (rd_fld h1).symm.trans (rd_ref hI (k := 536) (j := 542) (b := 7) (by decide) w_rg_536 k65 rfl rfl w_rg_542 (by decide))
/-- what stays while the model counts lives: the script's object, its fields, its row -/
def LVk (h : XH) (fs : List Value) (f : Nat → Int32) : Prop := h.1 = 549 ∧ h.2.2 536 = .inl (7, fs) ∧ h.2.2 537 = .inr (.inl (0, 490, f)) ∧ (fs[1]? = some (.ref 537) ∧ fs[4]? = some (.ref 539) ∧ fs[5]? = some (.ref 540) ∧ fs[6]? = some (.ref 541) ∧ fs[7]? = some (.ref 542))
/-- one cell of one of the four rows -/
theorem LVk.up {h : XH} {fs : List Value} {f : Nat → Int32} (k : LVk h fs f) {p : Nat} (hp : 539 ≤ p) (e : XE) : LVk (xup h p e) fs f := ⟨k.1, (xup_ne h e (by omega)).trans k.2.1, (xup_ne h e (by omega)).trans k.2.2.1, k.2.2.2⟩
/-- only the four rows are written -/
def LVo (h h1 : XH) : Prop := h1.1 = h.1 ∧ h1.2.1 = h.2.1 ∧ ∀ k, ¬ (539 ≤ k ∧ k ≤ 542) → h1.2.2 k = h.2.2 k
theorem LVo.refl (h : XH) : LVo h h := ⟨rfl, rfl, fun _ _ => rfl⟩
theorem LVo.trans {h h1 h2 : XH} (a : LVo h h1) (b : LVo h1 h2) : LVo h h2 := ⟨b.1.trans a.1, b.2.1.trans a.2.1, fun k hk => (b.2.2 k hk).trans (a.2.2 k hk)⟩
theorem LVo.up {h : XH} {p : Nat} (h1 : 539 ≤ p) (h2 : p ≤ 542) (e : XE) : LVo h (xup h p e) := ⟨rfl, rfl, fun k hk => xup_ne h e (by omega)⟩
theorem LVo.keep {h h1 : XH} (a : LVo h h1) {fs : List Value} {f : Nat → Int32} (k : LVk h fs f) : LVk h1 fs f := ⟨a.1.trans k.1, (a.2.2 536 (by omega)).trans k.2.1, (a.2.2 537 (by omega)).trans k.2.2.1, k.2.2.2⟩
theorem ca_nI {n k : Nat} (hk : k < n) (hn : n < 2147483648) : ¬ (nI k < 0 ∨ n ≤ (nI k).toNatClampNeg) := fun q => q.elim (xnI_lt0 (by omega)) (fun z => by rw [xnI_nat (by omega)] at z; omega)
theorem ia_nI {h : XH} {p n k : Nat} {f : Nat → Int32} (hf : h.2.2 p = .inr (.inl (0, n, f))) (hp : p < h.1) (hk : k < n) (hn : n < 2147483648) : xia h 0 p (nI k) = some (f k) := by
  have q := xia_i (i := nI k) hf hp (ca_nI hk hn)
  rw [xnI_nat (by omega)] at q
  exact q
/-- an int from 0 to hi is a number -/
theorem i32_nI {x : Int32} {hi : Int} (h0 : 0 ≤ x.toInt) (h1 : x.toInt ≤ hi) : x = nI x.toNatClampNeg ∧ (x.toNatClampNeg : Int) ≤ hi := by
  have e2 : x.toNatClampNeg = x.toInt.toNat := rfl
  have e3 := i32_hi x
  exact ⟨i32_is (by omega) (by omega), by omega⟩
theorem XGo.lsw {d : Nat} {M : XMeth} {pc len a b w : Nat} {df : Int} {ps : Array (Int × Int)} {x : Int32} {L : XL} {st : List Value} {h h1 : XH} {v : Option Value} (o : Int) (t : Nat) (hm : xfind (xmT M) pc = some (pc, .lookupswitch df ps, len, a, b, w)) (hx : Op.lookupswitch.offset ps.toList df x.toInt = o) (h0 : 0 ≤ (pc : Int) + o) (ht : ((pc : Int) + o).toNat = t) (k : XGo d M (t, L, st, h) v h1) : XGo d M (pc, L, .int x :: st, h) v h1 := by
  refine XGo.st _ hm (o := (t, L, st)) ?_ k
  simp only [xst]
  rw [hx, if_pos h0, ht]
theorem lso_2 {z a b df : Int} (h0 : ¬ z = 0) (h1 : ¬ z = 1) : Op.lookupswitch.offset [((0 : Int), a), ((1 : Int), b)] df z = df := by
  have e0 : ¬ (0 : Int) = z := fun e => h0 e.symm
  have e1 : ¬ (1 : Int) = z := fun e => h1 e.symm
  simp [Op.lookupswitch.offset, h0, h1, e0, e1]
set_option maxRecDepth 100000 in
theorem k_comes (d : Nat) {h : XH} {fs : List Value} {f : Nat → Int32} {s : LV} (hk : LVk h fs f) (hs : LVr h s) {m : Nat} (hm : m < 6) (hw : 0 ≤ (f (116 + m)).toInt ∧ (f (116 + m)).toInt ≤ 13) (hw3 : f (110 + m) = Int32.ofInt 3 → (f (116 + m)).toInt ≤ 3) : ∃ h1 : XH, XCall xM (d + 1) 115 [.ref 536, .int (nI m)] h none h1 ∧ LVo h h1 ∧ LVr h1 (lvC f m s) := by
  obtain ⟨hN, h1, h2, f1, f4, f5, f6, f7⟩ := id hk
  obtain ⟨s1, s2, s3, s4⟩ := hs
  obtain ⟨b, dd, we, de⟩ := s
  dsimp only at s1 s2 s3 s4
  have l1 : 536 < h.1 := by omega
  obtain ⟨ew, lw⟩ := i32_nI hw.1 hw.2
  have g16 := ia_nI (k := 116 + m) h2 (by omega) (by omega) (by decide)
  have g22 := ia_nI (k := 122 + m) h2 (by omega) (by omega) (by decide)
  have g10 := ia_nI (k := 110 + m) h2 (by omega) (by omega) (by decide)
  generalize hwn : (f (116 + m)).toNatClampNeg = w at ew lw
  have head : ∀ {h1 : XH}, XGo d xm_X7_comes (if f (110 + m) = Int32.ofInt 3 then 33 else 61, [some (.ref 536), some (.int (nI m)), some (.int (nI w)), some (.int (f (122 + m)))], [], h) none h1 → XGo d xm_X7_comes (0, [some (.ref 536), some (.int (nI m)), none, none], [], h) none h1 := fun {hend} k => by
    refine XGo.go 1 rfl ?_
    refine XGo.getf rfl (xfd_o h1 l1 (by decide) f1) ?_
    refine XGo.go 3 rfl ?_
    show XGo _ _ (8, _, [.int ((Int8.ofInt 116).toInt32 + nI m), .ref 537], _) _ _
    rw [show (Int8.ofInt 116).toInt32 + nI m = nI (116 + m) from nI_add 116 m]
    refine XGo.iald rfl g16 ?_
    rw [ew]
    refine XGo.go 2 rfl ?_
    refine XGo.getf rfl (xfd_o h1 l1 (by decide) f1) ?_
    refine XGo.go 3 rfl ?_
    show XGo _ _ (18, _, [.int ((Int8.ofInt 122).toInt32 + nI m), .ref 537], _) _ _
    rw [show (Int8.ofInt 122).toInt32 + nI m = nI (122 + m) from nI_add 122 m]
    refine XGo.iald rfl g22 ?_
    refine XGo.go 2 rfl ?_
    refine XGo.getf rfl (xfd_o h1 l1 (by decide) f1) ?_
    refine XGo.go 3 rfl ?_
    show XGo _ _ (28, _, [.int ((Int8.ofInt 110).toInt32 + nI m), .ref 537], _) _ _
    rw [show (Int8.ofInt 110).toInt32 + nI m = nI (110 + m) from nI_add 110 m]
    refine XGo.iald rfl g10 ?_
    refine XGo.go 2 rfl ?_
    exact k
  have done : ∀ {h1 : XH}, XGo d xm_X7_comes (0, [some (.ref 536), some (.int (nI m)), none, none], [], h) none h1 → XCall xM (d + 1) 115 [.ref 536, .int (nI m)] h none h1 := fun k => XCall.of (M := xm_X7_comes) rfl (Nat.le_of_ble_eq_true rfl) k
  by_cases hk3 : f (110 + m) = Int32.ofInt 3
  · have hw3 := hw3 hk3
    have lw4 : w < 4 := by
      have e2 : (f (116 + m)).toNatClampNeg = (f (116 + m)).toInt.toNat := rfl
      omega
    refine ⟨xup h 542 (.inr (.inl (0, 4, upd de w (if de w = i99 then f (122 + m) else de w)))), done (head (XGo.ifp hk3 ?_)), LVo.up (p := 542) (by decide) (by decide) _, ?_⟩
    rotate_left
    · unfold lvC
      rw [if_pos hk3, hwn]
      exact ⟨(xup_ne _ _ (by decide)).trans s1, (xup_ne _ _ (by decide)).trans s2, (xup_ne _ _ (by decide)).trans s3, xup_eq _ _ _⟩
    · refine XGo.go 1 rfl ?_
      refine XGo.getf rfl (xfd_o h1 l1 (by decide) f7) ?_
      refine XGo.go 2 rfl ?_
      refine XGo.getf rfl (xfd_o h1 l1 (by decide) f7) ?_
      refine XGo.go 1 rfl ?_
      refine XGo.iald rfl (ia_nI s4 (by omega) lw4 (by decide)) ?_
      refine XGo.go 2 rfl ?_
      by_cases h9 : de w = i99
      · refine XGo.ifp h9 ?_
        refine XGo.go 2 rfl ?_
        refine XGo.iast rfl s4 (by omega) (by decide) (ca_nI lw4 (by decide)) ?_
        rw [xnI_nat (by omega)]
        show XGo _ _ (60, _, [], xup h 542 (.inr (.inl (0, 4, upd de w (f (122 + m)))))) _ _
        rw [show (if de w = i99 then f (122 + m) else de w) = f (122 + m) from if_pos h9]
        exact XGo.vret _ rfl rfl rfl
      · refine XGo.ifn h9 ?_
        refine XGo.go 1 rfl ?_
        refine XGo.getf rfl (xfd_o h1 l1 (by decide) f7) ?_
        refine XGo.go 1 rfl ?_
        refine XGo.iald rfl (ia_nI s4 (by omega) lw4 (by decide)) ?_
        refine XGo.iast rfl s4 (by omega) (by decide) (ca_nI lw4 (by decide)) ?_
        rw [xnI_nat (by omega)]
        show XGo _ _ (60, _, [], xup h 542 (.inr (.inl (0, 4, upd de w (de w))))) _ _
        rw [show (if de w = i99 then f (122 + m) else de w) = de w from if_neg h9]
        exact XGo.vret _ rfl rfl rfl
  · have body : ∀ {h1 : XH}, XGo d xm_X7_comes (61, [some (.ref 536), some (.int (nI m)), some (.int (nI w)), some (.int (f (122 + m)))], [], h) none h1 → XCall xM (d + 1) 115 [.ref 536, .int (nI m)] h none h1 := fun k => done (head (XGo.ifn hk3 k))
    have c1 : ∀ {hend : XH}, XGo d xm_X7_comes (if f (122 + m) < b w then 82 else 71, [some (.ref 536), some (.int (nI m)), some (.int (nI w)), some (.int (f (122 + m)))], [], h) none hend → XGo d xm_X7_comes (61, [some (.ref 536), some (.int (nI m)), some (.int (nI w)), some (.int (f (122 + m)))], [], h) none hend := fun k => by
      refine XGo.go 1 rfl ?_
      refine XGo.getf rfl (xfd_o h1 l1 (by decide) f4) ?_
      refine XGo.go 1 rfl ?_
      refine XGo.iald rfl (ia_nI s1 (by omega) (by omega) (by decide)) ?_
      refine XGo.go 2 rfl ?_
      exact k
    by_cases hb : f (122 + m) < b w
    · refine ⟨h, body (c1 (XGo.ifp hb (XGo.vret _ rfl rfl rfl))), LVo.refl h, ?_⟩
      unfold lvC
      rw [if_neg hk3, hwn, if_pos (Or.inl hb)]
      exact ⟨s1, s2, s3, s4⟩
    · have c2 : ∀ {hend : XH}, XGo d xm_X7_comes (if dd w = i99 then 83 else 82, [some (.ref 536), some (.int (nI m)), some (.int (nI w)), some (.int (f (122 + m)))], [], h) none hend → XGo d xm_X7_comes (71, [some (.ref 536), some (.int (nI m)), some (.int (nI w)), some (.int (f (122 + m)))], [], h) none hend := fun k => by
        refine XGo.go 1 rfl ?_
        refine XGo.getf rfl (xfd_o h1 l1 (by decide) f5) ?_
        refine XGo.go 1 rfl ?_
        refine XGo.iald rfl (ia_nI s2 (by omega) (by omega) (by decide)) ?_
        refine XGo.go 2 rfl ?_
        exact k
      by_cases hd : dd w = i99
      · have c3 : ∀ {hend : XH}, XGo d xm_X7_comes (92, [some (.ref 536), some (.int (nI m)), some (.int (nI w)), some (.int (f (122 + m)))], [.int (f (110 + m))], h) none hend → XGo d xm_X7_comes (83, [some (.ref 536), some (.int (nI m)), some (.int (nI w)), some (.int (f (122 + m)))], [], h) none hend := fun k => by
          refine XGo.go 1 rfl ?_
          refine XGo.getf rfl (xfd_o h1 l1 (by decide) f1) ?_
          refine XGo.go 3 rfl ?_
          show XGo _ _ (91, _, [.int ((Int8.ofInt 110).toInt32 + nI m), .ref 537], _) _ _
          rw [show (Int8.ofInt 110).toInt32 + nI m = nI (110 + m) from nI_add 110 m]
          refine XGo.iald rfl g10 ?_
          exact k
        have all : ∀ {hend : XH}, XGo d xm_X7_comes (92, [some (.ref 536), some (.int (nI m)), some (.int (nI w)), some (.int (f (122 + m)))], [.int (f (110 + m))], h) none hend → XCall xM (d + 1) 115 [.ref 536, .int (nI m)] h none hend := fun k => body (c1 (XGo.ifn hb (c2 (XGo.ifp hd (c3 k)))))
        have nb : ¬ (f (122 + m) < b w ∨ ¬ dd w = i99) := fun q => q.elim hb (fun q => q hd)
        by_cases k0 : f (110 + m) = Int32.ofInt 0
        · refine ⟨xup h 539 (.inr (.inl (0, 14, upd b (8 + m) (f (122 + m))))), all ?_, LVo.up (p := 539) (by decide) (by decide) _, ?_⟩
          · rw [k0]
            refine XGo.lsw 28 120 rfl (by decide) (by decide) (by decide) ?_
            refine XGo.go 1 rfl ?_
            refine XGo.getf rfl (xfd_o h1 l1 (by decide) f4) ?_
            refine XGo.go 4 rfl ?_
            show XGo _ _ (129, _, [.int (f (122 + m)), .int ((Int8.ofInt 8).toInt32 + nI m), .ref 539], _) _ _
            rw [show (Int8.ofInt 8).toInt32 + nI m = nI (8 + m) from nI_add 8 m]
            refine XGo.iast rfl s1 (by omega) (by decide) (ca_nI (by omega) (by decide)) ?_
            rw [xnI_nat (by omega)]
            refine XGo.go 1 rfl ?_
            exact XGo.vret _ rfl rfl rfl
          · unfold lvC
            rw [if_neg hk3, hwn, if_neg nb, if_pos k0]
            exact ⟨xup_eq _ _ _, (xup_ne _ _ (by decide)).trans s2, (xup_ne _ _ (by decide)).trans s3, (xup_ne _ _ (by decide)).trans s4⟩
        · by_cases k1 : f (110 + m) = Int32.ofInt 1
          · refine ⟨xup h 540 (.inr (.inl (0, 14, upd dd w (f (122 + m))))), all ?_, LVo.up (p := 540) (by decide) (by decide) _, ?_⟩
            · rw [k1]
              refine XGo.lsw 41 133 rfl (by decide) (by decide) (by decide) ?_
              refine XGo.go 1 rfl ?_
              refine XGo.getf rfl (xfd_o h1 l1 (by decide) f5) ?_
              refine XGo.go 2 rfl ?_
              refine XGo.iast rfl s2 (by omega) (by decide) (ca_nI (by omega) (by decide)) ?_
              rw [xnI_nat (by omega)]
              refine XGo.go 1 rfl ?_
              exact XGo.vret _ rfl rfl rfl
            · unfold lvC
              rw [if_neg hk3, hwn, if_neg nb, if_neg k0, if_pos k1]
              exact ⟨(xup_ne _ _ (by decide)).trans s1, xup_eq _ _ _, (xup_ne _ _ (by decide)).trans s3, (xup_ne _ _ (by decide)).trans s4⟩
          · have z0 : ¬ (f (110 + m)).toInt = 0 := fun e => k0 (Int32.toInt_inj.mp e)
            have z1 : ¬ (f (110 + m)).toInt = 1 := fun e => k1 (Int32.toInt_inj.mp e)
            refine ⟨xup h 541 (.inr (.inl (0, 14, upd we w (if we w = i99 then f (122 + m) else we w)))), all ?_, LVo.up (p := 541) (by decide) (by decide) _, ?_⟩
            · refine XGo.lsw 51 143 rfl (lso_2 z0 z1) (by decide) (by decide) ?_
              refine XGo.go 1 rfl ?_
              refine XGo.getf rfl (xfd_o h1 l1 (by decide) f6) ?_
              refine XGo.go 2 rfl ?_
              refine XGo.getf rfl (xfd_o h1 l1 (by decide) f6) ?_
              refine XGo.go 1 rfl ?_
              refine XGo.iald rfl (ia_nI s3 (by omega) (by omega) (by decide)) ?_
              refine XGo.go 2 rfl ?_
              by_cases h9 : we w = i99
              · refine XGo.ifp h9 ?_
                refine XGo.go 2 rfl ?_
                refine XGo.iast rfl s3 (by omega) (by decide) (ca_nI (by omega) (by decide)) ?_
                rw [xnI_nat (by omega), show (if we w = i99 then f (122 + m) else we w) = f (122 + m) from if_pos h9]
                exact XGo.vret _ rfl rfl rfl
              · refine XGo.ifn h9 ?_
                refine XGo.go 1 rfl ?_
                refine XGo.getf rfl (xfd_o h1 l1 (by decide) f6) ?_
                refine XGo.go 1 rfl ?_
                refine XGo.iald rfl (ia_nI s3 (by omega) (by omega) (by decide)) ?_
                refine XGo.iast rfl s3 (by omega) (by decide) (ca_nI (by omega) (by decide)) ?_
                rw [xnI_nat (by omega), show (if we w = i99 then f (122 + m) else we w) = we w from if_neg h9]
                exact XGo.vret _ rfl rfl rfl
            · unfold lvC
              rw [if_neg hk3, hwn, if_neg nb, if_neg k0, if_neg k1]
              exact ⟨(xup_ne _ _ (by decide)).trans s1, (xup_ne _ _ (by decide)).trans s2, xup_eq _ _ _, (xup_ne _ _ (by decide)).trans s4⟩
      · refine ⟨h, body (c1 (XGo.ifn hb (c2 (XGo.ifn hd (XGo.vret _ rfl rfl rfl))))), LVo.refl h, ?_⟩
        unfold lvC
        rw [if_neg hk3, hwn, if_pos (Or.inr hd)]
        exact ⟨s1, s2, s3, s4⟩
