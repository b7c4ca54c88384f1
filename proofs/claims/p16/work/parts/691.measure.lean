/-! measure on both sides -/
def ncode (n m : Nat) (L : LV) (c : Int32) : Int32 := if isCo m c then (flR (fun j => if L.2.1 j = i99 then c1000 else L.2.1 j) n).1 else (Int8.ofInt (-2)).toInt32
set_option maxRecDepth 100000 in
theorem k_measure6 {h : XH} (hI : AInv w_W h) (hP : PInv w_W w_P h []) {n m : Nat} {g ag : Nat → Int32} (hW : WFv (vw w_W h) g ag n m) (c : Int32) : ∃ h1 : XH, XCall xM 11 76 [.ref 13, .int c] h (some (.int (ncode n m (lvOf g n m c) c))) h1 ∧ AInv w_W h1 ∧ PInv w_W w_P h1 [] ∧ AFr w_W ws32 h h1 := by
  obtain ⟨⟨hn, hm⟩, w0, w3, -⟩ := id hW
  rw [vw_14 (Or.inr rfl)] at w3
  obtain ⟨fs, h13, -, -, -⟩ := w_lg hI
  have hN : h.1 = 549 := hI.1
  have head : ∀ {v : Option Value} {hend : XH}, XGo 10 xm_X6_measure (5, [some (.ref 13), some (.int c)], [.int (if isCo m c then 1 else 0)], h) v hend → XCall xM 11 76 [.ref 13, .int c] h v hend := fun k => by
    refine XCall.of (M := xm_X6_measure) rfl (Nat.le_of_ble_eq_true rfl) ?_
    refine XGo.go 2 rfl ?_
    exact XGo.call _ rfl xm_X6_isCourse rfl rfl [.ref 13, .int c] [] rfl rfl (fun _ => ⟨13, fs, rfl, h13, by decide, by omega⟩) (Nat.le_of_ble_eq_true rfl) (k_isCo 8 hI hm w3 c) k
  by_cases b2 : isCo m c
  · obtain ⟨k, h1, ek, hk, cC, iC, pC, fC, nC⟩ := courseOf_ok hI hP c
    have hc64 : c.toInt ≤ 63 := by
      have := shm_le ⟨m, by omega⟩
      have := b2.2
      dsimp only at *
      omega
    have hkc : nI k = c := by
      have e := (i32_nI (and63 c).1 (and63 c).2).1
      rw [← ek] at e
      rw [← e]
      exact and63_id b2.1 hc64
    have hW1 : WFv (vw w_W h1) g ag n m := hW.congr fun z s z1 z2 => by
      unfold vw
      split
      · rename_i hz
        refine ((fC z s hz.1 fun u hu hc => ?_)).symm
        have e : w_W.1 z = z := w_rg_1419 z1 z2
        rw [e] at hc
        simp only [ws32, List.mem_cons, List.not_mem_nil, or_false] at hu
        rcases hu with rfl | rfl | rfl | rfl | rfl | rfl | rfl | rfl <;> (have := hc.1; dsimp only at this; omega)
      · rfl
    have hLK : LKv (vw w_W h1) n ag (lvOf g n m c) (88 + 7 * k) := by
      have q := (pC.2 rfl).2.2 n m g ag hW1 k hk
      rw [vw_co0 hk, hkc] at q
      exact q.resolve_left nC
    have r7 := hLK.2.2.2.1.1
    rw [vw_co0 hk] at r7
    refine ⟨h1, head ?_, iC, pC, fC⟩
    unfold ncode
    rw [if_pos b2, if_pos b2]
    refine XGo.go 1 rfl ?_
    refine XGo.ifn (by decide) ?_
    refine XGo.go 2 rfl ?_
    refine XGo.call _ rfl xm_X6_courseOf rfl rfl [.ref 13, .int c] [] rfl rfl (fun _ => ⟨13, fs, rfl, h13, by decide, by omega⟩) (Nat.le_of_ble_eq_true rfl) (XCall.up (by decide) cC) ?_
    refine XGo.getr rfl iC (by omega) (by omega) (w_rg_co0 hk) k58s (by decide) r7 ?_
    refine XGo.go 1 rfl ?_
    exact XGo.iret _ rfl rfl .int rfl rfl
  · refine ⟨h, head ?_, hI, hP, AFr.refl _ _ _⟩
    unfold ncode
    rw [if_neg b2, if_neg b2]
    refine XGo.go 1 rfl ?_
    refine XGo.ifp rfl ?_
    refine XGo.go 1 rfl ?_
    exact XGo.iret _ rfl rfl .int rfl rfl
theorem lv_in {f : Nat → Int32} {n m : Nat} (hn : n ≤ 8) (hm : m ≤ 6) (hf : mbOK f m) (hy : yrOK f m) (set : Int32) : ∀ j, j < 14 → lvIn 40 ((lvOf f n m set).2.1 j) := by
  obtain ⟨⟨-, -, -, -, -, -, b2, -⟩, -⟩ := sim_y (ag := fun _ => 0) hn (ki := fun k => f (110 + k)) (wh := fun k => f (116 + k)) (ye := fun k => f (122 + k)) hm hf hy (fun _ _ => rfl) (fun _ _ => rfl) (fun _ _ => rfl) set (sim_0 (x := (((Int32.ofInt 1 <<< (nI n &&& 31)) - Int32.ofInt 1, Int32.ofInt 0, Int32.ofInt 0), fun j => if j < n then - (0 : Int32) else c1000, fun _ => c1000, fun _ => 0)) hn rfl (fun _ _ => rfl) (fun _ _ => rfl)) (fut_0 hn) 40 (by decide)
  exact b2
set_option maxRecDepth 100000 in
theorem k_measure7 {h : XH} (hI : AInv w_W h) (hP : PInv w_W w_P h []) {ms : List Value} {f : Nat → Int32} (hK : LVk h ms f) {n m : Nat} (hn : n ≤ 8) (hm : m ≤ 6) (hf0 : f 0 = nI n) (hf1 : f 1 = nI m) (hf : mbOK f m) (hy : yrOK f m) (c : Int32) : ∃ h1 : XH, XCall xM 11 159 [.ref 536, .int c] h (some (.int (ncode n m (lvOf f n m c) c))) h1 ∧ AInv w_W h1 ∧ PInv w_W w_P h1 [] ∧ AFr w_W wsL h h1 := by
  obtain ⟨s, hs⟩ := lvr_of hI
  have hN := hK.1
  have h36 := hK.2.1
  have head : ∀ {v : Option Value} {hend : XH}, XGo 10 xm_X7_measure (5, [some (.ref 536), some (.int c), none], [.int (if isCo m c then 1 else 0)], h) v hend → XCall xM 11 159 [.ref 536, .int c] h v hend := fun k => by
    refine XCall.of (M := xm_X7_measure) rfl (Nat.le_of_ble_eq_true rfl) ?_
    refine XGo.go 2 rfl ?_
    exact XGo.call _ rfl xm_X7_isCourse rfl rfl [.ref 536, .int c] [] rfl rfl (fun _ => ⟨536, ms, rfl, h36, by decide, by omega⟩) (Nat.le_of_ble_eq_true rfl) (k_isCo7 8 hN h36 hK.2.2.2.1 hK.2.2.1 hm hf1 c) k
  by_cases b2 : isCo m c
  · obtain ⟨h1, s1, cL, o, r1, e1⟩ := k_lives 8 hK hs hf0 hn hf1 hm hf c
    have hF := lv_fr o hs r1
    have hK1 := o.keep hK
    have hv : (flR (fun j => if (lvOf f n m c).2.1 j = i99 then c1000 else (lvOf f n m c).2.1 j) n).1 = if (mlS s1.2.1 n).getD m1 = m1 then m5 else (mlS s1.2.1 n).getD m1 := by
      refine measure_is (by omega) (fun i hi => by rw [e1.2.1 i (by omega)]) (fun i hi => ?_)
      rw [e1.2.1 i (by omega)]
      exact lv_in hn hm hf hy c i (by omega)
    refine ⟨h1, head ?_, lv_inv hI o r1, ⟨PPr.out hF (by decide) hP.1, hP.2.pl fun z hz => o.2.2 z (by omega)⟩, hF⟩
    unfold ncode
    rw [if_pos b2, if_pos b2, hv]
    refine XGo.go 1 rfl ?_
    refine XGo.ifn (by decide) ?_
    refine XGo.go 2 rfl ?_
    refine XGo.call _ rfl xm_X7_lives rfl rfl [.ref 536, .int c] [] rfl rfl (fun _ => ⟨536, ms, rfl, h36, by decide, by omega⟩) (Nat.le_of_ble_eq_true rfl) cL ?_
    refine XGo.go 1 rfl ?_
    refine XGo.call _ rfl xm_X7_lastLife rfl rfl [.ref 536] [] rfl rfl (fun _ => ⟨536, ms, rfl, hK1.2.1, by decide, by have := hK1.1; omega⟩) (Nat.le_of_ble_eq_true rfl) (k_lastLife 9 hK1 r1 hf0 hn) ?_
    generalize (mlS s1.2.1 n).getD m1 = z
    refine XGo.go 4 rfl ?_
    by_cases hz : z = m1
    · rw [if_pos hz, if_pos hz]
      refine XGo.go 2 rfl ?_
      exact XGo.iret _ rfl rfl .int rfl rfl
    · rw [if_neg hz, if_neg hz]
      refine XGo.go 1 rfl ?_
      exact XGo.iret _ rfl rfl .int rfl rfl
  · refine ⟨h, head ?_, hI, hP, AFr.refl _ _ _⟩
    unfold ncode
    rw [if_neg b2, if_neg b2]
    refine XGo.go 1 rfl ?_
    refine XGo.ifp rfl ?_
    refine XGo.go 1 rfl ?_
    exact XGo.iret _ rfl rfl .int rfl rfl
/-- MEASURE ON BOTH SIDES -/
theorem V_measure (c : Int32) {L : Nat} {xs : Nat → Int32} {h : XH} (hI : INVw L xs h) : ∃ (v : Int32) (h1 h2 : XH), XCall xM 11 76 [.ref 13, .int c] h (some (.int v)) h1 ∧ AInv w_W h1 ∧ h1.2.2 1 = h.2.2 1 ∧ XCall xM 11 159 [.ref 536, .int c] h1 (some (.int v)) h2 ∧ INVw L xs h2 := by
  obtain ⟨n, m, ms, g, hW, hK, g0, g1, hag⟩ := wf_of hI
  obtain ⟨h1, c1, j1, j2, jF⟩ := k_measure6 hI.1 hI.2.1 hW c
  have x1 := XCall.ext _ _ _ _ _ _ c1 (by rw [hI.1.1]; decide) 1 (by decide)
  have hI1 := invw_fr hI j1 j2 jF (by decide +kernel) x1
  obtain ⟨n', m', ms', g', hW', hK', g0', g1', -⟩ := wf_of hI1
  obtain ⟨⟨hn', hm'⟩, -, -, -, -, hf', hy'⟩ := hW'
  obtain ⟨⟨hn, hm⟩, -⟩ := hW
  obtain ⟨h2, c2, k1, k2, kF⟩ := k_measure7 j1 j2 hK' hn' hm' g0' g1' hf' hy' c
  have x2 := XCall.ext _ _ _ _ _ _ c2 (by rw [j1.1]; decide) 1 (by decide)
  have hg : ∀ b, b < 490 → g' b = g b := fun b hb => by
    have e : rd h1 537 b = rd h 537 b := rdF (b := b) w_rg_537 (by decide) jF (by unfold ahit; rfl)
    rw [rd_row hK'.2.2.1 hb, rd_row hK.2.2.1 hb] at e
    exact int_inj e
  have en : n' = n := nI_inj (by omega) (by omega) (by rw [← g0, ← g0', hg 0 (by decide)])
  have em : m' = m := nI_inj (by omega) (by omega) (by rw [← g1, ← g1', hg 1 (by decide)])
  subst en
  subst em
  rw [lvOf_f hm hg] at c2
  exact ⟨_, h1, h2, c1, j1, x1, c2, invw_fr hI1 k1 k2 kF (by decide +kernel) x2⟩
