/-! LifeGrants.courseOf -/
theorem ref_inj {a b : Nat} (h : some (Value.ref a) = some (Value.ref b)) : a = b := by
  cases h
  rfl
set_option maxRecDepth 100000 in
theorem courseOf_ok {h : XH} (hI : AInv w_W h) (hP : PInv w_W w_P h []) (set : Int32) : ∃ (k : Nat) (h1 : XH), k = (set &&& c63).toNatClampNeg ∧ k < 64 ∧ XCall xM 5 97 [.ref 13, .int set] h (some (.ref (88 + 7 * k))) h1 ∧ AInv w_W h1 ∧ PInv w_W w_P h1 [] ∧ AFr w_W ws32 h h1 ∧ ¬ rd h1 (88 + 7 * k) 0 = some (.int (Int32.ofInt 0)) ∧ ∀ z, (z < 88 ∨ 535 < z) → h1.2.2 z = h.2.2 z := by
  obtain ⟨qS, qW, qL⟩ := hP.2 rfl
  have h63 := and63 set
  obtain ⟨ek, lk⟩ := i32_nI h63.1 h63.2
  obtain ⟨k, hk⟩ : ∃ k, k = (set &&& c63).toNatClampNeg := ⟨_, rfl⟩
  rw [← hk] at ek lk
  have hk64 : k < 64 := by omega
  obtain ⟨i, lt, ld, x, al, we, de, hi, r, a⟩ := cr_of hI qS hk64
  have hN : h.1 = 549 := hI.1
  have r70 := qs_70 qS hk64
  have cn : ¬ (set &&& c63) < 0 := by rw [ek]; exact xnI_lt0 (by omega)
  obtain ⟨fs, h13, hs0, -, -⟩ := w_lg hI
  have head : ∀ {v : Option Value} {hend : XH}, XGo 4 xm_X6_courseOf (if i = 0 then 17 else 26, [some (.ref 13), some (.int set), some (.ref (88 + 7 * k))], [], h) v hend → XGo 4 xm_X6_courseOf (0, xent xm_X6_courseOf [.ref 13, .int set], [], h) v hend := fun g => by
    refine XGo.go 1 rfl ?_
    refine XGo.getr rfl hI (by decide) (by decide) w_rg_13 k13S (by decide) (r13_3 hI) ?_
    refine XGo.go 3 rfl ?_
    refine XGo.aald rfl (co_at hI cn hk.symm hk64 r70) ?_
    refine XGo.go 2 rfl ?_
    refine XGo.getf rfl (xfd_o r.1 (by omega) (by omega) rfl) ?_
    exact XGo.go 1 rfl g
  by_cases h0 : i = 0
  · obtain ⟨fw, n, m, ag, pa, ki, wh, ye, hw, hn, hm, hwh⟩ := wk_of hI qW
    obtain ⟨h1, x0, al', we', de', cL, o, r1, a1, t1, e1, e2, e3, e4⟩ := k_learn 0 (by omega) (by omega) hn hm hwh hw r a set
    have hF := co_fr hk64 o r a r1 a1
    refine ⟨k, h1, hk, hk64, XCall.of (M := xm_X6_courseOf) rfl (Nat.le_of_ble_eq_true rfl) (head ?_), co_inv hI hk64 o ⟨by decide, by decide⟩ r1 a1, ⟨PPr.out hF (by decide) hP.1, fun _ => ⟨fun k' hk' => ?_, ?_, fun n' m' f ag' hW k' hk' => ?_⟩⟩, hF, ?_, fun z hz => o.2.2 z (by omega)⟩
    · refine XGo.ifp h0 ?_
      refine XGo.go 2 rfl ?_
      refine XGo.getf rfl (xfd_o h13 (by omega) (by decide) hs0) ?_
      refine XGo.go 1 rfl ?_
      refine XGo.call _ rfl xm_X0_learn rfl rfl [.ref (88 + 7 * k), .ref 14, .int set] [] rfl rfl (fun _ => ⟨88 + 7 * k, _, rfl, r.1, by omega, by omega⟩) (Nat.le_of_ble_eq_true rfl) cL ?_
      refine XGo.go 1 rfl ?_
      exact XGo.aret _ rfl rfl _ rfl (Or.inr ⟨_, rfl⟩)
    · obtain ⟨q1, q2⟩ := qS k' hk'
      refine ⟨(vw_same (o.2.2 70 (by omega)) k').trans q1, fun j hj => ?_⟩
      by_cases e : k' = k
      · subst e
        rw [vw_co0 hk', rd_fld r1.1]
        match j, hj with
        | 0, _ => rfl
        | 1, _ => rfl
        | 2, _ => rfl
        | 3, _ => rfl
        | 4, _ => rfl
        | 5, _ => rfl
        | j + 6, hj => exact absurd hj (by omega)
      · exact (vw_same (o.2.2 _ (by omega)) _).trans (q2 j hj)
    · exact qw_same qW (rd_same (o.2.2 14 (by omega)) 0) (fun _ _ => rd_same (o.2.2 15 (by omega)) _) (rd_same (o.2.2 14 (by omega)) 3) (fun _ _ => rd_same (o.2.2 17 (by omega)) _) (fun _ _ => rd_same (o.2.2 18 (by omega)) _) (fun _ _ => rd_same (o.2.2 19 (by omega)) _)
    · by_cases e : k' = k
      · subst e
        exact Or.inr (lk_of hk' hw hn hm o hk.symm r1 a1 t1 e1 e2 e3 e4 hW)
      · have hW0 : WFv (vw w_W h) f ag' n' m' := hW.congr fun z s z1 z2 => vw_same (o.2.2 z (by omega)) s
        rcases qL n' m' f ag' hW0 k' hk' with q | q
        · exact Or.inl ((vw_same (o.2.2 _ (by omega)) 0).trans q)
        · exact Or.inr (q.congr fun z s z1 z2 => vw_same (o.2.2 z (by omega)) s)
    · rw [rd_fld r1.1]
      intro z
      exact absurd (int_inj (show some (Value.int (Int32.ofInt 1)) = some (Value.int (Int32.ofInt 0)) from z)) (by decide)
  · refine ⟨k, h, hk, hk64, XCall.of (M := xm_X6_courseOf) rfl (Nat.le_of_ble_eq_true rfl) (head ?_), hI, hP, AFr.refl _ _ _, ?_, fun _ _ => rfl⟩
    · refine XGo.ifn h0 ?_
      refine XGo.go 1 rfl ?_
      exact XGo.aret _ rfl rfl _ rfl (Or.inr ⟨_, rfl⟩)
    · rw [rd_fld r.1]
      intro z
      exact h0 (int_inj (show some (Value.int i) = some (Value.int (Int32.ofInt 0)) from z))
def c_32 : ACt := ((97, [avR 13, avT], [(some (avR 58), [], [])], [(58, 0, 0), (58, 7, 11), (59, 0, 40), (60, 0, 40), (61, 0, 40), (62, 0, 13), (63, 0, 13), (64, 0, 13)], 5), [], 1, 6)
theorem h_32 : AHp w_W w_P c_32 := by
  refine ⟨⟨xm_X6_courseOf, rfl, rfl, rfl, rfl⟩, fun as h hI hP hal _ => ?_⟩
  match as, hal with
  | [v, u], hal =>
    obtain ⟨g1, g2, -⟩ := hal
    have e := w_ref (k0 := 0) (r := 13) (j := 13) rfl w_rg_13 (by decide) g1
    subst e
    obtain ⟨set, rfl, -⟩ := ga_int rfl g2
    obtain ⟨k, h1, -, hk, c, iC, pC, fC, -⟩ := courseOf_ok hI hP set
    exact ⟨_, h1, c, iC, pC, fC, _, List.mem_singleton.mpr rfl, ⟨⟨_, rfl, w_ga58 (b := 0) (w_rg_co0 hk) (by omega)⟩, fun z => absurd z (by decide)⟩, fun q hq => (by cases hq), fun q hq => (by cases hq)⟩
