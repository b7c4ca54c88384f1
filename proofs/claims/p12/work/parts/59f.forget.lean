/-! the courses are forgotten -/
theorem k58s : w_S 58 = (0, 0, 0, w_s58.2.2.2.1, []) := rfl
theorem k13S : w_S 13 = (0, 6, 0, w_s13.2.2.2.1, []) := rfl
theorem r13_3 {h : XH} (hI : AInv w_W h) : rd h 13 3 = some (.ref 70) := rd_ref hI (k := 13) (j := 70) (by decide) w_rg_13 k13S rfl rfl w_rg_70 (by decide)
theorem w_co {h : XH} (hI : AInv w_W h) : ∃ g : Nat → Option Nat, h.2.2 70 = .inr (.inr (2, 64, g)) := by
  have s1 := (hI.2.2 70 (by decide)).1
  rw [w_Sg, w_rg_70] at s1
  have s1 : shp w_s40 (h.2.2 70) := s1
  unfold shp at s1
  split at s1
  · rename_i hc _
    exact absurd hc (by decide)
  · rename_i hc _
    exact absurd hc (by decide)
  · rename_i q _ hc
    obtain ⟨t, n, g⟩ := q
    have e1 : t = 2 := s1.1
    have e2 : n = 64 := s1.2
    subst e1
    subst e2
    exact ⟨g, hc⟩
  · rename_i hc
    exact absurd hc (by decide)
  · cases s1
theorem co_len {h : XH} (hI : AInv w_W h) : xlen h 70 = some 64 := by
  obtain ⟨g, hg⟩ := w_co hI
  have hN : h.1 = 549 := hI.1
  unfold xlen
  rw [hg]
  dsimp only
  rw [if_pos (show 70 < h.1 by omega), if_pos ⟨by decide, Or.inl rfl⟩]
theorem co_at {h : XH} (hI : AInv w_W h) {i : Int32} {k j : Nat} (hi : ¬ i < 0) (hk : i.toNatClampNeg = k) (h64 : k < 64) (hr : rd h 70 k = some (.ref j)) : xra h 70 i = some (some j) := by
  obtain ⟨g, hg⟩ := w_co hI
  have hN : h.1 = 549 := hI.1
  unfold rd at hr
  rw [hg] at hr
  dsimp only at hr
  rw [if_pos h64] at hr
  unfold xra
  rw [hg]
  dsimp only
  rw [if_pos ⟨by omega, by decide, Or.inl rfl, fun z => z.elim hi fun z => by omega⟩, hk]
  cases hgk : g k with
  | none =>
    rw [hgk] at hr
    cases hr
  | some z =>
    rw [hgk] at hr
    cases hr
    rfl
theorem qs_70 {h : XH} (q : QS (vw w_W h)) {k : Nat} (hk : k < 64) : rd h 70 k = some (.ref (88 + 7 * k)) := by
  have := (q k hk).1
  rwa [vw_70] at this
theorem putr2 {h : XH} (hI : AInv w_W h) {k r ci b : Nat} {sl : List AV} (hk : k < 549) (h13 : 13 ≤ k) (hr : w_rg k = r) (hS : w_S r = (0, ci, 0, sl, [])) {s : AV} (hs : sl[b]? = some s) (x : Int32) (hx : ga w_W s (.int x)) (hf : fits (xty ci b) (.int x) = true ∧ narrow (xty ci b) (.int x) = .int x) : ∃ h1 : XH, AInv w_W h1 ∧ AFr w_W [(r, (b : Int), (b : Int))] h h1 ∧ rd h1 k b = some (.int x) ∧ (∀ z, ¬ z = k → h1.2.2 z = h.2.2 z) ∧ ∀ {d : Nat} {M : XMeth} {pc len w idx : Nat} {L : XL} {st : List Value} {v : Option Value} {hend : XH}, xfind (xmT M) pc = some (pc, .putfield idx, len, ci, b, w) → XGo d M (pc + 3, L, st, h1) v hend → XGo d M (pc, L, .int x :: .ref k :: st, h) v hend := by
  obtain ⟨fs, f1, f2, -⟩ := w_obj hI hk hr hS
  have hb : b < fs.length := by rw [f2]; exact (List.getElem?_eq_some_iff.mp hs).1
  have hW := wrote_field (h := h) (k := k) (ci := ci) (fs := fs) (b := b) (v := .int x) f1 hb
  have hN : h.1 = 549 := hI.1
  exact ⟨_, hI.wrote hW (s := s) (by rw [w_Sg, hr, hS]; exact hs) hx, AFr.wrote (i := (b : Int)) (j := (b : Int)) hW (Int.le_refl _) (Int.le_refl _) ⟨_, List.mem_singleton.mpr rfl, ((w_W1 k).trans hr).symm, Int.le_refl _, Int.le_refl _⟩, hW.2.2.1, fun z hz => xup_ne _ _ hz, fun hm g => XGo.putf hm f1 (by omega) h13 hb hf.1 hf.2 g⟩
set_option maxRecDepth 100000 in
theorem forget_l {d : Nat} {h0 : XH} (q0 : QS (vw w_W h0)) {Q : Option Value → XH → Prop} (fin : ∀ h1, AInv w_W h1 → AFr w_W [(58, 0, 0)] h0 h1 → (∀ j, j < 64 → rd h1 (88 + 7 * j) 0 = some (.int (Int32.ofInt 0))) → Q none h1) : ∀ (q i : Nat) (h : XH), i + q = 64 → AInv w_W h → AFr w_W [(58, 0, 0)] h0 h → (∀ j, j < i → rd h (88 + 7 * j) 0 = some (.int (Int32.ofInt 0))) → XGe d xm_X6_forgetCourses (2, [some (.ref 13), some (.int (nI i))], [], h) Q
  | q, i, h, hi, hI, hF, hj => by
    have head : ∀ {v : Option Value} {hend : XH}, XGo d xm_X6_forgetCourses (if nI 64 ≤ nI i then 27 else 11, [some (.ref 13), some (.int (nI i))], [], h) v hend → XGo d xm_X6_forgetCourses (2, [some (.ref 13), some (.int (nI i))], [], h) v hend := fun k => by
      refine XGo.go 2 rfl ?_
      refine XGo.getr rfl hI (by decide) (by decide) w_rg_13 k13S (by decide) (r13_3 hI) ?_
      refine XGo.alen rfl (co_len hI) ?_
      exact XGo.go 1 rfl k
    match q, hi with
    | 0, hi =>
      have hi : i = 64 := by omega
      subst hi
      exact ⟨none, h, fin h hI hF hj, head (XGo.ifp (Int32.le_refl _) (XGo.vret _ rfl rfl rfl))⟩
    | q + 1, hi =>
      have hin : i < 64 := by omega
      have cn : ¬ nI 64 ≤ nI i := fun z => absurd ((xnI_ge (by decide) (by omega)).mp z) (by omega)
      obtain ⟨h1, iI, fI, rI, nI1, gI⟩ := putr2 hI (k := 88 + 7 * i) (b := 0) (s := avI 0 1) (by omega) (by omega) (w_rg_co0 hin) k58s rfl (Int32.ofInt 0) (ga_of rfl ⟨by decide, by decide⟩) ⟨rfl, rfl⟩
      have r70 : rd h 70 i = some (.ref (88 + 7 * i)) := qs_70 (qs_fr hF (by decide) q0) hin
      refine XGe.map (fun v hend k => head (XGo.ifn cn ?_)) (forget_l q0 fin q (i + 1) h1 (by omega) iI (hF.trans fI) (fun j hj2 => ?_))
      · refine XGo.go 1 rfl ?_
        refine XGo.getr rfl hI (by decide) (by decide) w_rg_13 k13S (by decide) (r13_3 hI) ?_
        refine XGo.go 1 rfl ?_
        refine XGo.aald rfl (co_at hI (xnI_lt0 (by omega)) (xnI_nat (by omega)) hin r70) ?_
        refine XGo.go 1 rfl ?_
        refine gI rfl ?_
        refine XGo.go 2 rfl ?_
        show XGo _ _ (2, [some (.ref 13), some (.int (nI i + Int32.ofInt 1))], [], h1) _ _
        rw [show nI i + Int32.ofInt 1 = nI (i + 1) from nI_1 i]
        exact k
      · by_cases e : j = i
        · rw [e]
          exact rI
        · have hj3 : j < i := by omega
          exact (rd_same (nI1 _ (by omega)) 0).trans (hj j hj3)
  termination_by q => q
theorem rd_qs58 {h h1 : XH} (hF : AFr w_W [(58, 0, 0)] h h1) {k r : Nat} (hr : w_rg k = r) (hk : k < 549) (h58 : ¬ r = 58) (b : Nat) : rd h1 k b = rd h k b := hF k b hk fun w hw hc => by
  rw [List.mem_singleton.mp hw] at hc
  exact h58 (hc.1.trans ((w_W1 k).trans hr)).symm
/-- THE COURSES FORGOTTEN: what they say is nothing -/
theorem forget_ok : CFC := fun h hI hP hS hQ => by
  obtain ⟨v, h1, ⟨rfl, iI, fI, zI⟩, k⟩ := forget_l (d := 0) hS (Q := fun v h1 => v = none ∧ AInv w_W h1 ∧ AFr w_W [(58, 0, 0)] h h1 ∧ ∀ j, j < 64 → rd h1 (88 + 7 * j) 0 = some (.int (Int32.ofInt 0))) (fun h1 a b c => ⟨rfl, a, b, c⟩) 64 0 h rfl hI (AFr.refl _ _ _) (fun j hj => absurd hj (by omega))
  refine ⟨h1, XCall.of (M := xm_X6_forgetCourses) rfl (Nat.le_of_ble_eq_true rfl) (XGo.go 2 rfl k), iI, ⟨PPr.out fI (by decide) hP, fun _ => ⟨qs_fr fI (by decide) hS, ?_, fun n m f ag _ k hk => Or.inl ?_⟩⟩, fI⟩
  · exact qw_same hQ (rd_qs58 fI w_rg_14 (by decide) (by decide) 0) (fun j _ => rd_qs58 fI w_rg_15 (by decide) (by decide) j) (rd_qs58 fI w_rg_14 (by decide) (by decide) 3) (fun k _ => rd_qs58 fI w_rg_17 (by decide) (by decide) k) (fun k _ => rd_qs58 fI w_rg_18 (by decide) (by decide) k) (fun k _ => rd_qs58 fI w_rg_19 (by decide) (by decide) k)
  · rw [vw_co0 hk]
    exact zI k hk
