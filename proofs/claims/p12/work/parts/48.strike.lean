/-! the model's strike: blocks of eight copied -/
def XGe (d : Nat) (M : XMeth) (c : XC) (Q : Option Value → XH → Prop) : Prop := ∃ v h1, Q v h1 ∧ XGo d M c v h1
theorem XGe.map {d : Nat} {M : XMeth} {c c2 : XC} {Q : Option Value → XH → Prop} (f : ∀ v h1, XGo d M c2 v h1 → XGo d M c v h1) (k : XGe d M c2 Q) : XGe d M c Q := by
  obtain ⟨v, h1, q, g⟩ := k
  exact ⟨v, h1, q, f v h1 g⟩
theorem at7_e : ∀ g c : Fin 6, (Int16.ofInt 140).toInt32 + (Int8.ofInt 8).toInt32 * ((Int8.ofInt 6).toInt32 * nI g.val + nI c.val) = nI (140 + 8 * (6 * g.val + c.val)) := by decide +kernel
theorem k_at7 (d : Nat) (h : XH) {g c : Nat} (hg : g < 6) (hc : c < 6) : XCall xM (d + 1) 129 [.int (nI g), .int (nI c)] h (some (.int (nI (140 + 8 * (6 * g + c))))) h := by
  refine XCall.of (M := xm_X7_at) rfl (Nat.le_of_ble_eq_true rfl) ?_
  refine XGo.go 9 rfl ?_
  rw [← at7_e ⟨g, hg⟩ ⟨c, hc⟩]
  exact XGo.iret _ rfl rfl .int rfl rfl
def cpb (h : XH) (f : Nat → Int32) (t s n : Nat) : XH := xup h 537 (.inr (.inl (0, 490, fun j => if t ≤ j ∧ j < t + n then f (s + (j - t)) else f j)))
theorem cpb_0 (h : XH) (f : Nat → Int32) (t s : Nat) (h2 : h.2.2 537 = .inr (.inl (0, 490, f))) : cpb h f t s 0 = h := by
  unfold cpb
  refine Prod.ext rfl (Prod.ext rfl (funext fun j => ?_))
  by_cases hj : j = 537
  · subst hj
    rw [xup_eq, h2]
    congr 5
    funext i
    exact if_neg (by omega)
  · rw [xup_ne _ _ hj]
theorem cpb_up (h : XH) (f : Nat → Int32) {t s n : Nat} (ht : t + n < 490) (hs : s + n < 490) (hd : s = t ∨ s + 8 ≤ t ∨ t + 8 ≤ s) (hn : n < 8) : xup (cpb h f t s n) 537 (.inr (.inl (0, 490, upd (fun j => if t ≤ j ∧ j < t + n then f (s + (j - t)) else f j) (nI (t + n)).toNatClampNeg ((fun j => if t ≤ j ∧ j < t + n then f (s + (j - t)) else f j) (nI (s + n)).toNatClampNeg)))) = cpb h f t s (n + 1) := by
  unfold cpb
  rw [xup_up, xnI_nat (by omega), xnI_nat (by omega)]
  congr 5
  funext j
  unfold upd
  dsimp only
  by_cases h1 : j = t + n
  · subst h1
    rw [if_pos rfl, if_pos (show t ≤ t + n ∧ t + n < t + (n + 1) by omega), if_neg (by omega)]
    congr 1
    omega
  · rw [if_neg h1]
    by_cases h2 : t ≤ j ∧ j < t + n
    · rw [if_pos h2, if_pos (by omega)]
    · rw [if_neg h2, if_neg (by omega)]
abbrev xLs (gr g many c : Nat) (n m : Value) (k : Option Value) : XL := [some (.ref 536), some (.int (nI gr)), some n, some m, some (.int (nI g)), some (.int (nI many)), some (.int (nI c)), k]
theorem stk_in (d : Nat) (h : XH) (fs : List Value) (f : Nat → Int32) (hN : h.1 = 549) (h1 : h.2.2 536 = .inl (7, fs)) (hs : fs[1]? = some (.ref 537)) (h2 : h.2.2 537 = .inr (.inl (0, 490, f))) {gr g many c : Nat} (hgr : gr < 6) (hg : g < 6) (hm : many < 6) (hc : c < 6) (n m : Value) {v : Option Value} {hend : XH} (fin : XGo (d + 1) xm_X7_strike (137, xLs gr g many c n m (some (.int (nI 8))), [], cpb h f (140 + 8 * (6 * g + many)) (140 + 8 * (6 * gr + c)) 8) v hend) : ∀ i k, k + i = 8 → XGo (d + 1) xm_X7_strike (95, xLs gr g many c n m (some (.int (nI k))), [], cpb h f (140 + 8 * (6 * g + many)) (140 + 8 * (6 * gr + c)) k) v hend
  | 0, k, hk => by
    have e : k = 8 := by omega
    subst e
    refine XGo.go 3 rfl ?_
    refine XGo.ifp (by decide) ?_
    exact fin
  | i + 1, k, hk => by
    have hb : k < 2147483648 := by omega
    generalize ht : 140 + 8 * (6 * g + many) = t at fin ⊢
    generalize hsr : 140 + 8 * (6 * gr + c) = s at fin ⊢
    have htl : t + 8 ≤ 428 := by omega
    have hsl : s + 8 ≤ 428 := by omega
    have hdis : s = t ∨ s + 8 ≤ t ∨ t + 8 ≤ s := by omega
    have e1 : (cpb h f t s k).2.2 536 = .inl (7, fs) := (xup_ne h _ (by decide)).trans h1
    have e2 : (cpb h f t s k).2.2 537 = .inr (.inl (0, 490, fun j => if t ≤ j ∧ j < t + k then f (s + (j - t)) else f j)) := xup_eq h _ _
    have hlt : 536 < (cpb h f t s k).1 := by show 536 < h.1; omega
    have hls : 537 < (cpb h f t s k).1 := by show 537 < h.1; omega
    have ct : ¬ (nI (t + k) < 0 ∨ 490 ≤ (nI (t + k)).toNatClampNeg) := fun q => q.elim (xnI_lt0 (by omega)) (fun z => by rw [xnI_nat (by omega)] at z; omega)
    have cs : ¬ (nI (s + k) < 0 ∨ 490 ≤ (nI (s + k)).toNatClampNeg) := fun q => q.elim (xnI_lt0 (by omega)) (fun z => by rw [xnI_nat (by omega)] at z; omega)
    refine XGo.go 3 rfl ?_
    refine XGo.ifn (fun q => ?_) ?_
    · rw [show (Int8.ofInt 8).toInt32 = Int32.ofNat 8 by decide] at q
      exact absurd ((xnI_ge (by decide) hb).mp q) (by omega)
    refine XGo.go 1 rfl ?_
    refine XGo.getf rfl (xfd_o e1 hlt (by decide) hs) ?_
    refine XGo.go 2 rfl ?_
    refine XGo.call _ rfl xm_X7_at rfl rfl [.int (nI g), .int (nI many)] [.ref 537] rfl rfl (fun z => absurd rfl z) (Nat.le_of_ble_eq_true rfl) (k_at7 d _ hg hm) ?_
    rw [ht]
    show XGo _ _ (113, _, [.int (nI t), .ref 537], _) _ _
    refine XGo.go 3 rfl ?_
    refine XGo.getf rfl (xfd_o e1 hlt (by decide) hs) ?_
    refine XGo.go 2 rfl ?_
    refine XGo.call _ rfl xm_X7_at rfl rfl [.int (nI gr), .int (nI c)] [.ref 537, .int (nI t + nI k), .ref 537] rfl rfl (fun z => absurd rfl z) (Nat.le_of_ble_eq_true rfl) (k_at7 d _ hgr hc) ?_
    rw [hsr]
    show XGo _ _ (126, _, [.int (nI s), .ref 537, .int (nI t + nI k), .ref 537], _) _ _
    refine XGo.go 2 rfl ?_
    show XGo _ _ (129, _, [.int (nI s + nI k), .ref 537, .int (nI t + nI k), .ref 537], _) _ _
    rw [nI_add s k, nI_add t k]
    refine XGo.iald rfl (xia_i e2 hls cs) ?_
    refine XGo.iast rfl e2 hls (by decide) ct ?_
    rw [cpb_up h f (by omega) (by omega) hdis (by omega)]
    refine XGo.go 2 rfl ?_
    have q := stk_in d h fs f hN h1 hs h2 hgr hg hm hc n m (v := v) (hend := hend) (by rw [ht, hsr]; exact fin) i (k + 1) (by omega)
    rw [show nI (k + 1) = nI k + Int32.ofInt 1 from (nI_1 k).symm, ht, hsr] at q
    exact q
theorem cellT_b : ((List.range 36).all fun i => (List.range 8).all fun k => decide (shA (w_S 66) (140 + 8 * i + k) = shA (w_S 66) (140 + k))) = true := by decide +kernel
theorem cellT {i k : Nat} (hi : i < 36) (hk : k < 8) : shA (w_S 66) (140 + 8 * i + k) = shA (w_S 66) (140 + k) := of_decide_eq_true (List.all_eq_true.mp (List.all_eq_true.mp cellT_b i (List.mem_range.mpr hi)) k (List.mem_range.mpr hk))
theorem cell130_b : ((List.range 6).all fun g => decide (shA (w_S 66) (130 + g) = some (avI 0 6))) = true := by decide +kernel
theorem cell130 {g : Nat} (hg : g < 6) : shA (w_S 66) (130 + g) = some (avI 0 6) := of_decide_eq_true (List.all_eq_true.mp cell130_b g (List.mem_range.mpr hg))
theorem cpb_inv {h : XH} (hI : AInv w_W h) {f : Nat → Int32} (h2 : h.2.2 537 = .inr (.inl (0, 490, f))) {a b : Nat} (ha : a < 36) (hb : b < 36) : AInv w_W (cpb h f (140 + 8 * a) (140 + 8 * b) 8) := by
  refine w_rowset hI (Or.inl rfl) fun j x hj hx => ?_
  by_cases hc : 140 + 8 * a ≤ j ∧ j < 140 + 8 * a + 8
  · rw [if_pos hc]
    have e : j = 140 + 8 * a + (j - (140 + 8 * a)) := by omega
    have e2 : 140 + 8 * b + (j - (140 + 8 * a)) < 490 := by omega
    rw [e, cellT ha (k := j - (140 + 8 * a)) (by omega), ← cellT hb (k := j - (140 + 8 * a)) (by omega)] at hx
    exact w_cell hI (Or.inl rfl) h2 e2 hx
  · rw [if_neg hc]
    exact w_cell hI (Or.inl rfl) h2 hj hx
theorem cpb_prs {f : Nat → Int32} (hs : prs f) {a b : Nat} (ha : a < 36) (hb : b < 36) : prs (fun j => if 140 + 8 * a ≤ j ∧ j < 140 + 8 * a + 8 then f (140 + 8 * b + (j - (140 + 8 * a))) else f j) := by
  refine ⟨fun m hm => ?_, fun i hi => ?_⟩
  · unfold prF
    dsimp only
    rw [if_neg (by omega), if_neg (by omega)]
    exact hs.1 m hm
  · unfold prF
    dsimp only
    by_cases hia : i = a
    · subst hia
      rw [if_pos (by omega), if_pos (by omega), if_pos (by omega), if_pos (by omega), show 140 + 8 * b + (140 + 8 * i - (140 + 8 * i)) = 140 + 8 * b by omega, show 140 + 8 * b + (141 + 8 * i - (140 + 8 * i)) = 141 + 8 * b by omega, show 140 + 8 * b + (146 + 8 * i - (140 + 8 * i)) = 146 + 8 * b by omega, show 140 + 8 * b + (147 + 8 * i - (140 + 8 * i)) = 147 + 8 * b by omega]
      exact hs.2 b hb
    · rw [if_neg (by omega), if_neg (by omega), if_neg (by omega), if_neg (by omega)]
      exact hs.2 i hi
theorem w_W1 (k : Nat) : w_W.1 k = w_rg k := rfl
theorem cpb_fr {h : XH} {f : Nat → Int32} (h2 : h.2.2 537 = .inr (.inl (0, 490, f))) {a b : Nat} (ha : a < 36) : AFr w_W [(66, 140, 427)] h (cpb h f (140 + 8 * a) (140 + 8 * b) 8) := fun k j hk hj => by
  by_cases hk7 : k = 537
  · subst hk7
    unfold cpb rd
    rw [xup_eq, h2]
    have hne : ¬ (140 + 8 * a ≤ j ∧ j < 140 + 8 * a + 8) := fun hc => hj _ (List.mem_singleton.mpr rfl) ⟨(show 66 = w_W.1 537 from ((w_W1 537).trans w_rg_537).symm), by show (140 : Int) ≤ _; omega, by show _ ≤ (427 : Int); omega⟩
    dsimp only
    rw [if_neg hne]
  · unfold cpb rd
    rw [xup_ne _ _ hk7]
set_option maxRecDepth 100000 in
theorem stk_out (d : Nat) {gr g : Nat} (hgr : gr < 6) (hg : g < 6) (n : Value) (msk : Int32) {h0 : XH} {Q : Option Value → XH → Prop} (fin : ∀ (many c : Nat) (l7 : Option Value) (h : XH), (∀ v, l7 = some v → v.category ≠ 2) → many ≤ 6 → c ≤ 6 → AInv w_W h → PInv w_W w_P h [] → AFr w_W [(66, 140, 427)] h0 h → XGe (d + 1) xm_X7_strike (146, xLs gr g many c n (.int msk) l7, [], h) Q) : ∀ (i c many : Nat) (l7 : Option Value) (h : XH), (∀ v, l7 = some v → v.category ≠ 2) → c + i = 6 → many ≤ c → AInv w_W h → PInv w_W w_P h [] → AFr w_W [(66, 140, 427)] h0 h → XGe (d + 1) xm_X7_strike (68, xLs gr g many c n (.int msk) l7, [], h) Q := by
  intro i
  induction i with
  | zero =>
    intro c many l7 h hl hc hm hI hP hF
    obtain ⟨fs, h1, hs, -, hfl⟩ := w_mod hI
    obtain ⟨f, h2⟩ := w_row hI (Or.inl rfl)
    have hN : h.1 = 549 := hI.1
    have ci : ¬ (nI (130 + gr) < 0 ∨ 490 ≤ (nI (130 + gr)).toNatClampNeg) := fun q => q.elim (xnI_lt0 (by omega)) (fun z => by rw [xnI_nat (by omega)] at z; omega)
    obtain ⟨x, hx, x1, x2⟩ := ga_int rfl (w_cell hI (Or.inl rfl) h2 (by omega) (cell130 hgr))
    have hx : f (130 + gr) = x := Value.int.inj hx
    have x2 : x.toInt ≤ 6 := x2
    have hq : f (nI (130 + gr)).toNatClampNeg ≤ nI c := by
      rw [xnI_nat (by omega), hx, Int32.le_iff_toInt_le, nI_toInt (by omega)]
      omega
    refine XGe.map (fun v hend k => ?_) (fin many c l7 h hl (by omega) (by omega) hI hP hF)
    refine XGo.go 2 rfl ?_
    refine XGo.getf rfl (xfd_o h1 (by omega) (by decide) hs) ?_
    refine XGo.go 3 rfl ?_
    show XGo _ _ (79, _, [.int ((Int16.ofInt 130).toInt32 + nI gr), .ref 537, .int (nI c)], _) _ _
    rw [show (Int16.ofInt 130).toInt32 + nI gr = nI (130 + gr) from nI_add 130 gr]
    refine XGo.iald rfl (xia_i h2 (by omega) ci) ?_
    refine XGo.go 1 rfl ?_
    exact XGo.ifp hq k
  | succ i ih =>
    intro c many l7 h hl hc hm hI hP hF
    obtain ⟨fs, h1, hs, -, hfl⟩ := w_mod hI
    obtain ⟨f, h2⟩ := w_row hI (Or.inl rfl)
    have hN : h.1 = 549 := hI.1
    have ci : ¬ (nI (130 + gr) < 0 ∨ 490 ≤ (nI (130 + gr)).toNatClampNeg) := fun q => q.elim (xnI_lt0 (by omega)) (fun z => by rw [xnI_nat (by omega)] at z; omega)
    have head : ∀ {v : Option Value} {hend : XH}, XGo (d + 1) xm_X7_strike (if f (nI (130 + gr)).toNatClampNeg ≤ nI c then 146 else 83, xLs gr g many c n (.int msk) l7, [], h) v hend → XGo (d + 1) xm_X7_strike (68, xLs gr g many c n (.int msk) l7, [], h) v hend := fun k => by
      refine XGo.go 2 rfl ?_
      refine XGo.getf rfl (xfd_o h1 (by omega) (by decide) hs) ?_
      refine XGo.go 3 rfl ?_
      show XGo _ _ (79, _, [.int ((Int16.ofInt 130).toInt32 + nI gr), .ref 537, .int (nI c)], _) _ _
      rw [show (Int16.ofInt 130).toInt32 + nI gr = nI (130 + gr) from nI_add 130 gr]
      refine XGo.iald rfl (xia_i h2 (by omega) ci) ?_
      exact XGo.go 1 rfl k
    by_cases hq : f (nI (130 + gr)).toNatClampNeg ≤ nI c
    · exact XGe.map (fun v hend k => head (XGo.ifp hq k)) (fin many c l7 h hl (by omega) (by omega) hI hP hF)
    · by_cases hz : (msk >>> (nI c &&& 31)) &&& 1 = 0
      · have hinv := cpb_inv hI h2 (a := 6 * g + many) (b := 6 * gr + c) (by omega) (by omega)
        have hpr := cpb_prs (pinv_to (by decide) (by decide +kernel) h2 hP) (a := 6 * g + many) (b := 6 * gr + c) (by omega) (by omega)
        have hp2 : PInv w_W w_P (cpb h f (140 + 8 * (6 * g + many)) (140 + 8 * (6 * gr + c)) 8) [] := pinv_of (hc := hP.2.fr (cpb_fr h2 (by omega)) (by decide)) (p := 537) (by decide) (by decide +kernel) (by decide +kernel) (xup_eq _ _ _) hpr
        refine XGe.map (fun v hend k => ?_) (ih (c + 1) (many + 1) (some (.int (nI 8))) _ (fun v hv => by cases hv; decide) (by omega) (by omega) hinv hp2 (hF.trans (cpb_fr h2 (by omega))))
        refine head (XGo.ifn hq ?_)
        refine XGo.go 6 rfl ?_
        refine XGo.ifp hz ?_
        refine XGo.go 2 rfl ?_
        have q := stk_in d h fs f hN h1 hs h2 hgr hg (many := many) (c := c) (by omega) (by omega) n (.int msk) (v := v) (hend := hend) (by
          refine XGo.go 3 rfl ?_
          rw [show nI c + Int32.ofInt 1 = nI (c + 1) from nI_1 c, show nI many + Int32.ofInt 1 = nI (many + 1) from nI_1 many]
          exact k) 8 0 rfl
        rw [cpb_0 h f _ _ h2] at q
        exact q
      · refine XGe.map (fun v hend k => ?_) (ih (c + 1) many l7 h hl (by omega) (by omega) hI hP hF)
        refine head (XGo.ifn hq ?_)
        refine XGo.go 6 rfl ?_
        refine XGo.ifn hz ?_
        refine XGo.go 2 rfl ?_
        rw [show nI c + Int32.ofInt 1 = nI (c + 1) from nI_1 c]
        exact k
