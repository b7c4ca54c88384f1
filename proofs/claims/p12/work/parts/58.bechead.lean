/-! fields and rows by what is read of them; a row copied; the head of World.become -/
theorem k_copy (d : Nat) {h : XH} {s t n : Nat} {f g : Nat → Int32} (hs : h.2.2 s = .inr (.inl (0, n, f))) (ht : h.2.2 t = .inr (.inl (0, n, g))) (ls : s < h.1) (lt : t < h.1) (s13 : 13 ≤ s) (t13 : 13 ≤ t) (hn : n < 2147483648) : XCall xM (d + 1) 104 [.ref s, .ref t] h none (xup h t (.inr (.inl (0, n, va_cpy f g 0 0 n)))) := by
  refine XCall.of (M := xm_X6_copy) rfl (Nat.le_of_ble_eq_true rfl) ?_
  refine XGo.go 5 rfl ?_
  refine XGo.alen rfl (xlen_i hs ls (by decide)) ?_
  refine XGo.go 1 rfl ?_
  refine XGo.alen rfl (xlen_i ht lt (by decide)) ?_
  have e0 : (Int32.ofInt 0).toNatClampNeg = 0 := by decide
  have en : (Int32.ofNat n).toNatClampNeg = n := xnI_nat hn
  have hn0 : ¬ Int32.ofNat n < 0 := xnI_lt0 hn
  refine XGo.hp _ rfl (o := (3, [.int (Int32.ofNat n), .int (Int32.ofInt 0), .ref t, .int (Int32.ofInt 0), .ref s], h)) ?_ ?_
  · simp only [xhp]
    rw [if_neg (by decide), if_pos trivial, if_pos (Nat.le_of_ble_eq_true rfl), ite_self]
  refine XGo.hp _ rfl (o := (3, [], xup h t (.inr (.inl (0, n, va_cpy f g 0 0 n))))) ?_ ?_
  · simp only [xhp, ht, hs]
    rw [if_pos trivial, if_pos ⟨lt, t13, ls, s13, trivial, trivial, by decide, by decide, hn0, by rw [e0, en]; omega, by rw [e0, en]; omega, Nat.le_of_ble_eq_true rfl⟩, e0, en]
  exact XGo.vret _ rfl rfl rfl
/-- a row of ints copied whole: what it leaves -/
theorem copy_ok (d : Nat) {h : XH} (hI : AInv w_W h) {s t n rs rt : Nat} {sg : List (Nat × Int × Int)} (hs : s < 549) (ht : t < 549) (s13 : 13 ≤ s) (t13 : 13 ≤ t) (h1 : w_rg s = rs) (h2 : w_rg t = rt) (e1 : w_S rs = (1, 0, n, [], sg)) (e2 : w_S rt = (1, 0, n, [], sg)) (hn : n < 2147483648) : ∃ h1 : XH, XCall xM (d + 1) 104 [.ref s, .ref t] h none h1 ∧ AInv w_W h1 ∧ AFr w_W [(rt, 0, (n : Int) - 1)] h h1 ∧ ∀ i, i < n → rd h1 t i = rd h s i := by
  obtain ⟨f, hf⟩ := w_ints hI hs h1 e1
  obtain ⟨g, hg⟩ := w_ints hI ht h2 e2
  obtain ⟨i1, i2, i3⟩ := id hI
  have i1 : h.1 = 549 := i1
  have hcp : ∀ i, va_cpy f g 0 0 n i = if i < n then f i else g i := fun i => by
    unfold va_cpy
    by_cases hi : i < n
    · rw [if_pos (by omega), if_pos hi]
      congr 1
      omega
    · rw [if_neg (by omega), if_neg hi]
  refine ⟨_, k_copy d hf hg (by omega) (by omega) s13 t13 hn, ⟨i1, i2, fun k hk => ?_⟩, fun k b hk hb => ?_, fun i hi => ?_⟩
  · by_cases hkt : k = t
    · subst hkt
      obtain ⟨-, q2⟩ := i3 s hs
      obtain ⟨-, q4⟩ := i3 k hk
      rw [w_Sg, h1, e1] at q2
      rw [w_Sg, h2, e2] at q4 ⊢
      rw [xup_eq]
      refine ⟨⟨rfl, rfl⟩, fun b a hab => ?_⟩
      have hb : b < n := by
        by_cases hb : b < n
        · exact hb
        · have hab : (if b < n then (match sgI sg b b with
            | some (lo, hi) => some (avI lo hi)
            | none => none) else none) = some a := hab
          rw [if_neg hb] at hab
          cases hab
      obtain ⟨v, hv, hga⟩ := q2 b a hab
      rw [rd_ints hf hb] at hv
      refine ⟨v, ?_, hga⟩
      unfold rd
      rw [xup_eq]
      dsimp only
      rw [if_pos hb, hcp, if_pos hb]
      exact hv
    · rw [xup_ne _ _ hkt]
      refine ⟨(i3 k hk).1, fun b a hab => ?_⟩
      obtain ⟨v, hv, hga⟩ := (i3 k hk).2 b a hab
      exact ⟨v, by rw [rd_same (h := h) (xup_ne _ _ hkt)]; exact hv, hga⟩
  · by_cases hkt : k = t
    · subst hkt
      have hne : ¬ b < n := fun q => hb _ (List.mem_singleton.mpr rfl) ⟨((w_W1 k).trans h2).symm, by show (0 : Int) ≤ _; omega, by show _ ≤ (n : Int) - 1; omega⟩
      unfold rd
      rw [xup_eq, hg]
      dsimp only
      rw [if_neg hne, if_neg hne]
    · exact rd_same (h := h) (xup_ne _ _ hkt) b
  · rw [rd_ints hf hi]
    unfold rd
    rw [xup_eq]
    dsimp only
    rw [if_pos hi, hcp, if_pos hi]
theorem XGo.getr {d : Nat} {M : XMeth} {pc k len a b w idx r : Nat} {x : Value} {sl : List AV} {L : XL} {st : List Value} {h h1 : XH} {v : Option Value} (hm : xfind (xmT M) pc = some (pc, .getfield idx, len, a, b, w)) (hI : AInv w_W h) (hk : k < 549) (h13 : 13 ≤ k) (hr : w_rg k = r) (hS : w_S r = (0, a, 0, sl, [])) (ha : a < 98) (hv : rd h k b = some x) (g : XGo d M (pc + 3, L, x :: st, h) v h1) : XGo d M (pc, L, .ref k :: st, h) v h1 := by
  obtain ⟨fs, f1, -, -⟩ := w_obj hI hk hr hS
  have hN : h.1 = 549 := hI.1
  exact XGo.getf hm (xfd_o f1 (by omega) h13 ((rd_fld f1).symm.trans hv) ha) g
/-- an int put into a field that may be any -/
theorem putr {h : XH} (hI : AInv w_W h) {k r ci b : Nat} {sl : List AV} (hk : k < 549) (h13 : 13 ≤ k) (hr : w_rg k = r) (hS : w_S r = (0, ci, 0, sl, [])) {s : AV} (hs : sl[b]? = some s) (x : Int32) (hx : ga w_W s (.int x)) (hf : fits (xty ci b) (.int x) = true ∧ narrow (xty ci b) (.int x) = .int x) : ∃ h1 : XH, AInv w_W h1 ∧ AFr w_W [(r, (b : Int), (b : Int))] h h1 ∧ rd h1 k b = some (.int x) ∧ ∀ {d : Nat} {M : XMeth} {pc len w idx : Nat} {L : XL} {st : List Value} {v : Option Value} {hend : XH}, xfind (xmT M) pc = some (pc, .putfield idx, len, ci, b, w) → XGo d M (pc + 3, L, st, h1) v hend → XGo d M (pc, L, .int x :: .ref k :: st, h) v hend := by
  obtain ⟨fs, f1, f2, -⟩ := w_obj hI hk hr hS
  have hb : b < fs.length := by rw [f2]; exact (List.getElem?_eq_some_iff.mp hs).1
  have hW := wrote_field (h := h) (k := k) (ci := ci) (fs := fs) (b := b) (v := .int x) f1 hb
  have hN : h.1 = 549 := hI.1
  exact ⟨_, hI.wrote hW (s := s) (by rw [w_Sg, hr, hS]; exact hs) hx, AFr.wrote (i := (b : Int)) (j := (b : Int)) hW (Int.le_refl _) (Int.le_refl _) ⟨_, List.mem_singleton.mpr rfl, ((w_W1 k).trans hr).symm, Int.le_refl _, Int.le_refl _⟩, hW.2.2.1, fun hm g => XGo.putf hm f1 (by omega) h13 hb hf.1 hf.2 g⟩
theorem rd_ref {h : XH} (hI : AInv w_W h) {k r r2 j b ci : Nat} {sl : List AV} (hk : k < 549) (hr : w_rg k = r) (hS : w_S r = (0, ci, 0, sl, [])) (hb : sl[b]? = some (avR r2)) (ho : w_o r2 = true) (hj : w_rg j = r2) (hj2 : j < 549) : rd h k b = some (.ref j) := by
  obtain ⟨fs, -, -, f3⟩ := w_obj hI hk hr hS
  obtain ⟨v, -, hv, hg⟩ := f3 b _ hb
  rw [hv, w_ref (k0 := 0) ho hj hj2 hg]
theorem rd_int {h : XH} (hI : AInv w_W h) {k r b ci : Nat} {sl : List AV} {s : AV} (hk : k < 549) (hr : w_rg k = r) (hS : w_S r = (0, ci, 0, sl, [])) (hb : sl[b]? = some s) (h0 : s.1 = 0) : ∃ x : Int32, rd h k b = some (.int x) ∧ s.2.1 ≤ x.toInt ∧ x.toInt ≤ s.2.2.1 := by
  obtain ⟨fs, -, -, f3⟩ := w_obj hI hk hr hS
  obtain ⟨v, -, hv, hg⟩ := f3 b _ hb
  obtain ⟨x, rfl, e⟩ := ga_int h0 hg
  exact ⟨x, hv, e⟩
theorem w_rg_17 : w_rg 17 = 17 := by decide +kernel
theorem w_rg_18 : w_rg 18 = 18 := by decide +kernel
theorem w_rg_19 : w_rg 19 = 19 := by decide +kernel
theorem w_rg_43 : w_rg 43 = 28 := by decide +kernel
theorem w_rg_44 : w_rg 44 = 29 := by decide +kernel
theorem w_rg_45 : w_rg 45 = 30 := by decide +kernel
theorem w_rg_46 : w_rg 46 = 31 := by decide +kernel
theorem w_rg_47 : w_rg 47 = 32 := by decide +kernel
set_option maxRecDepth 100000 in
/-- the head of become: up to the grants -/
theorem bec_img {h : XH} (hI : AInv w_W h) (l2 : Option Value) : ∃ h1 : XH, AInv w_W h1 ∧ AFr w_W [(27, 0, 0), (28, 0, 7), (29, 0, 7), (27, 3, 3), (30, 0, 5), (31, 0, 5), (32, 0, 5)] h h1 ∧ (rd h1 42 0 = rd h 14 0 ∧ rd h1 42 3 = rd h 14 3 ∧ (∀ i, i < 8 → rd h1 43 i = rd h 15 i) ∧ (∀ i, i < 8 → rd h1 44 i = rd h 16 i) ∧ (∀ i, i < 6 → rd h1 45 i = rd h 17 i) ∧ (∀ i, i < 6 → rd h1 46 i = rd h 18 i) ∧ (∀ i, i < 6 → rd h1 47 i = rd h 19 i)) ∧ ∀ {d : Nat} {v : Option Value} {hend : XH}, XGo (d + 1) xm_X5_become (71, [some (.ref 42), some (.ref 14), l2], [], h1) v hend → XGo (d + 1) xm_X5_become (0, [some (.ref 42), some (.ref 14), l2], [], h) v hend := by
  obtain ⟨x0, x1, -⟩ := rd_int hI (k := 14) (b := 0) (s := avT) (by decide) w_rg_14 (show w_S 14 = (0, 5, 0, w_s14.2.2.2.1, []) from rfl) rfl rfl
  obtain ⟨y0, y1, -⟩ := rd_int hI (k := 14) (b := 3) (s := avT) (by decide) w_rg_14 (show w_S 14 = (0, 5, 0, w_s14.2.2.2.1, []) from rfl) rfl rfl
  obtain ⟨A1, i1, f1, r1, g1⟩ := putr hI (k := 42) (b := 0) (s := avT) (by decide) (by decide) w_rg_42 (show w_S 27 = (0, 5, 0, w_s27.2.2.2.1, []) from rfl) rfl x0 (ga_of rfl (gi_T _)) ⟨rfl, rfl⟩
  obtain ⟨A2, g2, i2, f2, r2⟩ := copy_ok 0 i1 (s := 15) (t := 43) (by decide) (by decide) (by decide) (by decide) w_rg_15 w_rg_43 (show w_S 15 = (1, 0, 8, [], [(8, -2147483648, 2147483647)]) from rfl) (show w_S 28 = (1, 0, 8, [], [(8, -2147483648, 2147483647)]) from rfl) (by decide)
  obtain ⟨A3, g3, i3, f3, r3⟩ := copy_ok 0 i2 (s := 16) (t := 44) (by decide) (by decide) (by decide) (by decide) w_rg_16 w_rg_44 (show w_S 16 = (1, 0, 8, [], [(8, -2147483648, 2147483647)]) from rfl) (show w_S 29 = (1, 0, 8, [], [(8, -2147483648, 2147483647)]) from rfl) (by decide)
  obtain ⟨A4, i4, f4, r4, g4⟩ := putr i3 (k := 42) (b := 3) (s := avT) (by decide) (by decide) w_rg_42 (show w_S 27 = (0, 5, 0, w_s27.2.2.2.1, []) from rfl) rfl y0 (ga_of rfl (gi_T _)) ⟨rfl, rfl⟩
  obtain ⟨A5, g5, i5, f5, r5⟩ := copy_ok 0 i4 (s := 17) (t := 45) (by decide) (by decide) (by decide) (by decide) w_rg_17 w_rg_45 (show w_S 17 = (1, 0, 6, [], [(6, -2147483648, 2147483647)]) from rfl) (show w_S 30 = (1, 0, 6, [], [(6, -2147483648, 2147483647)]) from rfl) (by decide)
  obtain ⟨A6, g6, i6, f6, r6⟩ := copy_ok 0 i5 (s := 18) (t := 46) (by decide) (by decide) (by decide) (by decide) w_rg_18 w_rg_46 (show w_S 18 = (1, 0, 6, [], [(6, -2147483648, 2147483647)]) from rfl) (show w_S 31 = (1, 0, 6, [], [(6, -2147483648, 2147483647)]) from rfl) (by decide)
  obtain ⟨A7, g7, i7, f7, r7⟩ := copy_ok 0 i6 (s := 19) (t := 47) (by decide) (by decide) (by decide) (by decide) w_rg_19 w_rg_47 (show w_S 19 = (1, 0, 6, [], [(6, -2147483648, 2147483647)]) from rfl) (show w_S 32 = (1, 0, 6, [], [(6, -2147483648, 2147483647)]) from rfl) (by decide)
  have hF : AFr w_W [(27, 0, 0), (28, 0, 7), (29, 0, 7), (27, 3, 3), (30, 0, 5), (31, 0, 5), (32, 0, 5)] h A7 := ((((((awin_ok f1 (by decide +kernel)).trans (awin_ok f2 (by decide +kernel))).trans (awin_ok f3 (by decide +kernel))).trans (awin_ok f4 (by decide +kernel))).trans (awin_ok f5 (by decide +kernel))).trans (awin_ok f6 (by decide +kernel))).trans (awin_ok f7 (by decide +kernel))
  have t1 : AFr w_W [(28, 0, 7), (29, 0, 7), (27, 3, 3), (30, 0, 5), (31, 0, 5), (32, 0, 5)] A1 A7 := (((((awin_ok (ws := [(28, 0, 7), (29, 0, 7), (27, 3, 3), (30, 0, 5), (31, 0, 5), (32, 0, 5)]) f2 (by decide +kernel)).trans (awin_ok f3 (by decide +kernel))).trans (awin_ok f4 (by decide +kernel))).trans (awin_ok f5 (by decide +kernel))).trans (awin_ok f6 (by decide +kernel))).trans (awin_ok f7 (by decide +kernel))
  have d1 : AFr w_W [(27, 0, 0)] h A1 := awin_ok (ws := [(27, 0, 0)]) f1 (by decide +kernel)
  have t2 : AFr w_W [(29, 0, 7), (27, 3, 3), (30, 0, 5), (31, 0, 5), (32, 0, 5)] A2 A7 := ((((awin_ok (ws := [(29, 0, 7), (27, 3, 3), (30, 0, 5), (31, 0, 5), (32, 0, 5)]) f3 (by decide +kernel)).trans (awin_ok f4 (by decide +kernel))).trans (awin_ok f5 (by decide +kernel))).trans (awin_ok f6 (by decide +kernel))).trans (awin_ok f7 (by decide +kernel))
  have d2 : AFr w_W [(27, 0, 0), (28, 0, 7)] h A2 := (awin_ok (ws := [(27, 0, 0), (28, 0, 7)]) f1 (by decide +kernel)).trans (awin_ok f2 (by decide +kernel))
  have t3 : AFr w_W [(27, 3, 3), (30, 0, 5), (31, 0, 5), (32, 0, 5)] A3 A7 := (((awin_ok (ws := [(27, 3, 3), (30, 0, 5), (31, 0, 5), (32, 0, 5)]) f4 (by decide +kernel)).trans (awin_ok f5 (by decide +kernel))).trans (awin_ok f6 (by decide +kernel))).trans (awin_ok f7 (by decide +kernel))
  have d3 : AFr w_W [(27, 0, 0), (28, 0, 7), (29, 0, 7)] h A3 := ((awin_ok (ws := [(27, 0, 0), (28, 0, 7), (29, 0, 7)]) f1 (by decide +kernel)).trans (awin_ok f2 (by decide +kernel))).trans (awin_ok f3 (by decide +kernel))
  have t4 : AFr w_W [(30, 0, 5), (31, 0, 5), (32, 0, 5)] A4 A7 := ((awin_ok (ws := [(30, 0, 5), (31, 0, 5), (32, 0, 5)]) f5 (by decide +kernel)).trans (awin_ok f6 (by decide +kernel))).trans (awin_ok f7 (by decide +kernel))
  have d4 : AFr w_W [(27, 0, 0), (28, 0, 7), (29, 0, 7), (27, 3, 3)] h A4 := (((awin_ok (ws := [(27, 0, 0), (28, 0, 7), (29, 0, 7), (27, 3, 3)]) f1 (by decide +kernel)).trans (awin_ok f2 (by decide +kernel))).trans (awin_ok f3 (by decide +kernel))).trans (awin_ok f4 (by decide +kernel))
  have t5 : AFr w_W [(31, 0, 5), (32, 0, 5)] A5 A7 := (awin_ok (ws := [(31, 0, 5), (32, 0, 5)]) f6 (by decide +kernel)).trans (awin_ok f7 (by decide +kernel))
  have d5 : AFr w_W [(27, 0, 0), (28, 0, 7), (29, 0, 7), (27, 3, 3), (30, 0, 5)] h A5 := ((((awin_ok (ws := [(27, 0, 0), (28, 0, 7), (29, 0, 7), (27, 3, 3), (30, 0, 5)]) f1 (by decide +kernel)).trans (awin_ok f2 (by decide +kernel))).trans (awin_ok f3 (by decide +kernel))).trans (awin_ok f4 (by decide +kernel))).trans (awin_ok f5 (by decide +kernel))
  have t6 : AFr w_W [(32, 0, 5)] A6 A7 := awin_ok (ws := [(32, 0, 5)]) f7 (by decide +kernel)
  have d6 : AFr w_W [(27, 0, 0), (28, 0, 7), (29, 0, 7), (27, 3, 3), (30, 0, 5), (31, 0, 5)] h A6 := (((((awin_ok (ws := [(27, 0, 0), (28, 0, 7), (29, 0, 7), (27, 3, 3), (30, 0, 5), (31, 0, 5)]) f1 (by decide +kernel)).trans (awin_ok f2 (by decide +kernel))).trans (awin_ok f3 (by decide +kernel))).trans (awin_ok f4 (by decide +kernel))).trans (awin_ok f5 (by decide +kernel))).trans (awin_ok f6 (by decide +kernel))
  refine ⟨A7, i7, hF, ⟨(rdF (b := 0) w_rg_42 (by decide) t1 rfl).trans (r1.trans x1.symm), (rdF (b := 3) w_rg_42 (by decide) t4 rfl).trans (r4.trans y1.symm), fun i hi => ((rdF (b := i) w_rg_43 (by decide) t2 rfl).trans (r2 i hi)).trans (rdF (b := i) w_rg_15 (by decide) d1 rfl), fun i hi => ((rdF (b := i) w_rg_44 (by decide) t3 rfl).trans (r3 i hi)).trans (rdF (b := i) w_rg_16 (by decide) d2 rfl), fun i hi => ((rdF (b := i) w_rg_45 (by decide) t5 rfl).trans (r5 i hi)).trans (rdF (b := i) w_rg_17 (by decide) d4 rfl), fun i hi => ((rdF (b := i) w_rg_46 (by decide) t6 rfl).trans (r6 i hi)).trans (rdF (b := i) w_rg_18 (by decide) d5 rfl), fun i hi => (r7 i hi).trans (rdF (b := i) w_rg_19 (by decide) d6 rfl)⟩, fun {d v hend} k => ?_⟩
  refine XGo.go 2 rfl ?_
  refine XGo.getr rfl hI (by decide) (by decide) w_rg_14 (show w_S 14 = (0, 5, 0, w_s14.2.2.2.1, []) from rfl) (by decide) x1 ?_
  refine g1 rfl ?_
  refine XGo.go 1 rfl ?_
  refine XGo.getr rfl i1 (by decide) (by decide) w_rg_14 (show w_S 14 = (0, 5, 0, w_s14.2.2.2.1, []) from rfl) (by decide) (rd_ref i1 (k := 14) (j := 15) (by decide) w_rg_14 (show w_S 14 = (0, 5, 0, w_s14.2.2.2.1, []) from rfl) rfl rfl w_rg_15 (by decide)) ?_
  refine XGo.go 1 rfl ?_
  refine XGo.getr rfl i1 (by decide) (by decide) w_rg_42 (show w_S 27 = (0, 5, 0, w_s27.2.2.2.1, []) from rfl) (by decide) (rd_ref i1 (k := 42) (j := 43) (by decide) w_rg_42 (show w_S 27 = (0, 5, 0, w_s27.2.2.2.1, []) from rfl) rfl rfl w_rg_43 (by decide)) ?_
  refine XGo.call _ rfl xm_X6_copy rfl rfl [.ref 15, .ref 43] [] rfl rfl (fun z => absurd rfl z) (Nat.le_of_ble_eq_true rfl) (XCall.up (by omega) g2) ?_
  refine XGo.go 1 rfl ?_
  refine XGo.getr rfl i2 (by decide) (by decide) w_rg_14 (show w_S 14 = (0, 5, 0, w_s14.2.2.2.1, []) from rfl) (by decide) (rd_ref i2 (k := 14) (j := 16) (by decide) w_rg_14 (show w_S 14 = (0, 5, 0, w_s14.2.2.2.1, []) from rfl) rfl rfl w_rg_16 (by decide)) ?_
  refine XGo.go 1 rfl ?_
  refine XGo.getr rfl i2 (by decide) (by decide) w_rg_42 (show w_S 27 = (0, 5, 0, w_s27.2.2.2.1, []) from rfl) (by decide) (rd_ref i2 (k := 42) (j := 44) (by decide) w_rg_42 (show w_S 27 = (0, 5, 0, w_s27.2.2.2.1, []) from rfl) rfl rfl w_rg_44 (by decide)) ?_
  refine XGo.call _ rfl xm_X6_copy rfl rfl [.ref 16, .ref 44] [] rfl rfl (fun z => absurd rfl z) (Nat.le_of_ble_eq_true rfl) (XCall.up (by omega) g3) ?_
  refine XGo.go 2 rfl ?_
  refine XGo.getr rfl i3 (by decide) (by decide) w_rg_14 (show w_S 14 = (0, 5, 0, w_s14.2.2.2.1, []) from rfl) (by decide) ((rdF (b := 3) w_rg_14 (by decide) d3 rfl).trans y1) ?_
  refine g4 rfl ?_
  refine XGo.go 1 rfl ?_
  refine XGo.getr rfl i4 (by decide) (by decide) w_rg_14 (show w_S 14 = (0, 5, 0, w_s14.2.2.2.1, []) from rfl) (by decide) (rd_ref i4 (k := 14) (j := 17) (by decide) w_rg_14 (show w_S 14 = (0, 5, 0, w_s14.2.2.2.1, []) from rfl) rfl rfl w_rg_17 (by decide)) ?_
  refine XGo.go 1 rfl ?_
  refine XGo.getr rfl i4 (by decide) (by decide) w_rg_42 (show w_S 27 = (0, 5, 0, w_s27.2.2.2.1, []) from rfl) (by decide) (rd_ref i4 (k := 42) (j := 45) (by decide) w_rg_42 (show w_S 27 = (0, 5, 0, w_s27.2.2.2.1, []) from rfl) rfl rfl w_rg_45 (by decide)) ?_
  refine XGo.call _ rfl xm_X6_copy rfl rfl [.ref 17, .ref 45] [] rfl rfl (fun z => absurd rfl z) (Nat.le_of_ble_eq_true rfl) (XCall.up (by omega) g5) ?_
  refine XGo.go 1 rfl ?_
  refine XGo.getr rfl i5 (by decide) (by decide) w_rg_14 (show w_S 14 = (0, 5, 0, w_s14.2.2.2.1, []) from rfl) (by decide) (rd_ref i5 (k := 14) (j := 18) (by decide) w_rg_14 (show w_S 14 = (0, 5, 0, w_s14.2.2.2.1, []) from rfl) rfl rfl w_rg_18 (by decide)) ?_
  refine XGo.go 1 rfl ?_
  refine XGo.getr rfl i5 (by decide) (by decide) w_rg_42 (show w_S 27 = (0, 5, 0, w_s27.2.2.2.1, []) from rfl) (by decide) (rd_ref i5 (k := 42) (j := 46) (by decide) w_rg_42 (show w_S 27 = (0, 5, 0, w_s27.2.2.2.1, []) from rfl) rfl rfl w_rg_46 (by decide)) ?_
  refine XGo.call _ rfl xm_X6_copy rfl rfl [.ref 18, .ref 46] [] rfl rfl (fun z => absurd rfl z) (Nat.le_of_ble_eq_true rfl) (XCall.up (by omega) g6) ?_
  refine XGo.go 1 rfl ?_
  refine XGo.getr rfl i6 (by decide) (by decide) w_rg_14 (show w_S 14 = (0, 5, 0, w_s14.2.2.2.1, []) from rfl) (by decide) (rd_ref i6 (k := 14) (j := 19) (by decide) w_rg_14 (show w_S 14 = (0, 5, 0, w_s14.2.2.2.1, []) from rfl) rfl rfl w_rg_19 (by decide)) ?_
  refine XGo.go 1 rfl ?_
  refine XGo.getr rfl i6 (by decide) (by decide) w_rg_42 (show w_S 27 = (0, 5, 0, w_s27.2.2.2.1, []) from rfl) (by decide) (rd_ref i6 (k := 42) (j := 47) (by decide) w_rg_42 (show w_S 27 = (0, 5, 0, w_s27.2.2.2.1, []) from rfl) rfl rfl w_rg_47 (by decide)) ?_
  refine XGo.call _ rfl xm_X6_copy rfl rfl [.ref 19, .ref 47] [] rfl rfl (fun z => absurd rfl z) (Nat.le_of_ble_eq_true rfl) (XCall.up (by omega) g7) ?_
  exact k
set_option maxRecDepth 100000 in
/-- the head of become: up to the grants -/
theorem bec_und {h : XH} (hI : AInv w_W h) (l2 : Option Value) : ∃ h1 : XH, AInv w_W h1 ∧ AFr w_W [(14, 0, 0), (15, 0, 7), (16, 0, 7), (14, 3, 3), (17, 0, 5), (18, 0, 5), (19, 0, 5)] h h1 ∧ (rd h1 14 0 = rd h 42 0 ∧ rd h1 14 3 = rd h 42 3 ∧ (∀ i, i < 8 → rd h1 15 i = rd h 43 i) ∧ (∀ i, i < 8 → rd h1 16 i = rd h 44 i) ∧ (∀ i, i < 6 → rd h1 17 i = rd h 45 i) ∧ (∀ i, i < 6 → rd h1 18 i = rd h 46 i) ∧ (∀ i, i < 6 → rd h1 19 i = rd h 47 i)) ∧ ∀ {d : Nat} {v : Option Value} {hend : XH}, XGo (d + 1) xm_X5_become (71, [some (.ref 14), some (.ref 42), l2], [], h1) v hend → XGo (d + 1) xm_X5_become (0, [some (.ref 14), some (.ref 42), l2], [], h) v hend := by
  obtain ⟨x0, x1, -⟩ := rd_int hI (k := 42) (b := 0) (s := avT) (by decide) w_rg_42 (show w_S 27 = (0, 5, 0, w_s27.2.2.2.1, []) from rfl) rfl rfl
  obtain ⟨y0, y1, -⟩ := rd_int hI (k := 42) (b := 3) (s := avT) (by decide) w_rg_42 (show w_S 27 = (0, 5, 0, w_s27.2.2.2.1, []) from rfl) rfl rfl
  obtain ⟨A1, i1, f1, r1, g1⟩ := putr hI (k := 14) (b := 0) (s := avT) (by decide) (by decide) w_rg_14 (show w_S 14 = (0, 5, 0, w_s14.2.2.2.1, []) from rfl) rfl x0 (ga_of rfl (gi_T _)) ⟨rfl, rfl⟩
  obtain ⟨A2, g2, i2, f2, r2⟩ := copy_ok 0 i1 (s := 43) (t := 15) (by decide) (by decide) (by decide) (by decide) w_rg_43 w_rg_15 (show w_S 28 = (1, 0, 8, [], [(8, -2147483648, 2147483647)]) from rfl) (show w_S 15 = (1, 0, 8, [], [(8, -2147483648, 2147483647)]) from rfl) (by decide)
  obtain ⟨A3, g3, i3, f3, r3⟩ := copy_ok 0 i2 (s := 44) (t := 16) (by decide) (by decide) (by decide) (by decide) w_rg_44 w_rg_16 (show w_S 29 = (1, 0, 8, [], [(8, -2147483648, 2147483647)]) from rfl) (show w_S 16 = (1, 0, 8, [], [(8, -2147483648, 2147483647)]) from rfl) (by decide)
  obtain ⟨A4, i4, f4, r4, g4⟩ := putr i3 (k := 14) (b := 3) (s := avT) (by decide) (by decide) w_rg_14 (show w_S 14 = (0, 5, 0, w_s14.2.2.2.1, []) from rfl) rfl y0 (ga_of rfl (gi_T _)) ⟨rfl, rfl⟩
  obtain ⟨A5, g5, i5, f5, r5⟩ := copy_ok 0 i4 (s := 45) (t := 17) (by decide) (by decide) (by decide) (by decide) w_rg_45 w_rg_17 (show w_S 30 = (1, 0, 6, [], [(6, -2147483648, 2147483647)]) from rfl) (show w_S 17 = (1, 0, 6, [], [(6, -2147483648, 2147483647)]) from rfl) (by decide)
  obtain ⟨A6, g6, i6, f6, r6⟩ := copy_ok 0 i5 (s := 46) (t := 18) (by decide) (by decide) (by decide) (by decide) w_rg_46 w_rg_18 (show w_S 31 = (1, 0, 6, [], [(6, -2147483648, 2147483647)]) from rfl) (show w_S 18 = (1, 0, 6, [], [(6, -2147483648, 2147483647)]) from rfl) (by decide)
  obtain ⟨A7, g7, i7, f7, r7⟩ := copy_ok 0 i6 (s := 47) (t := 19) (by decide) (by decide) (by decide) (by decide) w_rg_47 w_rg_19 (show w_S 32 = (1, 0, 6, [], [(6, -2147483648, 2147483647)]) from rfl) (show w_S 19 = (1, 0, 6, [], [(6, -2147483648, 2147483647)]) from rfl) (by decide)
  have hF : AFr w_W [(14, 0, 0), (15, 0, 7), (16, 0, 7), (14, 3, 3), (17, 0, 5), (18, 0, 5), (19, 0, 5)] h A7 := ((((((awin_ok f1 (by decide +kernel)).trans (awin_ok f2 (by decide +kernel))).trans (awin_ok f3 (by decide +kernel))).trans (awin_ok f4 (by decide +kernel))).trans (awin_ok f5 (by decide +kernel))).trans (awin_ok f6 (by decide +kernel))).trans (awin_ok f7 (by decide +kernel))
  have t1 : AFr w_W [(15, 0, 7), (16, 0, 7), (14, 3, 3), (17, 0, 5), (18, 0, 5), (19, 0, 5)] A1 A7 := (((((awin_ok (ws := [(15, 0, 7), (16, 0, 7), (14, 3, 3), (17, 0, 5), (18, 0, 5), (19, 0, 5)]) f2 (by decide +kernel)).trans (awin_ok f3 (by decide +kernel))).trans (awin_ok f4 (by decide +kernel))).trans (awin_ok f5 (by decide +kernel))).trans (awin_ok f6 (by decide +kernel))).trans (awin_ok f7 (by decide +kernel))
  have d1 : AFr w_W [(14, 0, 0)] h A1 := awin_ok (ws := [(14, 0, 0)]) f1 (by decide +kernel)
  have t2 : AFr w_W [(16, 0, 7), (14, 3, 3), (17, 0, 5), (18, 0, 5), (19, 0, 5)] A2 A7 := ((((awin_ok (ws := [(16, 0, 7), (14, 3, 3), (17, 0, 5), (18, 0, 5), (19, 0, 5)]) f3 (by decide +kernel)).trans (awin_ok f4 (by decide +kernel))).trans (awin_ok f5 (by decide +kernel))).trans (awin_ok f6 (by decide +kernel))).trans (awin_ok f7 (by decide +kernel))
  have d2 : AFr w_W [(14, 0, 0), (15, 0, 7)] h A2 := (awin_ok (ws := [(14, 0, 0), (15, 0, 7)]) f1 (by decide +kernel)).trans (awin_ok f2 (by decide +kernel))
  have t3 : AFr w_W [(14, 3, 3), (17, 0, 5), (18, 0, 5), (19, 0, 5)] A3 A7 := (((awin_ok (ws := [(14, 3, 3), (17, 0, 5), (18, 0, 5), (19, 0, 5)]) f4 (by decide +kernel)).trans (awin_ok f5 (by decide +kernel))).trans (awin_ok f6 (by decide +kernel))).trans (awin_ok f7 (by decide +kernel))
  have d3 : AFr w_W [(14, 0, 0), (15, 0, 7), (16, 0, 7)] h A3 := ((awin_ok (ws := [(14, 0, 0), (15, 0, 7), (16, 0, 7)]) f1 (by decide +kernel)).trans (awin_ok f2 (by decide +kernel))).trans (awin_ok f3 (by decide +kernel))
  have t4 : AFr w_W [(17, 0, 5), (18, 0, 5), (19, 0, 5)] A4 A7 := ((awin_ok (ws := [(17, 0, 5), (18, 0, 5), (19, 0, 5)]) f5 (by decide +kernel)).trans (awin_ok f6 (by decide +kernel))).trans (awin_ok f7 (by decide +kernel))
  have d4 : AFr w_W [(14, 0, 0), (15, 0, 7), (16, 0, 7), (14, 3, 3)] h A4 := (((awin_ok (ws := [(14, 0, 0), (15, 0, 7), (16, 0, 7), (14, 3, 3)]) f1 (by decide +kernel)).trans (awin_ok f2 (by decide +kernel))).trans (awin_ok f3 (by decide +kernel))).trans (awin_ok f4 (by decide +kernel))
  have t5 : AFr w_W [(18, 0, 5), (19, 0, 5)] A5 A7 := (awin_ok (ws := [(18, 0, 5), (19, 0, 5)]) f6 (by decide +kernel)).trans (awin_ok f7 (by decide +kernel))
  have d5 : AFr w_W [(14, 0, 0), (15, 0, 7), (16, 0, 7), (14, 3, 3), (17, 0, 5)] h A5 := ((((awin_ok (ws := [(14, 0, 0), (15, 0, 7), (16, 0, 7), (14, 3, 3), (17, 0, 5)]) f1 (by decide +kernel)).trans (awin_ok f2 (by decide +kernel))).trans (awin_ok f3 (by decide +kernel))).trans (awin_ok f4 (by decide +kernel))).trans (awin_ok f5 (by decide +kernel))
  have t6 : AFr w_W [(19, 0, 5)] A6 A7 := awin_ok (ws := [(19, 0, 5)]) f7 (by decide +kernel)
  have d6 : AFr w_W [(14, 0, 0), (15, 0, 7), (16, 0, 7), (14, 3, 3), (17, 0, 5), (18, 0, 5)] h A6 := (((((awin_ok (ws := [(14, 0, 0), (15, 0, 7), (16, 0, 7), (14, 3, 3), (17, 0, 5), (18, 0, 5)]) f1 (by decide +kernel)).trans (awin_ok f2 (by decide +kernel))).trans (awin_ok f3 (by decide +kernel))).trans (awin_ok f4 (by decide +kernel))).trans (awin_ok f5 (by decide +kernel))).trans (awin_ok f6 (by decide +kernel))
  refine ⟨A7, i7, hF, ⟨(rdF (b := 0) w_rg_14 (by decide) t1 rfl).trans (r1.trans x1.symm), (rdF (b := 3) w_rg_14 (by decide) t4 rfl).trans (r4.trans y1.symm), fun i hi => ((rdF (b := i) w_rg_15 (by decide) t2 rfl).trans (r2 i hi)).trans (rdF (b := i) w_rg_43 (by decide) d1 rfl), fun i hi => ((rdF (b := i) w_rg_16 (by decide) t3 rfl).trans (r3 i hi)).trans (rdF (b := i) w_rg_44 (by decide) d2 rfl), fun i hi => ((rdF (b := i) w_rg_17 (by decide) t5 rfl).trans (r5 i hi)).trans (rdF (b := i) w_rg_45 (by decide) d4 rfl), fun i hi => ((rdF (b := i) w_rg_18 (by decide) t6 rfl).trans (r6 i hi)).trans (rdF (b := i) w_rg_46 (by decide) d5 rfl), fun i hi => (r7 i hi).trans (rdF (b := i) w_rg_47 (by decide) d6 rfl)⟩, fun {d v hend} k => ?_⟩
  refine XGo.go 2 rfl ?_
  refine XGo.getr rfl hI (by decide) (by decide) w_rg_42 (show w_S 27 = (0, 5, 0, w_s27.2.2.2.1, []) from rfl) (by decide) x1 ?_
  refine g1 rfl ?_
  refine XGo.go 1 rfl ?_
  refine XGo.getr rfl i1 (by decide) (by decide) w_rg_42 (show w_S 27 = (0, 5, 0, w_s27.2.2.2.1, []) from rfl) (by decide) (rd_ref i1 (k := 42) (j := 43) (by decide) w_rg_42 (show w_S 27 = (0, 5, 0, w_s27.2.2.2.1, []) from rfl) rfl rfl w_rg_43 (by decide)) ?_
  refine XGo.go 1 rfl ?_
  refine XGo.getr rfl i1 (by decide) (by decide) w_rg_14 (show w_S 14 = (0, 5, 0, w_s14.2.2.2.1, []) from rfl) (by decide) (rd_ref i1 (k := 14) (j := 15) (by decide) w_rg_14 (show w_S 14 = (0, 5, 0, w_s14.2.2.2.1, []) from rfl) rfl rfl w_rg_15 (by decide)) ?_
  refine XGo.call _ rfl xm_X6_copy rfl rfl [.ref 43, .ref 15] [] rfl rfl (fun z => absurd rfl z) (Nat.le_of_ble_eq_true rfl) (XCall.up (by omega) g2) ?_
  refine XGo.go 1 rfl ?_
  refine XGo.getr rfl i2 (by decide) (by decide) w_rg_42 (show w_S 27 = (0, 5, 0, w_s27.2.2.2.1, []) from rfl) (by decide) (rd_ref i2 (k := 42) (j := 44) (by decide) w_rg_42 (show w_S 27 = (0, 5, 0, w_s27.2.2.2.1, []) from rfl) rfl rfl w_rg_44 (by decide)) ?_
  refine XGo.go 1 rfl ?_
  refine XGo.getr rfl i2 (by decide) (by decide) w_rg_14 (show w_S 14 = (0, 5, 0, w_s14.2.2.2.1, []) from rfl) (by decide) (rd_ref i2 (k := 14) (j := 16) (by decide) w_rg_14 (show w_S 14 = (0, 5, 0, w_s14.2.2.2.1, []) from rfl) rfl rfl w_rg_16 (by decide)) ?_
  refine XGo.call _ rfl xm_X6_copy rfl rfl [.ref 44, .ref 16] [] rfl rfl (fun z => absurd rfl z) (Nat.le_of_ble_eq_true rfl) (XCall.up (by omega) g3) ?_
  refine XGo.go 2 rfl ?_
  refine XGo.getr rfl i3 (by decide) (by decide) w_rg_42 (show w_S 27 = (0, 5, 0, w_s27.2.2.2.1, []) from rfl) (by decide) ((rdF (b := 3) w_rg_42 (by decide) d3 rfl).trans y1) ?_
  refine g4 rfl ?_
  refine XGo.go 1 rfl ?_
  refine XGo.getr rfl i4 (by decide) (by decide) w_rg_42 (show w_S 27 = (0, 5, 0, w_s27.2.2.2.1, []) from rfl) (by decide) (rd_ref i4 (k := 42) (j := 45) (by decide) w_rg_42 (show w_S 27 = (0, 5, 0, w_s27.2.2.2.1, []) from rfl) rfl rfl w_rg_45 (by decide)) ?_
  refine XGo.go 1 rfl ?_
  refine XGo.getr rfl i4 (by decide) (by decide) w_rg_14 (show w_S 14 = (0, 5, 0, w_s14.2.2.2.1, []) from rfl) (by decide) (rd_ref i4 (k := 14) (j := 17) (by decide) w_rg_14 (show w_S 14 = (0, 5, 0, w_s14.2.2.2.1, []) from rfl) rfl rfl w_rg_17 (by decide)) ?_
  refine XGo.call _ rfl xm_X6_copy rfl rfl [.ref 45, .ref 17] [] rfl rfl (fun z => absurd rfl z) (Nat.le_of_ble_eq_true rfl) (XCall.up (by omega) g5) ?_
  refine XGo.go 1 rfl ?_
  refine XGo.getr rfl i5 (by decide) (by decide) w_rg_42 (show w_S 27 = (0, 5, 0, w_s27.2.2.2.1, []) from rfl) (by decide) (rd_ref i5 (k := 42) (j := 46) (by decide) w_rg_42 (show w_S 27 = (0, 5, 0, w_s27.2.2.2.1, []) from rfl) rfl rfl w_rg_46 (by decide)) ?_
  refine XGo.go 1 rfl ?_
  refine XGo.getr rfl i5 (by decide) (by decide) w_rg_14 (show w_S 14 = (0, 5, 0, w_s14.2.2.2.1, []) from rfl) (by decide) (rd_ref i5 (k := 14) (j := 18) (by decide) w_rg_14 (show w_S 14 = (0, 5, 0, w_s14.2.2.2.1, []) from rfl) rfl rfl w_rg_18 (by decide)) ?_
  refine XGo.call _ rfl xm_X6_copy rfl rfl [.ref 46, .ref 18] [] rfl rfl (fun z => absurd rfl z) (Nat.le_of_ble_eq_true rfl) (XCall.up (by omega) g6) ?_
  refine XGo.go 1 rfl ?_
  refine XGo.getr rfl i6 (by decide) (by decide) w_rg_42 (show w_S 27 = (0, 5, 0, w_s27.2.2.2.1, []) from rfl) (by decide) (rd_ref i6 (k := 42) (j := 47) (by decide) w_rg_42 (show w_S 27 = (0, 5, 0, w_s27.2.2.2.1, []) from rfl) rfl rfl w_rg_47 (by decide)) ?_
  refine XGo.go 1 rfl ?_
  refine XGo.getr rfl i6 (by decide) (by decide) w_rg_14 (show w_S 14 = (0, 5, 0, w_s14.2.2.2.1, []) from rfl) (by decide) (rd_ref i6 (k := 14) (j := 19) (by decide) w_rg_14 (show w_S 14 = (0, 5, 0, w_s14.2.2.2.1, []) from rfl) rfl rfl w_rg_19 (by decide)) ?_
  refine XGo.call _ rfl xm_X6_copy rfl rfl [.ref 47, .ref 19] [] rfl rfl (fun z => absurd rfl z) (Nat.le_of_ble_eq_true rfl) (XCall.up (by omega) g7) ?_
  exact k
