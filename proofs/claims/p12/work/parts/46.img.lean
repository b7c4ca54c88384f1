/-! the model's image and undo: rows copied whole -/
def cph (h : XH) (t : Nat) (f g0 : Nat → Int32) (n : Nat) : XH := xup h t (.inr (.inl (0, 490, fun j => if j < n then f j else g0 j)))
theorem cph_up (h : XH) (t : Nat) (f g0 : Nat → Int32) {n : Nat} (hn : n < 490) : xup (cph h t f g0 n) t (.inr (.inl (0, 490, upd (fun j => if j < n then f j else g0 j) (nI n).toNatClampNeg (f (nI n).toNatClampNeg)))) = cph h t f g0 (n + 1) := by
  unfold cph
  rw [xup_up, xnI_nat (by omega)]
  congr 5
  funext j
  unfold upd
  by_cases h1 : j = n
  · subst h1
    rw [if_pos rfl, if_pos (by omega)]
  · rw [if_neg h1]
    dsimp only
    by_cases h2 : j < n
    · rw [if_pos h2, if_pos (by omega)]
    · rw [if_neg h2, if_neg (by omega)]
theorem i490 : (Int16.ofInt 490).toInt32 = Int32.ofNat 490 := by decide
theorem img_loop (d : Nat) (h : XH) (fs : List Value) (f g0 : Nat → Int32) (hN : h.1 = 549) (h1 : h.2.2 536 = .inl (7, fs)) (hs : fs[1]? = some (.ref 537)) (hi : fs[2]? = some (.ref 538)) (h2 : h.2.2 537 = .inr (.inl (0, 490, f))) {v : Option Value} {hend : XH} (fin : XGo d xm_X7_image (27, [some (.ref 536), some (.int (nI 490))], [], cph h 538 f g0 490) v hend) : ∀ k n, n + k = 490 → XGo d xm_X7_image (2, [some (.ref 536), some (.int (nI n))], [], cph h 538 f g0 n) v hend
  | 0, n, hn => by
    have e : n = 490 := by omega
    subst e
    refine XGo.go 3 rfl ?_
    refine XGo.ifp (by decide) ?_
    exact fin
  | k + 1, n, hn => by
    have hb : n < 2147483648 := by omega
    have e1 : (cph h 538 f g0 n).2.2 536 = .inl (7, fs) := (xup_ne h _ (by decide)).trans h1
    have e2 : (cph h 538 f g0 n).2.2 537 = .inr (.inl (0, 490, f)) := (xup_ne h _ (by decide)).trans h2
    have e3 : (cph h 538 f g0 n).2.2 538 = .inr (.inl (0, 490, fun j => if j < n then f j else g0 j)) := xup_eq h _ _
    have hlt : 536 < (cph h 538 f g0 n).1 := by show 536 < h.1; omega
    have hls : 537 < (cph h 538 f g0 n).1 := by show 537 < h.1; omega
    have hlu : 538 < (cph h 538 f g0 n).1 := by show 538 < h.1; omega
    have hc : ¬ (nI n < 0 ∨ 490 ≤ (nI n).toNatClampNeg) := fun q => q.elim (xnI_lt0 hb) (fun z => by rw [xnI_nat hb] at z; omega)
    refine XGo.go 3 rfl ?_
    refine XGo.ifn (fun q => ?_) ?_
    · rw [i490] at q
      exact absurd ((xnI_ge (by decide) hb).mp q) (by omega)
    refine XGo.go 1 rfl ?_
    refine XGo.getf rfl (xfd_o e1 hlt (by decide) hi) ?_
    refine XGo.go 2 rfl ?_
    refine XGo.getf rfl (xfd_o e1 hlt (by decide) hs) ?_
    refine XGo.go 1 rfl ?_
    refine XGo.iald rfl (xia_i e2 hls hc) ?_
    refine XGo.iast rfl e3 hlu (by decide) hc ?_
    rw [cph_up h 538 f g0 (by omega)]
    refine XGo.go 2 rfl ?_
    have g := img_loop d h fs f g0 hN h1 hs hi h2 fin k (n + 1) (by omega)
    rw [show nI (n + 1) = nI n + Int32.ofInt 1 from (nI_1 n).symm] at g
    exact g
theorem und_loop (d : Nat) (h : XH) (fs : List Value) (f g0 : Nat → Int32) (hN : h.1 = 549) (h1 : h.2.2 536 = .inl (7, fs)) (hs : fs[2]? = some (.ref 538)) (hi : fs[1]? = some (.ref 537)) (h2 : h.2.2 538 = .inr (.inl (0, 490, f))) {v : Option Value} {hend : XH} (fin : XGo d xm_X7_undo (37, [some (.ref 536), some (.int (nI 490))], [], cph h 537 f g0 490) v hend) : ∀ k n, n + k = 490 → XGo d xm_X7_undo (12, [some (.ref 536), some (.int (nI n))], [], cph h 537 f g0 n) v hend
  | 0, n, hn => by
    have e : n = 490 := by omega
    subst e
    refine XGo.go 3 rfl ?_
    refine XGo.ifp (by decide) ?_
    exact fin
  | k + 1, n, hn => by
    have hb : n < 2147483648 := by omega
    have e1 : (cph h 537 f g0 n).2.2 536 = .inl (7, fs) := (xup_ne h _ (by decide)).trans h1
    have e2 : (cph h 537 f g0 n).2.2 538 = .inr (.inl (0, 490, f)) := (xup_ne h _ (by decide)).trans h2
    have e3 : (cph h 537 f g0 n).2.2 537 = .inr (.inl (0, 490, fun j => if j < n then f j else g0 j)) := xup_eq h _ _
    have hlt : 536 < (cph h 537 f g0 n).1 := by show 536 < h.1; omega
    have hls : 538 < (cph h 537 f g0 n).1 := by show 538 < h.1; omega
    have hlu : 537 < (cph h 537 f g0 n).1 := by show 537 < h.1; omega
    have hc : ¬ (nI n < 0 ∨ 490 ≤ (nI n).toNatClampNeg) := fun q => q.elim (xnI_lt0 hb) (fun z => by rw [xnI_nat hb] at z; omega)
    refine XGo.go 3 rfl ?_
    refine XGo.ifn (fun q => ?_) ?_
    · rw [i490] at q
      exact absurd ((xnI_ge (by decide) hb).mp q) (by omega)
    refine XGo.go 1 rfl ?_
    refine XGo.getf rfl (xfd_o e1 hlt (by decide) hi) ?_
    refine XGo.go 2 rfl ?_
    refine XGo.getf rfl (xfd_o e1 hlt (by decide) hs) ?_
    refine XGo.go 1 rfl ?_
    refine XGo.iald rfl (xia_i e2 hls hc) ?_
    refine XGo.iast rfl e3 hlu (by decide) hc ?_
    rw [cph_up h 537 f g0 (by omega)]
    refine XGo.go 2 rfl ?_
    have g := und_loop d h fs f g0 hN h1 hs hi h2 fin k (n + 1) (by omega)
    rw [show nI (n + 1) = nI n + Int32.ofInt 1 from (nI_1 n).symm] at g
    exact g
