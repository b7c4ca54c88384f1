/-- what a walk of a method's body stands on -/
def xF (G : XG) (p : Program) (s : State) (m : MethodId) (args : Array Value) (c : Code) (cc : ByteArray) (own : String) : Prop :=
  p.tables.exec = Jvm.exec ∧ c.code = cc ∧ s.vm.findClass own = some m.cls ∧ (∀ w ∈ xtw, w.before args s = true) ∧ xK G s
theorem xia_inv {h : XH} {t k : Nat} {i v : Int32} (e : xia h t k i = some v) : ∃ q, h.2.2 k = .inr (.inl q) ∧ k < h.1 ∧ q.1 = t ∧ ¬ (i < 0 ∨ q.2.1 ≤ i.toNatClampNeg) ∧ v = q.2.2 i.toNatClampNeg := by
  unfold xia at e
  split at e
  · rename_i q hq
    split at e
    · rename_i hc
      cases e
      exact ⟨q, hq, hc.1, hc.2.1, hc.2.2, rfl⟩
    · cases e
  · cases e
theorem xra_inv {h : XH} {k : Nat} {i : Int32} {v : Option Nat} (e : xra h k i = some v) : ∃ q, h.2.2 k = .inr (.inr q) ∧ k < h.1 ∧ 13 ≤ k ∧ (q.1 = 2 ∨ q.1 = 3) ∧ ¬ (i < 0 ∨ q.2.1 ≤ i.toNatClampNeg) ∧ v = q.2.2 i.toNatClampNeg := by
  unfold xra at e
  split at e
  · rename_i q hq
    split at e
    · rename_i hc
      cases e
      exact ⟨q, hq, hc.1, hc.2.1, hc.2.2.1, hc.2.2.2, rfl⟩
    · cases e
  · cases e
theorem xfd_inv {h : XH} {k ci b : Nat} {v : Value} (e : xfd h k ci b = some v) : ∃ o, h.2.2 k = .inl o ∧ k < h.1 ∧ 13 ≤ k ∧ o.1 = ci ∧ o.2[b]? = some v := by
  unfold xfd at e
  split at e
  · rename_i o hq
    split at e
    · rename_i hc
      exact ⟨o, hq, hc.1, hc.2.1, hc.2.2, e⟩
    · cases e
  · cases e
section XST
variable {p : Program} {l : Launch} {e : Env} {R : Room} {s : State} {m : MethodId} {args : Array Value} {below : List Frame} {meth : Method} {c : Code} {H : Heap} {locs : List Loc} {cells slots : Nat} {Q : State → Prop}
variable {cc : ByteArray} {pc : Nat} {ls : Array Slot} {G : XG} {own : String} {h : XH} {rest : List Value}
theorem x_iald (F : xF G p s m args c cc own) (hR : xR G h H locs) (hd : decode cc pc = .ok (.iaload, 1)) {k : Nat} {i v : Int32} (hv : xia h 0 k i = some v)
    (kk : W p l e R s m args below meth c H locs cells slots Q (F0 m (pc + 1) ls (.int v :: rest))) : W p l e R s m args below meth c H locs cells slots Q (F0 m pc ls (.int i :: .ref (xad G k) :: rest)) := by
  obtain ⟨hx, hb, hown, hts, hK⟩ := F
  obtain ⟨hP, hS, h2, hX⟩ := hR
  obtain ⟨q, hq, hk, ht, hin, rfl⟩ := xia_inv hv
  have hlo7 := x_ext2 hX hq (by rw [ht]; decide)
  by_cases hk2 : k < 2
  · have e1 := (hX k (by omega)).trans (if_pos hk2)
    rw [hq] at e1
    injection e1 with e1
    injection e1 with e1
    subst e1
    rw [xad_lo (by omega)]
    obtain ⟨cell, g1, g2, g3, g4, g5, g6, g7⟩ := hK.2.1 k hk2
    have hlt : i.toNatClampNeg < (G.2.2.2.2 k).1 := Nat.not_le.mp fun q => hin (Or.inr q)
    exact W.iald (v := .int ((G.2.2.2.2 k).2 i.toNatClampNeg)) hx hb (by rw [hS.2.1 _ (Array.getElem?_eq_some_iff.mp g1).1 g7]; exact g1) g2 g3 (fun q => q.elim (fun z => hin (Or.inl z)) (fun z => by omega)) (g6 _ hlt) rfl rfl hd kk
  · have ha := xws_at (G := G) (show 13 ≤ k by omega) hk
    rw [hq] at ha
    obtain ⟨t, n, f⟩ := q
    dsimp only at ht
    subst ht
    exact va_iald hx hb hK.1 hP (k - 13) 0 ha rfl hin hd kk
theorem x_zald (F : xF G p s m args c cc own) (hR : xR G h H locs) (hd : decode cc pc = .ok (.baload, 1)) {k : Nat} {i v : Int32} (hv : xia h 1 k i = some v)
    (kk : W p l e R s m args below meth c H locs cells slots Q (F0 m (pc + 1) ls (.int v :: rest))) : W p l e R s m args below meth c H locs cells slots Q (F0 m pc ls (.int i :: .ref (xad G k) :: rest)) := by
  obtain ⟨hx, hb, hown, hts, hK⟩ := F
  obtain ⟨hP, hS, h2, hX⟩ := hR
  obtain ⟨q, hq, hk, ht, hin, rfl⟩ := xia_inv hv
  have hlo7 := x_ext2 hX hq (by rw [ht]; decide)
  by_cases hk2 : k < 2
  · have e1 := (hX k (by omega)).trans (if_pos hk2)
    rw [hq] at e1
    injection e1 with e1
    injection e1 with e1
    subst e1
    cases ht
  · have ha := xws_at (G := G) (show 13 ≤ k by omega) hk
    rw [hq] at ha
    obtain ⟨t, n, f⟩ := q
    dsimp only at ht
    subst ht
    exact va_zald hx hb hK.1 hP (k - 13) 1 ha rfl hin hd kk
theorem x_aald (F : xF G p s m args c cc own) (hR : xR G h H locs) (hd : decode cc pc = .ok (.aaload, 1)) {k : Nat} {i : Int32} {v : Option Nat} (hv : xra h k i = some v)
    (kk : W p l e R s m args below meth c H locs cells slots Q (F0 m (pc + 1) ls (xde G (va_rf v) :: rest))) : W p l e R s m args below meth c H locs cells slots Q (F0 m pc ls (.int i :: .ref (xad G k) :: rest)) := by
  obtain ⟨hx, hb, hown, hts, hK⟩ := F
  obtain ⟨hP, hS, h2, hX⟩ := hR
  obtain ⟨q, hq, hk, hk2, ht, hin, rfl⟩ := xra_inv hv
  have ha := xws_at (G := G) hk2 hk
  rw [hq] at ha
  obtain ⟨t, n, f⟩ := q
  rw [← xde_rf] at kk
  dsimp only at ht
  rcases ht with rfl | rfl
  · exact va_aldq hx hb hK.1 hP (k - 13) 2 ha rfl hin hd kk
  · exact va_aldq hx hb hK.1 hP (k - 13) 3 ha rfl hin hd kk
theorem x_alen (F : xF G p s m args c cc own) (hR : xR G h H locs) (hd : decode cc pc = .ok (.arraylength, 1)) {k n : Nat} (hv : xlen h k = some n)
    (kk : W p l e R s m args below meth c H locs cells slots Q (F0 m (pc + 1) ls (.int (Int32.ofNat n) :: rest))) : W p l e R s m args below meth c H locs cells slots Q (F0 m pc ls (.ref (xad G k) :: rest)) := by
  obtain ⟨hx, hb, hown, hts, hK⟩ := F
  obtain ⟨hP, hS, h2, hX⟩ := hR
  unfold xlen at hv
  split at hv
  · rename_i hk
    split at hv
    · rename_i q hq
      split at hv
      · rename_i ht
        cases hv
        rcases ht with ht | ⟨ht, hk13⟩
        case' inr =>
          obtain ⟨i, hi, rfl, rfl⟩ := x_ext4 hX hk13 hq ht
          rw [xad_lo hk13]
          obtain ⟨cell, g1, g2, g3, g4, g5, g6, g7⟩ := (hK.2.2.1.2.2.2 i hi).2.2.2.2
          exact W.alen hx hb (by rw [hS.2.1 _ (Array.getElem?_eq_some_iff.mp g1).1 g7]; exact g1) g2 g5 rfl rfl hd kk
        have hlo7 := x_ext2 hX hq ht
        by_cases hk2 : k < 2
        · have e1 := (hX k (by omega)).trans (if_pos hk2)
          rw [hq] at e1
          injection e1 with e1
          injection e1 with e1
          subst e1
          rw [xad_lo (by omega)]
          obtain ⟨cell, g1, g2, g3, g4, g5, g6, g7⟩ := hK.2.1 k hk2
          exact W.alen hx hb (by rw [hS.2.1 _ (Array.getElem?_eq_some_iff.mp g1).1 g7]; exact g1) g2 g5 rfl rfl hd kk
        · have ha := xws_at (G := G) (show 13 ≤ k by omega) hk
          rw [hq] at ha
          obtain ⟨t, n, f⟩ := q
          dsimp only at ht
          rcases (show t = 0 ∨ t = 1 by omega) with rfl | rfl
          · exact va_alen hx hb hK.1 hP (k - 13) 0 ha rfl rfl hd kk
          · exact va_alen hx hb hK.1 hP (k - 13) 1 ha rfl rfl hd kk
      · cases hv
    · rename_i q hq
      split at hv
      · rename_i ht
        cases hv
        have ha := xws_at (G := G) ht.1 hk
        rw [hq] at ha
        obtain ⟨t, n, f⟩ := q
        dsimp only at ht
        rcases ht.2 with rfl | rfl
        · exact va_alen hx hb hK.1 hP (k - 13) 2 ha rfl rfl hd kk
        · exact va_alen hx hb hK.1 hP (k - 13) 3 ha rfl rfl hd kk
      · cases hv
    · cases hv
  · cases hv
theorem x_sald (F : xF G p s m args c cc own) (hR : xR G h H locs) (hd : decode cc pc = .ok (.baload, 1)) {k : Nat} {i v : Int32} (hv : xib h k i = some v)
    (kk : W p l e R s m args below meth c H locs cells slots Q (F0 m (pc + 1) ls (.int v :: rest))) : W p l e R s m args below meth c H locs cells slots Q (F0 m pc ls (.int i :: .ref (xad G k) :: rest)) := by
  obtain ⟨hx, hb, hown, hts, hK⟩ := F
  obtain ⟨hP, hS, h2, hX⟩ := hR
  unfold xib at hv
  split at hv
  · rename_i q hq
    split at hv
    · rename_i hc
      obtain ⟨c1, c2, c3, c4⟩ := hc
      cases hv
      obtain ⟨n, hn, rfl, rfl⟩ := x_ext4 hX c2 hq c3
      rw [xad_lo c2]
      obtain ⟨cell, g1, g2, g3, g4, g5, g6, g7⟩ := (hK.2.2.1.2.2.2 n hn).2.2.2.2
      have hlt : i.toNatClampNeg < (xsb n).length := Nat.not_le.mp fun q => c4 (Or.inr q)
      exact W.bald (v := .int ((xsb n).getD i.toNatClampNeg 0)) hx hb (by rw [hS.2.1 _ (Array.getElem?_eq_some_iff.mp g1).1 g7]; exact g1) g2 g3 (fun q => q.elim (fun z => c4 (Or.inl z)) (fun z => by omega)) (g6 _ hlt) rfl rfl hd kk
    · cases hv
  · cases hv
theorem x_sgetf (F : xF G p s m args c cc own) (hR : xR G h H locs) {idx : Nat} (hd : decode cc pc = .ok (.getfield idx, 3)) {k b wd : Nat} {v : Value} (hw : (if b = 0 then decide (lw_tbl[wd]? = some (.fieldLink own idx "java/lang/String" "value" "[B")) else decide (lw_tbl[wd]? = some (.fieldLink own idx "java/lang/String" "coder" "B"))) = true) (hv : xsf k b = some v)
    (kk : W p l e R s m args below meth c H locs cells slots Q (F0 m (pc + 3) ls (xde G v :: rest))) : W p l e R s m args below meth c H locs cells slots Q (F0 m pc ls (.ref (xad G k) :: rest)) := by
  obtain ⟨hx, hb, hown, hts, hK⟩ := F
  obtain ⟨hP, hS, h2, hX⟩ := hR
  unfold xsf at hv
  split at hv
  · rename_i hc
    obtain ⟨n, hn, rfl⟩ : ∃ n, n < 5 ∧ k = n + 2 := ⟨k - 2, by omega, by omega⟩
    obtain ⟨g1, g2, g3, g4, g5⟩ := hK.2.2.1.2.2.2 n hn
    rw [xad_lo (show n + 2 < 13 by omega)]
    split at hv
    · rename_i hb0
      cases hv
      rw [if_pos hb0] at hw
      obtain ⟨cf, kf, fi, f, cell, e1, e2, e3, e4, e5, e6⟩ := g4
      have e9 : xde G (.ref (n + 2 + 5)) = .ref (G.2.2.1 (n + 7)) := congrArg Value.ref (xad_lo (show n + 7 < 13 by omega))
      rw [e9] at kk
      exact W.getf hx hb hown (hts _ (xw_in (of_decide_eq_true hw) rfl)) e1 e2 (by rw [hS.2.1 _ (Array.getElem?_eq_some_iff.mp e3).1 e6]; exact e3) e4 e5 rfl rfl hd kk
    · rename_i hb0
      cases hv
      rw [if_neg hb0] at hw
      obtain ⟨cf, kf, fi, f, cell, e1, e2, e3, e4, e5, e6⟩ := g3
      exact W.getf hx hb hown (hts _ (xw_in (of_decide_eq_true hw) rfl)) e1 e2 (by rw [hS.2.1 _ (Array.getElem?_eq_some_iff.mp e3).1 e6]; exact e3) e4 e5 rfl rfl hd kk
  · cases hv
theorem x_gets (F : xF G p s m args c cc own) (hR : xR G h H locs) {idx a wd : Nat} (hd : decode cc pc = .ok (.getstatic idx, 3)) (hw : (if a = 0 then decide (lw_tbl[wd]? = some (.fieldLink own idx RX6 "ABOVE" "[I")) else if a = 1 then decide (lw_tbl[wd]? = some (.fieldLink own idx "java/lang/String" "COMPACT_STRINGS" "Z")) else decide (lw_tbl[wd]? = some (.fieldLink own idx "jdk/internal/util/Preconditions" "SIOOBE_FORMATTER" "Ljava/util/function/BiFunction;"))) = true)
    (kk : W p l e R s m args below meth c H locs cells slots Q (F0 m (pc + 3) ls (xde G (xsv h a) :: rest))) : W p l e R s m args below meth c H locs cells slots Q (F0 m pc ls rest) := by
  obtain ⟨hx, hb, hown, hts, hK⟩ := F
  by_cases h0 : a = 0
  · rw [if_pos h0] at hw
    have e9 : xde G (xsv h a) = .ref (G.2.2.1 0) := by rw [h0]; exact congrArg Value.ref (xad_lo (by omega))
    rw [e9] at kk
    obtain ⟨cf, kf, fi, f, a1, cell, h1, h2, h3, h4, h5, h6, h7, h8⟩ := hK.2.2.1.1
    exact W.gets hx hb hown (hts _ (xw_in (of_decide_eq_true hw) rfl)) h1 h2 h3 h4 (by rw [hR.2.1.2.1 a1 (Array.getElem?_eq_some_iff.mp h5).1 h8]; exact h5) (fun e => by rw [e] at h6; cases h6) h7 rfl hd kk
  · rw [if_neg h0] at hw
    by_cases h1 : a = 1
    · rw [if_pos h1] at hw
      have e9 : xde G (xsv h a) = .int 1 := by rw [h1]; rfl
      rw [e9] at kk
      obtain ⟨cf, kf, fi, f, a1, cell, h1, h2, h3, h4, h5, h6, h7, h8⟩ := hK.2.2.1.2.1
      exact W.gets hx hb hown (hts _ (xw_in (of_decide_eq_true hw) rfl)) h1 h2 h3 h4 (by rw [hR.2.1.2.1 a1 (Array.getElem?_eq_some_iff.mp h5).1 h8]; exact h5) (fun e => by rw [e] at h6; cases h6) h7 rfl hd kk
    · rw [if_neg h1] at hw
      have hn : xnl h = xfl G := by
        unfold xnl
        rw [hR.2.2.2 12 (by omega)]
        show Nat.beq (if xfl G = true then 97 else 96) 97 = xfl G
        cases xfl G <;> rfl
      cases hf : xfl G with
      | true =>
        have e9 : xde G (xsv h a) = .ref (G.2.2.1 12) := by unfold xsv; rw [if_neg h0, if_neg h1, hn, if_pos hf]; exact congrArg Value.ref (xad_lo (by omega))
        rw [e9] at kk
        have hz := hK.2.2.1.2.2.1
        rw [if_pos hf] at hz
        obtain ⟨cf, kf, fi, f, a1, cell, h1, h2, h3, h4, h5, h6, h7, h8⟩ := hz
        exact W.gets hx hb hown (hts _ (xw_in (of_decide_eq_true hw) rfl)) h1 h2 h3 h4 (by rw [hR.2.1.2.1 a1 (Array.getElem?_eq_some_iff.mp h5).1 h8]; exact h5) (fun e => by rw [e] at h6; cases h6) h7 rfl hd kk
      | false =>
        have hf2 : ¬ xfl G = true := by rw [hf]; decide
        have e9 : xde G (xsv h a) = .null := by unfold xsv; rw [if_neg h0, if_neg h1, hn, if_neg hf2]; rfl
        rw [e9] at kk
        have hz := hK.2.2.1.2.2.1
        rw [if_neg hf2] at hz
        obtain ⟨cf, kf, fi, f, a1, cell, h1, h2, h3, h4, h5, h6, h7, h8⟩ := hz
        exact W.gets hx hb hown (hts _ (xw_in (of_decide_eq_true hw) rfl)) h1 h2 h3 h4 (by rw [hR.2.1.2.1 a1 (Array.getElem?_eq_some_iff.mp h5).1 h8]; exact h5) (fun e => by rw [e] at h6; cases h6) h7 rfl hd kk
theorem x_getf (F : xF G p s m args c cc own) (hR : xR G h H locs) {idx : Nat} (hd : decode cc pc = .ok (.getfield idx, 3)) {k ci b wd : Nat} {v : Value} (hw : (xfw own idx ci b wd || xfn own idx ci b wd) = true) (hv : xfd h k ci b = some v)
    (kk : W p l e R s m args below meth c H locs cells slots Q (F0 m (pc + 3) ls (xde G v :: rest))) : W p l e R s m args below meth c H locs cells slots Q (F0 m pc ls (.ref (xad G k) :: rest)) := by
  obtain ⟨hx, hb, hown, hts, hK⟩ := F
  obtain ⟨hP, hS, h2, hX⟩ := hR
  obtain ⟨q, hq, hk, hk2, ht, hvv⟩ := xfd_inv hv
  have ha := xws_at (G := G) hk2 hk
  rw [hq] at ha
  subst ht
  have hv' : (q.2.map (xde G))[b]? = some (xde G v) := by rw [List.getElem?_map, hvv]; rfl
  rcases Bool.or_eq_true _ _ ▸ hw with hw | hw
  · obtain ⟨Z, hc, hb2, hdec, hlink⟩ := xfw_spec hw
    exact va_get hx hb (Ts := xtw) hts (x_cls hc).2.2.2.1 hown hK.1 hP (k - 13) ha hc b hb2 (ref := Z.1) (hts _ hlink) (fun x hx => by rw [hdec] at hx; exact hx) hv' hd kk
  · obtain ⟨Z, hc, hb2, hdec, hlink⟩ := xfn_spec hw
    exact va_getN hx hb (Ts := xtw) hts (x_cls hc).2.2.2.1 hown hK.1 hP (k - 13) ha hc b hb2 (ref := Z.1) (va_Nw.use rfl (hK.2.2.2.2.2 _ hlink)) (fun x hx => by rw [hdec] at hx; exact hx) hv' hd kk
theorem x_objInit (F : xF G p s m args c cc own) (hml : ls.size = c.maxLocals) (hRm : 1 ≤ R.frames ∧ 20 ≤ R.locals) {idx a : Nat} (hd : decode cc pc = .ok (.invokespecial idx, 3)) {wd : Nat} (hw : lw_tbl[wd]? = some (.methodLink own idx objectInit)) (hcat : (rest.map fun v => v.category).sum ≤ 8)
    (kk : W p l e R s m args below meth c H locs cells slots Q (F0 m (pc + 3) ls rest)) : W p l e R s m args below meth c H locs cells slots Q (F0 m pc ls (.ref a :: rest)) := by
  obtain ⟨hx, hb, hown, hts, hK⟩ := F
  have h1 : 2 * (F0 m pc ls (.ref a :: rest)).monitorRoom + (rest.map fun v => v.category).sum ≤ 8 := lv_room hcat
  exact W.objInit hx hb hown (hts _ (xw_in hw rfl)) (hts _ x_oi) (hts _ x_oc) rfl hml rfl hd hRm.1 (by omega) kk
/-- a step that leaves the heap -/
theorem xst_sound (F : xF G p s m args c cc own) (hR : xR G h H locs) {L : XL} (hlo : xlo G ls L) (hml : L.length = c.maxLocals) (hRm : 1 ≤ R.frames ∧ 20 ≤ R.locals) {ini : Bool} {ins : Instr} {len a b wd : Nat} (hd : decode cc pc = .ok (ins, xil ins len)) (hw : xrw own ini (pc, ins, len, a, b, wd) = true)
    {st : List Value} {o : XO} (hs : xst ins a b pc L st h = some o)
    (kk : ∀ ls', xlo G ls' o.2.1 → o.2.1.length = L.length → W p l e R s m args below meth c H locs cells slots Q (F0 m o.1 ls' (o.2.2.map (xde G)))) : W p l e R s m args below meth c H locs cells slots Q (F0 m pc ls (st.map (xde G))) := by
  have hx := F.1
  have hb := F.2.1
  have hown := F.2.2.1
  have hts := F.2.2.2.1
  have hK := F.2.2.2.2
  cases ins with
  | iconst n => cases hs; exact lv_iconst hx hb hd rfl (kk _ hlo rfl)
  | bipush n => cases hs; exact lv_bipush hx hb hd rfl (kk _ hlo rfl)
  | sipush n => cases hs; exact lv_sipush hx hb hd rfl (kk _ hlo rfl)
  | lconst n => cases hs; exact lv_lconst hx hb hd rfl (kk _ hlo rfl)
  | ldc2_w n => cases hs; exact lv_ldc2 hx hb hown (hts _ (xw_in (of_decide_eq_true hw) rfl)) hd (kk _ hlo rfl)
  | aconst_null => cases hs; exact lv_null hx hb hd (kk _ hlo rfl)
  | iload_n k => exact xs_ldi hlo hs (fun x h1 k1 => lv_iload_n hx hb hd rfl h1 k1) kk
  | iload k => exact xs_ldi hlo hs (fun x h1 k1 => lv_iload hx hb hd h1 k1) kk
  | lload_n k => exact xs_ldl hlo hs (fun x h1 k1 => lv_lload_n hx hb hd rfl h1 k1) kk
  | lload k => exact xs_ldl hlo hs (fun x h1 k1 => lv_lload hx hb hd h1 k1) kk
  | aload_n k => exact xs_lda hlo hs (fun x h1 k1 => lv_aload_n hx hb hd rfl h1 k1) (fun h1 k1 => lv_aload_nN hx hb hd rfl h1 k1) kk
  | aload k => exact xs_lda hlo hs (fun x h1 k1 => lv_aload hx hb hd h1 k1) (fun h1 k1 => lv_aloadN hx hb hd h1 k1) kk
  | istore_n k => exact xs_sti hlo hs (fun x r hn k1 => lv_istore_n hx hb hd rfl hlo hn rfl k1) kk
  | istore k => exact xs_sti hlo hs (fun x r hn k1 => lv_istore hx hb hd hlo hn rfl k1) kk
  | astore_n k => exact xs_sta hlo hs (fun x r hn k1 => lv_astore_n hx hb hd rfl hlo hn rfl k1) (fun r hn k1 => lv_astore_nN hx hb hd rfl hlo hn rfl k1) kk
  | astore k => exact xs_sta hlo hs (fun x r hn k1 => lv_astore hx hb hd hlo hn rfl k1) (fun r hn k1 => lv_astoreN hx hb hd hlo hn rfl k1) kk
  | lstore_n k => exact xs_stl hlo hs (fun x r hn k1 => lv_lstore_n hx hb hd rfl hlo hn rfl k1) kk
  | lstore k => exact xs_stl hlo hs (fun x r hn k1 => lv_lstore hx hb hd hlo hn rfl k1) kk
  | iadd => exact xs_b2 hlo hs (fun x y r k1 => lv_iadd hx hb hd k1) kk
  | isub => exact xs_b2 hlo hs (fun x y r k1 => lv_isub hx hb hd k1) kk
  | imul => exact xs_b2 hlo hs (fun x y r k1 => lv_imul hx hb hd k1) kk
  | iand => exact xs_b2 hlo hs (fun x y r k1 => lv_iand hx hb hd k1) kk
  | ior => exact xs_b2 hlo hs (fun x y r k1 => lv_ior hx hb hd k1) kk
  | ixor => exact xs_b2 hlo hs (fun x y r k1 => lv_ixor hx hb hd k1) kk
  | ishl => exact xs_b2 hlo hs (fun x y r k1 => lv_ishl hx hb hd k1) kk
  | ishr => exact xs_b2 hlo hs (fun x y r k1 => lv_ishr hx hb hd k1) kk
  | iushr => exact xs_b2 hlo hs (fun x y r k1 => lv_iushr hx hb hd rfl k1) kk
  | ldc_w n => cases hs; exact lv_ldcw hx hb hown (hts _ (xw_in (of_decide_eq_true hw) rfl)) hd (kk _ hlo rfl)
  | ladd => exact xs_l2 hlo hs (fun x y r k1 => lv_ladd hx hb hd k1) kk
  | lsub => exact xs_l2 hlo hs (fun x y r k1 => lv_lsub hx hb hd k1) kk
  | lushr => exact xs_ls hlo hs (fun x y r k1 => lv_lushr hx hb hd rfl k1) kk
  | land => exact xs_l2 hlo hs (fun x y r k1 => lv_land hx hb hd k1) kk
  | lor => exact xs_l2 hlo hs (fun x y r k1 => lv_lor hx hb hd k1) kk
  | lshl => exact xs_ls hlo hs (fun x y r k1 => lv_lshl hx hb hd rfl k1) kk
  | lshr => exact xs_ls hlo hs (fun x y r k1 => lv_lshr hx hb hd rfl k1) kk
  | idiv =>
    simp only [xst] at hs
    split at hs
    · split at hs
      · cases hs
      · rename_i hy
        cases hs
        exact lv_idiv hx hb hd hy (kk _ hlo rfl)
    · cases hs
  | irem =>
    simp only [xst] at hs
    split at hs
    · split at hs
      · cases hs
      · rename_i hy
        cases hs
        exact lv_irem hx hb hd hy (kk _ hlo rfl)
    · cases hs
  | ineg =>
    simp only [xst] at hs
    split at hs
    · cases hs
      exact lv_ineg hx hb hd (kk _ hlo rfl)
    · cases hs
  | lcmp =>
    simp only [xst] at hs
    split at hs
    · cases hs
      exact W.lcmp hx hb hd (kk _ hlo rfl)
    · cases hs
  | i2l =>
    simp only [xst] at hs
    split at hs
    · cases hs
      exact lv_i2l hx hb hd rfl (kk _ hlo rfl)
    · cases hs
  | l2i =>
    simp only [xst] at hs
    split at hs
    · cases hs
      exact lv_l2i hx hb hd rfl (kk _ hlo rfl)
    · cases hs
  | dup =>
    simp only [xst] at hs
    split at hs
    · split at hs
      · rename_i hc
        cases hs
        exact lv_dup hx hb hd ((xde_cat G _).trans hc) (kk _ hlo rfl)
      · cases hs
    · cases hs
  | dup2 =>
    simp only [xst] at hs
    split at hs
    · split at hs
      · rename_i hc
        cases hs
        exact lv_dup2_11 hx hb hd ((xde_cat G _).trans hc.1) ((xde_cat G _).trans hc.2) (kk _ hlo rfl)
      · cases hs
    · cases hs
  | iinc i n =>
    simp only [xst] at hs
    split at hs
    · rename_i v hv
      split at hs
      · rename_i hf
        cases hs
        obtain ⟨kp, hkp⟩ := List.getElem?_of_mem (xas_mem (G := G) hv)
        have hn : i < L.length := (List.getElem?_eq_some_iff.mp hv).1
        exact lv_iinc hx hb hd hlo hkp rfl hn rfl fun ls' h1 => kk ls' (xlo_set (v := .int _) hn hf h1) (by simp)
      · cases hs
    · cases hs
  | goto off =>
    cases hs
    exact lv_goto hx hb hd (of_decide_eq_true hw) (kk _ hlo rfl)
  | if_icmp cd off =>
    have ht : (pc : Int) + off = (a : Int) := of_decide_eq_true hw
    cases cd <;> (simp only [xst] at hs; split at hs) <;> first | (cases hs; done) | skip
    all_goals (cases hs; have k1 := kk ls hlo rfl)
    · exact lv_icmp_eq hx hb hd ht (fun q => by simp only [if_pos q] at k1; exact k1) (fun q => by simp only [if_neg q] at k1; exact k1)
    · exact lv_icmp_ne hx hb hd ht (fun q => by simp only [if_neg q] at k1; exact k1) (fun q => by simp only [if_pos q] at k1; exact k1)
    · exact lv_icmp_lt hx hb hd ht (fun q => by simp only [if_pos q] at k1; exact k1) (fun q => by simp only [if_neg q] at k1; exact k1)
    · exact lv_icmp_ge hx hb hd ht (fun q => by simp only [if_pos q] at k1; exact k1) (fun q => by simp only [if_neg q] at k1; exact k1)
    · exact lv_icmp_gt hx hb hd ht (fun q => by simp only [if_pos q] at k1; exact k1) (fun q => by simp only [if_neg q] at k1; exact k1)
    · exact lv_icmp_le hx hb hd ht (fun q => by simp only [if_pos q] at k1; exact k1) (fun q => by simp only [if_neg q] at k1; exact k1)
  | ifCond cd off =>
    have ht : (pc : Int) + off = (a : Int) := of_decide_eq_true hw
    cases cd <;> (simp only [xst] at hs; split at hs) <;> first | (cases hs; done) | skip
    all_goals (cases hs; have k1 := kk ls hlo rfl)
    · exact lv_if_eq hx hb hd ht (fun q => by simp only [if_pos q] at k1; exact k1) (fun q => by simp only [if_neg q] at k1; exact k1)
    · exact lv_if_ne hx hb hd ht (fun q => by simp only [if_neg q] at k1; exact k1) (fun q => by simp only [if_pos q] at k1; exact k1)
    · exact lv_if_lt hx hb hd ht (fun q => by simp only [if_pos q] at k1; exact k1) (fun q => by simp only [if_neg q] at k1; exact k1)
    · exact lv_if_ge hx hb hd ht (fun q => by simp only [if_pos q] at k1; exact k1) (fun q => by simp only [if_neg q] at k1; exact k1)
    · exact lv_if_gt hx hb hd ht (fun q => by simp only [if_pos q] at k1; exact k1) (fun q => by simp only [if_neg q] at k1; exact k1)
    · exact lv_if_le hx hb hd ht (fun q => by simp only [if_pos q] at k1; exact k1) (fun q => by simp only [if_neg q] at k1; exact k1)
  | ifnull off =>
    have ht : (pc : Int) + off = (a : Int) := of_decide_eq_true hw
    simp only [xst] at hs
    split at hs
    · cases hs
      exact lv_ifnullN hx hb hd ht (kk _ hlo rfl)
    · cases hs
      exact lv_ifnull hx hb hd (kk _ hlo rfl)
    · cases hs
  | ifnonnull off =>
    have ht : (pc : Int) + off = (a : Int) := of_decide_eq_true hw
    simp only [xst] at hs
    split at hs
    · cases hs
      exact lv_ifnonnullN hx hb hd (kk _ hlo rfl)
    · cases hs
      exact lv_ifnonnull hx hb hd ht (kk _ hlo rfl)
    · cases hs
  | arraylength =>
    simp only [xst] at hs
    split at hs
    · split at hs
      · rename_i hv
        cases hs
        exact x_alen F hR hd hv (kk _ hlo rfl)
      · cases hs
    · cases hs
  | iaload =>
    simp only [xst] at hs
    split at hs
    · split at hs
      · rename_i hv
        cases hs
        exact x_iald F hR hd hv (kk _ hlo rfl)
      · cases hs
    · cases hs
  | baload =>
    simp only [xst] at hs
    split at hs
    · split at hs
      · rename_i hv
        cases hs
        exact x_zald F hR hd hv (kk _ hlo rfl)
      · split at hs
        · rename_i hv
          cases hs
          exact x_sald F hR hd hv (kk _ hlo rfl)
        · cases hs
    · cases hs
  | aaload =>
    simp only [xst] at hs
    split at hs
    · split at hs
      · rename_i hv
        cases hs
        exact x_aald F hR hd hv (kk _ hlo rfl)
      · cases hs
    · cases hs
  | getfield idx =>
    simp only [xst] at hs
    simp only [xrw] at hw
    by_cases h98 : a = 98
    · rw [if_pos h98] at hs hw
      split at hs
      · split at hs
        · rename_i hv
          cases hs
          exact x_sgetf F hR hd hw hv (kk _ hlo rfl)
        · cases hs
      · cases hs
    · rw [if_neg h98] at hs hw
      split at hs
      · split at hs
        · rename_i hv
          cases hs
          exact x_getf F hR hd hw hv (kk _ hlo rfl)
        · cases hs
      · cases hs
  | getstatic idx =>
    cases hs
    simp only [xrw] at hw
    exact x_gets F hR hd hw (kk _ hlo rfl)
  | ldc idx =>
    simp only [xst] at hs
    split at hs
    · rename_i hc
      cases hs
      simp only [xrw, Bool.and_eq_true, decide_eq_true_eq] at hw
      obtain ⟨n, hn, rfl⟩ : ∃ n, n < 5 ∧ a = n + 2 := ⟨a - 2, by omega, by omega⟩
      rw [Nat.add_sub_cancel] at hw
      obtain ⟨w1, w2⟩ := hw
      have g1 := (hK.2.2.1.2.2.2 n hn).1
      rw [← w1, ← w2] at g1
      have e9 : xde G (.ref (n + 2)) = .ref (G.2.2.1 (n + 2)) := congrArg Value.ref (xad_lo (show n + 2 < 13 by omega))
      have k9 := kk ls hlo rfl
      rw [List.map_cons, e9] at k9
      exact va_ldcS hx hb hown g1 hd k9
    · cases hs
  | i2c =>
    simp only [xst] at hs
    split at hs
    · cases hs
      exact lv_i2c hx hb hd rfl (kk _ hlo rfl)
    · cases hs
  | pop =>
    simp only [xst] at hs
    split at hs
    · split at hs
      · rename_i hc
        cases hs
        exact lv_pop hx hb hd (by rw [xde_cat]; exact hc) (kk _ hlo rfl)
      · cases hs
    · cases hs
  | invokespecial idx =>
    simp only [xst] at hs
    split at hs
    · rename_i ha
      split at hs
      · split at hs
        · rename_i hc
          cases hs
          have hw2 := hw
          simp only [xrw, if_pos ha] at hw2
          exact x_objInit F (hlo.1.trans hml) hRm hd (of_decide_eq_true hw2) (by rw [xcats]; exact hc) (kk _ hlo rfl)
        · cases hs
      · cases hs
    · cases hs
  | tableswitch d lo hi offs =>
    simp only [xst] at hs
    split at hs
    · split at hs
      · rename_i hc
        split at hs
        · rename_i h0
          cases hs
          exact lv_tableOut hx hb hd hc (by omega) (kk _ hlo rfl)
        · cases hs
      · rename_i hc
        split at hs
        · rename_i o1 ho
          split at hs
          · rename_i h0
            cases hs
            exact lv_tableIn hx hb hd (fun q => hc (Or.inl q)) (fun q => hc (Or.inr q)) ho (by omega) (kk _ hlo rfl)
          · cases hs
        · cases hs
    · cases hs
  | lookupswitch d ps =>
    simp only [xst] at hs
    split at hs
    · split at hs
      · rename_i h0
        cases hs
        exact lv_lookup hx hb hd hw rfl (by omega) (kk _ hlo rfl)
      · cases hs
    · cases hs
  | _ => simp [xst] at hs
end XST
