theorem xtw_good : ∀ w ∈ xtw, w ∈ xtw ∧ ((w.onTables && w.keeps) = true ∨ ∃ ty, w = .arrayClass ty) := fun w hw => ⟨hw, good_of_word (List.mem_filter.mp hw).2⟩
theorem xwo_good {M : XMeth} (hc : Cond.code (xmY M) (xmB M) (xmL M) (xmR M) ∈ xtw) : ∀ w ∈ xwo M, w ∈ xtw ∧ ((w.onTables && w.keeps) = true ∨ ∃ ty, w = .arrayClass ty) := fun w hw => by
  rcases List.mem_cons.mp hw with rfl | hw
  · exact xtw_good _ hc
  · exact xtw_good _ hw
/-- what a table that is right says of a method -/
theorem xmOK_spec {xM : Nat → Option XMeth} {M : XMeth} (h : xmOK xM M = true) : (∀ r ∈ xmT M, xrow xM (xmY M).cls (xmB M) (xmK M == 2) r = true) ∧ plainName (xmY M).cls = true ∧ ((xmY M).cls ≠ "java/lang/invoke/MethodHandle" ∧ (xmY M).cls ≠ "java/lang/invoke/VarHandle") ∧
    (∀ sig, parseMethodDescriptor (xmY M).desc = some sig → xmN M = sig.parameters.length) ∧ xmL M ≤ 15 ∧ Cond.code (xmY M) (xmB M) (xmL M) (xmR M) ∈ xtw ∧ Cond.initialized (xmY M).cls ∈ xtw ∧
    (xmK M = 0 → Cond.static (xmY M) ∈ xtw) ∧ (xmK M = 1 → Cond.instanceMethod (xmY M) ∈ xtw ∧ Cond.selects (xmY M).cls (xmY M) (xmY M) ∈ xtw ∧ (xown (xmY M).cls (xmC M) || (decide (xmC M = 98) && decide ((xmY M).cls = "java/lang/String"))) = true) ∧
    (xmK M = 2 → Cond.instanceMethod (xmY M) ∈ xtw ∧ (xmY M).name = "<init>" ∧ xmR M = none) := by
  unfold xmOK at h
  simp only [Bool.and_eq_true, decide_eq_true_eq, List.all_eq_true] at h
  obtain ⟨h1, h2, h3, h4, h5, h6, h7⟩ := h
  have h5' : ∀ sig, parseMethodDescriptor (xmY M).desc = some sig → xmN M = sig.parameters.length := fun sig e => by
    rw [e] at h5
    exact (Option.some.inj h5).symm
  split at h7
  · simp only [Bool.and_eq_true, decide_eq_true_eq] at h7
    obtain ⟨g1, g2, g3⟩ := h7
    refine ⟨h1, h2, ⟨h3, h4⟩, h5', h6, xw_in g1 rfl, xw_in g2 rfl, fun e => ?_, fun e => ?_, fun e => ?_⟩
    · rw [e] at g3
      exact xw_in (of_decide_eq_true g3) rfl
    · rw [e] at g3
      simp only [Bool.and_eq_true, decide_eq_true_eq] at g3
      refine ⟨xw_in g3.1 rfl, xw_in g3.2.1 rfl, ?_⟩
      exact g3.2.2
    · rw [e] at g3
      simp only [Bool.and_eq_true, decide_eq_true_eq] at g3
      exact ⟨xw_in g3.1 rfl, g3.2.1, g3.2.2⟩
  · cases h7
theorem xcw_spec {xM : Nat → Option XMeth} {own : String} {r : XRow} {M1 : XMeth} (hw : xcw xM own r = true) (hm : xM r.2.2.2.1 = some M1) (hi : xinv r.2.1 (xmK M1) = true) (h9 : r.2.2.2.1 < 900) : ∃ idx, (r.2.1 = .invokestatic idx ∧ xmK M1 = 0 ∨ r.2.1 = .invokevirtual idx ∧ xmK M1 = 1 ∨ r.2.1 = .invokespecial idx ∧ xmK M1 = 2) ∧ (Cond.methodLink own idx (xmY M1) ∈ xtw ∨ Cond.methodLinkNest own idx (xmY M1) RX6 ∈ xnw) := by
  obtain ⟨pc, ins, len, a, b, wd⟩ := r
  dsimp only at hm hi h9
  unfold xinv at hi
  split at hi
  · rename_i idx
    simp only [xcw, if_neg (show ¬ a = 998 by omega), hm, Bool.or_eq_true, decide_eq_true_eq] at hw
    exact ⟨idx, Or.inl ⟨rfl, by simpa using hi⟩, hw.elim (fun q => Or.inl (xw_in q rfl)) (fun q => Or.inr (xn_in q rfl))⟩
  · rename_i idx
    simp only [xcw, hm, Bool.or_eq_true, decide_eq_true_eq] at hw
    exact ⟨idx, Or.inr (Or.inl ⟨rfl, by simpa using hi⟩), hw.elim (fun q => Or.inl (xw_in q rfl)) (fun q => Or.inr (xn_in q rfl))⟩
  · rename_i idx
    simp only [xcw, if_neg (show ¬ a = 999 by omega), hm, Bool.or_eq_true, decide_eq_true_eq] at hw
    exact ⟨idx, Or.inr (Or.inr ⟨rfl, by simpa using hi⟩), hw.elim (fun q => Or.inl (xw_in q rfl)) (fun q => Or.inr (xn_in q rfl))⟩
  · cases hi
section XRN
variable {p : Program} {l : Launch} {e : Env} {R : Room} {s : State} {m : MethodId} {args : Array Value} {below : List Frame} {meth : Method} {c : Code} {H : Heap} {locs : List Loc} {cells slots : Nat} {Q : State → Prop}
variable {cc : ByteArray} {pc : Nat} {ls : Array Slot} {G : XG} {own : String} {h : XH} {rest : List Value}
theorem xR_size (hR : xR G h H locs) : (xHs G).size + (h.1 - 13) ≤ H.size := by
  obtain ⟨hP, hS, h2, -⟩ := hR
  rcases Nat.lt_or_ge 13 h.1 with h3 | h3
  · have ha := xws_at (G := G) (h := h) (k := h.1 - 1) (by omega) (by omega)
    have := (hP _ _ ha).lt
    rw [xad_hi (by omega)] at this
    omega
  · have := hS.1
    omega
theorem x_rcv (hK : xK G s) (hR : xR G h H locs) {k ci : Nat} {fs : List Value} {cls : String} (hk : h.2.2 k = .inl (ci, fs)) (h2 : 2 ≤ k) (hk3 : k < h.1) (hc : (xown cls ci || (decide (ci = 98) && decide (cls = "java/lang/String"))) = true) : ∃ cell : Cell, H[xad G k]? = some cell ∧ cell.vm.isStatics = false ∧ s.vm.findClass cls = some cell.cls := by
  obtain ⟨hP, hS, hb, hX⟩ := hR
  by_cases h13 : k < 13
  · rw [hX k h13] at hk
    unfold xex at hk
    rw [if_neg (by omega)] at hk
    by_cases h7 : k < 7
    · rw [if_pos h7] at hk
      cases hk
      rcases Bool.or_eq_true _ _ ▸ hc with hc | hc
      · cases hc
      · simp only [Bool.and_eq_true, decide_eq_true_eq] at hc
        obtain ⟨n, hn, rfl⟩ : ∃ n, n < 5 ∧ k = n + 2 := ⟨k - 2, by omega, by omega⟩
        obtain ⟨cell, e1, e2, e3, e4⟩ := (hK.2.2.1.2.2.2 n hn).2.1
        rw [xad_lo h13, hc.2]
        exact ⟨cell, by rw [hS.2.1 _ (Array.getElem?_eq_some_iff.mp e1).1 e4]; exact e1, e2, e3⟩
    · rw [if_neg h7] at hk
      by_cases h12 : k < 12
      · rw [if_pos h12] at hk; cases hk
      · rw [if_neg h12] at hk
        cases hf : xfl G with
        | true =>
          rw [if_pos hf] at hk
          cases hk
          rcases Bool.or_eq_true _ _ ▸ hc with hc | hc
          · cases hc
          · exact absurd (of_decide_eq_true (Bool.and_eq_true _ _ ▸ hc).1) (by decide)
        | false =>
          rw [if_neg (by rw [hf]; decide)] at hk
          cases hk
          rcases Bool.or_eq_true _ _ ▸ hc with hc | hc
          · cases hc
          · exact absurd (of_decide_eq_true (Bool.and_eq_true _ _ ▸ hc).1) (by decide)
  · have ha := xws_at (G := G) (show 13 ≤ k by omega) hk3
    rw [hk] at ha
    rcases Bool.or_eq_true _ _ ▸ hc with hc | hc
    · unfold xown at hc
      split at hc
      · rename_i q hq
        obtain ⟨cell, g1, g2, g3⟩ := va_recv hK.1 hP hq ha
        rw [of_decide_eq_true hc] at g3
        exact ⟨cell, g1, g2, g3⟩
      · cases hc
    · simp only [Bool.and_eq_true, decide_eq_true_eq] at hc
      obtain ⟨r, hr, -⟩ := hP _ _ ha
      rw [hc.1] at hr
      cases hr
theorem x_call {v : Option Value} {h1 : XH} {a : Array Value} {mc ms : Nat} {st0 : List Value} (hr : va_Run p l e R s m args below meth c H locs cells slots mc ms (F0 m pc ls st0) rest (xQc G v h1 a) (xA G))
    (kk : ∀ (H1 : Heap) (L : List Loc), xR G h1 H1 [] → (∀ q ∈ L, xA G q.base) → W p l e R s m args below meth c H1 (locs ++ L) (cells + mc) (slots + ms) Q (F0 m (pc + 3) ls ((v.map (xde G)).toList ++ rest))) : W p l e R s m args below meth c H locs cells slots Q (F0 m pc ls st0) := by
  intro T hT X
  obtain ⟨v', st₀, t, T', L, h0, X', hL, e1, e2, ⟨hv, hq⟩, st⟩ := hr T hT X
  injection hv with hv
  subst hv
  obtain ⟨t2, a1, b1⟩ := kk T'.heap L (by rw [e1]; exact hq) hL T' rfl X'
  exact ⟨t2, st t2 a1, b1⟩
/-- a call, by the callee's contract -/
theorem x_invoke {xM : Nat → Option XMeth} {M1 : XMeth} {d : Nat} (F : xF G p s m args c cc own) (hR : xR G h H locs) (hml : c.maxLocals = ls.size) (hok : xmOK xM M1 = true) {r : XRow} (hd : decode cc r.1 = .ok (r.2.1, xil r.2.1 r.2.2.1)) (hw : xcw xM own r = true) (hm : xM r.2.2.2.1 = some M1) (hi : xinv r.2.1 (xmK M1) = true) (h9 : r.2.2.2.1 < 900)
    {as : List Value} {v : Option Value} {h1 : XH} (hlen : as.length = xmN M1 + (if xmK M1 = 0 then 0 else 1)) (hrecv : xrecv M1 as h) (hcat : (rest.map fun v => v.category).sum ≤ 8) (hmono : xle h h1)
    (hM : Met l (xmY M1) (xwo M1) (xrm d (h1.1 - h.1) (h1.2.1 - h.2.1)) (xPc G as h) (xQc G v h1) (h1.1 - h.1) (h1.2.1 - h.2.1) (xA G))
    {b1 b2 : Nat} (hb0 : 13 ≤ b1 ∧ b1 ≤ h.1 ∧ b2 ≤ h.2.1) (hbase : s.heap.size = (xHs G).size + (b1 - 13)) (hfr : d + 1 ≤ R.frames) (hlo : 34 * d + 34 ≤ R.locals) (hroom : h1.1 - b1 ≤ R.cells ∧ h1.2.1 - b2 ≤ R.slots)
    (kk : ∀ H1 locs1, xR G h1 H1 locs1 → W p l e R s m args below meth c H1 locs1 (h1.1 - b1) (h1.2.1 - b2) Q (F0 m (r.1 + 3) ls ((v.toList ++ rest).map (xde G)))) : W p l e R s m args below meth c H locs (h.1 - b1) (h.2.1 - b2) Q (F0 m r.1 ls ((as.reverse ++ rest).map (xde G))) := by
  obtain ⟨hrows, hpl, hne, hpar, hmax, hcode, hini, hk0, hk1, hk2⟩ := xmOK_spec hok
  obtain ⟨hx, hb, hown, hts, hK⟩ := F
  refine x_size fun hz => ?_
  have hsz : H.size = (xHs G).size + (h.1 - 13) := by
    have := xR_size hR
    rw [hbase] at hz
    omega
  have hRe : xR G h H [] := ⟨hR.1, ⟨hR.2.1.1, hR.2.1.2.1, fun q hq => by cases hq⟩, hR.2.2.1, hR.2.2.2⟩
  have hpre : ∀ U : State, U.heap = H → s.WarmedH U.vm → xPc G as h (as.map (xde G)).toArray U := fun U hU hW => ⟨rfl, by rw [hU]; exact hRe, hK.warm hW, by rw [hU]; exact hsz⟩
  have hww : ∀ w ∈ xwo M1, ∀ (a' : Array Value) (U : State), s.WarmedH U.vm → w.before a' U = true := pay_in hts (xwo_good hcode)
  have hbase1 : (xrm d (h1.1 - h.1) (h1.2.1 - h.2.1)).cells = h1.1 - h.1 ∧ (xrm d (h1.1 - h.1) (h1.2.1 - h.2.1)).slots = h1.2.1 - h.2.1 ∧ (xrm d (h1.1 - h.1) (h1.2.1 - h.2.1)).frames + 1 ≤ R.frames ∧ 8 + (xmL M1 + 11) + (xrm d (h1.1 - h.1) (h1.2.1 - h.2.1)).locals ≤ R.locals :=
    ⟨rfl, rfl, hfr, by show 8 + (xmL M1 + 11) + 34 * d ≤ _; omega⟩
  have hf : h.1 - b1 + (h1.1 - h.1) ≤ R.cells ∧ h.2.1 - b2 + (h1.2.1 - h.2.1) ≤ R.slots := by
    have := hmono.1
    have := hmono.2
    omega
  have fin : ∀ (H1 : Heap) (L : List Loc), xR G h1 H1 [] → (∀ q ∈ L, xA G q.base) → W p l e R s m args below meth c H1 (locs ++ L) (h.1 - b1 + (h1.1 - h.1)) (h.2.1 - b2 + (h1.2.1 - h.2.1)) Q (F0 m (r.1 + 3) ls ((v.map (xde G)).toList ++ rest.map (xde G))) := by
    intro H1 L hR1 hL
    have k1 := kk H1 (locs ++ L) ⟨hR1.1, ⟨hR1.2.1.1, hR1.2.1.2.1, fun q hq => (List.mem_append.mp hq).elim (hR.2.1.2.2 q) (hL q)⟩, hR1.2.2.1, hR1.2.2.2⟩
    rw [show h1.1 - b1 = h.1 - b1 + (h1.1 - h.1) by have := hmono.1; omega, show h1.2.1 - b2 = h.2.1 - b2 + (h1.2.1 - h.2.1) by have := hmono.2; omega] at k1
    cases v <;> exact k1
  have hcat' : 2 * (F0 m r.1 ls ((as.reverse ++ rest).map (xde G))).monitorRoom + ((rest.map (xde G)).map fun v => v.category).sum ≤ 8 := lv_room (by rw [xcats]; exact hcat)
  obtain ⟨idx, hkind, hlink⟩ := xcw_spec hw hm hi h9
  have hst : (as.reverse ++ rest).map (xde G) = (as.map (xde G)).reverse ++ rest.map (xde G) := by simp
  have hcb : ∀ w : Cond, w ∈ xtw → w.before args s = true := hts
  rcases hkind with ⟨hins, hkd⟩ | ⟨hins, hkd⟩ | ⟨hins, hkd⟩
  · rw [hins] at hd
    have hn : (as.map (xde G)).length = xmN M1 := by rw [List.length_map, hlen, if_pos hkd, Nat.add_zero]
    rcases hlink with hlink | hlink
    · exact x_call (va_runS (As := as.map (xde G)) (rest := rest.map (xde G)) ⟨hx, hb, hml, hown, hts⟩ hM ⟨⟨hbase1.1, hbase1.2.1, hbase1.2.2.1, hbase1.2.2.2, hww, List.mem_cons_self, hts _ hcode, hts _ hini, hne, hpar, hts _ hlink⟩, hts _ (hk0 hkd)⟩ ⟨xPc_blind G as h, hpre⟩ rfl hn rfl hst hcat' hd hf) fin
    · exact x_call (va_runSN (host := RX6) (As := as.map (xde G)) (rest := rest.map (xde G)) ⟨hx, hb, hml, hown, hts⟩ hM ⟨⟨⟨hbase1.1, hbase1.2.1, hbase1.2.2.1, hbase1.2.2.2, hww, List.mem_cons_self⟩, hts _ hcode, hts _ hini, hne, hpar, va_Nw.use rfl (hK.2.2.2.2.2 _ hlink)⟩, hts _ (hk0 hkd), trivial⟩ ⟨xPc_blind G as h, hpre⟩ rfl hn rfl hst hcat' hd hf) fin
  · rw [hins] at hd
    obtain ⟨hin, hsel, hq⟩ := hk1 hkd
    obtain ⟨k, fs, hhd, hk, h2, hk3⟩ := hrecv (by omega)
    cases as with
    | nil => cases hhd
    | cons w As =>
      cases hhd
      have hn : (As.map (xde G)).length = xmN M1 := by
        rw [if_neg (by omega), List.length_cons] at hlen
        rw [List.length_map]
        omega
      have hst2 : ((Value.ref k :: As).reverse ++ rest).map (xde G) = (As.map (xde G)).reverse ++ .ref (xad G k) :: rest.map (xde G) := by
        simp only [List.map_append, List.map_reverse, List.map_cons, List.reverse_cons, List.append_assoc, List.singleton_append]
        rfl
      obtain ⟨cell, g1, g2, g3⟩ := x_rcv hK hR hk h2 hk3 hq
      rcases hlink with hlink | hlink
      · exact x_call (va_runV (C := (xmY M1).cls) (b := xad G k) (As := As.map (xde G)) (rest := rest.map (xde G)) ⟨hx, hb, hml, hown, hts⟩ hM ⟨⟨hbase1.1, hbase1.2.1, hbase1.2.2.1, hbase1.2.2.2, hww, List.mem_cons_self, hts _ hcode, hts _ hini, hne, hpar, hts _ hlink⟩, hts _ hin, hts _ hsel⟩ ⟨xPc_blind G _ h, ⟨cell, g1, g2, g3⟩, hpre⟩ rfl hn rfl hst2 hcat' hd hf) fin
      · exact x_call (va_runVN (host := RX6) (C := (xmY M1).cls) (b := xad G k) (As := As.map (xde G)) (rest := rest.map (xde G)) ⟨hx, hb, hml, hown, hts⟩ hM ⟨⟨⟨hbase1.1, hbase1.2.1, hbase1.2.2.1, hbase1.2.2.2, hww, List.mem_cons_self⟩, hts _ hcode, hts _ hini, hne, hpar, va_Nw.use rfl (hK.2.2.2.2.2 _ hlink)⟩, hts _ hin, hts _ hsel⟩ ⟨xPc_blind G _ h, ⟨cell, g1, g2, g3⟩, hpre⟩ rfl hn rfl hst2 hcat' hd hf) fin
  · rw [hins] at hd
    obtain ⟨hin, hnm, hret⟩ := hk2 hkd
    obtain ⟨k, fs, hhd, hk, h2, hk3⟩ := hrecv (by omega)
    cases as with
    | nil => cases hhd
    | cons w As =>
      cases hhd
      have hn : (As.map (xde G)).length = xmN M1 := by
        rw [if_neg (by omega), List.length_cons] at hlen
        rw [List.length_map]
        omega
      have hst2 : ((Value.ref k :: As).reverse ++ rest).map (xde G) = (As.map (xde G)).reverse ++ .ref (xad G k) :: rest.map (xde G) := by
        simp only [List.map_append, List.map_reverse, List.map_cons, List.reverse_cons, List.append_assoc, List.singleton_append]
        rfl
      have hcw1 : Cond.code (xmY M1) (xmB M1) (xmL M1) none ∈ xwo M1 := by rw [← hret]; exact List.mem_cons_self
      have hcd1 : (Cond.code (xmY M1) (xmB M1) (xmL M1) none).before args s = true := by rw [← hret]; exact hts _ hcode
      rcases hlink with hlink | hlink
      · exact x_call (va_runI (b := xad G k) (As := As.map (xde G)) (rest := rest.map (xde G)) ⟨hx, hb, hml, hown, hts⟩ hM ⟨⟨hbase1.1, hbase1.2.1, hbase1.2.2.1, hbase1.2.2.2, hww, hcw1, hcd1, hts _ hini, hne, hpar, hts _ hlink⟩, hnm, hts _ hin⟩ ⟨xPc_blind G _ h, hpre⟩ rfl hn rfl hst2 hcat' hd hf) fin
      · exact x_call (va_runIN (host := RX6) (b := xad G k) (As := As.map (xde G)) (rest := rest.map (xde G)) ⟨hx, hb, hml, hown, hts⟩ hM ⟨⟨⟨hbase1.1, hbase1.2.1, hbase1.2.2.1, hbase1.2.2.2, hww, hcw1⟩, hcd1, hts _ hini, hne, hpar, va_Nw.use rfl (hK.2.2.2.2.2 _ hlink)⟩, hnm, hts _ hin⟩ ⟨xPc_blind G _ h, hpre⟩ rfl hn rfl hst2 hcat' hd hf) fin
/-- a run of steps within one frame -/
theorem xruns_sound {xM : Nat → Option XMeth} {M : XMeth} {d : Nat} (hMet : ∀ (i : Nat) (as : List Value) (h : XH) (v : Option Value) (h1 : XH) (M1 : XMeth), xM i = some M1 → XCall xM d i as h v h1 → i < 900 ∧ xmOK xM M1 = true ∧ Met l (xmY M1) (xwo M1) (xrm d (h1.1 - h.1) (h1.2.1 - h.2.1)) (xPc G as h) (xQc G v h1) (h1.1 - h.1) (h1.2.1 - h.2.1) (xA G))
    (F : xF G p s m args c cc own) {ini : Bool} (hini : ini = true → meth.name = "<init>") (hrows : ∀ r ∈ xmT M, xrow xM own cc ini r = true) {b1 b2 : Nat} (hb1 : 13 ≤ b1) (hbase : s.heap.size = (xHs G).size + (b1 - 13)) (hfr : d + 1 ≤ R.frames) (hlo : 34 * d + 34 ≤ R.locals) {c1 : XC} (hroom : c1.2.2.2.1 - b1 ≤ R.cells ∧ c1.2.2.2.2.1 - b2 ≤ R.slots)
    (fin : ∀ (H : Heap) (locs : List Loc) (ls : Array Slot), xR G c1.2.2.2 H locs → xlo G ls c1.2.1 → W p l e R s m args below meth c H locs (c1.2.2.2.1 - b1) (c1.2.2.2.2.1 - b2) Q (F0 m c1.1 ls (c1.2.2.1.map (xde G)))) :
    ∀ (n : Nat) (c0 : XC), XRuns xM (XCall xM d) M n c0 c1 → b1 ≤ c0.2.2.2.1 → b2 ≤ c0.2.2.2.2.1 → c0.2.1.length = c.maxLocals → ∀ (H : Heap) (locs : List Loc) (ls : Array Slot), xR G c0.2.2.2 H locs → xlo G ls c0.2.1 → W p l e R s m args below meth c H locs (c0.2.2.2.1 - b1) (c0.2.2.2.2.1 - b2) Q (F0 m c0.1 ls (c0.2.2.1.map (xde G)))
  | 0, c0, hr, h1, h2, hml, H, locs, ls, hR, hlo => by
    cases hr
    exact fin H locs ls hR hlo
  | n + 1, c0, hr, h1, h2, hml, H, locs, ls, hR, hls => by
    obtain ⟨c2, hstep, hr2⟩ := hr
    have hm1 := hstep.mono (XCall.mono d)
    have hm2 := XRuns.mono (XCall.mono d) n hr2
    have ih := xruns_sound hMet F hini hrows hb1 hbase hfr hlo hroom fin n c2 hr2 (Nat.le_trans h1 hm1.1) (Nat.le_trans h2 hm1.2)
    have hroom2 : c2.2.2.2.1 - b1 ≤ R.cells ∧ c2.2.2.2.2.1 - b2 ≤ R.slots := by
      have := hm2.1
      have := hm2.2
      omega
    have hsz : ls.size = c.maxLocals := hls.1.trans hml
    obtain ⟨r, hrm, hpc, hcase⟩ := hstep
    have hrow := hrows r hrm
    unfold xrow at hrow
    simp only [Bool.and_eq_true, decide_eq_true_eq] at hrow
    obtain ⟨hd, hw, hcw⟩ := hrow
    rcases hcase with ⟨o, hs, rfl⟩ | ⟨o, hs, rfl⟩ | ⟨M1, as, rest, v, h9, hm, hi, hst, hlen, hrecv, hcat, hcall, rfl⟩
    · rw [hpc] at hd
      obtain ⟨rpc, ins, len, a, b, wd⟩ := r
      dsimp only at hpc hd hw hs
      subst hpc
      exact xst_sound F hR hls hml ⟨by omega, by omega⟩ hd hw hs fun ls' hl' he => ih (he.trans hml) H locs ls' hR hl'
    · rw [hpc] at hd
      obtain ⟨rpc, ins, len, a, b, wd⟩ := r
      dsimp only at hpc hd hw hs
      subst hpc
      exact xhp_sound F hR hsz.symm ⟨by omega, by omega⟩ ⟨hb1, h1, h2⟩ hbase hini hd hw hs hroom2 fun H1 locs1 hR1 => ih hml H1 locs1 ls hR1 hls
    · obtain ⟨g9, gok, gM⟩ := hMet _ _ _ _ _ _ hm hcall
      obtain ⟨pc0, L0, st0, hp0⟩ := c0
      dsimp only at hst hpc
      subst hst
      subst hpc
      exact x_invoke F hR hsz.symm gok hd hcw hm hi g9 hlen hrecv hcat hm1 gM ⟨hb1, h1, h2⟩ hbase hfr hlo hroom2 fun H1 locs1 hR1 => ih hml H1 locs1 ls hR1 hls
/-- A CALL OVER PLACES IS A CONTRACT -/
theorem x_sound {xM : Nat → Option XMeth} (hM : ∀ i M, xM i = some M → i < 900 ∧ xmOK xM M = true) : ∀ (d i : Nat) (as : List Value) (h : XH) (v : Option Value) (h1 : XH) (M : XMeth), xM i = some M → XCall xM d i as h v h1 → i < 900 ∧ xmOK xM M = true ∧ Met l (xmY M) (xwo M) (xrm d (h1.1 - h.1) (h1.2.1 - h.2.1)) (xPc G as h) (xQc G v h1) (h1.1 - h.1) (h1.2.1 - h.2.1) (xA G)
  | 0, _, _, _, _, _, _, _, hc => False.elim hc
  | d + 1, i, as, h, v, h1, M, hm, hc => by
    refine ⟨(hM i M hm).1, (hM i M hm).2, ?_⟩
    obtain ⟨hrows, hpl, hne, hpar, hmax, hcode, hini, hk0, hk1, hk2⟩ := xmOK_spec (hM i M hm).2
    obtain ⟨M', n, c1, hm', harg, hruns, hret, rfl⟩ := hc
    cases hm.symm.trans hm'
    refine Met.ofW (cc := xmB M) (maxL := xmL M) (ret := xmR M) hpl rfl ?_
    intro p e s m args below meth c s₁ B hml hv
    obtain ⟨rfl, hR0, hK, hz⟩ := hv
    have hts := atoms_spec (ws := xwo M) B.pre
    have F : xF G p s m (as.map (xde G)).toArray c (xmB M) (xmY M).cls := ⟨B.exec, B.bytes, findClass_of_methodNamed B.named, fun w hw => hts w (List.mem_cons_of_mem _ hw), hK⟩
    have hin : (xmK M == 2) = true → meth.name = "<init>" := fun hk => (name_of_methodNamed B.named B.method).1.trans (hk2 (by simpa using hk)).2.1
    have hr := B.returns
    have hlocks := B.notSynchronized
    have hx := B.exec
    have hb := B.bytes
    rw [lg_entry_eq]
    have hlo := x_entry G M as harg
    have hl : (xent M as).length = c.maxLocals := by rw [hml]; simp [xent]; omega
    have key := xruns_sound (l := l) (G := G) (p := p) (e := e) (R := (headSpec (xwo M) (xrm (d + 1) (c1.2.2.2.1 - h.1) (c1.2.2.2.2.1 - h.2.1))).room) (s := s) (m := m) (args := (as.map (xde G)).toArray) (below := below) (meth := meth) (c := c) (cc := xmB M) (own := (xmY M).cls) (M := M) (b1 := h.1) (b2 := h.2.1) (c1 := c1)
      (Q := MQ below (xQc G v c1.2.2.2) (as.map (xde G)).toArray s (c1.2.2.2.1 - h.1) (c1.2.2.2.2.1 - h.2.1) (xA G))
      (fun i as h v h1 M1 hm1 hc1 => x_sound hM d i as h v h1 M1 hm1 hc1) F (ini := xmK M == 2) hin hrows hR0.2.2.1 hz (Nat.le_refl _) (by show 34 * d + 34 ≤ 34 * (d + 1); omega) ⟨Nat.le_refl _, Nat.le_refl _⟩ ?_ n (0, xent M as, [], h) hruns (Nat.le_refl _) (Nat.le_refl _) hl s.heap [] _ hR0 hlo
    · have e0 : h.1 - h.1 = 0 := Nat.sub_self _
      have e1 : h.2.1 - h.2.1 = 0 := Nat.sub_self _
      simp only [e0, e1] at key
      exact key
    · intro H locs ls hR hls
      obtain ⟨r, hrm, hpc, hcase⟩ := hret
      have hrow := hrows r hrm
      unfold xrow at hrow
      simp only [Bool.and_eq_true, decide_eq_true_eq] at hrow
      have hd := hrow.1
      rw [hpc] at hd
      have hq : ∀ (t : State), t.heap = H → xQc G v c1.2.2.2 (as.map (xde G)).toArray s (.returned (v.map (xde G))) t := fun t ht => ⟨rfl, by rw [ht]; exact ⟨hR.1, ⟨hR.2.1.1, hR.2.1.2.1, fun q hq => by cases hq⟩, hR.2.2.1, hR.2.2.2⟩⟩
      rcases hcase with ⟨hins, x, ty, hst, rfl, hrt, hn⟩ | ⟨hins, x, hst, rfl, hrt⟩ | ⟨hins, x, nm, hst, rfl, hxr, hrt⟩ | ⟨hins, hst, rfl, hrt⟩
      · rw [hins] at hd
        rw [hst]
        exact W.zret hx hb (hr.trans hrt) hn (fun t ht _ => hq t ht) hR.2.1.2.2 hd
      · rw [hins] at hd
        rw [hst]
        exact W.lret hx hb (hr.trans hrt) (fun t ht _ => hq t ht) hR.2.1.2.2 hd
      · rw [hins] at hd
        rw [hst]
        exact W.aret hx hb (hr.trans hrt) (Or.inl ⟨nm, rfl⟩) (by rcases hxr with rfl | ⟨k, rfl⟩; exact Or.inl rfl; exact Or.inr ⟨_, rfl⟩) (fun t ht _ => hq t ht) hR.2.1.2.2 hd
      · rw [hins] at hd
        rw [hst]
        exact W.vret hx hb (hr.trans hrt) (fun t ht _ => hq t ht) hR.2.1.2.2 hd
end XRN
