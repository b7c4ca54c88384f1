section XHP
variable {p : Program} {l : Launch} {e : Env} {R : Room} {s : State} {m : MethodId} {args : Array Value} {below : List Frame} {meth : Method} {c : Code} {H : Heap} {locs : List Loc} {cells slots : Nat} {Q : State → Prop}
variable {cc : ByteArray} {pc : Nat} {ls : Array Slot} {G : XG} {own : String} {h : XH} {rest : List Value}
theorem x_size {g : JFrame} (kk : H.size ≤ s.heap.size + cells → W p l e R s m args below meth c H locs cells slots Q g) : W p l e R s m args below meth c H locs cells slots Q g :=
  fun T hT X => kk (by have h := X.heapSize; rw [hT] at h; exact h) T hT X
theorem xR_up {H1 : Heap} {locs1 : List Loc} (hR : xR G h H locs) {k : Nat} {x : XE} (h2 : 13 ≤ k) (hk : k < h.1) (hP : va_P G.1 vwCl ((xws G h).set (k - 13) (xad G k, xen G x)) H1) (hS : va_S (xA G) (xHs G) H1 locs1) : xR G (xup h k x) H1 locs1 := by
  refine ⟨by rw [← xws_up G h x h2 hk]; exact hP, hS, hR.2.2.1, fun j hj => ?_⟩
  show (if j = k then x else h.2.2 j) = _
  rw [if_neg (by omega)]
  exact hR.2.2.2 j hj
theorem x_addr {H1 : Heap} {q : Nat} {x : va_E} (hP : va_P G.1 vwCl (xws G h ++ [(q, x)]) H1) (hD : va_D (xA G) (xws G h ++ [(q, x)])) (hz : H1.size ≤ (xHs G).size + (h.1 - 13) + 1) : q = (xHs G).size + (h.1 - 13) := by
  have hlast : (xws G h ++ [(q, x)])[h.1 - 13]? = some (q, x) := by
    rw [List.getElem?_append_right (by rw [xws_len]; exact Nat.le_refl _), xws_len, Nat.sub_self]; rfl
  have h1 : q < H1.size := (hP _ _ hlast).lt
  have h2 : (xHs G).size ≤ q := hD.2 _ _ hlast
  rcases Nat.lt_or_ge q ((xHs G).size + (h.1 - 13)) with h3 | h3
  · have hj : (xws G h ++ [(q, x)])[q - (xHs G).size]? = some ((xHs G).size + (q - (xHs G).size), xen G (h.2.2 (q - (xHs G).size + 13))) := by
      rw [List.getElem?_append_left (by rw [xws_len]; omega), xws_get, if_pos (by omega)]
    have := hD.1 _ _ _ _ hj hlast (by show (xHs G).size + (q - (xHs G).size) = q; omega)
    omega
  · omega
theorem xR_new {H1 : Heap} {locs1 : List Loc} (hR : xR G h H locs) {q n : Nat} {x : XE} (hq : q = (xHs G).size + (h.1 - 13)) (hP : va_P G.1 vwCl (xws G h ++ [(q, xen G x)]) H1) (hS : va_S (xA G) (xHs G) H1 locs1) : xR G (xnew h n x) H1 locs1 := by
  subst hq
  refine ⟨by rw [← xws_new G h n x hR.2.2.1]; exact hP, hS, Nat.le_succ_of_le hR.2.2.1, fun j hj => ?_⟩
  show (if j = h.1 then x else h.2.2 j) = _
  rw [if_neg (by have := hR.2.2.1; omega)]
  exact hR.2.2.2 j hj
theorem x_putf (F : xF G p s m args c cc own) (hR : xR G h H locs) {ini : Bool} (hini : ini = true → meth.name = "<init>") {idx : Nat} (hd : decode cc pc = .ok (.putfield idx, 3)) {k b wd : Nat} {v : Value} {q : Nat × List Value}
    (hw : ((xfw own idx q.1 b wd && (!xfin q.1 b || (ini && xown own q.1))) || (xfn own idx q.1 b wd && !xfin q.1 b)) = true) (hq : h.2.2 k = .inl q) (hk : k < h.1) (hk2 : 13 ≤ k) (hb2 : b < q.2.length) (hfit : fits (xty q.1 b) v = true) (hnar : narrow (xty q.1 b) v = v)
    (kk : ∀ (H1 : Heap) (locs1 : List Loc), xR G (xup h k (.inl (q.1, q.2.set b v))) H1 locs1 → W p l e R s m args below meth c H1 locs1 cells slots Q (F0 m (pc + 3) ls rest)) : W p l e R s m args below meth c H locs cells slots Q (F0 m pc ls (xde G v :: .ref (xad G k) :: rest)) := by
  obtain ⟨hx, hb, hown, hts, hK⟩ := F
  have hR0 := hR
  obtain ⟨hP, hS, h2, hX⟩ := hR
  have ha := xws_at (G := G) hk2 hk
  rw [hq] at ha
  have hlen : b < (q.2.map (xde G)).length := by rw [List.length_map]; exact hb2
  have hset : (q.2.map (xde G)).set b (xde G v) = (q.2.set b v).map (xde G) := by rw [List.map_set]
  have hD := xws_D G h
  have kk' : ∀ (H1 : Heap) (locs1 : List Loc), va_P G.1 vwCl ((xws G h).set (k - 13) (xad G k, .inr (q.1, (q.2.map (xde G)).set b (xde G v)))) H1 → va_D (xA G) ((xws G h).set (k - 13) (xad G k, .inr (q.1, (q.2.map (xde G)).set b (xde G v)))) → va_S (xA G) (xHs G) H1 locs1 → W p l e R s m args below meth c H1 locs1 cells slots Q (F0 m (pc + 3) ls rest) := by
    intro H1 locs1 hP1 _ hS1
    rw [hset] at hP1
    exact kk H1 locs1 (xR_up hR0 (x := .inl (q.1, q.2.set b v)) hk2 hk hP1 hS1)
  rw [Bool.or_eq_true, Bool.and_eq_true, Bool.and_eq_true] at hw
  rcases hw with ⟨hw, hf⟩ | ⟨hw, hf⟩
  · obtain ⟨Z, hc, hbn, hdec, hlink⟩ := xfw_spec hw
    obtain ⟨ht, hnm, -, hlay, -, -⟩ := x_cls hc
    by_cases hfin : (Z.2.1 b).2.2.2 = true
    · have hf2 : (ini && xown own q.1) = true := by
        rcases Bool.or_eq_true _ _ ▸ hf with z | z
        · simp [xfin, hc, hfin] at z
        · exact z
      rw [Bool.and_eq_true] at hf2
      have hZ : Z.1 = own := by
        have z := hf2.2
        simp only [xown, hc, decide_eq_true_eq] at z
        exact z
      exact va_putF hx hb (Ts := xtw) hts hlay (xty q.1) ht hnm hown hK.1 hP hD hS (k - 13) ha hc b hbn (ref := Z.1) (hts _ hlink) (fun x hx => by rw [hdec] at hx; exact hx) hfin (hini hf2.1) (hdec.trans hZ) (ht b hbn) (xde_nar G _ v hnar) ((xde_fits G _ v).trans hfit) hlen hd kk'
    · exact va_put hx hb (Ts := xtw) hts hlay (xty q.1) ht hnm hown hK.1 hP hD hS (k - 13) ha hc b hbn (ref := Z.1) (hts _ hlink) (fun x hx => by rw [hdec] at hx; exact hx) (by simpa using hfin) (ht b hbn) (xde_nar G _ v hnar) ((xde_fits G _ v).trans hfit) hlen hd kk'
  · obtain ⟨Z, hc, hbn, hdec, hlink⟩ := xfn_spec hw
    obtain ⟨ht, hnm, -, hlay, -, -⟩ := x_cls hc
    have hfin : (Z.2.1 b).2.2.2 = false := by simpa [xfin, hc] using hf
    exact va_putN hx hb (Ts := xtw) hts hlay (xty q.1) ht hnm hown hK.1 hP hD hS (k - 13) ha hc b hbn (ref := Z.1) (va_Nw.use rfl (hK.2.2.2.2.2 _ hlink)) (fun x hx => by rw [hdec] at hx; exact hx) hfin (ht b hbn) (xde_nar G _ v hnar) ((xde_fits G _ v).trans hfit) hlen hd kk'
theorem x_ac_eq {cA : ClassId} {ty : FieldType} {i : Nat} {cB : ClassId} {t1 t2 : List (ClassId × FieldType)} (h1 : va_K G.1 vwCl t1 s) (h2 : va_K G.1 vwCl (t2 ++ [(cA, ty)]) s) (hi : t1[i]? = some (cB, ty)) : cA = cB := by
  have a := (h1.2 i _ hi).2
  have b := (h2.2 t2.length (cA, ty) (by rw [List.getElem?_append_right (Nat.le_refl _), Nat.sub_self]; rfl)).2
  cases ty with
  | object C =>
    obtain ⟨_, _, -, -, -, ha⟩ := a
    obtain ⟨_, _, -, -, -, hb⟩ := b
    exact Option.some.inj (hb.symm.trans ha)
  | _ => exact Option.some.inj (Eq.trans (Eq.symm b) a)
/-- a step that changes the heap; b1, b2: what was there when the method began -/
theorem xhp_sound (F : xF G p s m args c cc own) (hR : xR G h H locs) (hls : c.maxLocals = ls.size) (hRm : 1 ≤ R.frames ∧ 30 ≤ R.locals) {b1 b2 : Nat} (hb0 : 13 ≤ b1 ∧ b1 ≤ h.1 ∧ b2 ≤ h.2.1) (hbase : s.heap.size = (xHs G).size + (b1 - 13)) {ini : Bool} (hini : ini = true → meth.name = "<init>") {ins : Instr} {len a b wd : Nat} (hd : decode cc pc = .ok (ins, xil ins len)) (hw : xrw own ini (pc, ins, len, a, b, wd) = true)
    {st : List Value} {o : Nat × List Value × XH} (hs : xhp ins a b st h = some o) (hroom : o.2.2.1 - b1 ≤ R.cells ∧ o.2.2.2.1 - b2 ≤ R.slots)
    (kk : ∀ H1 locs1, xR G o.2.2 H1 locs1 → W p l e R s m args below meth c H1 locs1 (o.2.2.1 - b1) (o.2.2.2.1 - b2) Q (F0 m (pc + o.1) ls (o.2.1.map (xde G)))) : W p l e R s m args below meth c H locs (h.1 - b1) (h.2.1 - b2) Q (F0 m pc ls (st.map (xde G))) := by
  have hx := F.1
  have hb := F.2.1
  have hown := F.2.2.1
  have hts := F.2.2.2.1
  have hK := F.2.2.2.2
  have hR0 := hR
  have hD := xws_D G h
  obtain ⟨hP, hS, h2, hX⟩ := hR
  cases ins with
  | putfield idx =>
    simp only [xhp] at hs
    split at hs
    · split at hs
      · rename_i q hq
        split at hs
        · rename_i hc
          obtain ⟨c1, c2, rfl, c4, c5, c6⟩ := hc
          cases hs
          exact x_putf F hR0 hini hd (b := b) hw hq c1 c2 c4 c5 c6 kk
        · cases hs
      · cases hs
    · cases hs
  | iastore =>
    simp only [xhp] at hs
    split at hs
    · split at hs
      · rename_i q hq
        split at hs
        · rename_i hc
          obtain ⟨c1, c2, c3, c4⟩ := hc
          cases hs
          obtain ⟨t, n, f⟩ := q
          dsimp only at c3
          subst c3
          have ha := xws_at (G := G) c2 c1
          rw [hq] at ha
          exact va_iast hx hb hK.1 hP hD hS _ 0 ha rfl c4 hd fun H1 locs1 hP1 _ hS1 => kk H1 locs1 (xR_up hR0 (x := .inr (.inl (0, n, _))) c2 c1 hP1 hS1)
        · cases hs
      · cases hs
    · cases hs
  | bastore =>
    simp only [xhp] at hs
    split at hs
    · split at hs
      · rename_i q hq
        split at hs
        · rename_i hc
          obtain ⟨c1, c2, c3, c4⟩ := hc
          cases hs
          obtain ⟨t, n, f⟩ := q
          dsimp only at c3
          subst c3
          have ha := xws_at (G := G) c2 c1
          rw [hq] at ha
          exact va_zast hx hb hK.1 hP hD hS _ 1 ha rfl c4 hd fun H1 locs1 hP1 _ hS1 => kk H1 locs1 (xR_up hR0 (x := .inr (.inl (1, n, _))) c2 c1 hP1 hS1)
        · cases hs
      · cases hs
    · cases hs
  | aastore =>
    simp only [xhp] at hs
    split at hs
    · split at hs
      · rename_i v i k r _ _ q o1 hq ho
        split at hs
        · rename_i hc
          obtain ⟨c1, c2, c3, c4, c5, c6⟩ := hc
          cases hs
          obtain ⟨t, n, f⟩ := q
          obtain ⟨ci, vs⟩ := o1
          dsimp only at c5
          have ha := xws_at (G := G) c2 c1
          rw [hq] at ha
          have hv := xws_at (G := G) c4 c3
          rw [ho] at hv
          have hmap : ∀ (i : Nat), (fun j => ((va_up f i (some v)) j).map (xad G)) = va_up (fun j => (f j).map (xad G)) i (some (xad G v)) := fun i => by
            funext j
            unfold va_up
            split <;> rfl
          rcases c5 with ⟨rfl, rfl⟩ | ⟨rfl, rfl⟩
          · exact va_astq hx hb hK.1 hP hD hS _ 2 _ 0 ha rfl hv rfl c6 hd fun H1 locs1 hP1 _ hS1 => kk H1 locs1 (xR_up hR0 (x := .inr (.inr (2, n, _))) c2 c1 (by show va_P _ _ (List.set _ _ (_, .inl (_, _, .inr (.inr (.inr (.inr (fun j => ((va_up f _ (some v)) j).map (xad G)))))))) _; rw [hmap]; exact hP1) hS1)
          · exact va_astq hx hb hK.1 hP hD hS _ 3 _ 1 ha rfl hv rfl c6 hd fun H1 locs1 hP1 _ hS1 => kk H1 locs1 (xR_up hR0 (x := .inr (.inr (3, n, _))) c2 c1 (by show va_P _ _ (List.set _ _ (_, .inl (_, _, .inr (.inr (.inr (.inr (fun j => ((va_up f _ (some v)) j).map (xad G)))))))) _; rw [hmap]; exact hP1) hS1)
        · cases hs
      · cases hs
    · cases hs
  | new idx =>
    simp only [xhp] at hs
    cases hs
    simp only [xrw] at hw
    split at hw
    · rename_i q hq
      obtain ⟨ht, hnm, hnum, hlay, hins, hinit⟩ := x_cls hq
      have e1 : (xnew h (xnum a) (.inl (a, xdef a))).1 - b1 = h.1 - b1 + 1 := by show h.1 + 1 - b1 = _; omega
      have e2 : (xnew h (xnum a) (.inl (a, xdef a))).2.1 - b2 = h.2.1 - b2 + q.2.2 := by show h.2.1 + xnum a - b2 = _; rw [hnum]; omega
      rw [e1, e2] at hroom
      refine va_new (fs := (xdef a).map (xde G)) hx hb (Ts := xtw) hts hlay (xty a) ht hown (hts _ (xw_in (of_decide_eq_true hw) rfl)) (hts _ hins) (hts _ hinit) hK.1 hP hD hS (fun q hq => hq) hq (fun j hj => ?_) hroom.1 hroom.2 hd fun q1 H1 hP1 hD1 hS1 => ?_
      · rw [hnum] at hj
        simp only [vp_V, xdef, List.map_map, List.getD_eq_getElem?_getD, List.getElem?_map, List.getElem?_range hj, Option.map_some, Option.getD_some, Function.comp]
        generalize xty a j = ty
        cases ty <;> rfl
      · refine x_size fun hz => ?_
        have hq1 := x_addr hP1 hD1 (by rw [hbase] at hz; omega)
        have k1 := kk H1 locs (xR_new hR0 (n := xnum a) (x := .inl (a, xdef a)) hq1 hP1 hS1)
        rw [e1, e2] at k1
        have e3 : q1 = xad G h.1 := by rw [xad_hi h2]; exact hq1
        rw [e3]
        exact k1
    · cases hw
  | newarray ty =>
    simp only [xhp] at hs
    split at hs
    · split at hs
      · rename_i n r hc
        cases hs
        have e1 : (xnew h n.toNatClampNeg (.inr (.inl (b, n.toNatClampNeg, fun _ => 0)))).1 - b1 = h.1 - b1 + 1 := by show h.1 + 1 - b1 = _; omega
        have e2 : (xnew h n.toNatClampNeg (.inr (.inl (b, n.toNatClampNeg, fun _ => 0)))).2.1 - b2 = h.2.1 - b2 + n.toNatClampNeg := by show h.2.1 + n.toNatClampNeg - b2 = _; omega
        have e1 : (xnew h n.toNatClampNeg (.inr (.inl (b, n.toNatClampNeg, fun _ => (0 : Int32))))).1 - b1 = h.1 - b1 + 1 := by show h.1 + 1 - b1 = _; omega
        rw [e1, e2] at hroom
        have fin : ∀ (q1 : Nat) (H1 : Heap), va_P G.1 vwCl (xws G h ++ [(q1, .inl (G.2.1 b, n.toNatClampNeg, .inl (fun _ => 0)))]) H1 → va_D (xA G) (xws G h ++ [(q1, .inl (G.2.1 b, n.toNatClampNeg, .inl (fun _ => 0)))]) → va_S (xA G) (xHs G) H1 locs → W p l e R s m args below meth c H1 locs (h.1 - b1 + 1) (h.2.1 - b2 + n.toNatClampNeg) Q (F0 m (pc + 2) ls (.ref q1 :: r.map (xde G))) := by
          intro q1 H1 hP1 hD1 hS1
          refine x_size fun hz => ?_
          have hq1 := x_addr hP1 hD1 (by rw [hbase] at hz; omega)
          have k1 := kk H1 locs (xR_new hR0 (n := n.toNatClampNeg) (x := .inr (.inl (b, n.toNatClampNeg, fun _ => 0))) hq1 hP1 hS1)
          rw [e1, e2] at k1
          have e3 : q1 = xad G h.1 := by rw [xad_hi h2]; exact hq1
          rw [e3]
          exact k1
        simp only [xrw, Bool.or_eq_true, Bool.and_eq_true, decide_eq_true_eq] at hw
        rcases hw with ⟨rfl, rfl⟩ | ⟨rfl, rfl⟩
        · refine va_newa (atype := .int) (ty := .int) (a0 := (n.toNatClampNeg, .inl (fun _ => 0))) hx hb (hts _ x_ac_int) rfl hK.1 hP hD hS (fun q hq => hq) (fun cA => rfl) hc.1 rfl (by show _ * 4 ≤ _; omega) hroom.1 hroom.2 hd fun q1 cA H1 hK1 hP1 hD1 hS1 => ?_
          have := x_ac_eq hK.1 hK1 (i := 0) rfl
          subst this
          exact fin q1 H1 hP1 hD1 hS1
        · refine va_newa (atype := .boolean) (ty := .boolean) (a0 := (n.toNatClampNeg, .inl (fun _ => 0))) hx hb (hts _ x_ac_boolean) rfl hK.1 hP hD hS (fun q hq => hq) (fun cA => rfl) hc.1 rfl (by show _ * 1 ≤ _; omega) hroom.1 hroom.2 hd fun q1 cA H1 hK1 hP1 hD1 hS1 => ?_
          have := x_ac_eq hK.1 hK1 (i := 1) rfl
          subst this
          exact fin q1 H1 hP1 hD1 hS1
      · cases hs
    · cases hs
  | anewarray idx =>
    simp only [xhp] at hs
    split at hs
    · split at hs
      · rename_i n r hc
        cases hs
        have e1 : (xnew h n.toNatClampNeg (.inr (.inr (b, n.toNatClampNeg, fun _ => none)))).1 - b1 = h.1 - b1 + 1 := by show h.1 + 1 - b1 = _; omega
        have e2 : (xnew h n.toNatClampNeg (.inr (.inr (b, n.toNatClampNeg, fun _ => none)))).2.1 - b2 = h.2.1 - b2 + n.toNatClampNeg := by show h.2.1 + n.toNatClampNeg - b2 = _; omega
        rw [e1, e2] at hroom
        have fin : ∀ (q1 : Nat) (H1 : Heap), va_P G.1 vwCl (xws G h ++ [(q1, .inl (G.2.1 b, n.toNatClampNeg, .inr (.inr (.inr (.inr (fun _ => none))))))]) H1 → va_D (xA G) (xws G h ++ [(q1, .inl (G.2.1 b, n.toNatClampNeg, .inr (.inr (.inr (.inr (fun _ => none))))))]) → va_S (xA G) (xHs G) H1 locs → W p l e R s m args below meth c H1 locs (h.1 - b1 + 1) (h.2.1 - b2 + n.toNatClampNeg) Q (F0 m (pc + 3) ls (.ref q1 :: r.map (xde G))) := by
          intro q1 H1 hP1 hD1 hS1
          refine x_size fun hz => ?_
          have hq1 := x_addr hP1 hD1 (by rw [hbase] at hz; omega)
          have k1 := kk H1 locs (xR_new hR0 (n := n.toNatClampNeg) (x := .inr (.inr (b, n.toNatClampNeg, fun _ => none))) hq1 hP1 hS1)
          rw [e1, e2] at k1
          have e3 : q1 = xad G h.1 := by rw [xad_hi h2]; exact hq1
          rw [e3]
          exact k1
        simp only [xrw, Bool.or_eq_true, Bool.and_eq_true, decide_eq_true_eq] at hw
        rcases hw with ⟨rfl, hw⟩ | ⟨rfl, hw⟩
        · refine va_newq (C := RX0) hx hb hown (hts _ (xw_in hw rfl)) hK.2.2.2.1 hK.1 hP hD hS (fun q hq => hq) hc.1 rfl (by omega) hroom.1 hroom.2 hd fun q1 cA H1 hK1 hP1 hD1 hS1 => ?_
          have := x_ac_eq hK.1 hK1 (i := 2) rfl
          subst this
          exact fin q1 H1 hP1 hD1 hS1
        · refine va_newq (C := RX1) hx hb hown (hts _ (xw_in hw rfl)) hK.2.2.2.2.1 hK.1 hP hD hS (fun q hq => hq) hc.1 rfl (by omega) hroom.1 hroom.2 hd fun q1 cA H1 hK1 hP1 hD1 hS1 => ?_
          have := x_ac_eq hK.1 hK1 (i := 3) rfl
          subst this
          exact fin q1 H1 hP1 hD1 hS1
      · cases hs
    · cases hs
  | invokestatic idx =>
    simp only [xhp] at hs
    split at hs
    · rename_i ha0
      split at hs
      · split at hs
        · rename_i n dp k sp j r _ _ q o1 hq ho
          split at hs
          · rename_i hc
            obtain ⟨c1, c2, c3, c4, c5, c6, c7, c8, c9, c10, c11, c12⟩ := hc
            cases hs
            simp only [xrw, if_pos ha0, decide_eq_true_eq] at hw
            obtain ⟨t, n1, f⟩ := q
            obtain ⟨t2, n2, g⟩ := o1
            dsimp only at c5 c6
            subst c5
            subst c6
            have hq1 := xws_at (G := G) c2 c1
            rw [hq] at hq1
            have ho1 := xws_at (G := G) c4 c3
            rw [ho] at ho1
            refine va_copyi hx hb hls hown (hts _ (xw_in hw rfl)) (hts _ x_an) (hts _ x_as) (hts _ x_ai) hK.1 hP hD hS _ _ 0 0 ho1 hq1 rfl rfl rfl c7 c8 c9 c10 c11 (fun _ _ => rfl) hRm.1 ?_ hd fun H1 locs1 hP1 _ hS1 => kk H1 locs1 (xR_up hR0 (x := .inr (.inl (0, n1, _))) c2 c1 hP1 hS1)
            rw [xcats]
            have hn : nativeFrameWords "java/lang/System" "arraycopy" 5 + 11 ≤ 22 := by decide +kernel
            omega
          · cases hs
        · cases hs
      · cases hs
    · rename_i hz
      split at hs
      · rename_i ha0
        split at hs
        · split at hs
          · rename_i hc
            cases hs
            simp only [xrw, if_neg hz, if_pos ha0, decide_eq_true_eq] at hw
            exact va_mmin hx hb hls hown (hts _ (xw_in hw rfl)) (hts _ x_ms) (hts _ x_mi) (hts _ x_mc) hRm.1 (by rw [xcats]; omega) hroom.1 hroom.2 hd (kk H locs hR0)
          · cases hs
        · cases hs
      · cases hs
  | _ => simp [xhp] at hs
end XHP
