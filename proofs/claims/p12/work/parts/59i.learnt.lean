/-! a course learnt keeps the invariant, and says the lives that are -/
abbrev ws32 : AWr := [(58, 0, 0), (58, 7, 11), (59, 0, 40), (60, 0, 40), (61, 0, 40), (62, 0, 13), (63, 0, 13), (64, 0, 13)]
theorem ints_inv {h : XH} {z n : Nat} {f : Nat → Int32} (hf : h.2.2 z = .inr (.inl (0, n, f))) : shp (1, 0, n, [], [(n, -2147483648, 2147483647)]) (h.2.2 z) ∧ ∀ b a, shA (1, 0, n, [], [(n, -2147483648, 2147483647)]) b = some a → ∃ v, rd h z b = some v ∧ ga w_W a v := by
  refine ⟨by rw [hf]; exact ⟨rfl, rfl⟩, fun b a hb => ?_⟩
  by_cases hbn : b < n
  · rw [shA8 hbn] at hb
    cases hb
    exact ⟨_, rd_ints hf hbn, ga_of rfl (gi_T _)⟩
  · unfold shA at hb
    dsimp only at hb
    rw [if_neg hbn] at hb
    cases hb
theorem w_ga58 {b r j : Nat} (hj : w_rg j = r) (hj2 : j < 549) : ga w_W (avR r) (.ref j) := by
  have q : ∃ i : Nat, Value.ref j = .ref i ∧ w_W.1 i = r ∧ i < w_W.2.2.2.1 := ⟨j, rfl, (w_W1 j).trans hj, hj2⟩
  exact q
theorem gaT (x : Int32) : ga w_W avT (.int x) := ga_of rfl (gi_T x)
theorem crs_fld {h : XH} {b : Nat} {i lt ld : Int32} {x : CX} (r : CR h b i lt ld x) (s : Nat) : rd h b s = (coF b i lt ld x.1.1 x.1.2.1 x.1.2.2)[s]? := rd_fld r.1
theorem co_inv {h h1 : XH} (hI : AInv w_W h) {k : Nat} (hk : k < 64) (o : CBo (88 + 7 * k) h h1) {i lt ld : Int32} {x : CX} {al we de : Nat → Int32} (hi : 0 ≤ i.toInt ∧ i.toInt ≤ 1) (r : CR h1 (88 + 7 * k) i lt ld x) (a : CA h1 (88 + 7 * k) al we de) : AInv w_W h1 := by
  refine ⟨o.1.trans hI.1, o.2.1.trans hI.2.1, fun z hz => ?_⟩
  by_cases hb : 88 + 7 * k ≤ z ∧ z ≤ 88 + 7 * k + 6
  · obtain ⟨j, hj, rfl⟩ : ∃ j, j < 7 ∧ z = 88 + 7 * k + j := ⟨z - (88 + 7 * k), by omega, by omega⟩
    rw [w_Sg, w_rg_co hk hj]
    obtain ⟨r0, r4, r5, r6⟩ := id r
    obtain ⟨a1, a2, a3⟩ := a
    match j, hj with
    | 0, _ =>
      refine ⟨?_, fun s t hs => ?_⟩
      · show shp w_s58 (h1.2.2 (88 + 7 * k))
        rw [r0]
        exact ⟨rfl, rfl⟩
      · show ∃ v, rd h1 (88 + 7 * k) s = some v ∧ _
        rw [crs_fld r]
        have hs : w_s58.2.2.2.1[s]? = some t := hs
        match s, hs with
        | 0, hs => cases hs; exact ⟨_, rfl, ga_of rfl hi⟩
        | 1, hs => cases hs; exact ⟨_, rfl, w_ga58 (b := 0) (w_rg_co (j := 1) hk (by decide)) (by omega)⟩
        | 2, hs => cases hs; exact ⟨_, rfl, w_ga58 (b := 0) (w_rg_co (j := 2) hk (by decide)) (by omega)⟩
        | 3, hs => cases hs; exact ⟨_, rfl, w_ga58 (b := 0) (w_rg_co (j := 3) hk (by decide)) (by omega)⟩
        | 4, hs => cases hs; exact ⟨_, rfl, w_ga58 (b := 0) (w_rg_co (j := 4) hk (by decide)) (by omega)⟩
        | 5, hs => cases hs; exact ⟨_, rfl, w_ga58 (b := 0) (w_rg_co (j := 5) hk (by decide)) (by omega)⟩
        | 6, hs => cases hs; exact ⟨_, rfl, w_ga58 (b := 0) (w_rg_co (j := 6) hk (by decide)) (by omega)⟩
        | 7, hs => cases hs; exact ⟨_, rfl, gaT _⟩
        | 8, hs => cases hs; exact ⟨_, rfl, gaT _⟩
        | 9, hs => cases hs; exact ⟨_, rfl, gaT _⟩
        | 10, hs => cases hs; exact ⟨_, rfl, gaT _⟩
        | 11, hs => cases hs; exact ⟨_, rfl, gaT _⟩
        | s + 12, hs => cases hs
    | 1, _ => exact ints_inv a1
    | 2, _ => exact ints_inv a2
    | 3, _ => exact ints_inv a3
    | 4, _ => exact ints_inv r4
    | 5, _ => exact ints_inv r5
    | 6, _ => exact ints_inv r6
    | j + 7, hj => exact absurd hj (by omega)
  · obtain ⟨s1, s2⟩ := hI.2.2 z hz
    have e := o.2.2 z hb
    refine ⟨by rw [e]; exact s1, fun s t hs => ?_⟩
    rw [rd_same e]
    exact s2 s t hs
theorem rd_none {h : XH} {z n : Nat} {f : Nat → Int32} (hf : h.2.2 z = .inr (.inl (0, n, f))) {s : Nat} (hs : ¬ s < n) : rd h z s = none := by
  unfold rd
  rw [hf]
  exact if_neg hs
theorem co_fr {h h1 : XH} {k : Nat} (hk : k < 64) (o : CBo (88 + 7 * k) h h1) {i lt ld i1 lt1 ld1 : Int32} {x x1 : CX} {al we de al1 we1 de1 : Nat → Int32} (r : CR h (88 + 7 * k) i lt ld x) (a : CA h (88 + 7 * k) al we de) (r1 : CR h1 (88 + 7 * k) i1 lt1 ld1 x1) (a1 : CA h1 (88 + 7 * k) al1 we1 de1) : AFr w_W ws32 h h1 := fun z s hz hs => by
  by_cases hb : 88 + 7 * k ≤ z ∧ z ≤ 88 + 7 * k + 6
  · obtain ⟨j, hj, rfl⟩ : ∃ j, j < 7 ∧ z = 88 + 7 * k + j := ⟨z - (88 + 7 * k), by omega, by omega⟩
    have er : w_W.1 (88 + 7 * k + j) = 58 + j := (w_W1 _).trans (w_rg_co hk hj)
    rw [er] at hs
    obtain ⟨q0, q4, q5, q6⟩ := id r
    obtain ⟨p0, p4, p5, p6⟩ := id r1
    match j, hj, hs with
    | 0, _, hs =>
      show rd h1 (88 + 7 * k) s = rd h (88 + 7 * k) s
      rw [crs_fld r, crs_fld r1]
      match s, hs with
      | 0, hs => exact absurd ⟨rfl, by decide, by decide⟩ (hs (58, 0, 0) (by decide))
      | 1, _ => rfl
      | 2, _ => rfl
      | 3, _ => rfl
      | 4, _ => rfl
      | 5, _ => rfl
      | 6, _ => rfl
      | 7, hs => exact absurd ⟨rfl, by decide, by decide⟩ (hs (58, 7, 11) (by decide))
      | 8, hs => exact absurd ⟨rfl, by decide, by decide⟩ (hs (58, 7, 11) (by decide))
      | 9, hs => exact absurd ⟨rfl, by decide, by decide⟩ (hs (58, 7, 11) (by decide))
      | 10, hs => exact absurd ⟨rfl, by decide, by decide⟩ (hs (58, 7, 11) (by decide))
      | 11, hs => exact absurd ⟨rfl, by decide, by decide⟩ (hs (58, 7, 11) (by decide))
      | s + 12, _ => rfl
    | 1, _, hs => 
      have e : ¬ s < 41 := fun z => hs (59, 0, 40) (by decide) ⟨rfl, by show (0 : Int) ≤ s; omega, by show (s : Int) ≤ 40; omega⟩
      exact (rd_none a1.1 e).trans (rd_none a.1 e).symm
    | 2, _, hs => 
      have e : ¬ s < 41 := fun z => hs (60, 0, 40) (by decide) ⟨rfl, by show (0 : Int) ≤ s; omega, by show (s : Int) ≤ 40; omega⟩
      exact (rd_none a1.2.1 e).trans (rd_none a.2.1 e).symm
    | 3, _, hs => 
      have e : ¬ s < 41 := fun z => hs (61, 0, 40) (by decide) ⟨rfl, by show (0 : Int) ≤ s; omega, by show (s : Int) ≤ 40; omega⟩
      exact (rd_none a1.2.2 e).trans (rd_none a.2.2 e).symm
    | 4, _, hs => 
      have e : ¬ s < 14 := fun z => hs (62, 0, 13) (by decide) ⟨rfl, by show (0 : Int) ≤ s; omega, by show (s : Int) ≤ 13; omega⟩
      exact (rd_none p4 e).trans (rd_none q4 e).symm
    | 5, _, hs => 
      have e : ¬ s < 14 := fun z => hs (63, 0, 13) (by decide) ⟨rfl, by show (0 : Int) ≤ s; omega, by show (s : Int) ≤ 13; omega⟩
      exact (rd_none p5 e).trans (rd_none q5 e).symm
    | 6, _, hs => 
      have e : ¬ s < 14 := fun z => hs (64, 0, 13) (by decide) ⟨rfl, by show (0 : Int) ≤ s; omega, by show (s : Int) ≤ 13; omega⟩
      exact (rd_none p6 e).trans (rd_none q6 e).symm
    | j + 7, hj, _ => exact absurd hj (by omega)
  · exact rd_same (o.2.2 z hb) s
theorem vw_same {h h1 : XH} {z : Nat} (e : h1.2.2 z = h.2.2 z) (s : Nat) : vw w_W h1 z s = vw w_W h z s := by
  unfold vw
  rw [rd_same e]
theorem LKv.congr {v u : XV} {n m : Nat} {f ag : Nat → Int32} {L : LV} {b : Nat} (h : LKv v n m f ag L b) (e : ∀ z s, b ≤ z → z ≤ b + 6 → u z s = v z s) : LKv u n m f ag L b := by
  unfold LKv at h ⊢
  simp only [e (b + 1) _ (by omega) (by omega), e (b + 2) _ (by omega) (by omega), e (b + 3) _ (by omega) (by omega), e (b + 4) _ (by omega) (by omega), e (b + 5) _ (by omega) (by omega), e (b + 6) _ (by omega) (by omega), e b _ (by omega) (by omega)]
  exact h
theorem WFv.congr {v u : XV} {f ag : Nat → Int32} {n m : Nat} (h : WFv u f ag n m) (e : ∀ z s, 14 ≤ z → z ≤ 19 → u z s = v z s) : WFv v f ag n m := by
  unfold WFv at h ⊢
  simp only [e 14 _ (by omega) (by omega), e 15 _ (by omega) (by omega), e 16 _ (by omega) (by omega), e 17 _ (by omega) (by omega), e 18 _ (by omega) (by omega), e 19 _ (by omega) (by omega)] at h
  exact h
/-- what a course says that was learnt -/
theorem lk_of {h h1 : XH} {k : Nat} (hk : k < 64) {fw : List Value} {n m : Nat} {ag pa ki wh ye : Nat → Int32} (hw : WK h fw n m ag pa ki wh ye) (hn0 : n ≤ 8) (hm0 : m ≤ 6) (o : CBo (88 + 7 * k) h h1) {set : Int32} {x0 : CX} {al we de : Nat → Int32} (hs : (set &&& c63).toNatClampNeg = k)
    (r : CR h1 (88 + 7 * k) (Int32.ofInt 1) (flR (coY ki wh ye set m 41 x0).2.2.1 n).1 (flR (coY ki wh ye set m 41 x0).2.2.1 n).2 (coY ki wh ye set m 41 x0)) (a : CA h1 (88 + 7 * k) al we de) (ht : ∀ t, t < 41 → (al t, we t, de t) = (coY ki wh ye set m (t + 1) x0).1)
    (e1 : x0.1 = ((Int32.ofInt 1 <<< (nI n &&& 31)) - Int32.ofInt 1, Int32.ofInt 0, Int32.ofInt 0)) (e2 : ∀ j, j < 14 → x0.2.1 j = if j < n then - ag j else c1000) (e3 : ∀ j, j < 14 → x0.2.2.1 j = c1000) (e4 : ∀ p, p < 14 → ∀ t, t < 32 → (lvB (x0.2.2.2 p) t ↔ t < n ∧ pa t = nI p))
    {n' m' : Nat} {f ag' : Nat → Int32} (hW : WFv (vw w_W h1) f ag' n' m') : LKv (vw w_W h1) n' m' f ag' (lvOf f n' m' (nI k)) (88 + 7 * k) := by
  have wK := hw.cb (by omega) o
  obtain ⟨-, k14, ⟨f0, -, -, f3, -⟩, k15, k16, k17, k18, k19⟩ := wK
  obtain ⟨⟨hn, hm⟩, w0, w3, w7, wa, hf, hy⟩ := hW
  rw [vw_14 (Or.inl rfl), rd_fld k14, f0] at w0
  rw [vw_14 (Or.inr rfl), rd_fld k14, f3] at w3
  have en := nI_inj (by omega) (by omega) (int_inj w0)
  have em := nI_inj (by omega) (by omega) (int_inj w3)
  subst en
  subst em
  have e7 : ∀ j, j < m → ki j = f (110 + j) := fun j hj => by
    have := (w7 j hj).1
    rw [vw_wo (by decide) (by decide), rd_ints k17 (by omega)] at this
    exact int_inj this
  have e8 : ∀ j, j < m → wh j = f (116 + j) := fun j hj => by
    have := (w7 j hj).2.1
    rw [vw_wo (by decide) (by decide), rd_ints k18 (by omega)] at this
    exact int_inj this
  have e9 : ∀ j, j < m → ye j = f (122 + j) := fun j hj => by
    have := (w7 j hj).2.2
    rw [vw_wo (by decide) (by decide), rd_ints k19 (by omega)] at this
    exact int_inj this
  have ea : ∀ j, j < n → ag j = ag' j := fun j hj => by
    have := (wa j hj).1
    rw [vw_wo (by decide) (by decide), rd_ints k15 (by omega)] at this
    exact int_inj this
  have epa : ∀ j, j < n → pa j = f (100 + j) := fun j hj => by
    have := (wa j hj).2
    rw [vw_wo (by decide) (by decide), rd_ints k16 (by omega)] at this
    exact int_inj this
  have k2 := k2_y hn hm hf hy e7 e8 e9 set (sim_0 hn e1 e2 e3) (fut_0 hn) (k2_0 (m := m) hn e1 e4 epa)
  obtain ⟨⟨s1, s2, s3, s4, s5, b1, b2, b3, b4, s0⟩, -⟩ := sim_y hn hm hf hy e7 e8 e9 set (sim_0 hn e1 e2 e3) (fut_0 hn) 40 (by decide)
  have eL : lvOf f n m (nI k) = lvOf f n m set := by
    unfold lvOf
    exact (lvY_set hm (fun j hj => by rw [← hs]; exact lvB_63 hj) 40 _).symm
  rw [eL]
  obtain ⟨r0, r4, r5, r6⟩ := id r
  refine ⟨fun t ht2 => ⟨al t, we t, de t, ?_, ?_, ?_, ?_⟩, fun j hj => ?_, fun j hj => ?_, ⟨?_, ?_⟩, fun j hj => ⟨b1 j hj, b2 j hj, b3 j hj⟩, fun t ht2 => ⟨al t, ?_, fun i i1 i2 => ?_⟩, fun j hj => ⟨(coY ki wh ye set m 41 x0).2.2.2 j, ?_, (k2 40 (by decide)).2 j hj⟩⟩
  · rw [vw_co hk (by decide), rd_ints a.1 (by omega)]
  · rw [vw_co hk (by decide), rd_ints a.2.1 (by omega)]
  · rw [vw_co hk (by decide), rd_ints a.2.2 (by omega)]
  · have q := ht t (by omega)
    have q1 : al t = (coY ki wh ye set m (t + 1) x0).1.1 := congrArg Prod.fst q
    have q2 : we t = (coY ki wh ye set m (t + 1) x0).1.2.1 := congrArg (fun z => z.2.1) q
    have q3 : de t = (coY ki wh ye set m (t + 1) x0).1.2.2 := congrArg (fun z => z.2.2) q
    rw [q1, q2, q3]
    exact course_is hn hm hf hy e7 e8 e9 set e1 e2 e3 ht2
  · rw [vw_co hk (by decide), rd_ints r4 hj, s5 j hj]
    by_cases hj2 : j < n
    · rw [if_pos hj2, if_pos hj2, ea j hj2]
    · rw [if_neg hj2, if_neg hj2]
      rfl
  · rw [vw_co hk (by decide), rd_ints r5 hj, s4 j hj]
    rfl
  · rw [vw_co0 hk, rd_fld r0, flR_eqv (d2 := fun j => if (lvOf f n m set).2.1 j = i99 then c1000 else (lvOf f n m set).2.1 j) (fun j hj => s4 j (by omega))]
    rfl
  · rw [vw_co0 hk, rd_fld r0, flR_eqv (d2 := fun j => if (lvOf f n m set).2.1 j = i99 then c1000 else (lvOf f n m set).2.1 j) (fun j hj => s4 j (by omega))]
    rfl
  · rw [vw_co hk (by decide), rd_ints a.1 (by omega)]
  · rw [show al t = (coY ki wh ye set m (t + 1) x0).1.1 from congrArg Prod.fst (ht t (by omega))]
    exact (k2 t ht2).1 i i1 i2
  · rw [vw_co hk (by decide), rd_ints r6 hj]
