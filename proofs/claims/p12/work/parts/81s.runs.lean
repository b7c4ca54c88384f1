/-! from the relation to a course and a grant at hand -/
section
variable {f : Nat → Int32} {n m : Nat} {s L : LV} {al we de bi ch : Nat → Int32}
theorem alv_e (he : LVe s L) {i t : Nat} (hi : i < 14) : alv s i t = alv L i t := by
  unfold alv
  rw [he.1 i hi, he.2.1 i hi]
/-- a course of these lives is one of those that are the same -/
theorem cfa_e (F : CFa f n m L al we de bi ch) (he : LVe s L) : CFa f n m s al we de bi ch := by
  refine ⟨F.n8, F.m6, fun t ht i hi => ?_, fun t ht i hi => ?_, fun t ht i hi => ?_, fun j hj => ?_, fun j hj i hi => ?_, fun j hj => ?_, F.ag, fun j hj => ?_⟩
  · rw [F.a t ht i hi]
    exact ⟨fun z => ⟨z.1, by rw [alv_e he z.1]; exact z.2⟩, fun z => ⟨z.1, by rw [← alv_e he z.1]; exact z.2⟩⟩
  · rw [F.w t ht i hi, he.2.2.1 i hi]
  · rw [F.d t ht i hi, he.2.2.2 i hi]
  · rw [F.b j hj, he.1 j hj]
  · rw [F.c j hj i hi]
    have m6 := F.m6
    unfold chB
    constructor
    · rintro (z | ⟨z1, z2, z3, z4⟩)
      · exact Or.inl z
      · exact Or.inr ⟨z1, z2, by rw [he.1 i (by omega)]; exact z3, z4⟩
    · rintro (z | ⟨z1, z2, z3, z4⟩)
      · exact Or.inl z
      · exact Or.inr ⟨z1, z2, by rw [← he.1 i (by omega)]; exact z3, z4⟩
  · rw [he.1 j hj]; exact F.v j hj
  · rw [he.1 j (by omega)]; exact F.b8 j hj
/-- there are such rows -/
theorem cfa_can (n8 : n ≤ 8) (m6 : m ≤ 6) (hv : ∀ j, j < 14 → lvIn 40 (L.1 j)) (ag : ∀ j, j < n → 0 ≤ (f (90 + j)).toInt ∧ (f (90 + j)).toInt ≤ 90) (b8 : ∀ j, j < 8 → L.1 j = if j < n then Int32.ofInt 0 else i99) : ∃ al we de bi ch : Nat → Int32, CFa f n m L al we de bi ch := by
  refine ⟨fun t => bset (fun i => alv L i t) 14, fun t => bset (fun i => decide ((L.2.2.1 i).toInt ≤ (t : Int))) 14, fun t => bset (fun i => decide ((L.2.2.2 i).toInt ≤ (t : Int))) 4, fun j => if j < n then - f (90 + j) else if L.1 j = i99 then c1000 else L.1 j, fun j => bset (fun i => @decide (chB n m f L j i) (Classical.propDecidable _)) 14, n8, m6, fun t ht i hi => ?_, fun t ht i hi => ?_, fun t ht i hi => ?_, fun j hj => rfl, fun j hj i hi => ?_, hv, ag, b8⟩
  · exact bset_bit 14 i (by decide) hi
  · rw [bset_bit 14 i (by decide) (by omega), decide_eq_true_iff]
    exact ⟨fun z => z.2, fun z => ⟨hi, z⟩⟩
  · rw [bset_bit 4 i (by decide) (by omega), decide_eq_true_iff]
    exact ⟨fun z => z.2, fun z => ⟨hi, z⟩⟩
  · rw [bset_bit 14 i (by decide) hi, @decide_eq_true_iff _ (Classical.propDecidable _)]
    refine ⟨fun z => z.2, fun z => ⟨?_, z⟩⟩
    unfold chB at z
    rcases z with z | z <;> omega
theorem lvC_in {k : Nat} (hy : 1 ≤ (f (122 + k)).toInt ∧ (f (122 + k)).toInt ≤ 40) (h : ∀ j, j < 14 → lvIn 40 (s.1 j)) : ∀ j, j < 14 → lvIn 40 ((lvC f k s).1 j) := fun j hj => by
  unfold lvC
  split
  · exact h j hj
  · split
    · exact h j hj
    · split
      · exact upd_all h (Or.inr ⟨by omega, by omega⟩) j hj
      · split <;> exact h j hj
theorem lvOf_in (n8 : n ≤ 8) (hy : yrOK f m) (set : Int32) : ∀ j, j < 14 → lvIn 40 ((lvOf f n m set).1 j) := by
  have hM : ∀ (y k : Nat) (s : LV), k ≤ m → (∀ j, j < 14 → lvIn 40 (s.1 j)) → ∀ j, j < 14 → lvIn 40 ((lvM f set y k s).1 j) := by
    intro y k
    induction k with
    | zero => exact fun s _ h => h
    | succ k ih =>
      intro s hk h
      unfold lvM
      split
      · exact lvC_in (hy k (by omega)) (ih s (by omega) h)
      · exact ih s (by omega) h
  have hY : ∀ y, ∀ j, j < 14 → lvIn 40 ((lvY f set m y (lv0 n)).1 j) := by
    intro y
    induction y with
    | zero =>
      intro j hj
      show lvIn 40 (if j < n then Int32.ofInt 0 else i99)
      split
      · exact Or.inr (by decide)
      · exact Or.inl rfl
    | succ y ih => exact hM (y + 1) m _ (Nat.le_refl m) ih
  exact hY 40
end
/-- how a grant goes in a course, told of the row alone -/
def goX (f : Nat → Int32) (n m : Nat) (co : Int32) (g nc y : Nat) : GS := goY f n m (lvOf f n m co) g nc (fun _ => m5) y
def hsX (f : Nat → Int32) (n m : Nat) (co : Int32) (g nc j : Nat) : Int32 := hsS f (lvOf f n m co) g j (goX f n m co g nc (j + 1))
def hcX (f : Nat → Int32) (n m : Nat) (co : Int32) (g nc j : Nat) : Int32 := hcS (goX f n m co g nc (j + 1))
def bgX (f : Nat → Int32) (n m : Nat) (co : Int32) (g nc j : Nat) : Int32 := (goX f n m co g nc 41).2.2.2.2 j
/-- what a row's world must keep -/
abbrev RW (f : Nat → Int32) (n m : Nat) : Prop :=
  (n ≤ 8) ∧
  (m ≤ 6) ∧
  (f 0 = nI n) ∧
  (f 1 = nI m) ∧
  (mbOK f m) ∧
  (yrOK f m) ∧
  (∀ j, j < n → 0 ≤ (f (90 + j)).toInt ∧ (f (90 + j)).toInt ≤ 90)
theorem RW.n8 {f : Nat → Int32} {n m : Nat} (u : RW f n m) : n ≤ 8 := u.1
theorem RW.m6 {f : Nat → Int32} {n m : Nat} (u : RW f n m) : m ≤ 6 := u.2.1
theorem RW.f0 {f : Nat → Int32} {n m : Nat} (u : RW f n m) : f 0 = nI n := u.2.2.1
theorem RW.f1 {f : Nat → Int32} {n m : Nat} (u : RW f n m) : f 1 = nI m := u.2.2.2.1
theorem RW.mb {f : Nat → Int32} {n m : Nat} (u : RW f n m) : mbOK f m := u.2.2.2.2.1
theorem RW.yr {f : Nat → Int32} {n m : Nat} (u : RW f n m) : yrOK f m := u.2.2.2.2.2.1
theorem RW.ag {f : Nat → Int32} {n m : Nat} (u : RW f n m) : ∀ j, j < n → 0 ≤ (f (90 + j)).toInt ∧ (f (90 + j)).toInt ≤ 90 := u.2.2.2.2.2.2
section
variable {f : Nat → Int32} {n m : Nat} {al we de bi ch Lt Nt : Nat → Int32} {g nc : Nat} {co : Int32}
theorem rs_go_at {s : LV} (F : CFa f n m s al we de bi ch) (hnc : nc ≤ 6) (hn0 : 0 < nc) (hC : ∀ c, c < nc → CLR f (atC g c) Lt Nt c) {b0 b1 : Nat → Int32} (hb : ∀ j, j < 6 → b1 j = b0 j) (y z : Nat) (hz : z = y + 1) (hy : y ≤ 40) : RY f s al g nc y (goY f n m s g nc b0 z) (goC Lt Nt al we de bi ch nc b1 z) := by
  subst hz
  exact rs_go F hnc hn0 hC hb y hy
/-- the class's run is so -/
theorem cls_go (F : CFa f n m (lvOf f n m co) al we de bi ch) (hnc : nc ≤ 6) (hn0 : 0 < nc) (hC : CI f g Lt Nt nc) {b1 ho cl : Nat → Int32} (hb : ∀ j, j < 6 → b1 j = m5) (hg : GCK Lt Nt al we de bi ch nc b1 ho cl 41) : (∀ j, j < 41 → ho j = hsX f n m co g nc j ∧ cl j = hcX f n m co g nc j) ∧ ∀ j, j < 6 → (goC Lt Nt al we de bi ch nc b1 41).2.2.2.2 j = bgX f n m co g nc j := by
  have q := fun y hy => rs_go F hnc hn0 (g := g) hC (b0 := fun _ => m5) (b1 := b1) hb y hy
  have q41 := rs_go_at F hnc hn0 (g := g) hC (b0 := fun _ => m5) (b1 := b1) hb 40 41 rfl (by decide)
  obtain ⟨⟨-, -, -, q5, -⟩, -⟩ := q41
  refine ⟨fun j hj => ?_, fun j hj => by unfold bgX goX; exact q5 j hj⟩
  obtain ⟨e1, e2⟩ := ry_eq (q j (by omega))
  obtain ⟨a, b⟩ := hg j hj
  exact ⟨a.trans e1, b.trans e2⟩
/-- and the model's -/
theorem mod_go (W : RW f n m) (hnc : nc ≤ 6) (hn0 : 0 < nc) (hC : CI f g Lt Nt nc) {s : LV} (he : LVe s (lvOf f n m co)) {b0 hs hc : Nat → Int32} (hb : ∀ j, j < 6 → b0 j = m5) (hg : GOK f n m s g nc b0 hs hc 41) : (∀ j, j < 41 → hs j = hsX f n m co g nc j ∧ hc j = hcX f n m co g nc j) ∧ ∀ j, j < 6 → (goY f n m s g nc b0 41).2.2.2.2 j = bgX f n m co g nc j := by
  obtain ⟨al, we, de, bi, ch, F⟩ := cfa_can (L := lvOf f n m co) W.n8 W.m6 (lvOf_in W.n8 W.yr co) W.ag (fun j hj => lvOf_b8 hj)
  have q := fun y hy => rs_go F hnc hn0 (g := g) hC (b0 := fun _ => m5) (b1 := fun _ => m5) (fun _ _ => rfl) y hy
  have p := fun y hy => rs_go (cfa_e F he) hnc hn0 (g := g) hC (b0 := b0) (b1 := fun _ => m5) (fun j hj => (hb j hj).symm) y hy
  have q41 := rs_go_at F hnc hn0 (g := g) hC (b0 := fun _ => m5) (b1 := fun _ => m5) (fun _ _ => rfl) 40 41 rfl (by decide)
  have p41 := rs_go_at (cfa_e F he) hnc hn0 (g := g) hC (b0 := b0) (b1 := fun _ => m5) (fun j hj => (hb j hj).symm) 40 41 rfl (by decide)
  obtain ⟨⟨-, -, -, q5, -⟩, -⟩ := q41
  obtain ⟨⟨-, -, -, p5, -⟩, -⟩ := p41
  refine ⟨fun j hj => ?_, fun j hj => by unfold bgX goX; exact (p5 j hj).symm.trans (q5 j hj)⟩
  obtain ⟨e1, e2⟩ := ry_eq (q j (by omega))
  obtain ⟨e3, e4⟩ := ry_eq (p j (by omega))
  obtain ⟨a, b⟩ := hg j hj
  exact ⟨a.trans (e3.symm.trans e1), b.trans (e4.symm.trans e2)⟩
end
/-- the relation, at hand -/
theorem G_base {L : Nat} {xs : Nat → Int32} {h : XH} (hI : INVg L xs h) : ∃ (f : Nat → Int32) (n m G : Nat), h.2.2 537 = .inr (.inl (0, 490, f)) ∧ RW f n m ∧ WFv (vw w_W h) f (fun i => f (90 + i)) n m ∧ (G ≤ 6 ∧ f 2 = nI G ∧ rd h 14 7 = some (.int (nI G))) ∧ ∀ g, g < G → GA h (24 + 3 * g) f g := by
  obtain ⟨n, m, ms, f, hW, hK, g0, g1, hag⟩ := wf_of hI.1
  obtain ⟨G, T, ⟨hG, hT⟩, ⟨w7, f2⟩, -, -, hg⟩ := hI.2.1.f fun j hj => rd_row hK.2.2.1 hj
  exact ⟨f, n, m, G, hK.2.2.1, ⟨hW.1.1, hW.1.2, g0, g1, hW.2.2.2.2.2.1, hW.2.2.2.2.2.2, hag⟩, hW, ⟨hG, f2, w7⟩, hg⟩
theorem row_inj {h : XH} {p k : Nat} {f1 f2 : Nat → Int32} (a : h.2.2 p = .inr (.inl (0, k, f1))) (b : h.2.2 p = .inr (.inl (0, k, f2))) : f1 = f2 := by
  rw [a] at b
  cases b
  rfl
/-- the same, for a row that is known -/
theorem G_base2 {L : Nat} {xs : Nat → Int32} {h : XH} (hI : INVg L xs h) {f : Nat → Int32} {n m G : Nat} (hf : h.2.2 537 = .inr (.inl (0, 490, f))) (W : RW f n m) (hG : G ≤ 6) (f2 : f 2 = nI G) : WFv (vw w_W h) f (fun i => f (90 + i)) n m ∧ rd h 14 7 = some (.int (nI G)) ∧ ∀ g, g < G → GA h (24 + 3 * g) f g := by
  obtain ⟨f', n', m', G', hf', W', hW', ⟨hG', f2', w7'⟩, hg'⟩ := G_base hI
  have e := row_inj hf' hf
  subst e
  have en := nI_inj (by have := W.n8; omega) (by have := W'.n8; omega) (W.f0.symm.trans W'.f0)
  have em := nI_inj (by have := W.m6; omega) (by have := W'.m6; omega) (W.f1.symm.trans W'.f1)
  have eG := nI_inj (by omega) (by omega) (f2.symm.trans f2')
  subst en
  subst em
  subst eG
  exact ⟨hW', w7', hg'⟩
/-- a grant of the class, at hand -/
theorem cg_of {h : XH} (hI : AInv w_W h) (hS : GSt h) {f : Nat → Int32} {g : Nat} (hg : g < 6) (hA : GA h (24 + 3 * g) f g) : ∃ (nc : Nat) (Lt Nt : Nat → Int32), (1 ≤ nc ∧ nc ≤ 6) ∧ CG h (24 + 3 * g) (nI nc) Lt Nt ∧ f (130 + g) = nI nc ∧ CI f g Lt Nt nc := by
  obtain ⟨nc, L, N, hn, k0, k1, k2, k3⟩ := hA
  obtain ⟨⟨r1, r2, r3⟩, -⟩ := w_rg_g ⟨g, hg⟩
  obtain ⟨gf, o1, l1, -⟩ := w_obj hI (k := 24 + 3 * g) (by omega) r1 k24s
  obtain ⟨Lt, hL⟩ := w_ints hI (k := 24 + 3 * g + 1) (by omega) (by rw [show 24 + 3 * g + 1 = 25 + 3 * g by omega]; exact r2) (show w_S 25 = (1, 0, 24, [], w_s25.2.2.2.2) from rfl)
  obtain ⟨Nt, hN⟩ := w_ints hI (k := 24 + 3 * g + 2) (by omega) (by rw [show 24 + 3 * g + 2 = 26 + 3 * g by omega]; exact r3) (show w_S 26 = (1, 0, 24, [], w_s26.2.2.2.2) from rfl)
  have e0 : gf[0]? = some (.int (nI nc)) := (rd_fld o1).symm.trans k0
  have e1 : gf[1]? = some (.ref (24 + 3 * g + 1)) := by
    have := (hS g hg).1.2.1
    rw [rd_fld o1] at this
    rw [this, show 25 + 3 * g = 24 + 3 * g + 1 by omega]
  have e2 : gf[2]? = some (.ref (24 + 3 * g + 2)) := by
    have := (hS g hg).1.2.2
    rw [rd_fld o1] at this
    rw [this, show 26 + 3 * g = 24 + 3 * g + 2 by omega]
  refine ⟨nc, Lt, Nt, hn, ⟨by rw [o1, list3 l1 e0 e1 e2], hL, hN⟩, k1, k3.congr hn.2 (fun _ _ _ => rfl) fun j hj => ?_⟩
  obtain ⟨q1, q2⟩ := k2 j hj
  rw [rd_ints hL hj] at q1
  rw [rd_ints hN hj] at q2
  exact ⟨int_inj q1, int_inj q2⟩
/-! a course and a run of both sides, the relation kept -/
theorem invg_fr {L : Nat} {xs : Nat → Int32} {ws : AWr} {h h1 : XH} (hI : INVg L xs h) (k2 : AInv w_W h1) (k3 : PInv w_W w_P h1 []) (k4 : AFr w_W ws h h1) (hs : vsafe ws = true) (hg : (ssafe ws && (gsafeW ws && gsafeK ws)) = true) (e : ∀ j, j < 13 → h1.2.2 j = h.2.2 j) : INVg L xs h1 := by
  obtain ⟨hw, g1, g2, g3, g4⟩ := hI
  rw [Bool.and_eq_true, Bool.and_eq_true] at hg
  exact ⟨invw_fr hw k2 k3 k4 hs (e 1 (by decide)), grW_fr g1 k2 k4 hg.2.1, grK_fr g2 k2 k4 hg.2.2, gst_fr g3 k4 hg.1, sb0_ext g4 e⟩
/-- the course of a set of maybes -/
theorem G_course {L : Nat} {xs : Nat → Int32} {h : XH} (hI : INVg L xs h) {f : Nat → Int32} {n m : Nat} (hf : h.2.2 537 = .inr (.inl (0, 490, f))) (W : RW f n m) {co : Int32} (h0 : 0 ≤ co.toInt) (h6 : co.toInt ≤ 63) : ∃ (k : Nat) (h1 : XH), k < 64 ∧ XCall xM 5 97 [.ref 13, .int co] h (some (.ref (88 + 7 * k))) h1 ∧ INVg L xs h1 ∧ (∀ z, (z < 88 ∨ 535 < z) → h1.2.2 z = h.2.2 z) ∧ LKv (vw w_W h1) n m f (fun i => f (90 + i)) (lvOf f n m co) (88 + 7 * k) := by
  obtain ⟨k, h1, ek, hk, cC, iC, pC, fC, nC, oC⟩ := courseOf_ok hI.1.1 hI.1.2.1 co
  have hI1 := invg_fr hI iC pC fC (by decide +kernel) (by decide +kernel) (fun j hj => oC j (by omega))
  have hf1 : h1.2.2 537 = .inr (.inl (0, 490, f)) := (oC 537 (by omega)).trans hf
  obtain ⟨f', n', m', G', hf', W', hW', -⟩ := G_base hI1
  have e := row_inj hf' hf1
  subst e
  have en := nI_inj (by have := W.n8; omega) (by have := W'.n8; omega) (W.f0.symm.trans W'.f0)
  have em := nI_inj (by have := W.m6; omega) (by have := W'.m6; omega) (W.f1.symm.trans W'.f1)
  subst en
  subst em
  have hkc : nI k = co := by
    have e := (i32_nI (and63 co).1 (and63 co).2).1
    rw [← ek] at e
    rw [← e]
    exact and63_id h0 h6
  refine ⟨k, h1, hk, cC, hI1, oC, ?_⟩
  have q := (pC.2 rfl).2.2 n m f' _ hW' k hk
  rw [vw_co0 hk, hkc] at q
  exact q.resolve_left nC
/-- the class's course and grant, at hand -/
theorem ce_of {h : XH} (hI : AInv w_W h) (hQ : QS (vw w_W h)) {k : Nat} (hk : k < 64) {f : Nat → Int32} {n m : Nat} (W : RW f n m) {co : Int32} (hL : LKv (vw w_W h) n m f (fun i => f (90 + i)) (lvOf f n m co) (88 + 7 * k)) {p nc : Nat} {Lt Nt : Nat → Int32} (hG : CG h p (nI nc) Lt Nt) (hp : 13 ≤ p ∧ p + 2 < 549) : ∃ al we de bi ch : Nat → Int32, CE h p (88 + 7 * k) nc Lt Nt al we de bi ch ∧ CFa f n m (lvOf f n m co) al we de bi ch := by
  obtain ⟨i, lt, ld, x, al, we, de, -, r, a⟩ := cr_of hI hQ hk
  obtain ⟨r0, r4, r5, r6⟩ := r
  obtain ⟨a1, a2, a3⟩ := a
  obtain ⟨l1, l2, l3, l4, l5, l6, l7⟩ := hL
  refine ⟨al, we, de, x.2.1, x.2.2.2, ⟨hI.1, hp, by omega, hG.1, hG.2.1, hG.2.2, ⟨_, _, _, _, _, _, r0⟩, a1, a2, a3, r4, r6⟩, ⟨W.n8, W.m6, fun t ht i hi => ?_, fun t ht i hi => ?_, fun t ht i hi => ?_, fun j hj => ?_, fun j hj i hi => ?_, fun j hj => (l5 j hj).1, W.ag, fun j hj => lvOf_b8 hj⟩⟩
  · obtain ⟨av, wv, dv, b1, -, -, b4, -⟩ := l1 t ht
    obtain ⟨av2, c1, c2⟩ := l6 t ht
    rw [vw_co hk (by decide), rd_ints a1 (by omega)] at b1 c1
    have b1 := int_inj b1
    have c1 := int_inj c1
    by_cases i14 : i < 14
    · rw [b1, b4 i i14, alv_iff]
      exact ⟨fun z => ⟨i14, z⟩, fun z => z.2⟩
    · rw [c1]
      exact ⟨fun z => absurd z (c2 i (by omega) hi), fun z => absurd z.1 i14⟩
  · obtain ⟨av, wv, dv, -, b2, -, -, b5, -⟩ := l1 t ht
    rw [vw_co hk (by decide), rd_ints a2 (by omega)] at b2
    rw [int_inj b2]
    exact b5 i hi
  · obtain ⟨av, wv, dv, -, -, b3, -, -, b6⟩ := l1 t ht
    rw [vw_co hk (by decide), rd_ints a3 (by omega)] at b3
    rw [int_inj b3]
    exact b6 i hi
  · have := l2 j hj
    rw [vw_co hk (by decide), rd_ints r4 hj] at this
    exact int_inj this
  · obtain ⟨c, c1, c2⟩ := l7 j hj
    rw [vw_co hk (by decide), rd_ints r6 hj] at c1
    rw [int_inj c1]
    exact c2 i hi
theorem list7 {fs : List Value} (hl : fs.length = 7) {a b c d e f g : Value} (h0 : fs[0]? = some a) (h1 : fs[1]? = some b) (h2 : fs[2]? = some c) (h3 : fs[3]? = some d) (h4 : fs[4]? = some e) (h5 : fs[5]? = some f) (h6 : fs[6]? = some g) : fs = [a, b, c, d, e, f, g] := by
  refine List.ext_getElem? fun i => ?_
  match i with
  | 0 => exact h0
  | 1 => exact h1
  | 2 => exact h2
  | 3 => exact h3
  | 4 => exact h4
  | 5 => exact h5
  | 6 => exact h6
  | i + 7 => rw [List.getElem?_eq_none (by omega), List.getElem?_eq_none (by simp)]
/-! a run of the class's Run at 71 -/
theorem w_rg_ra : w_rg 71 = 41 ∧ w_rg 72 = 42 ∧ w_rg 73 = 43 ∧ w_rg 74 = 44 := by decide +kernel
theorem k41s : w_S 41 = (0, 4, 0, w_s41.2.2.2.1, []) := rfl
theorem run_ofa {h : XH} (hI : AInv w_W h) : ∃ (c r b hv : Int32) (ho cl bg : Nat → Int32), h.2.2 71 = .inl (4, [.ref 72, .ref 73, .ref 74, .int c, .int r, .int b, .int hv]) ∧ h.2.2 72 = .inr (.inl (0, 41, ho)) ∧ h.2.2 73 = .inr (.inl (0, 41, cl)) ∧ h.2.2 74 = .inr (.inl (0, 6, bg)) := by
  obtain ⟨r0, r1, r2, r3⟩ := w_rg_ra
  obtain ⟨fs, o, l, -⟩ := w_obj hI (k := 71) (by decide) r0 k41s
  obtain ⟨ho, e1⟩ := w_ints hI (k := 72) (by decide) r1 (show w_S 42 = (1, 0, 41, [], w_s42.2.2.2.2) from rfl)
  obtain ⟨cl, e2⟩ := w_ints hI (k := 73) (by decide) r2 (show w_S 43 = (1, 0, 41, [], w_s43.2.2.2.2) from rfl)
  obtain ⟨bg, e3⟩ := w_ints hI (k := 74) (by decide) r3 (show w_S 44 = (1, 0, 6, [], w_s44.2.2.2.2) from rfl)
  obtain ⟨c, hc⟩ := int_at hI (by decide) r0 k41s (b := 3) rfl rfl o
  obtain ⟨r, hr⟩ := int_at hI (by decide) r0 k41s (b := 4) rfl rfl o
  obtain ⟨b, hb⟩ := int_at hI (by decide) r0 k41s (b := 5) rfl rfl o
  obtain ⟨hv, hh⟩ := int_at hI (by decide) r0 k41s (b := 6) rfl rfl o
  refine ⟨c, r, b, hv, ho, cl, bg, ?_, e1, e2, e3⟩
  rw [o, list7 l (ref_at hI (by decide) r0 k41s (b := 0) rfl rfl r1 (by decide) o) (ref_at hI (by decide) r0 k41s (b := 1) rfl rfl r2 (by decide) o) (ref_at hI (by decide) r0 k41s (b := 2) rfl rfl r3 (by decide) o) hc hr hb hh]
/-- what a run leaves -/
abbrev RunRa (h h1 : XH) (f : Nat → Int32) (n m : Nat) (co : Int32) (g nc : Nat) : Prop :=
  (∃ c r b hv : Int32, h1.2.2 71 = .inl (4, [.ref 72, .ref 73, .ref 74, .int c, .int r, .int b, .int hv])) ∧
  (∃ ho : Nat → Int32, h1.2.2 72 = .inr (.inl (0, 41, ho)) ∧ ∀ j, j < 41 → ho j = hsX f n m co g nc j) ∧
  (∃ cl : Nat → Int32, h1.2.2 73 = .inr (.inl (0, 41, cl)) ∧ ∀ j, j < 41 → cl j = hcX f n m co g nc j) ∧
  (∃ bg : Nat → Int32, h1.2.2 74 = .inr (.inl (0, 6, bg)) ∧ ∀ j, j < 6 → bg j = bgX f n m co g nc j) ∧
  (∀ z, (z < 71 ∨ 74 < z) → h1.2.2 z = h.2.2 z)
theorem RunRa.o {h h1 : XH} {f : Nat → Int32} {n m : Nat} {co : Int32} {g nc : Nat} (u : RunRa h h1 f n m co g nc) : ∃ c r b hv : Int32, h1.2.2 71 = .inl (4, [.ref 72, .ref 73, .ref 74, .int c, .int r, .int b, .int hv]) := u.1
theorem RunRa.ho {h h1 : XH} {f : Nat → Int32} {n m : Nat} {co : Int32} {g nc : Nat} (u : RunRa h h1 f n m co g nc) : ∃ ho : Nat → Int32, h1.2.2 72 = .inr (.inl (0, 41, ho)) ∧ ∀ j, j < 41 → ho j = hsX f n m co g nc j := u.2.1
theorem RunRa.cl {h h1 : XH} {f : Nat → Int32} {n m : Nat} {co : Int32} {g nc : Nat} (u : RunRa h h1 f n m co g nc) : ∃ cl : Nat → Int32, h1.2.2 73 = .inr (.inl (0, 41, cl)) ∧ ∀ j, j < 41 → cl j = hcX f n m co g nc j := u.2.2.1
theorem RunRa.bg {h h1 : XH} {f : Nat → Int32} {n m : Nat} {co : Int32} {g nc : Nat} (u : RunRa h h1 f n m co g nc) : ∃ bg : Nat → Int32, h1.2.2 74 = .inr (.inl (0, 6, bg)) ∧ ∀ j, j < 6 → bg j = bgX f n m co g nc j := u.2.2.2.1
theorem RunRa.oth {h h1 : XH} {f : Nat → Int32} {n m : Nat} {co : Int32} {g nc : Nat} (u : RunRa h h1 f n m co g nc) : ∀ z, (z < 71 ∨ 74 < z) → h1.2.2 z = h.2.2 z := u.2.2.2.2
theorem G_runa {r : Nat} {c : ACt} (hc : AHp w_W w_P c) (hc1 : c.1.1 = 43) (hcs : c.1.2.1 = [avR 41, avR r, avR 58]) (hcm : c.2.1 = []) (hs : vsafe c.1.2.2.2.1 = true) (hgs : (ssafe c.1.2.2.2.1 && (gsafeW c.1.2.2.2.1 && gsafeK c.1.2.2.2.1)) = true) {L : Nat} {xs : Nat → Int32} {h : XH} (hI : INVg L xs h) {k : Nat} (hk : k < 64) {f : Nat → Int32} {n m : Nat} (W : RW f n m) {co : Int32} (hL : LKv (vw w_W h) n m f (fun i => f (90 + i)) (lvOf f n m co) (88 + 7 * k)) {p g nc : Nat} {Lt Nt : Nat → Int32} (hG : CG h p (nI nc) Lt Nt) (hp : 13 ≤ p ∧ p + 2 < 549) (hp2 : p + 2 < 71 ∨ 79 ≤ p) (hr : w_rg p = r) (hnc : 1 ≤ nc ∧ nc ≤ 6) (hC : CI f g Lt Nt nc) : ∃ h1 : XH, XCall xM 6 43 [.ref 71, .ref p, .ref (88 + 7 * k)] h none h1 ∧ INVg L xs h1 ∧ RunRa h h1 f n m co g nc := by
  obtain ⟨c0, rr, bb, hv, ho, cl, bg, o0, o1, o2, o3⟩ := run_ofa hI.1.1
  obtain ⟨al, we, de, bi, ch, hE, F⟩ := ce_of hI.1.1 (hI.1.2.1.2 rfl).1 hk W hL hG hp
  obtain ⟨b1, ho2, cl2, hb, hg, cC⟩ := k_goa 0 hI.1.1.1 hI.1.1.2.1 o0 o1 o2 o3 hE hp2 hnc.2 hnc.1 (fun c hc => by
    have q := (hC c hc).2.1
    rw [q.1]
    exact q.2.1)
  obtain ⟨ok, bk⟩ := cls_go F hnc.2 hnc.1 hC hb hg
  obtain ⟨q0, -, -, -⟩ := w_rg_ra
  obtain ⟨v, h1, d1, j1, j2, jF, -⟩ := hc.2 [.ref 71, .ref p, .ref (88 + 7 * k)] h hI.1.1 hI.1.2.1 (by
    rw [hcs]
    exact ⟨w_ga58 (b := 0) q0 (by decide), w_ga58 (b := 0) hr (by omega), w_ga58 (b := 0) (w_rg_co0 hk) (by omega), trivial⟩) (by rw [hcm]; exact fun q hq => by cases hq)
  rw [hc1] at d1
  obtain ⟨-, e2⟩ := XCall.det cC d1
  subst e2
  have x1 := XCall.ext _ _ _ _ _ _ cC (by rw [hI.1.1.1]; decide)
  refine ⟨_, cC, invg_fr hI j1 j2 jF hs hgs x1, ⟨⟨_, _, _, _, rfl⟩, ⟨ho2, rfl, fun j hj => (ok j hj).1⟩, ⟨cl2, rfl, fun j hj => (ok j hj).2⟩, ⟨_, rfl, bk⟩, fun z hz => uha_k hz⟩⟩
/-! a run of the class's Run at 75 -/
theorem w_rg_rb : w_rg 75 = 45 ∧ w_rg 76 = 46 ∧ w_rg 77 = 47 ∧ w_rg 78 = 48 := by decide +kernel
theorem k45s : w_S 45 = (0, 4, 0, w_s45.2.2.2.1, []) := rfl
theorem run_ofb {h : XH} (hI : AInv w_W h) : ∃ (c r b hv : Int32) (ho cl bg : Nat → Int32), h.2.2 75 = .inl (4, [.ref 76, .ref 77, .ref 78, .int c, .int r, .int b, .int hv]) ∧ h.2.2 76 = .inr (.inl (0, 41, ho)) ∧ h.2.2 77 = .inr (.inl (0, 41, cl)) ∧ h.2.2 78 = .inr (.inl (0, 6, bg)) := by
  obtain ⟨r0, r1, r2, r3⟩ := w_rg_rb
  obtain ⟨fs, o, l, -⟩ := w_obj hI (k := 75) (by decide) r0 k45s
  obtain ⟨ho, e1⟩ := w_ints hI (k := 76) (by decide) r1 (show w_S 46 = (1, 0, 41, [], w_s46.2.2.2.2) from rfl)
  obtain ⟨cl, e2⟩ := w_ints hI (k := 77) (by decide) r2 (show w_S 47 = (1, 0, 41, [], w_s47.2.2.2.2) from rfl)
  obtain ⟨bg, e3⟩ := w_ints hI (k := 78) (by decide) r3 (show w_S 48 = (1, 0, 6, [], w_s48.2.2.2.2) from rfl)
  obtain ⟨c, hc⟩ := int_at hI (by decide) r0 k45s (b := 3) rfl rfl o
  obtain ⟨r, hr⟩ := int_at hI (by decide) r0 k45s (b := 4) rfl rfl o
  obtain ⟨b, hb⟩ := int_at hI (by decide) r0 k45s (b := 5) rfl rfl o
  obtain ⟨hv, hh⟩ := int_at hI (by decide) r0 k45s (b := 6) rfl rfl o
  refine ⟨c, r, b, hv, ho, cl, bg, ?_, e1, e2, e3⟩
  rw [o, list7 l (ref_at hI (by decide) r0 k45s (b := 0) rfl rfl r1 (by decide) o) (ref_at hI (by decide) r0 k45s (b := 1) rfl rfl r2 (by decide) o) (ref_at hI (by decide) r0 k45s (b := 2) rfl rfl r3 (by decide) o) hc hr hb hh]
/-- what a run leaves -/
abbrev RunRb (h h1 : XH) (f : Nat → Int32) (n m : Nat) (co : Int32) (g nc : Nat) : Prop :=
  (∃ c r b hv : Int32, h1.2.2 75 = .inl (4, [.ref 76, .ref 77, .ref 78, .int c, .int r, .int b, .int hv])) ∧
  (∃ ho : Nat → Int32, h1.2.2 76 = .inr (.inl (0, 41, ho)) ∧ ∀ j, j < 41 → ho j = hsX f n m co g nc j) ∧
  (∃ cl : Nat → Int32, h1.2.2 77 = .inr (.inl (0, 41, cl)) ∧ ∀ j, j < 41 → cl j = hcX f n m co g nc j) ∧
  (∃ bg : Nat → Int32, h1.2.2 78 = .inr (.inl (0, 6, bg)) ∧ ∀ j, j < 6 → bg j = bgX f n m co g nc j) ∧
  (∀ z, (z < 75 ∨ 78 < z) → h1.2.2 z = h.2.2 z)
theorem RunRb.o {h h1 : XH} {f : Nat → Int32} {n m : Nat} {co : Int32} {g nc : Nat} (u : RunRb h h1 f n m co g nc) : ∃ c r b hv : Int32, h1.2.2 75 = .inl (4, [.ref 76, .ref 77, .ref 78, .int c, .int r, .int b, .int hv]) := u.1
theorem RunRb.ho {h h1 : XH} {f : Nat → Int32} {n m : Nat} {co : Int32} {g nc : Nat} (u : RunRb h h1 f n m co g nc) : ∃ ho : Nat → Int32, h1.2.2 76 = .inr (.inl (0, 41, ho)) ∧ ∀ j, j < 41 → ho j = hsX f n m co g nc j := u.2.1
theorem RunRb.cl {h h1 : XH} {f : Nat → Int32} {n m : Nat} {co : Int32} {g nc : Nat} (u : RunRb h h1 f n m co g nc) : ∃ cl : Nat → Int32, h1.2.2 77 = .inr (.inl (0, 41, cl)) ∧ ∀ j, j < 41 → cl j = hcX f n m co g nc j := u.2.2.1
theorem RunRb.bg {h h1 : XH} {f : Nat → Int32} {n m : Nat} {co : Int32} {g nc : Nat} (u : RunRb h h1 f n m co g nc) : ∃ bg : Nat → Int32, h1.2.2 78 = .inr (.inl (0, 6, bg)) ∧ ∀ j, j < 6 → bg j = bgX f n m co g nc j := u.2.2.2.1
theorem RunRb.oth {h h1 : XH} {f : Nat → Int32} {n m : Nat} {co : Int32} {g nc : Nat} (u : RunRb h h1 f n m co g nc) : ∀ z, (z < 75 ∨ 78 < z) → h1.2.2 z = h.2.2 z := u.2.2.2.2
theorem G_runb {r : Nat} {c : ACt} (hc : AHp w_W w_P c) (hc1 : c.1.1 = 43) (hcs : c.1.2.1 = [avR 45, avR r, avR 58]) (hcm : c.2.1 = []) (hs : vsafe c.1.2.2.2.1 = true) (hgs : (ssafe c.1.2.2.2.1 && (gsafeW c.1.2.2.2.1 && gsafeK c.1.2.2.2.1)) = true) {L : Nat} {xs : Nat → Int32} {h : XH} (hI : INVg L xs h) {k : Nat} (hk : k < 64) {f : Nat → Int32} {n m : Nat} (W : RW f n m) {co : Int32} (hL : LKv (vw w_W h) n m f (fun i => f (90 + i)) (lvOf f n m co) (88 + 7 * k)) {p g nc : Nat} {Lt Nt : Nat → Int32} (hG : CG h p (nI nc) Lt Nt) (hp : 13 ≤ p ∧ p + 2 < 549) (hp2 : p + 2 < 71 ∨ 79 ≤ p) (hr : w_rg p = r) (hnc : 1 ≤ nc ∧ nc ≤ 6) (hC : CI f g Lt Nt nc) : ∃ h1 : XH, XCall xM 6 43 [.ref 75, .ref p, .ref (88 + 7 * k)] h none h1 ∧ INVg L xs h1 ∧ RunRb h h1 f n m co g nc := by
  obtain ⟨c0, rr, bb, hv, ho, cl, bg, o0, o1, o2, o3⟩ := run_ofb hI.1.1
  obtain ⟨al, we, de, bi, ch, hE, F⟩ := ce_of hI.1.1 (hI.1.2.1.2 rfl).1 hk W hL hG hp
  obtain ⟨b1, ho2, cl2, hb, hg, cC⟩ := k_gob 0 hI.1.1.1 hI.1.1.2.1 o0 o1 o2 o3 hE hp2 hnc.2 hnc.1 (fun c hc => by
    have q := (hC c hc).2.1
    rw [q.1]
    exact q.2.1)
  obtain ⟨ok, bk⟩ := cls_go F hnc.2 hnc.1 hC hb hg
  obtain ⟨q0, -, -, -⟩ := w_rg_rb
  obtain ⟨v, h1, d1, j1, j2, jF, -⟩ := hc.2 [.ref 75, .ref p, .ref (88 + 7 * k)] h hI.1.1 hI.1.2.1 (by
    rw [hcs]
    exact ⟨w_ga58 (b := 0) q0 (by decide), w_ga58 (b := 0) hr (by omega), w_ga58 (b := 0) (w_rg_co0 hk) (by omega), trivial⟩) (by rw [hcm]; exact fun q hq => by cases hq)
  rw [hc1] at d1
  obtain ⟨-, e2⟩ := XCall.det cC d1
  subst e2
  have x1 := XCall.ext _ _ _ _ _ _ cC (by rw [hI.1.1.1]; decide)
  refine ⟨_, cC, invg_fr hI j1 j2 jF hs hgs x1, ⟨⟨_, _, _, _, rfl⟩, ⟨ho2, rfl, fun j hj => (ok j hj).1⟩, ⟨cl2, rfl, fun j hj => (ok j hj).2⟩, ⟨_, rfl, bk⟩, fun z hz => uhb_k hz⟩⟩
/-! a run of the model, by its contents alone -/
theorem w_rg_543 : w_rg 543 = 72 ∧ w_rg 544 = 73 ∧ w_rg 545 = 74 := by decide +kernel
/-- the model's object and rows -/
abbrev MBk (h : XH) (f : Nat → Int32) : Prop := h.1 = 549 ∧ h.2.1 = 14048 ∧ (∃ e : Nat → Int32, h.2.2 536 = .inl (7, mO e)) ∧ h.2.2 537 = .inr (.inl (0, 490, f)) ∧ (∃ s : LV, LVr h s) ∧ (∃ a : Nat → Int32, h.2.2 543 = .inr (.inl (0, 41, a))) ∧ (∃ a : Nat → Int32, h.2.2 544 = .inr (.inl (0, 41, a))) ∧ ∃ a : Nat → Int32, h.2.2 545 = .inr (.inl (0, 6, a))
theorem mbk_of {h : XH} (hI : AInv w_W h) {f : Nat → Int32} (hf : h.2.2 537 = .inr (.inl (0, 490, f))) : MBk h f := by
  obtain ⟨e, f', -, o36, o37⟩ := mh_of hI
  obtain ⟨s, hs⟩ := lvr_of hI
  obtain ⟨q1, q2, q3⟩ := w_rg_543
  obtain ⟨r3, e3⟩ := w_ints hI (k := 543) (by decide) q1 (show w_S 72 = (1, 0, 41, [], w_s72.2.2.2.2) from rfl)
  obtain ⟨r4, e4⟩ := w_ints hI (k := 544) (by decide) q2 (show w_S 73 = (1, 0, 41, [], w_s73.2.2.2.2) from rfl)
  obtain ⟨r5, e5⟩ := w_ints hI (k := 545) (by decide) q3 (show w_S 74 = (1, 0, 6, [], w_s74.2.2.2.2) from rfl)
  exact ⟨hI.1, hI.2.1, ⟨e, o36⟩, hf, ⟨s, hs⟩, ⟨_, e3⟩, ⟨_, e4⟩, ⟨_, e5⟩⟩
abbrev RunM (h h1 : XH) (f : Nat → Int32) (n m : Nat) (co : Int32) (g nc : Nat) : Prop :=
  (∃ s : LV, LVr h1 s ∧ LVe s (lvOf f n m co)) ∧
  (∃ ho : Nat → Int32, h1.2.2 543 = .inr (.inl (0, 41, ho)) ∧ ∀ j, j < 41 → ho j = hsX f n m co g nc j) ∧
  (∃ cl : Nat → Int32, h1.2.2 544 = .inr (.inl (0, 41, cl)) ∧ ∀ j, j < 41 → cl j = hcX f n m co g nc j) ∧
  (∃ bg : Nat → Int32, h1.2.2 545 = .inr (.inl (0, 6, bg)) ∧ ∀ j, j < 6 → bg j = bgX f n m co g nc j) ∧
  (∀ z, ¬ z = 536 → ¬ (539 ≤ z ∧ z ≤ 545) → h1.2.2 z = h.2.2 z)
theorem M_goes {h : XH} {f : Nat → Int32} (hB : MBk h f) {n m : Nat} (W : RW f n m) {g nc : Nat} (hg : g < 6) (hnc : 1 ≤ nc ∧ nc ≤ 6) (hfn : f (130 + g) = nI nc) {Lt Nt : Nat → Int32} (hC : CI f g Lt Nt nc) (co : Int32) : ∃ h1 : XH, XCall xM 7 146 [.ref 536, .int (nI g), .int co] h none h1 ∧ MBk h1 f ∧ RunM h h1 f n m co g nc := by
  obtain ⟨hN, hS, ⟨e, o36⟩, hf, ⟨s, hs⟩, ⟨a3, e3⟩, ⟨a4, e4⟩, ⟨a5, e5⟩⟩ := hB
  obtain ⟨h1, s1, b0, cC, he, R⟩ := k_goes 0 hN hS o36 hf hs e3 e4 e5 W.f0 W.n8 W.f1 W.m6 W.mb hg hnc.2 hnc.1 hfn (fun c hc => clr_cb (hC c hc) (by unfold atC; omega)) co
  obtain ⟨hs2, hc2, k3, k4, ok⟩ := R.r
  obtain ⟨ok, bk⟩ := mod_go W hnc.2 hnc.1 hC he R.b ok
  obtain ⟨e2, o2, -⟩ := R.o
  exact ⟨h1, cC, ⟨R.N, R.S, ⟨e2, o2⟩, (R.oth 537 (by decide) (by decide)).trans hf, ⟨s1, R.lr⟩, ⟨_, k3⟩, ⟨_, k4⟩, ⟨_, R.bgs⟩⟩, ⟨s1, R.lr, he⟩, ⟨hs2, k3, fun j hj => (ok j hj).1⟩, ⟨hc2, k4, fun j hj => (ok j hj).2⟩, ⟨_, R.bgs, bk⟩, R.oth⟩
