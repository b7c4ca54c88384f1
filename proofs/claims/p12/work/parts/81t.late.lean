/-! words too late: said once for both sides; the class's side -/
/-- the year of a course's last death, or never -/
def ldS (f : Nat → Int32) (n m : Nat) (co : Int32) : Int32 := (flR (fun j => if (lvOf f n m co).2.1 j = i99 then c1000 else (lvOf f n m co).2.1 j) n).2
abbrev i40 : Int32 := (Int8.ofInt 40).toInt32
def ltB (f : Nat → Int32) (n m : Nat) (co : Int32) (g nc : Nat) (x : Int32) (j : Nat) : Bool := !decide (i40 ≤ ldS f n m co + x) && decide (ldS f n m co + x < bgX f n m co g nc j)
/-- the clauses that are late in one of the first courses -/
def ltS (f : Nat → Int32) (n m g nc : Nat) (x : Int32) : Nat → Int32
  | 0 => Int32.ofInt 0
  | k + 1 => ltS f n m g nc x k ||| bset (ltB f n m (nI k) g nc x) 6
theorem bset_t {P : Nat → Bool} {k : Nat} (e : P k = true) : bset P (k + 1) = bset P k ||| (Int32.ofInt 1 <<< (nI k &&& 31)) := by
  show _ ||| (if P k = true then _ else _) = _
  rw [if_pos e]
theorem bset_f {P : Nat → Bool} {k : Nat} (e : P k = false) : bset P (k + 1) = bset P k := by
  show _ ||| (if P k = true then _ else _) = _
  rw [if_neg (by rw [e]; decide)]
  exact Int32.or_zero
theorem bset_c {P Q : Nat → Bool} : ∀ k, (∀ j, j < k → P j = Q j) → bset P k = bset Q k
  | 0, _ => rfl
  | k + 1, h => by
    show bset P k ||| _ = bset Q k ||| _
    rw [bset_c k fun j hj => h j (by omega), h k (by omega)]
theorem bset_0 {P : Nat → Bool} : ∀ k, (∀ j, j < k → P j = false) → bset P k = Int32.ofInt 0
  | 0, _ => rfl
  | k + 1, h => by
    rw [bset_f (h k (by omega)), bset_0 k fun j hj => h j (by omega)]
theorem bset_pad {P : Nat → Bool} {a : Nat} : ∀ q, (∀ j, a ≤ j → j < a + q → P j = false) → bset P (a + q) = bset P a
  | 0, _ => rfl
  | q + 1, h => by
    rw [show a + (q + 1) = a + q + 1 by omega, bset_f (h (a + q) (by omega) (by omega)), bset_pad q fun j h1 h2 => h j h1 (by omega)]
/-- when clauses begin -/
def BQ (nc : Nat) (σ : GS) : Prop := (∀ c, σ.1 = some c → c < nc) ∧ σ.2.1 < nc ∧ ∀ j, (σ.2.2.2.2 j = m5 ∨ (0 ≤ (σ.2.2.2.2 j).toInt ∧ (σ.2.2.2.2 j).toInt ≤ 40)) ∧ (nc ≤ j → σ.2.2.2.2 j = m5)
section
variable {f : Nat → Int32} {n m g nc : Nat} {s : LV}
theorem nxS_lt : ∀ (q c z : Nat), nxS f g q c = some z → z < c + q
  | 0, _, _, e => by cases e
  | q + 1, c, z, e => by
    unfold nxS at e
    split at e
    · cases e
      omega
    · have := nxS_lt q (c + 1) z e
      omega
theorem shS_lt {y : Nat} : ∀ (q c z : Nat), shS f s g y q c = some z → z < c + q
  | 0, _, _, e => by cases e
  | q + 1, c, z, e => by
    unfold shS at e
    split at e
    · cases e
      omega
    · have := shS_lt q (c + 1) z e
      omega
theorem bq_rn {σ : GS} (h : BQ nc σ) {o : Option Nat} (ho : ∀ c, o = some c → c < nc) : BQ nc (rnS o σ) := by
  refine ⟨ho, ?_, h.2.2⟩
  show o.getD σ.2.1 < nc
  cases o with
  | none => exact h.2.1
  | some c => exact ho c rfl
theorem bq_be {σ : GS} (h : BQ nc σ) {y c : Nat} (hy : y ≤ 40) (hc : c < nc) : BQ nc (beS f n m s g y c σ) := by
  unfold beS
  split
  · exact h
  · refine ⟨h.1, h.2.1, fun j => ?_⟩
    dsimp only
    split
    · exact h.2.2 j
    · unfold upd
      have t := nI_toInt (n := y) (by omega)
      split
      · rename_i e
        subst e
        exact ⟨Or.inr ⟨by omega, by omega⟩, fun z => absurd hc (by omega)⟩
      · exact h.2.2 j
theorem bq_se {y : Nat} (hy : y ≤ 40) : ∀ (k : Nat) (σ : GS), BQ nc σ → BQ nc (seS f n m s g nc y k σ)
  | 0, _, h => h
  | k + 1, σ, h => by
    unfold seS
    split
    · exact h
    · rename_i c e
      have hc := h.1 c e
      have hb := bq_be (f := f) (n := n) (m := m) (g := g) (s := s) h hy hc
      split
      · exact bq_se hy k _ (bq_rn hb fun z hz => by have := nxS_lt _ _ _ hz; omega)
      · exact hb
theorem bq_ys {y : Nat} {σ : GS} (h : BQ nc σ) : BQ nc (ysS f s g nc y σ) := by
  unfold ysS
  split
  · exact h
  · rename_i c e
    have := shS_lt _ _ _ e
    have := h.2.1
    exact bq_rn h fun z hz => by cases hz; omega
theorem bq_go (hn0 : 0 < nc) {b0 : Nat → Int32} (hb : ∀ j, b0 j = m5) : ∀ y, y ≤ 41 → BQ nc (goY f n m s g nc b0 y)
  | 0, _ => ⟨fun c e => by cases e; exact hn0, hn0, fun j => ⟨Or.inl (hb j), fun _ => hb j⟩⟩
  | y + 1, hy => by
    unfold goY
    exact bq_se (by omega) 6 _ (bq_ys (bq_go hn0 hb y (by omega)))
end
theorem bgX_in (f : Nat → Int32) (n m : Nat) (co : Int32) (g : Nat) {nc : Nat} (hn0 : 0 < nc) (j : Nat) : (bgX f n m co g nc j = m5 ∨ (0 ≤ (bgX f n m co g nc j).toInt ∧ (bgX f n m co g nc j).toInt ≤ 40)) ∧ (nc ≤ j → bgX f n m co g nc j = m5) := by
  unfold bgX goX
  obtain ⟨-, -, h⟩ := bq_go (f := f) (n := n) (m := m) (s := lvOf f n m co) (g := g) hn0 (b0 := fun _ => m5) (fun _ => rfl) 41 (Nat.le_refl 41)
  exact h j
section BB
variable {h : XH} {c r b hv : Int32} {bg : Nat → Int32}
set_option maxRecDepth 100000 in
theorem bb_l (d : Nat) (hN : h.1 = 549) (o : h.2.2 71 = .inl (4, [.ref 72, .ref 73, .ref 74, .int c, .int r, .int b, .int hv])) (h3 : h.2.2 74 = .inr (.inl (0, 6, bg))) (x : Int32) : ∀ (q k : Nat), k + q = 6 → XGo d xm_X4_begunBehind (4, [some (.ref 71), some (.int x), some (.int (bset (fun j => decide (x < bg j)) k)), some (.int (nI k))], [], h) (some (.int (bset (fun j => decide (x < bg j)) 6))) h
  | 0, k, hk => by
    have hk : k = 6 := by omega
    subst hk
    refine XGo.go 2 rfl ?_
    refine XGo.getf rfl (xfd_o o (xlt hN (by decide)) (by decide) rfl) ?_
    refine XGo.alen rfl (xlen_i h3 (xlt hN (by decide)) (by decide)) ?_
    refine XGo.go 1 rfl ?_
    refine XGo.ifp (Int32.le_refl _) ?_
    refine XGo.go 1 rfl ?_
    exact XGo.iret _ rfl rfl .int rfl rfl
  | q + 1, k, hk => by
    have k6 : k < 6 := by omega
    refine XGo.go 2 rfl ?_
    refine XGo.getf rfl (xfd_o o (xlt hN (by decide)) (by decide) rfl) ?_
    refine XGo.alen rfl (xlen_i h3 (xlt hN (by decide)) (by decide)) ?_
    refine XGo.go 1 rfl ?_
    refine XGo.ifn (fun z => absurd ((xnI_ge (m := 6) (by decide) (by omega)).mp z) (by omega)) ?_
    refine XGo.go 1 rfl ?_
    refine XGo.getf rfl (xfd_o o (xlt hN (by decide)) (by decide) rfl) ?_
    refine XGo.go 1 rfl ?_
    refine XGo.iald rfl (ia_nI h3 (xlt hN (by decide)) k6 (by decide)) ?_
    refine XGo.go 2 rfl ?_
    have nx := bb_l d hN o h3 x q (k + 1) (by omega)
    rw [← show nI k + Int32.ofInt 1 = nI (k + 1) from nI_1 k] at nx
    by_cases e : bg k ≤ x
    · refine XGo.ifp e ?_
      rw [bset_f (P := fun j => decide (x < bg j)) (k := k) (decide_eq_false (Int32.not_lt.mpr e))] at nx
      exact XGo.go 2 rfl nx
    · refine XGo.ifn e ?_
      rw [bset_t (P := fun j => decide (x < bg j)) (k := k) (decide_eq_true (Int32.not_le.mp e))] at nx
      exact XGo.go 8 rfl nx
theorem k_bb (d : Nat) (hN : h.1 = 549) (o : h.2.2 71 = .inl (4, [.ref 72, .ref 73, .ref 74, .int c, .int r, .int b, .int hv])) (h3 : h.2.2 74 = .inr (.inl (0, 6, bg))) (x : Int32) : XCall xM (d + 1) 44 [.ref 71, .int x] h (some (.int (bset (fun j => decide (x < bg j)) 6))) h :=
  XCall.of (M := xm_X4_begunBehind) rfl (Nat.le_of_ble_eq_true rfl) (XGo.go 4 rfl (bb_l d hN o h3 x 6 0 rfl))
end BB
theorem r13_4 {h : XH} (hI : AInv w_W h) : rd h 13 4 = some (.ref 71) := rd_ref hI (by decide) w_rg_13 k13S (b := 4) rfl rfl w_rg_ra.1 (by decide)
theorem rd3_of {L : Nat} {xs : Nat → Int32} {h : XH} (hI : INVg L xs h) {f : Nat → Int32} {n m : Nat} (hf : h.2.2 537 = .inr (.inl (0, 490, f))) (W : RW f n m) : rd h 14 3 = some (.int (nI m)) := by
  obtain ⟨f', n', m', G', hf', W', hW', -⟩ := G_base hI
  have e := row_inj hf' hf
  subst e
  have em := nI_inj (by have := W.m6; omega) (by have := W'.m6; omega) (W.f1.symm.trans W'.f1)
  subst em
  have w3 := hW'.2.2.1
  rwa [vw_14 (Or.inr rfl)] at w3
theorem shm_nI : ∀ m : Fin 7, shm m.val = nI (2 ^ m.val) ∧ 2 ^ m.val ≤ 64 := by decide +kernel
section
variable {f f2 : Nat → Int32} {n m : Nat}
theorem lvC_f2 {k : Nat} (hk : k < 6) (h : ∀ j, j < 130 → f2 j = f j) (s : LV) : lvC f2 k s = lvC f k s := by
  unfold lvC
  rw [h (110 + k) (by omega), h (116 + k) (by omega), h (122 + k) (by omega)]
theorem lvOf_f2 (m6 : m ≤ 6) (h : ∀ j, j < 130 → f2 j = f j) (set : Int32) : lvOf f2 n m set = lvOf f n m set := by
  have hM : ∀ (y k : Nat) (s : LV), k ≤ 6 → lvM f2 set y k s = lvM f set y k s := by
    intro y k
    induction k with
    | zero => exact fun _ _ => rfl
    | succ k ih =>
      intro s hk
      unfold lvM
      rw [h (122 + k) (by omega), ih s (by omega), lvC_f2 (by omega) h]
  have hY : ∀ (y : Nat) (s : LV), lvY f2 set m y s = lvY f set m y s := by
    intro y
    induction y with
    | zero => exact fun _ => rfl
    | succ y ih =>
      intro s
      unfold lvY
      rw [ih, hM _ _ _ m6]
  exact hY 40 _
theorem rw_f (W : RW f n m) (h : ∀ j, j < 130 → f2 j = f j) : RW f2 n m := by
  have n8 := W.n8
  have m6 := W.m6
  refine ⟨n8, m6, (h 0 (by decide)).trans W.f0, (h 1 (by decide)).trans W.f1, fun k hk => ?_, fun k hk => ?_, fun j hj => ?_⟩
  · rw [h (110 + k) (by omega), h (116 + k) (by omega)]
    exact W.mb k hk
  · rw [h (122 + k) (by omega)]
    exact W.yr k hk
  · rw [h (90 + j) (by omega)]
    exact W.ag j hj
theorem lkv_f (n8 : n ≤ 8) (m6 : m ≤ 6) (h : ∀ j, j < 130 → f2 j = f j) {v : XV} {co : Int32} {b : Nat} (k : LKv v n m f (fun i => f (90 + i)) (lvOf f n m co) b) : LKv v n m f2 (fun i => f2 (90 + i)) (lvOf f2 n m co) b := by
  rw [lvOf_f2 m6 h]
  obtain ⟨l1, l2, l3, l4, l5, l6, l7⟩ := k
  refine ⟨l1, fun j hj => ?_, l3, l4, l5, l6, fun j hj => ?_⟩
  · rw [l2 j hj]
    by_cases z : j < n
    · rw [if_pos z, if_pos z]
      dsimp only
      rw [h (90 + j) (by omega)]
    · rw [if_neg z, if_neg z]
  · obtain ⟨c, c1, c2⟩ := l7 j hj
    refine ⟨c, c1, fun i hi => ?_⟩
    rw [c2 i hi]
    unfold chB
    constructor
    · rintro (z | ⟨z1, z2, z3, z4, z5⟩)
      · exact Or.inl ⟨z.1, by rw [h (100 + i) (by omega)]; exact z.2⟩
      · exact Or.inr ⟨z1, z2, z3, by rw [h _ (by omega)]; exact z4, by rw [h _ (by omega)]; exact z5⟩
    · rintro (z | ⟨z1, z2, z3, z4, z5⟩)
      · exact Or.inl ⟨z.1, by rw [← h (100 + i) (by omega)]; exact z.2⟩
      · exact Or.inr ⟨z1, z2, z3, by rw [← h (110 + (i - 8)) (by omega)]; exact z4, by rw [← h (116 + (i - 8)) (by omega)]; exact z5⟩
end
set_option maxRecDepth 100000 in
theorem lc_l {r : Nat} {c : ACt} (hc : AHp w_W w_P c) (hc1 : c.1.1 = 43) (hcs : c.1.2.1 = [avR 41, avR r, avR 58]) (hcm : c.2.1 = []) (hs : vsafe c.1.2.2.2.1 = true) (hgs : (ssafe c.1.2.2.2.1 && (gsafeW c.1.2.2.2.1 && gsafeK c.1.2.2.2.1)) = true) {L : Nat} {xs : Nat → Int32} {f f2 : Nat → Int32} {n m : Nat} (W : RW f n m) (hff : ∀ j, j < 130 → f2 j = f j) {p g nc : Nat} {Lt Nt : Nat → Int32} (hp : 13 ≤ p ∧ p + 2 < 549) (hp2 : p + 2 < 71 ∨ (79 ≤ p ∧ p + 2 < 88)) (hr : w_rg p = r) (hnc : 1 ≤ nc ∧ nc ≤ 6) (hC : CI f2 g Lt Nt nc) (x : Int32) : ∀ (q k : Nat) (h : XH) (l5 l6 : Option Value), k + q = 2 ^ m → INVg L xs h → h.2.2 537 = .inr (.inl (0, 490, f)) → CG h p (nI nc) Lt Nt → ∃ h1 : XH, XGo 6 xm_X6_lateClauses (5, [some (.ref 13), some (.ref p), some (.int x), some (.int (ltS f2 n m g nc x k)), some (.int (nI k)), l5, l6], [], h) (some (.int (ltS f2 n m g nc x (2 ^ m)))) h1 ∧ INVg L xs h1 ∧ ∀ z, (z < 71 ∨ (74 < z ∧ z < 88) ∨ 535 < z) → h1.2.2 z = h.2.2 z
  | 0, k, h, l5, l6, hk, hI, hf, hG => by
    have hk : k = 2 ^ m := by omega
    subst hk
    obtain ⟨fs, h13, -, -, -⟩ := w_lg hI.1.1
    have hN : h.1 = 549 := hI.1.1.1
    have h3 := rd3_of hI hf W
    have e := (shm_nI ⟨m, by have := W.m6; omega⟩).1
    dsimp only at e
    refine ⟨h, ?_, hI, fun z _ => rfl⟩
    refine XGo.go 2 rfl ?_
    refine XGo.call _ rfl xm_X6_coursesThereAre rfl rfl [.ref 13] [.int (nI (2 ^ m))] rfl rfl (fun _ => ⟨13, fs, rfl, h13, by decide, by omega⟩) (Nat.le_of_ble_eq_true rfl) (k_many 5 hI.1.1 h3) ?_
    rw [e]
    refine XGo.go 1 rfl ?_
    refine XGo.ifp (Int32.le_refl _) ?_
    refine XGo.go 1 rfl ?_
    exact XGo.iret _ rfl rfl .int rfl rfl
  | q + 1, k, h, l5, l6, hk, hI, hf, hG => by
    obtain ⟨fs, h13, -, -, -⟩ := w_lg hI.1.1
    have hN : h.1 = 549 := hI.1.1.1
    have h3 := rd3_of hI hf W
    obtain ⟨e, e64⟩ := shm_nI ⟨m, by have := W.m6; omega⟩
    dsimp only at e e64
    have tk := nI_toInt (n := k) (by omega)
    obtain ⟨k', h1, hk', cC, hI1, oC, hL⟩ := G_course hI hf W (co := nI k) (by omega) (by omega)
    obtain ⟨fs1, h131, -, -, -⟩ := w_lg hI1.1.1
    have hN1 : h1.1 = 549 := hI1.1.1.1
    have hf1 : h1.2.2 537 = .inr (.inl (0, 490, f)) := (oC 537 (by omega)).trans hf
    have hG1 : CG h1 p (nI nc) Lt Nt := ⟨(oC p (by omega)).trans hG.1, (oC (p + 1) (by omega)).trans hG.2.1, (oC (p + 2) (by omega)).trans hG.2.2⟩
    have hL := lkv_f W.n8 W.m6 hff hL
    have r8 : rd h1 (88 + 7 * k') 8 = some (.int (ldS f2 n m (nI k))) := by
      have r := hL.2.2.2.1.2
      rw [vw_co0 hk'] at r
      exact r
    have head : ∀ {v : Option Value} {hend : XH}, XGo 6 xm_X6_lateClauses (if i40 ≤ ldS f2 n m (nI k) + x then 60 else 38, [some (.ref 13), some (.ref p), some (.int x), some (.int (ltS f2 n m g nc x k)), some (.int (nI k)), some (.ref (88 + 7 * k')), some (.int (ldS f2 n m (nI k) + x))], [], h1) v hend → XGo 6 xm_X6_lateClauses (5, [some (.ref 13), some (.ref p), some (.int x), some (.int (ltS f2 n m g nc x k)), some (.int (nI k)), l5, l6], [], h) v hend := fun {v hend} g => by
      refine XGo.go 2 rfl ?_
      refine XGo.call _ rfl xm_X6_coursesThereAre rfl rfl [.ref 13] [.int (nI k)] rfl rfl (fun _ => ⟨13, fs, rfl, h13, by decide, by omega⟩) (Nat.le_of_ble_eq_true rfl) (k_many 5 hI.1.1 h3) ?_
      rw [e]
      refine XGo.go 1 rfl ?_
      refine XGo.ifn (fun z => absurd ((xnI_ge (m := 2 ^ m) (by omega) (by omega)).mp z) (by omega)) ?_
      refine XGo.go 2 rfl ?_
      refine XGo.call _ rfl xm_X6_courseOf rfl rfl [.ref 13, .int (nI k)] [] rfl rfl (fun _ => ⟨13, fs, rfl, h13, by decide, by omega⟩) (Nat.le_of_ble_eq_true rfl) (XCall.up (by decide) cC) ?_
      refine XGo.go 2 rfl ?_
      refine XGo.getr rfl hI1.1.1 (by omega) (by omega) (w_rg_co0 hk') k58s (by decide) r8 ?_
      exact XGo.go 6 rfl g
    by_cases b : i40 ≤ ldS f2 n m (nI k) + x
    · have es : ltS f2 n m g nc x (k + 1) = ltS f2 n m g nc x k := by
        show _ ||| bset (ltB f2 n m (nI k) g nc x) 6 = _
        rw [bset_0 6 fun j _ => by unfold ltB; rw [decide_eq_true b]; rfl]
        exact Int32.or_zero
      obtain ⟨h2, c2, hI2, o2⟩ := lc_l hc hc1 hcs hcm hs hgs W hff hp hp2 hr hnc hC x q (k + 1) h1 (some (.ref (88 + 7 * k'))) (some (.int (ldS f2 n m (nI k) + x))) (by omega) hI1 hf1 hG1
      rw [es, ← show nI k + Int32.ofInt 1 = nI (k + 1) from nI_1 k] at c2
      exact ⟨h2, head (XGo.ifp b (XGo.go 2 rfl c2)), hI2, fun z hz => (o2 z hz).trans (oC z (by omega))⟩
    · obtain ⟨h2, cR, hI2, R⟩ := G_runa hc hc1 hcs hcm hs hgs hI1 hk' (rw_f W hff) hL hG1 hp (by omega) hr hnc hC
      obtain ⟨c0, r0, b0, hv0, o71⟩ := R.o
      obtain ⟨bg, o74, hbg⟩ := R.bg
      have hN2 : h2.1 = 549 := hI2.1.1.1
      have hf2 : h2.2.2 537 = .inr (.inl (0, 490, f)) := (R.oth 537 (by omega)).trans hf1
      have hG2 : CG h2 p (nI nc) Lt Nt := ⟨(R.oth p (by omega)).trans hG1.1, (R.oth (p + 1) (by omega)).trans hG1.2.1, (R.oth (p + 2) (by omega)).trans hG1.2.2⟩
      obtain ⟨c7, r7, b7, v7, ho7, cl7, bg7, h71, -⟩ := run_ofa hI1.1.1
      have es : ltS f2 n m g nc x (k + 1) = ltS f2 n m g nc x k ||| bset (fun j => decide (ldS f2 n m (nI k) + x < bg j)) 6 := by
        show _ ||| bset (ltB f2 n m (nI k) g nc x) 6 = _
        rw [bset_c (Q := fun j => decide (ldS f2 n m (nI k) + x < bg j)) 6 fun j hj => by
          show (!decide _ && decide _) = decide (ldS f2 n m (nI k) + x < bg j)
          rw [decide_eq_false b, hbg j hj, Bool.not_false, Bool.true_and]]
      obtain ⟨h3', c3, hI3, o3⟩ := lc_l hc hc1 hcs hcm hs hgs W hff hp hp2 hr hnc hC x q (k + 1) h2 (some (.ref (88 + 7 * k'))) (some (.int (ldS f2 n m (nI k) + x))) (by omega) hI2 hf2 hG2
      rw [es, ← show nI k + Int32.ofInt 1 = nI (k + 1) from nI_1 k] at c3
      refine ⟨h3', head (XGo.ifn b ?_), hI3, fun z hz => (o3 z hz).trans ((R.oth z (by omega)).trans (oC z (by omega)))⟩
      refine XGo.go 1 rfl ?_
      refine XGo.getr rfl hI1.1.1 (by decide) (by decide) w_rg_13 k13s (by decide) (r13_4 hI1.1.1) ?_
      refine XGo.go 2 rfl ?_
      refine XGo.call _ rfl xm_X4_go rfl rfl [.ref 71, .ref p, .ref (88 + 7 * k')] [] rfl rfl (fun _ => ⟨71, _, rfl, h71, by decide, by omega⟩) (Nat.le_of_ble_eq_true rfl) cR ?_
      refine XGo.go 2 rfl ?_
      refine XGo.getr rfl hI2.1.1 (by decide) (by decide) w_rg_13 k13s (by decide) (r13_4 hI2.1.1) ?_
      refine XGo.go 1 rfl ?_
      refine XGo.call _ rfl xm_X4_begunBehind rfl rfl [.ref 71, .int (ldS f2 n m (nI k) + x)] [.int (ltS f2 n m g nc x k)] rfl rfl (fun _ => ⟨71, _, rfl, o71, by decide, by omega⟩) (Nat.le_of_ble_eq_true rfl) (k_bb 5 hN2 o71 o74 _) ?_
      exact XGo.go 4 rfl c3
  termination_by q => q
/-- the late clauses of a grant, as the class counts them -/
theorem G_lcl {r : Nat} {c : ACt} (hc : AHp w_W w_P c) (hc1 : c.1.1 = 43) (hcs : c.1.2.1 = [avR 41, avR r, avR 58]) (hcm : c.2.1 = []) (hs : vsafe c.1.2.2.2.1 = true) (hgs : (ssafe c.1.2.2.2.1 && (gsafeW c.1.2.2.2.1 && gsafeK c.1.2.2.2.1)) = true) {L : Nat} {xs : Nat → Int32} {f f2 : Nat → Int32} {n m : Nat} (W : RW f n m) (hff : ∀ j, j < 130 → f2 j = f j) {p g nc : Nat} {Lt Nt : Nat → Int32} (hp : 13 ≤ p ∧ p + 2 < 549) (hp2 : p + 2 < 71 ∨ (79 ≤ p ∧ p + 2 < 88)) (hr : w_rg p = r) (hnc : 1 ≤ nc ∧ nc ≤ 6) (hC : CI f2 g Lt Nt nc) (x : Int32) {h : XH} (hI : INVg L xs h) (hf : h.2.2 537 = .inr (.inl (0, 490, f))) (hG : CG h p (nI nc) Lt Nt) : ∃ h1 : XH, XCall xM 7 99 [.ref 13, .ref p, .int x] h (some (.int (ltS f2 n m g nc x (2 ^ m)))) h1 ∧ INVg L xs h1 ∧ ∀ z, (z < 71 ∨ (74 < z ∧ z < 88) ∨ 535 < z) → h1.2.2 z = h.2.2 z := by
  obtain ⟨h1, c1, q⟩ := lc_l hc hc1 hcs hcm hs hgs W hff hp hp2 hr hnc hC x (2 ^ m) 0 h none none (by omega) hI hf hG
  exact ⟨h1, XCall.of (M := xm_X6_lateClauses) rfl (Nat.le_of_ble_eq_true rfl) (XGo.go 4 rfl c1), q⟩
/-! words too late: the model's side -/
section
variable {f : Nat → Int32} {s : LV}
theorem lvC_in2 {k : Nat} (hy : 1 ≤ (f (122 + k)).toInt ∧ (f (122 + k)).toInt ≤ 40) (h : ∀ j, j < 14 → lvIn 40 (s.2.1 j)) : ∀ j, j < 14 → lvIn 40 ((lvC f k s).2.1 j) := fun j hj => by
  unfold lvC
  split
  · exact h j hj
  · split
    · exact h j hj
    · split
      · exact h j hj
      · split
        · exact upd_all h (Or.inr ⟨by omega, by omega⟩) j hj
        · exact h j hj
theorem lvOf_in2 {n m : Nat} (hy : yrOK f m) (set : Int32) : ∀ j, j < 14 → lvIn 40 ((lvOf f n m set).2.1 j) := by
  have hM : ∀ (y k : Nat) (s : LV), k ≤ m → (∀ j, j < 14 → lvIn 40 (s.2.1 j)) → ∀ j, j < 14 → lvIn 40 ((lvM f set y k s).2.1 j) := by
    intro y k
    induction k with
    | zero => exact fun s _ h => h
    | succ k ih =>
      intro s hk h
      unfold lvM
      split
      · exact lvC_in2 (hy k (by omega)) (ih s (by omega) h)
      · exact ih s (by omega) h
  have hY : ∀ y, ∀ j, j < 14 → lvIn 40 ((lvY f set m y (lv0 n)).2.1 j) := by
    intro y
    induction y with
    | zero => exact fun j hj => Or.inl rfl
    | succ y ih => exact hM (y + 1) m _ (Nat.le_refl m) ih
  exact hY 40
end
/-- the last to die of a course, either side's way -/
theorem ld_is {f : Nat → Int32} {n m : Nat} (W : RW f n m) (co : Int32) {s : LV} (he : LVe s (lvOf f n m co)) : ((mlS s.2.1 n).getD m1 = m1 ∧ ldS f n m co = c1000) ∨ ∃ q, q < n ∧ (mlS s.2.1 n).getD m1 = nI q ∧ ldS f n m co = s.2.1 q ∧ 0 ≤ (s.2.1 q).toInt ∧ (s.2.1 q).toInt ≤ 40 := by
  have n8 := W.n8
  have hv : ∀ i, i < n → lvIn 40 (s.2.1 i) := fun i hi => by
    rw [he.2.1 i (by omega)]
    exact lvOf_in2 W.yr co i (by omega)
  rcases last_is (de := s.2.1) (dt := fun j => if (lvOf f n m co).2.1 j = i99 then c1000 else (lvOf f n m co).2.1 j) (n := n) (by omega) (fun i hi => by rw [he.2.1 i (by omega)]) hv n (Nat.le_refl n) with ⟨a, b⟩ | ⟨-, a, b⟩ | ⟨q, hq, q9, a, b⟩
  · refine Or.inl ⟨by rw [b]; rfl, ?_⟩
    unfold ldS flR
    rw [a]
    rfl
  · refine Or.inl ⟨by rw [b]; rfl, ?_⟩
    unfold ldS flR
    rw [a]
    rfl
  · refine Or.inr ⟨q, hq, by rw [b]; rfl, ?_, ?_⟩
    · unfold ldS flR
      rw [a]
      rfl
    · exact (hv q hq).resolve_left q9
def lateM (D b x : Int32) : Bool := !decide (D = c1000) && (!decide (b = m5) && !decide (b ≤ D + x))
theorem lateM_1 {D b x : Int32} (h : D = c1000) : lateM D b x = false := by
  unfold lateM
  rw [decide_eq_true h]
  rfl
theorem lateM_2 {D b x : Int32} (h : b = m5) : lateM D b x = false := by
  unfold lateM
  rw [decide_eq_true h, Bool.not_true, Bool.false_and, Bool.and_false]
theorem lateM_3 {D b x : Int32} (h : b ≤ D + x) : lateM D b x = false := by
  unfold lateM
  rw [decide_eq_true h, Bool.not_true, Bool.and_false, Bool.and_false]
theorem lateM_4 {D b x : Int32} (h1 : ¬ D = c1000) (h2 : ¬ b = m5) (h3 : ¬ b ≤ D + x) : lateM D b x = true := by
  unfold lateM
  rw [decide_eq_false h1, decide_eq_false h2, decide_eq_false h3]
  rfl
set_option maxRecDepth 100000 in
theorem k_isLate (d : Nat) {h : XH} {f e bg : Nat → Int32} {s : LV} {n m : Nat} {co : Int32} (W : RW f n m) (hN : h.1 = 549) (o36 : h.2.2 536 = .inl (7, mO e)) (hf : h.2.2 537 = .inr (.inl (0, 490, f))) (hs : LVr h s) (he : LVe s (lvOf f n m co)) (h5 : h.2.2 545 = .inr (.inl (0, 6, bg))) {c : Nat} (hc : c < 6) (x : Int32) : XCall xM (d + 2) 156 [.ref 536, .int (nI c), .int x] h (some (.int (b01 (lateM (ldS f n m co) (bg c) x)))) h := by
  have hK : LVk h (mO e) f := ⟨hN, o36, hf, rfl, rfl, rfl, rfl, rfl⟩
  have n8 := W.n8
  have head : ∀ {v : Option Value} {hend : XH}, XGo (d + 1) xm_X7_isLate (if (mlS s.2.1 n).getD m1 = Int32.ofInt (-1) then 42 else 10, [some (.ref 536), some (.int (nI c)), some (.int x), some (.int ((mlS s.2.1 n).getD m1))], [], h) v hend → XCall xM (d + 2) 156 [.ref 536, .int (nI c), .int x] h v hend := fun {v hend} g => by
    refine XCall.of (M := xm_X7_isLate) rfl (Nat.le_of_ble_eq_true rfl) ?_
    refine XGo.go 1 rfl ?_
    refine XGo.call _ rfl xm_X7_lastLife rfl rfl [.ref 536] [] rfl rfl (rc7 hK rfl rfl) (Nat.le_of_ble_eq_true rfl) (k_lastLife d hK hs W.f0 n8) ?_
    exact XGo.go 4 rfl g
  rcases ld_is W co he with ⟨a, b⟩ | ⟨q, hq, a, b, b0, b40⟩
  · refine head (XGo.ifp a ?_)
    rw [lateM_1 b]
    refine XGo.go 1 rfl ?_
    exact XGo.ib (b := false) _ rfl rfl rfl rfl
  · have hD : ¬ ldS f n m co = c1000 := fun z => by
      rw [b] at z
      rw [z, c1000_int] at b40
      omega
    rw [a] at head
    refine head (XGo.ifn (nI_m1 (by omega)) ?_)
    refine XGo.go 1 rfl ?_
    refine XGo.getf rfl (xfd_o o36 (xlt hN (by decide)) (by decide) rfl) ?_
    refine XGo.go 1 rfl ?_
    refine XGo.iald rfl (ia_nI h5 (xlt hN (by decide)) hc (by decide)) ?_
    refine XGo.go 2 rfl ?_
    by_cases e5 : bg c = m5
    · refine XGo.ifp e5 ?_
      rw [lateM_2 e5]
      refine XGo.go 1 rfl ?_
      exact XGo.ib (b := false) _ rfl rfl rfl rfl
    · refine XGo.ifn e5 ?_
      refine XGo.go 1 rfl ?_
      refine XGo.getf rfl (xfd_o o36 (xlt hN (by decide)) (by decide) rfl) ?_
      refine XGo.go 1 rfl ?_
      refine XGo.iald rfl (ia_nI h5 (xlt hN (by decide)) hc (by decide)) ?_
      refine XGo.go 1 rfl ?_
      refine XGo.getf rfl (xfd_o o36 (xlt hN (by decide)) (by decide) rfl) ?_
      refine XGo.go 1 rfl ?_
      refine XGo.iald rfl (ia_nI hs.2.1 (xlt hN (by decide)) (show q < 14 by omega) (by decide)) ?_
      refine XGo.go 3 rfl ?_
      by_cases e6 : bg c ≤ s.2.1 q + x
      · refine XGo.ifp e6 ?_
        rw [lateM_3 (by rw [b]; exact e6)]
        refine XGo.go 1 rfl ?_
        exact XGo.ib (b := false) _ rfl rfl rfl rfl
      · refine XGo.ifn e6 ?_
        rw [lateM_4 hD e5 (by rw [b]; exact e6)]
        refine XGo.go 2 rfl ?_
        exact XGo.ib (b := true) _ rfl rfl rfl rfl
theorem ltB_eq {f : Nat → Int32} {n m : Nat} (W : RW f n m) (co : Int32) (g : Nat) {nc : Nat} (hn0 : 0 < nc) {x : Int32} (x0 : 0 ≤ x.toInt) (x1 : x.toInt ≤ 40) (j : Nat) : lateM (ldS f n m co) (bgX f n m co g nc j) x = ltB f n m co g nc x j ∧ (nc ≤ j → ltB f n m co g nc x j = false) := by
  obtain ⟨al, we, de, bi, ch, F⟩ := cfa_can (L := lvOf f n m co) W.n8 W.m6 (lvOf_in W.n8 W.yr co) W.ag (fun j hj => lvOf_b8 hj)
  obtain ⟨hb, hp⟩ := bgX_in f n m co g hn0 j
  have D := ld_is W co (s := lvOf f n m co) ⟨fun _ _ => rfl, fun _ _ => rfl, fun _ _ => rfl, fun _ _ => rfl⟩
  have e40 : i40.toInt = 40 := by decide
  have e5 : m5.toInt = -5 := by decide
  have eD : (ldS f n m co).toInt = 1000 ∧ ldS f n m co = c1000 ∨ (0 ≤ (ldS f n m co).toInt ∧ (ldS f n m co).toInt ≤ 40) ∧ ¬ ldS f n m co = c1000 := by
    rcases D with ⟨-, b⟩ | ⟨q, -, -, b, b0, b1⟩
    · exact Or.inl ⟨by rw [b]; decide, b⟩
    · refine Or.inr ⟨by rw [b]; exact ⟨b0, b1⟩, fun z => ?_⟩
      rw [← b, z, c1000_int] at b1
      omega
  have es : (ldS f n m co + x).toInt = (ldS f n m co).toInt + x.toInt := by
    rw [Int32.toInt_add, Int.bmod_eq_of_le]
    · omega
    · omega
  have l1 : (i40 ≤ ldS f n m co + x) ↔ 40 ≤ (ldS f n m co).toInt + x.toInt := by rw [Int32.le_iff_toInt_le, es, e40]
  have l2 : (ldS f n m co + x < bgX f n m co g nc j) ↔ (ldS f n m co).toInt + x.toInt < (bgX f n m co g nc j).toInt := by rw [Int32.lt_iff_toInt_lt, es]
  have l3 : (bgX f n m co g nc j ≤ ldS f n m co + x) ↔ (bgX f n m co g nc j).toInt ≤ (ldS f n m co).toInt + x.toInt := by rw [Int32.le_iff_toInt_le, es]
  have hb5 : bgX f n m co g nc j = m5 ∧ (bgX f n m co g nc j).toInt = -5 ∨ ¬ bgX f n m co g nc j = m5 ∧ 0 ≤ (bgX f n m co g nc j).toInt ∧ (bgX f n m co g nc j).toInt ≤ 40 := by
    rcases hb with z | z
    · exact Or.inl ⟨z, by rw [z]; exact e5⟩
    · refine Or.inr ⟨fun w => ?_, z⟩
      rw [w, e5] at z
      omega
  have F2 : ¬ (ldS f n m co + x < bgX f n m co g nc j) → ltB f n m co g nc x j = false := fun z => by
    unfold ltB
    rw [decide_eq_false z, Bool.and_false]
  refine ⟨?_, fun z => F2 fun w => ?_⟩
  · rcases eD with ⟨d1, d2⟩ | ⟨d1, d2⟩
    · rw [lateM_1 d2, F2 fun w => by have := l2.mp w; omega]
    · rcases hb5 with ⟨b1, b2⟩ | ⟨b1, b2, b3⟩
      · rw [lateM_2 b1, F2 fun w => by have := l2.mp w; omega]
      · by_cases c1 : bgX f n m co g nc j ≤ ldS f n m co + x
        · have := l3.mp c1
          rw [lateM_3 c1, F2 fun w => by have := l2.mp w; omega]
        · have c2 : ldS f n m co + x < bgX f n m co g nc j := Int32.not_le.mp c1
          have := l2.mp c2
          rw [lateM_4 d2 b1 c1]
          unfold ltB
          rw [decide_eq_true c2, decide_eq_false fun z => by have := l1.mp z; omega]
          rfl
  · have e := hp z
    have := l2.mp w
    rw [e, e5] at this
    omega
set_option maxRecDepth 100000 in
theorem k_courses (d : Nat) {h : XH} {f e : Nat → Int32} {n m : Nat} (W : RW f n m) (hN : h.1 = 549) (o36 : h.2.2 536 = .inl (7, mO e)) (hf : h.2.2 537 = .inr (.inl (0, 490, f))) : XCall xM (d + 1) 149 [.ref 536] h (some (.int (nI (2 ^ m)))) h := by
  refine XCall.of (M := xm_X7_courses) rfl (Nat.le_of_ble_eq_true rfl) ?_
  refine XGo.go 2 rfl ?_
  refine XGo.getf rfl (xfd_o o36 (xlt hN (by decide)) (by decide) rfl) ?_
  refine XGo.go 1 rfl ?_
  refine XGo.iald rfl (ia_nI (k := 1) hf (xlt hN (by decide)) (by decide) (by decide)) ?_
  rw [W.f1]
  refine XGo.go 1 rfl ?_
  have q := (shm_nI ⟨m, by have := W.m6; omega⟩).1
  dsimp only at q
  rw [← q]
  exact XGo.iret _ rfl rfl .int rfl rfl
set_option maxRecDepth 100000 in
theorem ml_i (d : Nat) {h : XH} {f e bg : Nat → Int32} {s : LV} {n m : Nat} {co : Int32} (W : RW f n m) (hN : h.1 = 549) (o36 : h.2.2 536 = .inl (7, mO e)) (hf : h.2.2 537 = .inr (.inl (0, 490, f))) (hs : LVr h s) (he : LVe s (lvOf f n m co)) (h5 : h.2.2 545 = .inr (.inl (0, 6, bg))) (x acc k : Int32) {g nc : Nat} (hg : g < 6) (hnc : nc ≤ 6) (hfn : f (130 + g) = nI nc) : ∀ (q c : Nat), c + q = nc → ∀ {v : Option Value} {hend : XH}, XGo (d + 2) xm_X7_lates (66, [some (.ref 536), some (.int (nI g)), some (.int x), some (.int (acc ||| bset (fun j => lateM (ldS f n m co) (bg j) x) nc)), some (.int k), some (.int (nI nc))], [], h) v hend → XGo (d + 2) xm_X7_lates (24, [some (.ref 536), some (.int (nI g)), some (.int x), some (.int (acc ||| bset (fun j => lateM (ldS f n m co) (bg j) x) c)), some (.int k), some (.int (nI c))], [], h) v hend
  | q, c, hq, v, hend, g9 => by
    have head : ∀ {v : Option Value} {hend : XH}, XGo (d + 2) xm_X7_lates (if nI nc ≤ nI c then 66 else 39, [some (.ref 536), some (.int (nI g)), some (.int x), some (.int (acc ||| bset (fun j => lateM (ldS f n m co) (bg j) x) c)), some (.int k), some (.int (nI c))], [], h) v hend → XGo (d + 2) xm_X7_lates (24, [some (.ref 536), some (.int (nI g)), some (.int x), some (.int (acc ||| bset (fun j => lateM (ldS f n m co) (bg j) x) c)), some (.int k), some (.int (nI c))], [], h) v hend := fun {v hend} g8 => by
      refine XGo.go 2 rfl ?_
      refine XGo.getf rfl (xfd_o o36 (xlt hN (by decide)) (by decide) rfl) ?_
      refine XGo.go 3 rfl ?_
      refine XGo.top (c130 ⟨g, hg⟩) ?_
      refine XGo.iald rfl (ia_nI hf (xlt hN (by decide)) (show 130 + g < 490 by omega) (by decide)) ?_
      rw [hfn]
      exact XGo.go 1 rfl g8
    match q, hq with
    | 0, hq =>
      have hq : c = nc := by omega
      subst hq
      exact head (XGo.ifp (Int32.le_refl _) g9)
    | q + 1, hq =>
      refine head (XGo.ifn (fun z => absurd ((xnI_ge (by omega) (by omega)).mp z) (by omega)) ?_)
      have nx := ml_i d W hN o36 hf hs he h5 x acc k hg hnc hfn q (c + 1) (by omega) g9
      rw [← show nI c + Int32.ofInt 1 = nI (c + 1) from nI_1 c] at nx
      refine XGo.go 4 rfl ?_
      refine XGo.call _ rfl xm_X7_isLate rfl rfl [.ref 536, .int (nI c), .int x] [.int (acc ||| bset (fun j => lateM (ldS f n m co) (bg j) x) c)] rfl rfl (fun _ => ⟨536, _, rfl, o36, by decide, by omega⟩) (Nat.le_of_ble_eq_true rfl) (k_isLate d W hN o36 hf hs he h5 (show c < 6 by omega) x) ?_
      refine XGo.go 1 rfl ?_
      cases el : lateM (ldS f n m co) (bg c) x
      · rw [bset_f (P := fun j => lateM (ldS f n m co) (bg j) x) (k := c) el] at nx
        refine XGo.ifp rfl ?_
        refine XGo.go 1 rfl ?_
        rw [← show acc ||| bset (fun j => lateM (ldS f n m co) (bg j) x) c ||| Int32.ofInt 0 = acc ||| bset (fun j => lateM (ldS f n m co) (bg j) x) c from Int32.or_zero] at nx
        exact XGo.go 4 rfl nx
      · rw [bset_t (P := fun j => lateM (ldS f n m co) (bg j) x) (k := c) el, ← Int32.or_assoc] at nx
        refine XGo.ifn (by decide) ?_
        refine XGo.go 4 rfl ?_
        exact XGo.go 4 rfl nx
  termination_by q => q
set_option maxRecDepth 100000 in
theorem ml_l {f : Nat → Int32} {n m : Nat} (W : RW f n m) {g nc : Nat} (hg : g < 6) (hnc : 1 ≤ nc ∧ nc ≤ 6) (hfn : f (130 + g) = nI nc) {Lt Nt : Nat → Int32} (hC : CI f g Lt Nt nc) {x : Int32} (x0 : 0 ≤ x.toInt) (x1 : x.toInt ≤ 40) : ∀ (q k : Nat) (h : XH) (l5 : Option Value), k + q = 2 ^ m → MBk h f → ∃ h1 : XH, XGo 7 xm_X7_lates (5, [some (.ref 536), some (.int (nI g)), some (.int x), some (.int (ltS f n m g nc x k)), some (.int (nI k)), l5], [], h) (some (.int (ltS f n m g nc x (2 ^ m)))) h1 ∧ MBk h1 f ∧ ∀ z, ¬ z = 536 → ¬ (539 ≤ z ∧ z ≤ 545) → h1.2.2 z = h.2.2 z
  | q, k, h, l5, hk, hB => by
    obtain ⟨hN, hS, ⟨e, o36⟩, hf, -⟩ := id hB
    have e64 := (shm_nI ⟨m, by have := W.m6; omega⟩).2
    dsimp only at e64
    have head : ∀ {v : Option Value} {hend : XH}, XGo 7 xm_X7_lates (if nI (2 ^ m) ≤ nI k then 72 else 14, [some (.ref 536), some (.int (nI g)), some (.int x), some (.int (ltS f n m g nc x k)), some (.int (nI k)), l5], [], h) v hend → XGo 7 xm_X7_lates (5, [some (.ref 536), some (.int (nI g)), some (.int x), some (.int (ltS f n m g nc x k)), some (.int (nI k)), l5], [], h) v hend := fun {v hend} g8 => by
      refine XGo.go 2 rfl ?_
      refine XGo.call _ rfl xm_X7_courses rfl rfl [.ref 536] [.int (nI k)] rfl rfl (fun _ => ⟨536, _, rfl, o36, by decide, by omega⟩) (Nat.le_of_ble_eq_true rfl) (k_courses 6 W hN o36 hf) ?_
      exact XGo.go 1 rfl g8
    match q, hk with
    | 0, hk =>
      have hk : k = 2 ^ m := by omega
      subst hk
      refine ⟨h, head (XGo.ifp (Int32.le_refl _) ?_), hB, fun _ _ _ => rfl⟩
      refine XGo.go 1 rfl ?_
      exact XGo.iret _ rfl rfl .int rfl rfl
    | q + 1, hk =>
      obtain ⟨h1, cC, hB1, ⟨s, lr, le⟩, -, -, ⟨bg, o5, hbg⟩, oth⟩ := M_goes hB W hg hnc hfn hC (nI k)
      obtain ⟨hN1, -, ⟨e1, o361⟩, hf1, -⟩ := id hB1
      obtain ⟨h2, c2, hB2, o2⟩ := ml_l W hg hnc hfn hC x0 x1 q (k + 1) h1 (some (.int (nI nc))) (by omega) hB1
      refine ⟨h2, head (XGo.ifn (fun z => absurd ((xnI_ge (by omega) (by omega)).mp z) (by omega)) ?_), hB2, fun z z1 z2 => (o2 z z1 z2).trans (oth z z1 z2)⟩
      refine XGo.go 3 rfl ?_
      refine XGo.call _ rfl xm_X7_goes rfl rfl [.ref 536, .int (nI g), .int (nI k)] [] rfl rfl (fun _ => ⟨536, _, rfl, o36, by decide, by omega⟩) (Nat.le_of_ble_eq_true rfl) cC ?_
      refine XGo.go 2 rfl ?_
      have es : ltS f n m g nc x (k + 1) = ltS f n m g nc x k ||| bset (fun j => lateM (ldS f n m (nI k)) (bg j) x) nc := by
        show _ ||| bset (ltB f n m (nI k) g nc x) 6 = _
        have p := bset_pad (P := ltB f n m (nI k) g nc x) (a := nc) (6 - nc) fun j j1 j2 => (ltB_eq W (nI k) g hnc.1 x0 x1 j).2 j1
        rw [show nc + (6 - nc) = 6 by omega] at p
        rw [p, bset_c (Q := fun j => lateM (ldS f n m (nI k)) (bg j) x) nc fun j hj => by
          show _ = lateM (ldS f n m (nI k)) (bg j) x
          rw [hbg j (by omega)]
          exact (ltB_eq W (nI k) g hnc.1 x0 x1 j).1.symm]
      have q0 := ml_i 5 W hN1 o361 hf1 lr le o5 x (ltS f n m g nc x k) (nI k) hg hnc.2 hfn nc 0 (by omega) (v := some (.int (ltS f n m g nc x (2 ^ m)))) (hend := h2) (by
        rw [← es]
        refine XGo.go 2 rfl ?_
        rw [show nI k + Int32.ofInt 1 = nI (k + 1) from nI_1 k]
        exact c2)
      rw [show ltS f n m g nc x k ||| bset (fun j => lateM (ldS f n m (nI k)) (bg j) x) 0 = ltS f n m g nc x k from Int32.or_zero] at q0
      exact q0
  termination_by q => q
/-- the late clauses of a grant, as the model counts them -/
theorem G_lml {f : Nat → Int32} {n m : Nat} (W : RW f n m) {g nc : Nat} (hg : g < 6) (hnc : 1 ≤ nc ∧ nc ≤ 6) (hfn : f (130 + g) = nI nc) {Lt Nt : Nat → Int32} (hC : CI f g Lt Nt nc) {x : Int32} (x0 : 0 ≤ x.toInt) (x1 : x.toInt ≤ 40) {h : XH} (hB : MBk h f) : ∃ h1 : XH, XCall xM 8 161 [.ref 536, .int (nI g), .int x] h (some (.int (ltS f n m g nc x (2 ^ m)))) h1 ∧ MBk h1 f ∧ ∀ z, ¬ z = 536 → ¬ (539 ≤ z ∧ z ≤ 545) → h1.2.2 z = h.2.2 z := by
  obtain ⟨h1, c1, q⟩ := ml_l W hg hnc hfn hC x0 x1 (2 ^ m) 0 h none (by omega) hB
  exact ⟨h1, XCall.of (M := xm_X7_lates) rfl (Nat.le_of_ble_eq_true rfl) (XGo.go 4 rfl c1), q⟩
