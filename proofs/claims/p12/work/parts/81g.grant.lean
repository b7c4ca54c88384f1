/-! grant on both sides -/
theorem w_rg_79 : w_rg 79 = 49 := by decide +kernel
theorem w_rg_80 : w_rg 80 = 50 := by decide +kernel
theorem w_rg_81 : w_rg 81 = 51 := by decide +kernel
theorem w_rg_82 : w_rg 82 = 52 := by decide +kernel
theorem w_rg_83 : w_rg 83 = 53 := by decide +kernel
theorem k49s : w_S 49 = (0, 3, 0, w_s49.2.2.2.1, []) := rfl
theorem k50s : w_S 50 = (0, 1, 0, w_s50.2.2.2.1, []) := rfl
theorem k24s : w_S 24 = (0, 1, 0, w_s24.2.2.2.1, []) := rfl
theorem list3 {fs : List Value} (hl : fs.length = 3) {a b c : Value} (h0 : fs[0]? = some a) (h1 : fs[1]? = some b) (h2 : fs[2]? = some c) : fs = [a, b, c] := by
  refine List.ext_getElem? fun i => ?_
  match i with
  | 0 => exact h0
  | 1 => exact h1
  | 2 => exact h2
  | i + 3 => rw [List.getElem?_eq_none (by omega), List.getElem?_eq_none (by simp)]
theorem list4 {fs : List Value} (hl : fs.length = 4) {a b c d : Value} (h0 : fs[0]? = some a) (h1 : fs[1]? = some b) (h2 : fs[2]? = some c) (h3 : fs[3]? = some d) : fs = [a, b, c, d] := by
  refine List.ext_getElem? fun i => ?_
  match i with
  | 0 => exact h0
  | 1 => exact h1
  | 2 => exact h2
  | 3 => exact h3
  | i + 4 => rw [List.getElem?_eq_none (by omega), List.getElem?_eq_none (by simp)]
theorem int_at {h : XH} (hI : AInv w_W h) {k r b ci : Nat} {sl : List AV} {s : AV} (hk : k < 549) (hr : w_rg k = r) (hS : w_S r = (0, ci, 0, sl, [])) (hb : sl[b]? = some s) (h0 : s.1 = 0) {fs : List Value} (hf : h.2.2 k = .inl (ci, fs)) : ∃ x : Int32, fs[b]? = some (.int x) := by
  obtain ⟨x, hx, -⟩ := rd_int hI hk hr hS hb h0
  exact ⟨x, (rd_fld hf).symm.trans hx⟩
theorem ref_at {h : XH} (hI : AInv w_W h) {k r r2 j b ci : Nat} {sl : List AV} (hk : k < 549) (hr : w_rg k = r) (hS : w_S r = (0, ci, 0, sl, [])) (hb : sl[b]? = some (avR r2)) (ho : w_o r2 = true) (hj : w_rg j = r2) (hj2 : j < 549) {fs : List Value} (hf : h.2.2 k = .inl (ci, fs)) : fs[b]? = some (.ref j) := (rd_fld hf).symm.trans (rd_ref hI hk hr hS hb ho hj hj2)
theorem gh_of {h : XH} (hI : AInv w_W h) (hS : GSt h) {G T : Nat} (h7 : rd h 14 7 = some (.int (nI G))) (h9 : rd h 14 9 = some (.int (nI T))) : ∃ fw : List Value, GH h fw G T := by
  obtain ⟨fs, o13, l13, -⟩ := w_obj hI (k := 13) (by decide) w_rg_13 k13S
  obtain ⟨fw, o14, l14, -⟩ := w_obj hI (k := 14) (by decide) w_rg_14 k14s
  obtain ⟨x1, x2, -, -⟩ := w_rg_x
  refine ⟨fw, ⟨hI.1, hI.2.1, ⟨fs, o13, ref_at hI (by decide) w_rg_13 k13S (b := 0) rfl rfl w_rg_14 (by decide) o13, ref_at hI (by decide) w_rg_13 k13S (b := 6) rfl rfl w_rg_79 (by decide) o13⟩, o14, l14, (rd_fld o14).symm.trans h7, ref_at hI (by decide) w_rg_14 k14s (b := 8) rfl rfl x1 (by decide) o14, (rd_fld o14).symm.trans h9, ref_at hI (by decide) w_rg_14 k14s (b := 10) rfl rfl x2 (by decide) o14, ?_, fun g hg => ?_, ?_, ?_⟩⟩
  · have s1 := (hI.2.2 20 (by decide)).1
    rw [w_Sg, x1] at s1
    have s1 : shp w_s20 (h.2.2 20) := s1
    unfold shp at s1
    split at s1
    · rename_i hc _
      exact absurd hc (by decide)
    · rename_i hc _
      exact absurd hc (by decide)
    · rename_i q _ hc
      obtain ⟨t, n, f⟩ := q
      have e1 : t = 3 := s1.1
      have e2 : n = 6 := s1.2
      subst e1
      subst e2
      refine ⟨f, hc, fun g hg => ?_⟩
      have r := (hS g hg).1.1
      unfold rd at r
      rw [hc] at r
      dsimp only at r
      rw [if_pos hg] at r
      cases hfg : f g with
      | none => rw [hfg] at r; cases r
      | some z => rw [hfg] at r; cases r; rfl
    · rename_i hc
      exact absurd hc (by decide)
    · cases s1
  · obtain ⟨⟨r1, r2, r3⟩, -⟩ := w_rg_g ⟨g, hg⟩
    obtain ⟨gf, o1, l1, -⟩ := w_obj hI (k := 24 + 3 * g) (by omega) r1 k24s
    obtain ⟨k, hk⟩ := int_at hI (by omega) r1 k24s (b := 0) rfl rfl o1
    obtain ⟨L, hL⟩ := w_ints hI (k := 24 + 3 * g + 1) (by omega) (by rw [show 24 + 3 * g + 1 = 25 + 3 * g by omega]; exact r2) (show w_S 25 = (1, 0, 24, [], w_s25.2.2.2.2) from rfl)
    obtain ⟨N, hN⟩ := w_ints hI (k := 24 + 3 * g + 2) (by omega) (by rw [show 24 + 3 * g + 2 = 26 + 3 * g by omega]; exact r3) (show w_S 26 = (1, 0, 24, [], w_s26.2.2.2.2) from rfl)
    have e1 : gf[1]? = some (.ref (24 + 3 * g + 1)) := by
      have := (hS g hg).1.2.1
      rw [rd_fld o1] at this
      rw [this, show 25 + 3 * g = 24 + 3 * g + 1 by omega]
    have e2 : gf[2]? = some (.ref (24 + 3 * g + 2)) := by
      have := (hS g hg).1.2.2
      rw [rd_fld o1] at this
      rw [this, show 26 + 3 * g = 24 + 3 * g + 2 by omega]
    exact ⟨k, L, N, by rw [o1, list3 l1 hk e1 e2], hL, hN⟩
  · exact w_ints hI (k := 21) (by decide) x2 (show w_S 21 = (1, 0, 80, [], w_s21.2.2.2.2) from rfl)
  · obtain ⟨rf, o79, l79, -⟩ := w_obj hI (k := 79) (by decide) w_rg_79 k49s
    obtain ⟨a, ha⟩ := int_at hI (by decide) w_rg_79 k49s (b := 2) rfl rfl o79
    obtain ⟨b, hb⟩ := int_at hI (by decide) w_rg_79 k49s (b := 3) rfl rfl o79
    obtain ⟨gf, o80, l80, -⟩ := w_obj hI (k := 80) (by decide) w_rg_80 k50s
    obtain ⟨k, hk⟩ := int_at hI (by decide) w_rg_80 k50s (b := 0) rfl rfl o80
    obtain ⟨L, hL⟩ := w_ints hI (k := 81) (by decide) w_rg_81 (show w_S 51 = (1, 0, 24, [], w_s51.2.2.2.2) from rfl)
    obtain ⟨N, hN⟩ := w_ints hI (k := 82) (by decide) w_rg_82 (show w_S 52 = (1, 0, 24, [], w_s52.2.2.2.2) from rfl)
    obtain ⟨t0, ht⟩ := w_ints hI (k := 83) (by decide) w_rg_83 (show w_S 53 = (1, 0, 80, [], w_s53.2.2.2.2) from rfl)
    refine ⟨a, b, k, L, N, t0, ?_, ?_, hL, hN, ht⟩
    · rw [o79, list4 l79 (ref_at hI (by decide) w_rg_79 k49s (b := 0) rfl rfl w_rg_80 (by decide) o79) (ref_at hI (by decide) w_rg_79 k49s (b := 1) rfl rfl w_rg_83 (by decide) o79) ha hb]
    · rw [o80, list3 l80 hk (ref_at hI (by decide) w_rg_80 k50s (b := 1) rfl rfl w_rg_81 (by decide) o80) (ref_at hI (by decide) w_rg_80 k50s (b := 2) rfl rfl w_rg_82 (by decide) o80)]
/-! grant on both sides: the same answer, and alike behind it -/
theorem contract {c : ACt} (hc : AHp w_W w_P c) (ho : aints c.1.2.2.1 = true) (hm : c.2.1 = []) {as : List Value} (ha : gal w_W c.1.2.1 as) {h : XH} (hI : AInv w_W h) (hP : PInv w_W w_P h []) : ∃ (v : Int32) (h1 : XH), XCall xM c.1.2.2.2.2 c.1.1 as h (some (.int v)) h1 ∧ AInv w_W h1 ∧ PInv w_W w_P h1 [] ∧ AFr w_W c.1.2.2.2.1 h h1 := by
  obtain ⟨v, h1, k1, k2, k3, k4, o, ho2, o1, -, -⟩ := hc.2 as h hI hP ha (by rw [hm]; exact fun q hq => by cases hq)
  obtain ⟨x, rfl⟩ := aints_ok ho ho2 o1
  exact ⟨x, h1, k1, k2, k3, k4⟩
theorem GA.of {h h1 : XH} {p : Nat} {f f1 : Nat → Int32} {g : Nat} (k : GA h p f g) (e0 : h1.2.2 p = h.2.2 p) (e1 : h1.2.2 (p + 1) = h.2.2 (p + 1)) (e2 : h1.2.2 (p + 2) = h.2.2 (p + 2)) (ef : f1 (130 + g) = f (130 + g)) (ec : ∀ j, 140 + 48 * g ≤ j → j < 188 + 48 * g → f1 j = f j) : GA h1 p f1 g := k.fr (rd_same e0 0) (fun j _ => rd_same e1 j) (fun j _ => rd_same e2 j) ef ec
theorem GR.f {h : XH} {W base tp P : Nat} (k : GR h W base tp P) {f : Nat → Int32} (hf : ∀ j, j < 490 → rd h P j = some (.int (f j))) : ∃ G T, (G ≤ 6 ∧ T ≤ 80) ∧ (rd h W 7 = some (.int (nI G)) ∧ f 2 = nI G) ∧ (rd h W 9 = some (.int (nI T)) ∧ f 4 = nI T) ∧ (∀ i, i < T → rd h tp i = some (.int (f (10 + i)))) ∧ ∀ g, g < G → GA h (base + 3 * g) f g := by
  obtain ⟨f0, G, T, h0, ⟨hG, hT⟩, ⟨a1, a2⟩, ⟨b1, b2⟩, c, dd⟩ := k
  have e : ∀ j, j < 490 → f j = f0 j := fun j hj => int_inj ((hf j hj).symm.trans (h0 j hj))
  refine ⟨G, T, ⟨hG, hT⟩, ⟨a1, (e 2 (by decide)).trans a2⟩, ⟨b1, (e 4 (by decide)).trans b2⟩, fun i hi => by rw [c i hi, e _ (by omega)], fun g hg => (dd g hg).fr rfl (fun _ _ => rfl) (fun _ _ => rfl) (e _ (by omega)) fun j h1 h2 => e j (by omega)⟩
theorem rg_lo {z : Nat} (hz : z < 536) : w_rg z < 65 := by
  have q : ((List.range 536).all fun z => Nat.blt (w_rg z) 65) = true := by decide +kernel
  exact Nat.le_of_ble_eq_true (List.all_eq_true.mp q z (List.mem_range.mpr hz))
theorem G_grant {L : Nat} {xs : Nat → Int32} {h : XH} (hI : INVg L xs h) : ∃ (v : Int32) (h1 h2 : XH), XCall xM 11 66 [.ref 13] h (some (.int v)) h1 ∧ AInv w_W h1 ∧ h1.2.2 1 = h.2.2 1 ∧ XCall xM 11 130 [.ref 536] h1 (some (.int v)) h2 ∧ INVg L xs h2 := by
  obtain ⟨hw, gW, gK, gS, gB⟩ := hI
  obtain ⟨f0, hf0⟩ := w_row hw.1 (Or.inl rfl)
  obtain ⟨G, T, ⟨hG, hT⟩, ⟨w7, f2⟩, ⟨w9, f4⟩, ht, hg⟩ := gW.f fun j hj => rd_row hf0 hj
  obtain ⟨fw, GHh⟩ := gh_of hw.1 gS w7 w9
  obtain ⟨v, h1, tx, L0, N0, c1, htx, hz, hcase⟩ := k_cgrant 0 GHh gB hG hT
  obtain ⟨v', h1', d1, j1, j2, jF⟩ := contract h_92 (by decide +kernel) rfl (gal13 gal0) hw.1 hw.2.1
  obtain ⟨e1, e2⟩ := XCall.det c1 d1
  have e1 : v = v' := int_inj e1
  subst e1
  subst e2
  have x1 := XCall.ext _ _ _ _ _ _ c1 (by rw [hw.1.1]; decide)
  have hI1 := invw_fr hw j1 j2 jF (by decide +kernel) (x1 1 (by decide))
  have gB1 := sb0_ext gB x1
  have gS1 := gst_fr gS jF (by decide +kernel)
  have gK1 := grK_fr gK j1 jF (by decide +kernel)
  have r537 : ∀ j, rd h1 537 j = rd h 537 j := fun j => rdF (b := j) w_rg_537 (by decide) jF (by unfold ahit; rfl)
  obtain ⟨f1, hf1⟩ := w_row j1 (Or.inl rfl)
  have ef : ∀ j, j < 490 → f1 j = f0 j := fun j hj => by
    have := r537 j
    rw [rd_row hf1 hj, rd_row hf0 hj] at this
    exact int_inj this
  have hT2 : ∀ j, j < T → f1 (10 + j) = tx j := fun j hj => by
    rw [ef _ (by omega)]
    have a := ht j hj
    rcases htx j (by omega) with q | ⟨tp, q, e⟩
    · rw [rd_ints q (by omega)] at a
      exact (int_inj a).symm
    · rw [rd_ints q (by omega)] at a
      rw [e]
      exact (int_inj a).symm
  obtain ⟨u, h2, f3, c2, hf3, mcase⟩ := k_mgrant 0 j1 gB1 hf1 hT ((ef 2 (by decide)).trans f2) ((ef 4 (by decide)).trans f4) hT2 hG L0 N0 hz (Int32.ofInt 0)
  obtain ⟨u', h2', d2, k1, k2, kF⟩ := contract h_713 (by decide +kernel) rfl (gal536 gal0) j1 j2
  obtain ⟨e3, e4⟩ := XCall.det c2 d2
  have e3 : u = u' := int_inj e3
  subst e3
  subst e4
  have x2 := XCall.ext _ _ _ _ _ _ c2 (by rw [j1.1]; decide)
  have hI2 := invw_fr hI1 k1 k2 kF (by decide +kernel) (x2 1 (by decide))
  have uv : u = v := by
    rcases hcase with ⟨a, b, -⟩ | ⟨a, b, -⟩
    · rcases mcase with ⟨a', b', -⟩ | ⟨a', b', -⟩
      · rw [b, b']
      · exact absurd a (by omega)
    · rcases mcase with ⟨a', b', -⟩ | ⟨a', b', -⟩
      · exact absurd a' (by omega)
      · rw [b, b']
  subst uv
  have lo : ∀ z b, z < 536 → z < 549 → 13 ≤ z → rd h2 z b = rd h1 z b := fun z b hz _ h13 => kF z b (by show z < 549; omega) fun w hw2 hc => by
    have hr : w_W.1 z < 65 := by
      rw [w_W1]
      exact rg_lo hz
    simp only [c_713, List.mem_cons, List.not_mem_nil, or_false] at hw2
    rcases hw2 with rfl | rfl | rfl | rfl | rfl <;> (have := hc.1; dsimp only at this; omega)
  refine ⟨u, h1, h2, XCall.up (by decide) c1, j1, x1 1 (by decide), XCall.up (by decide) c2, hI2, ?_, grK_fr gK1 k1 kF (by decide +kernel), gst_fr gS1 kF (by decide +kernel), sb0_ext gB1 x2⟩
  have lo9 : ∀ z b, 13 ≤ z → z < 536 → rd h2 z b = rd h1 z b := fun z b a c => lo z b c (by omega) a
  have hf2' : ∀ j, j < 490 → rd h2 537 j = some (.int (f3 j)) := fun j hj => rd_row hf3 hj
  have up : ∀ {g : Nat} {f : Nat → Int32}, g < 6 → GA h1 (24 + 3 * g) f g → GA h2 (24 + 3 * g) f g := fun hg2 k => k.fr (lo9 _ 0 (by omega) (by omega)) (fun j _ => lo9 _ j (by omega) (by omega)) (fun j _ => lo9 _ j (by omega) (by omega)) rfl fun _ _ _ => rfl
  rcases hcase with ⟨a, -, a2⟩ | ⟨a, -, a2, a3⟩
  · rcases mcase with ⟨-, -, m3⟩ | ⟨b, -⟩
    · subst a2
      subst m3
      exact ⟨f3, G, T, hf2', ⟨hG, hT⟩, ⟨(lo9 14 7 (by decide) (by decide)).trans w7, (ef 2 (by decide)).trans f2⟩, ⟨(lo9 14 9 (by decide) (by decide)).trans w9, (ef 4 (by decide)).trans f4⟩, fun i hi => by rw [lo9 21 i (by decide) (by decide), ht i hi, ef _ (by omega)], fun g hg2 => up (by omega) ((hg g hg2).fr rfl (fun _ _ => rfl) (fun _ _ => rfl) (ef _ (by omega)) fun j h1 h2 => ef j (by omega))⟩
    · exact absurd a (by omega)
  · rcases mcase with ⟨b, -⟩ | ⟨-, -, m4, m5, m6⟩
    · exact absurd b (by omega)
    · by_cases z : (cLoop tx T 6 (Int32.ofInt 0) (0, L0, N0)).1 = Int32.ofInt (-1)
      · obtain ⟨p14, ⟨L1, N1, pg, pl⟩, pz⟩ := a3 z
        obtain ⟨n, n1, n2, n3, n4, n5, n6⟩ := m6 z
        refine ⟨f3, G + 1, 0, hf2', ⟨by omega, by decide⟩, ⟨(lo9 14 7 (by decide) (by decide)).trans ?_, n4⟩, ⟨(lo9 14 9 (by decide) (by decide)).trans ?_, m4⟩, fun i hi => absurd hi (by omega), fun g hg2 => ?_⟩
        · rw [rd_fld p14, List.getElem?_set_self (by rw [List.length_set, GHh.len]; decide)]
        · rw [rd_fld p14, List.getElem?_set_ne (by decide), List.getElem?_set_self (by rw [GHh.len]; decide)]
        · by_cases e : g = G
          · subst e
            refine up a ⟨n, L1, N1, n1, ?_, n3, fun j hj => ⟨rd_ints pg.2.1 hj, rd_ints pg.2.2 hj⟩, n5.congr n1.2 (fun _ _ _ => rfl) fun j hj => pl j hj⟩
            rw [rd_fld pg.1]
            show some (Value.int _) = _
            rw [n2]
          · refine up (by omega) ((hg g (by omega)).of (pz _ (by omega) (by omega) (by omega)) (pz _ (by omega) (by omega) (by omega)) (pz _ (by omega) (by omega) (by omega)) ?_ fun j h1 h2 => ?_)
            · rw [n6 _ (by omega) (by omega) (by omega) (by omega), ef _ (by omega)]
            · rw [n6 _ (by omega) (by omega) (by omega) (by omega), ef _ (by omega)]
      · obtain ⟨p14, pz⟩ := a2 z
        have m5 := m5 z
        refine ⟨f3, G, 0, hf2', ⟨hG, by decide⟩, ⟨(lo9 14 7 (by decide) (by decide)).trans ?_, ?_⟩, ⟨(lo9 14 9 (by decide) (by decide)).trans ?_, m4⟩, fun i hi => absurd hi (by omega), fun g hg2 => ?_⟩
        · rw [rd_fld p14, List.getElem?_set_ne (by decide)]
          exact GHh.w7
        · rw [m5 2 (by omega) (by decide), ef 2 (by decide)]
          exact f2
        · rw [rd_fld p14, List.getElem?_set_self (by rw [GHh.len]; decide)]
        · refine up (by omega) ((hg g hg2).of (pz _ (by omega) (by omega)) (pz _ (by omega) (by omega)) (pz _ (by omega) (by omega)) ?_ fun j h1 h2 => ?_)
          · rw [m5 _ (by omega) (by omega), ef _ (by omega)]
          · rw [m5 _ (by omega) (by omega), ef _ (by omega)]
