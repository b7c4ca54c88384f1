/-! strike: its beginning and end walked, its loop by hand (written by wip/p14/find) -/
def c_5000 : ACt := ((162, [avR 65, avT, avT], [(some (avI (-4) 5), [], [])], [(65, 14, 17), (66, 2, 2), (66, 130, 135), (66, 140, 427), (68, 0, 13), (69, 0, 13), (70, 0, 13), (71, 0, 3), (72, 0, 40), (73, 0, 40), (74, 0, 5)], 8), [], 1, 7)
def stk_c1 : ACut := ((68, [some (avR 65), some (avI 0 5), some avT, some avT, some (avI 0 5), some (avI 0 0), some (avI 0 0), none], [], [(66, 2, 0, 5)]), 0, [0, 0, 0, 0, 0, 0, 0, 0])
def stk_c2 : ACut := ((146, [some (avR 65), some (avI 0 5), some avT, some avT, some (avI 0 5), some (avI 0 6), some (avI 0 6), none], [], [(66, 2, 0, 5)]), 0, [0, 0, 0, 0, 0, 0, 0, 0])
def stk_p1 : APm := (w_W, w_P, xm_X7_strike, c_5000, [(2, c_715), (14, c_241), (26, c_949)], [], [stk_c1])
def stk_p2 : APm := (w_W, w_P, xm_X7_strike, c_5000, [(2, c_715), (14, c_241), (26, c_949)], [], [stk_c2])
theorem stk_r1 : arest stk_p1 3000 = true := by decide +kernel
theorem stk_r2 : stk_p2.2.2.2.2.2.2.all (acut0 stk_p2 3000) = true := by decide +kernel
theorem stk_h : ∀ c ∈ stk_p1.2.2.2.2.1, AHp stk_p1.1 stk_p1.2.1 c.2 := (ac_c h_715 (ac_c h_241 (ac_c h_949 ac_n)))

theorem aent_go {p : APm} {n : Nat} (hk : AWk p.1) (hcs : ∀ c ∈ p.2.2.2.2.1, AHp p.1 p.2.1 c.2) (h : arest p n = true) {as : List Value} {h0 : XH} (hI : AInv p.1 h0) (hP : PInv p.1 p.2.1 h0 []) (hal : gal p.1 p.2.2.2.1.1.2.1 as) (hm : gmem p.1 h0 p.2.2.2.1.2.1) : (xarg as).length ≤ xmL p.2.2.1 ∧ ∃ k c1, XRuns xM (XCall xM (p.2.2.2.1.1.2.2.2.2 - 1)) p.2.2.1 k (0, xent p.2.2.1 as, [], h0) c1 ∧ AEnd p none (eF (xent p.2.2.1 as)) (0, xent p.2.2.1 as, [], h0) c1 := by
  unfold arest at h
  simp only [Bool.and_eq_true, decide_eq_true_eq] at h
  obtain ⟨hd, hlen, hw⟩ := h
  have hax := axarg_ok hal
  have hgp := aent_ok (k := xmL p.2.2.1 - (xarg as).length) hal
  have hl2 : (axarg p.2.2.2.1.1.2.1).length = (xarg as).length := hax.1
  rw [hl2] at hw
  have hg : AXh p.1 p.2.1 (eF (xent p.2.2.1 as)) ([], 0, amk 0 (axarg p.2.2.2.1.1.2.1 ++ List.replicate (xmL p.2.2.1 - (xarg as).length) none), [], p.2.2.2.1.2.1) (0, xent p.2.2.1 as, [], h0) := ⟨rfl, ⟨amk_ok hgp, trivial, hm, hI⟩, hP⟩
  exact ⟨by omega, awalk_ok hk hcs n false [] _ _ (fun z hz => by cases hz) hw hg⟩
theorem L8 {L : XL} (hl : L.length = 8) {a0 a1 a2 a3 a4 a5 a6 a7 : Option Value} (h0 : L[0]? = some a0) (h1 : L[1]? = some a1) (h2 : L[2]? = some a2) (h3 : L[3]? = some a3) (h4 : L[4]? = some a4) (h5 : L[5]? = some a5) (h6 : L[6]? = some a6) (h7 : L[7]? = some a7) : L = [a0, a1, a2, a3, a4, a5, a6, a7] := by
  match L, hl with
  | [b0, b1, b2, b3, b4, b5, b6, b7], _ =>
    cases h0; cases h1; cases h2; cases h3; cases h4; cases h5; cases h6; cases h7
    rfl
theorem gI {lo hi : Int} {v : Value} (hg : ga w_W (avI lo hi) v) : ∃ x : Int32, v = .int x ∧ lo ≤ x.toInt ∧ x.toInt ≤ hi := ga_int rfl hg
theorem gIn {hi : Int} {v : Value} (hh : hi < 1000) (hg : ga w_W (avI 0 hi) v) : ∃ n : Nat, v = .int (nI n) ∧ (n : Int) ≤ hi := by
  obtain ⟨x, rfl, e1, e2⟩ := gI hg
  refine ⟨x.toInt.toNat, ?_, by omega⟩
  rw [show nI x.toInt.toNat = x from (i32_is (n := x.toInt.toNat) (by omega) (by omega)).symm]
theorem gnI {n : Nat} {hi : Int} (hh : hi < 1000) (h : (n : Int) ≤ hi) : ga w_W (avI 0 hi) (.int (nI n)) := ga_of rfl ⟨by show 0 ≤ (nI n).toInt; rw [nI_toInt (by omega)]; omega, by show (nI n).toInt ≤ hi; rw [nI_toInt (by omega)]; omega⟩
theorem stk_L {L : XL} (hg : gpl w_W stk_c1.1.2.1 L) : ∃ (gr g : Nat) (n msk : Int32) (l7 : Option Value), L = xLs gr g 0 0 (.int n) (.int msk) l7 ∧ gr < 6 ∧ g < 6 ∧ ∀ v, l7 = some v → v.category ≠ 2 := by
  obtain ⟨hl, hp⟩ := hg
  obtain ⟨d0, e0, v0, rfl, g0⟩ := hp 0 _ rfl
  obtain ⟨d1, e1, v1, rfl, g1⟩ := hp 1 _ rfl
  obtain ⟨d2, e2, v2, rfl, g2⟩ := hp 2 _ rfl
  obtain ⟨d3, e3, v3, rfl, g3⟩ := hp 3 _ rfl
  obtain ⟨d4, e4, v4, rfl, g4⟩ := hp 4 _ rfl
  obtain ⟨d5, e5, v5, rfl, g5⟩ := hp 5 _ rfl
  obtain ⟨d6, e6, v6, rfl, g6⟩ := hp 6 _ rfl
  obtain ⟨d7, e7, g7⟩ := hp 7 none rfl
  have q0 := w_ref (k0 := 0) (j := 536) rfl w_rg_536 (by decide) g0
  obtain ⟨gr, q1, b1⟩ := gIn (by decide) g1
  obtain ⟨n, q2, -⟩ := gI g2
  obtain ⟨msk, q3, -⟩ := gI g3
  obtain ⟨g, q4, b4⟩ := gIn (by decide) g4
  obtain ⟨m, q5, b5⟩ := gIn (by decide) g5
  obtain ⟨c, q6, b6⟩ := gIn (by decide) g6
  have hm : m = 0 := by omega
  have hc : c = 0 := by omega
  subst hm
  subst hc
  rw [q0] at e0
  rw [q1] at e1
  rw [q2] at e2
  rw [q3] at e3
  rw [q4] at e4
  rw [q5] at e5
  rw [q6] at e6
  exact ⟨gr, g, n, msk, d7, L8 hl.symm e0 e1 e2 e3 e4 e5 e6 e7, by omega, by omega, g7⟩
theorem stk_G {gr g many c : Nat} {n msk : Int32} {l7 : Option Value} (h1 : gr < 6) (h2 : g < 6) (h3 : many ≤ 6) (h4 : c ≤ 6) (hl : ∀ v, l7 = some v → v.category ≠ 2) : gpl w_W stk_c2.1.2.1 (xLs gr g many c (.int n) (.int msk) l7) := by
  refine ⟨rfl, fun i o ho => ?_⟩
  match i, ho with
  | 0, ho => cases ho; exact ⟨_, rfl, _, rfl, w_ga536⟩
  | 1, ho => cases ho; exact ⟨_, rfl, _, rfl, gnI (by decide) (by omega)⟩
  | 2, ho => cases ho; exact ⟨_, rfl, _, rfl, ga_of rfl (gi_T n)⟩
  | 3, ho => cases ho; exact ⟨_, rfl, _, rfl, ga_of rfl (gi_T msk)⟩
  | 4, ho => cases ho; exact ⟨_, rfl, _, rfl, gnI (by decide) (by omega)⟩
  | 5, ho => cases ho; exact ⟨_, rfl, _, rfl, gnI (by decide) (by omega)⟩
  | 6, ho => cases ho; exact ⟨_, rfl, _, rfl, gnI (by decide) (by omega)⟩
  | 7, ho => cases ho; exact ⟨_, rfl, hl⟩
  | i + 8, ho => cases ho
theorem h_5000 : AHp w_W w_P c_5000 := by
  refine ⟨⟨xm_X7_strike, rfl, rfl, rfl, rfl⟩, fun as h0 hI hP hal hm => ?_⟩
  obtain ⟨hlen, k, c1, k1, k2, k3⟩ := aent_go (p := stk_p1) w_k stk_h stk_r1 hI hP hal hm
  have fin : ∀ (k : Nat) (c1 : XC) (v : Option Value), XRuns xM (XCall xM 7) xm_X7_strike k (0, xent xm_X7_strike as, [], h0) c1 → XRet xm_X7_strike c1 v → XCall xM 8 162 as h0 v c1.2.2.2 := fun k c1 v r1 r2 => ⟨xm_X7_strike, k, c1, rfl, hlen, r1, r2, rfl⟩
  rcases k3 with ⟨v, v1, v2, v3, o, ho, o1, o2, o3⟩ | ⟨cut, hcut, q, hq, hq2⟩
  · refine ⟨v, c1.2.2.2, fin k c1 v k1 v1, v2, v3, k2, o, ho, o1, o2, fun u hu => ?_⟩
    have ho := List.mem_singleton.mp ho
    subst ho
    cases hu
  · have hcut := List.mem_singleton.mp hcut
    subst hcut
    obtain ⟨⟨f1, f2, f3, f4, f5, f6⟩, -⟩ := acutok_ok hq hq2 rfl
    obtain ⟨gr, g, n, msk, l7, eL, hgr, hg6, hl7⟩ := stk_L f2
    have g3 := gst_0 (f3 (eF c1.2.1))
    obtain ⟨cp, cL, cst, ch⟩ := c1
    dsimp only at f1 f2 g3 f4 f5 f6 eL k1 k2
    subst f1
    subst eL
    subst g3
    have key : XGe 7 xm_X7_strike (68, xLs gr g 0 0 (.int n) (.int msk) l7, [], ch) (fun v h1 => AInv w_W h1 ∧ PInv w_W w_P h1 [] ∧ AFr w_W c_5000.1.2.2.2.1 ch h1 ∧ ∃ o ∈ c_5000.1.2.2.1, aansH w_W h1 o.1 v ∧ gmem w_W h1 o.2.1) := by
      refine stk_out 6 hgr hg6 (.int n) msk (h0 := ch) (fun many c l8 h hl hmany hc hIh hPh hF => ?_) 6 0 0 l7 ch hl7 rfl (Nat.le_refl 0) f5 f6 (AFr.refl _ _ _)
      have hmem : gmem w_W h [(66, 2, 0, 5)] := gmem.fr (m := [(66, 2, 0, 5)]) f4 hF
      obtain ⟨k', c3, E3, m1, m2, v, v1, v2, v3, o, ho, o1, o2, o3⟩ := acut_ok (p := stk_p2) w_k stk_h stk_r2 _ stk_c2 (146, xLs gr g many c (.int n) (.int msk) l8, [], h) (List.mem_singleton.mpr rfl) (Nat.lt_succ_self _) rfl (stk_G hgr hg6 hmany hc hl) (fun _ => trivial) hmem hIh hPh
      refine ⟨v, c3.2.2.2, ⟨v2, v3, ?_, o, ho, o1, o2⟩, k', c3, m1, v1, rfl⟩
      exact (hF.mono fun w hw => ⟨(66, 140, 427), by decide, by rw [List.mem_singleton.mp hw], by rw [List.mem_singleton.mp hw]; exact Int.le_refl _, by rw [List.mem_singleton.mp hw]; exact Int.le_refl _⟩).trans m2
    obtain ⟨v, h1, ⟨q1, q2, q3, o, ho, o1, o2⟩, n3, c3, r3, r4, r5⟩ := key
    subst r5
    refine ⟨v, c3.2.2.2, fin _ c3 v (XRuns.app k k1 r3) r4, q1, q2, k2.trans q3, o, ho, o1, o2, fun u hu => ?_⟩
    have ho := List.mem_singleton.mp ho
    subst ho
    cases hu
