/-! the view of the learnt courses, by places -/
theorem w_rg_70 : w_rg 70 = 40 := by decide +kernel
theorem w_rg_co_ok : ((List.range 64).all fun k => (List.range 7).all fun j => Nat.beq (w_rg (88 + 7 * k + j)) (58 + j)) = true := by decide +kernel
theorem w_rg_co {k j : Nat} (hk : k < 64) (hj : j < 7) : w_rg (88 + 7 * k + j) = 58 + j := Nat.eq_of_beq_eq_true (List.all_eq_true.mp (List.all_eq_true.mp w_rg_co_ok k (List.mem_range.mpr hk)) j (List.mem_range.mpr hj))
theorem w_rg_co0 {k : Nat} (hk : k < 64) : w_rg (88 + 7 * k) = 58 := w_rg_co (j := 0) hk (by omega)
theorem vw_at {h : XH} {k b r : Nat} (hr : w_rg k = r) (hk : k < 549) (hs : rsup r b b = true) : vw w_W h k b = rd h k b := by
  have e : w_W.1 k = r := (w_W1 k).trans hr
  exact if_pos ⟨hk, by rw [e]; exact hs⟩
theorem rsup_all {r : Nat} (h : 15 ≤ r ∧ r ≤ 19 ∨ r = 40 ∨ 58 ≤ r ∧ r ≤ 64) (i j : Int) : rsup r i j = true := by
  unfold rsup
  simp only [Bool.or_eq_true, Bool.and_eq_true]
  rcases h with h | h | h
  · exact Or.inr (Or.inl ⟨Nat.ble_eq.mpr h.1, Nat.ble_eq.mpr h.2⟩)
  · exact Or.inr (Or.inr (Or.inl (by rw [h]; rfl)))
  · exact Or.inr (Or.inr (Or.inr ⟨Nat.ble_eq.mpr h.1, Nat.ble_eq.mpr h.2⟩))
theorem vw_70 {h : XH} (k : Nat) : vw w_W h 70 k = rd h 70 k := vw_at w_rg_70 (by decide) (rsup_all (by omega) _ _)
theorem vw_co {h : XH} {k j : Nat} (hk : k < 64) (hj : j < 7) (b : Nat) : vw w_W h (88 + 7 * k + j) b = rd h (88 + 7 * k + j) b := vw_at (w_rg_co hk hj) (by omega) (rsup_all (by omega) _ _)
theorem vw_co0 {h : XH} {k : Nat} (hk : k < 64) (b : Nat) : vw w_W h (88 + 7 * k) b = rd h (88 + 7 * k) b := vw_co (j := 0) hk (by omega) b
theorem vw_14 {h : XH} {b : Nat} (hb : b = 0 ∨ b = 3) : vw w_W h 14 b = rd h 14 b := vw_at w_rg_14 (by decide) (by rcases hb with rfl | rfl <;> decide)
theorem vw_wo {h : XH} {k : Nat} (h1 : 15 ≤ k) (h2 : k ≤ 19) (b : Nat) : vw w_W h k b = rd h k b := by
  have e : w_rg k = k := by
    have : ((List.range 5).all fun j => Nat.beq (w_rg (15 + j)) (15 + j)) = true := by decide +kernel
    have := Nat.eq_of_beq_eq_true (List.all_eq_true.mp this (k - 15) (List.mem_range.mpr (by omega)))
    rwa [show 15 + (k - 15) = k by omega] at this
  exact vw_at e (by omega) (rsup_all (by omega) _ _)
theorem cq67 {h : XH} : CQ w_W (67, w_P.2) h := fun e => absurd e (by decide)
/-- nothing is carried -/
def w_P0 : Nat × List APr := (99, [])
theorem p0 {h : XH} : PInv w_W w_P0 h [] := ⟨fun _ _ e => (by cases e), fun e => absurd e (by decide)⟩
/-- the courses stand where they stood -/
def qsafe (ws : AWr) : Bool := ws.all fun w => !Nat.beq w.1 40 && (!Nat.beq w.1 58 || decide (w.2.2 ≤ 0))
theorem qs_fr {ws : AWr} {h h1 : XH} (hF : AFr w_W ws h h1) (hs : qsafe ws = true) (q : QS (vw w_W h)) : QS (vw w_W h1) := fun k hk => by
  have no : ∀ w ∈ ws, ¬ w.1 = 40 ∧ (w.1 = 58 → w.2.2 ≤ 0) := fun w hw => by
    have := List.all_eq_true.mp hs w hw
    simp only [Bool.and_eq_true, Bool.or_eq_true, Bool.not_eq_true', decide_eq_true_eq] at this
    refine ⟨fun e => ?_, fun e => this.2.resolve_left fun z => ?_⟩
    · rw [e] at this
      exact absurd this.1 (by decide)
    · rw [e] at z
      exact absurd z (by decide)
  obtain ⟨q1, q2⟩ := q k hk
  refine ⟨?_, fun j hj => ?_⟩
  · rw [vw_70] at q1 ⊢
    exact (hF 70 k (by decide) fun w hw hc => (no w hw).1 (hc.1.trans ((w_W1 70).trans w_rg_70))).trans q1
  · have q2 := q2 j hj
    rw [vw_co0 hk] at q2 ⊢
    exact (hF _ (1 + j) (by show 88 + 7 * k < 549; omega) fun w hw hc => by
      have := (no w hw).2 (hc.1.trans ((w_W1 _).trans (w_rg_co0 hk)))
      have := hc.2.2
      omega).trans q2
theorem PPr.out {P : Nat × List APr} {ws : AWr} {h h1 : XH} (hF : AFr w_W ws h h1) (hn : ∀ w ∈ ws, ¬ w.1 = P.1) (hp : PPr w_W P h []) : PPr w_W P h1 [] := fun n p e1 e2 k hk hr x hx hv => by
  have e : ∀ b, rd h1 k b = rd h k b := fun b => hF k b hk fun w hw hc => hn w hw (hc.1.trans hr)
  rw [e] at hx
  obtain ⟨y, hy, y1⟩ := hp n p e1 e2 k hk hr x hx hv
  exact ⟨y, by rw [e]; exact hy, y1⟩
theorem PInv.out {P : Nat × List APr} {ws : AWr} {h h1 : XH} (hF : AFr w_W ws h h1) (hn : ∀ w ∈ ws, ¬ w.1 = P.1) (hs : ∀ w ∈ ws, rok P w.1 w.2.1 w.2.2 = true) (hp : PInv w_W P h []) : PInv w_W P h1 [] := ⟨PPr.out hF hn hp.1, hp.2.fr hF hs⟩
theorem PInv.o67 {ws : AWr} {h h1 : XH} (hF : AFr w_W ws h h1) (hn : ∀ w ∈ ws, ¬ w.1 = 67) (hp : PInv w_W (67, w_P.2) h []) : PInv w_W (67, w_P.2) h1 [] := ⟨PPr.out hF hn hp.1, cq67⟩
theorem CQ.r66 {h h1 : XH} {i j : Int} (hc : CQ w_W w_P h) (hF : AFr w_W [(66, i, j)] h h1) : CQ w_W w_P h1 := hc.fr hF fun w hw => by
  rw [List.mem_singleton.mp hw]
  rfl
theorem rd_same {h h1 : XH} {k : Nat} (e : h1.2.2 k = h.2.2 k) (b : Nat) : rd h1 k b = rd h k b := by
  unfold rd
  rw [e]
theorem rg_big : ((List.range 13).all fun i => Nat.blt 64 (w_rg (536 + i))) = true := by decide +kernel
theorem rsup_hi {r : Nat} (h : 64 < r) (i j : Int) : rsup r i j = false := by
  have e1 : Nat.beq r 14 = false := by
    cases hq : Nat.beq r 14 with
    | false => rfl
    | true => exact absurd (Nat.eq_of_beq_eq_true hq) (by omega)
  have e2 : Nat.ble r 19 = false := by
    cases hq : Nat.ble r 19 with
    | false => rfl
    | true => exact absurd (Nat.le_of_ble_eq_true hq) (by omega)
  have e3 : Nat.beq r 40 = false := by
    cases hq : Nat.beq r 40 with
    | false => rfl
    | true => exact absurd (Nat.eq_of_beq_eq_true hq) (by omega)
  have e4 : Nat.ble r 64 = false := by
    cases hq : Nat.ble r 64 with
    | false => rfl
    | true => exact absurd (Nat.le_of_ble_eq_true hq) (by omega)
  unfold rsup
  rw [e1, e2, e3, e4]
  simp
theorem vw_pl {h h1 : XH} (e : ∀ k, k < 536 → h1.2.2 k = h.2.2 k) : vw w_W h1 = vw w_W h := by
  funext k b
  unfold vw
  by_cases hk : k < 536
  · rw [rd_same (e k hk)]
  · split
    · rename_i hc
      have hk2 : k < 549 := hc.1
      have q := List.all_eq_true.mp rg_big (k - 536) (List.mem_range.mpr (by omega))
      rw [show 536 + (k - 536) = k by omega] at q
      have q2 : rsup (w_W.1 k) b b = false := by
        rw [w_W1]
        exact rsup_hi (Nat.lt_of_succ_le (Nat.le_of_ble_eq_true q)) _ _
      rw [q2] at hc
      exact absurd hc.2 (by decide)
    · rfl
theorem CQ.pl {h h1 : XH} (hc : CQ w_W w_P h) (e : ∀ k, k < 536 → h1.2.2 k = h.2.2 k) : CQ w_W w_P h1 := fun hp => by
  rw [vw_pl e]
  exact hc hp
