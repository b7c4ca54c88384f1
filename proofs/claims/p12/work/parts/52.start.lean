/-! the heap behind the two constructors, by place; the world holds of it -/
theorem xcr_get (q : Nat) : ∀ (n s i : Nat), s < n → i < 7 → (xcr q n)[7 * s + i]? = (xb_X0_init (q + 7 * s))[i]?
  | 0, s, i, hs, hi => by omega
  | n + 1, s, i, hs, hi => by
    rw [xcr_succ]
    by_cases h : s < n
    · rw [List.getElem?_append_left (by rw [xcr_len]; omega), xcr_get q n s i h hi]
    · have e : s = n := by omega
      subst e
      rw [List.getElem?_append_right (by rw [xcr_len]; omega), xcr_len, Nat.add_sub_cancel_left]
def xd0 : XE := .inl (0, [])
def xe1 (j : Nat) : XE := if j < 88 then (xlg 13 64).getD (j - 13) xd0 else if j < 536 then (xb_X0_init (88 + 7 * ((j - 88) / 7))).getD ((j - 88) % 7) xd0 else (xb_X7_init 536).getD (j - 536) xd0
def xe0 (g : Nat → XE) : Nat → XE := fun j => if j < 13 then g j else if j < 549 then xe1 j else g j
def xh0 (g : Nat → XE) : XH := (549, 14048, xe0 g)
theorem xblk2 (g : Nat → XE) (A B : List XE) (s1 s2 n : Nat) (hn : A.length = n) : xblk (xblk (13, 0, g) A s1) B s2 = (13 + n + B.length, 0 + s1 + s2, fun j => if j < 13 + n then (if j < 13 then g j else A.getD (j - 13) (g j)) else B.getD (j - (13 + n)) (if j < 13 then g j else A.getD (j - 13) (g j))) := by
  subst hn
  rfl
theorem xh0_eq (g : Nat → XE) : xblk (xblk (13, 0, g) (xlg 13 64 ++ xcr 88 64) 12784) (xb_X7_init 536) 1264 = xh0 g := by
  have hlen : (xlg 13 64 ++ xcr 88 64).length = 523 := by rw [List.length_append, xcr_len]; rfl
  rw [xblk2 g _ _ _ _ 523 hlen]
  generalize hA : xlg 13 64 ++ xcr 88 64 = A at hlen
  refine Prod.ext rfl (Prod.ext rfl (funext fun j => ?_))
  · show (if j < 13 + 523 then (if j < 13 then g j else A.getD (j - 13) (g j)) else (xb_X7_init 536).getD (j - (13 + 523)) (if j < 13 then g j else A.getD (j - 13) (g j))) = xe0 g j
    unfold xe0 xe1
    simp only [List.getD_eq_getElem?_getD]
    by_cases h1 : j < 13
    · rw [if_pos (by omega), if_pos h1, if_pos h1]
    · rw [if_neg h1, if_neg h1]
      by_cases h2 : j < 88
      · have hlt : j - 13 < (xlg 13 64).length := by show j - 13 < 75; omega
        rw [if_pos (by omega), if_pos (by omega), if_pos h2, ← hA, List.getElem?_append_left hlt, List.getElem?_eq_getElem hlt]
        rfl
      · by_cases h3 : j < 536
        · rw [if_pos (by omega), if_pos (by omega), if_neg h2, if_pos h3, ← hA, List.getElem?_append_right (by show 75 ≤ j - 13; omega)]
          have e : j - 13 - (xlg 13 64).length = 7 * ((j - 88) / 7) + (j - 88) % 7 := by
            show j - 13 - 75 = _
            omega
          have hlt : (j - 88) % 7 < (xb_X0_init (88 + 7 * ((j - 88) / 7))).length := by show (j - 88) % 7 < 7; omega
          rw [e, xcr_get 88 64 _ _ (by omega) (by omega), List.getElem?_eq_getElem hlt]
          rfl
        · rw [if_neg (by omega)]
          by_cases h4 : j < 549
          · rw [if_pos h4, if_neg h2, if_neg h3]
            have hlt : j - 536 < (xb_X7_init 536).length := by show j - 536 < 13; omega
            rw [List.getElem?_eq_getElem hlt]
            rfl
          · rw [if_neg h4, List.getElem?_eq_none (l := xb_X7_init 536) (by show 13 ≤ j - 536; omega), List.getElem?_eq_none (l := A) (by rw [hlen]; omega)]
            rfl
/-! a check of what lies in a place -/
def gvB (a : AV) (v : Value) : Bool := match a.1, v with
  | 0, .int x => decide (a.2.1 ≤ x.toInt) && decide (x.toInt ≤ a.2.2.1)
  | 2, .ref k => Nat.beq (w_rg k) a.2.2.2.1 && Nat.blt k 549
  | _, _ => false
theorem gvB_ok {a : AV} {v : Value} (h : gvB a v = true) : ga w_W a v := by
  obtain ⟨t, lo, hi, sy, of, sr⟩ := a
  unfold gvB at h
  unfold ga
  dsimp only at h ⊢
  split at h
  · simp only [Bool.and_eq_true, decide_eq_true_eq] at h
    exact ⟨_, rfl, h.1, h.2⟩
  · simp only [Bool.and_eq_true] at h
    exact ⟨_, rfl, Nat.eq_of_beq_eq_true h.1, Nat.le_of_ble_eq_true h.2⟩
  · cases h
def gfs : List AV → List Value → Bool
  | [], [] => true
  | a :: s, v :: t => gvB a v && gfs s t
  | _, _ => false
theorem gfs_ok : ∀ {s : List AV} {t : List Value}, gfs s t = true → t.length = s.length ∧ ∀ (b : Nat) (a : AV), s[b]? = some a → ∃ v, t[b]? = some v ∧ ga w_W a v
  | [], [], _ => ⟨rfl, fun b a h => by cases h⟩
  | [], _ :: _, h => by cases h
  | _ :: _, [], h => by cases h
  | x :: s, y :: t, h => by
    unfold gfs at h
    rw [Bool.and_eq_true] at h
    obtain ⟨i1, i2⟩ := gfs_ok h.2
    refine ⟨by simp [i1], fun b a hb => ?_⟩
    cases b with
    | zero => cases hb; exact ⟨y, rfl, gvB_ok h.1⟩
    | succ b => exact i2 b a hb
def gE (s : ASh) (e : XE) : Bool := match s.1, e with
  | 0, .inl o => Nat.beq o.1 s.2.1 && gfs s.2.2.2.1 o.2
  | 1, .inr (.inl q) => Nat.beq q.1 s.2.1 && (Nat.beq q.2.1 s.2.2.1 && (List.range q.2.1).all fun b => match sgI s.2.2.2.2 b b with
    | some (lo, hi) => decide (lo ≤ (q.2.2 b).toInt) && decide ((q.2.2 b).toInt ≤ hi)
    | none => true)
  | 2, .inr (.inr q) => Nat.beq q.1 s.2.1 && (Nat.beq q.2.1 s.2.2.1 && (match s.2.2.2.1[0]? with
    | some a => (List.range q.2.1).all fun b => gvB a (va_rf (q.2.2 b))
    | none => false))
  | 3, _ => Nat.beq s.2.2.1 0
  | _, _ => false
theorem gE_ok {s : ASh} {h : XH} {k : Nat} (hg : gE s (h.2.2 k) = true) : shp s (h.2.2 k) ∧ ∀ b a, shA s b = some a → ∃ v, rd h k b = some v ∧ ga w_W a v := by
  obtain ⟨t, c, n, sl, sg⟩ := s
  unfold rd
  generalize h.2.2 k = e at hg
  unfold gE at hg
  unfold shp shA
  dsimp only at hg ⊢
  split at hg
  · rename_i o
    rw [Bool.and_eq_true] at hg
    obtain ⟨g1, g2⟩ := gfs_ok hg.2
    exact ⟨⟨Nat.eq_of_beq_eq_true hg.1, g1⟩, fun b a hb => g2 b a hb⟩
  · rename_i q
    simp only [Bool.and_eq_true] at hg
    obtain ⟨h1, h2, h3⟩ := hg
    have e2 := Nat.eq_of_beq_eq_true h2
    refine ⟨⟨Nat.eq_of_beq_eq_true h1, e2⟩, fun b a hb => ?_⟩
    have hb : (if b < n then (match sgI sg b b with
      | some (lo, hi) => some (avI lo hi)
      | none => none) else none) = some a := hb
    split at hb
    · rename_i hbn
      split at hb
      · rename_i lo hi hq
        cases hb
        have h4 := List.all_eq_true.mp h3 b (List.mem_range.mpr (by omega))
        rw [hq] at h4
        simp only [Bool.and_eq_true, decide_eq_true_eq] at h4
        exact ⟨.int (q.2.2 b), if_pos (by omega), ga_of rfl h4⟩
      · cases hb
    · cases hb
  · rename_i q
    simp only [Bool.and_eq_true] at hg
    obtain ⟨h1, h2, h3⟩ := hg
    have e2 := Nat.eq_of_beq_eq_true h2
    refine ⟨⟨Nat.eq_of_beq_eq_true h1, e2⟩, fun b a hb => ?_⟩
    have hb : (if b < n then sl[0]? else none) = some a := hb
    split at hb
    · rename_i hbn
      rw [hb] at h3
      have h4 := List.all_eq_true.mp h3 b (List.mem_range.mpr (by omega))
      exact ⟨va_rf (q.2.2 b), if_pos (by omega), gvB_ok h4⟩
    · cases hb
  · have e2 : n = 0 := Nat.eq_of_beq_eq_true hg
    refine ⟨trivial, fun b a hb => ?_⟩
    have hb : (if b < n then sl[0]? else none) = some a := hb
    rw [if_neg (by omega)] at hb
    cases hb
  · cases hg
def xab (j : Nat) : Int32 := [-1, 0, 0, 0, 2, 2, 3].getD j 0
def xg (L : Nat) (xs : Nat → Int32) (fl : Bool) : Nat → XE := fun j => if j = 0 then .inr (.inl (0, 7, xab)) else if j = 1 then .inr (.inl (0, L, xs)) else if j < 7 then .inl (98, []) else if j < 12 then .inr (.inl (4, (xsb (j - 7)).length, fun i => (xsb (j - 7)).getD i 0)) else .inl (if fl = true then 97 else 96, [])
theorem gE_0 : ((List.range 549).all fun k => gE (w_S (w_rg k)) (xe0 (xg 0 (fun _ => 0) true) k)) = true := by decide +kernel
theorem inv_0 (L : Nat) (xs : Nat → Int32) (fl : Bool) : AInv w_W (xh0 (xg L xs fl)) := by
  refine ⟨rfl, rfl, fun k hk => ?_⟩
  have hk : k < 549 := hk
  have h0 := List.all_eq_true.mp gE_0 k (List.mem_range.mpr hk)
  refine gE_ok (h := xh0 (xg L xs fl)) (k := k) ?_
  by_cases h1 : k = 1
  · subst h1
    rfl
  by_cases h2 : k = 12
  · subst h2
    rfl
  · have e : xe0 (xg L xs fl) k = xe0 (xg 0 (fun _ => 0) true) k := by
      unfold xe0 xg
      by_cases h3 : k < 13
      · simp only [if_neg h1, if_pos h3, if_pos (show k < 12 by omega)]
      · simp only [if_neg h3, if_pos hk]
    show gE (w_S (w_rg k)) (xe0 (xg L xs fl) k) = true
    rw [e]
    exact h0
/-! the new object's courses: nothing is learnt -/
def q0E : XH → Nat → Bool := fun h k => (match rd h 70 k with
  | some (.ref j) => Nat.beq j (88 + 7 * k)
  | _ => false) && ((match rd h (88 + 7 * k) 0 with
  | some (.int x) => x == Int32.ofInt 0
  | _ => false) && (List.range 6).all fun j => match rd h (88 + 7 * k) (1 + j) with
  | some (.ref i) => Nat.beq i (88 + 7 * k + 1 + j)
  | _ => false)
theorem q0_ok : ((List.range 64).all fun k => q0E (xh0 (xg 0 (fun _ => 0) true)) k) = true := by decide +kernel
theorem rd_ref_of {o : Option Value} {n : Nat} (h : (match o with
  | some (.ref j) => Nat.beq j n
  | _ => false) = true) : o = some (.ref n) := by
  split at h
  · rw [Nat.eq_of_beq_eq_true h]
  · cases h
theorem rd_int_of {o : Option Value} {n : Int32} (h : (match o with
  | some (.int x) => x == n
  | _ => false) = true) : o = some (.int n) := by
  split at h
  · rw [eq_of_beq h]
  · cases h
theorem xh0_13 (L : Nat) (xs : Nat → Int32) (fl : Bool) {k : Nat} (h1 : 13 ≤ k) (h2 : k < 549) (b : Nat) : rd (xh0 (xg L xs fl)) k b = rd (xh0 (xg 0 (fun _ => 0) true)) k b := by
  unfold rd xh0 xe0
  dsimp only
  simp only [if_neg (show ¬ k < 13 by omega), if_pos h2]
theorem cq_0 (L : Nat) (xs : Nat → Int32) (fl : Bool) : QS (vw w_W (xh0 (xg L xs fl))) ∧ QW (vw w_W (xh0 (xg L xs fl))) ∧ QL (vw w_W (xh0 (xg L xs fl))) := by
  have key : ∀ k, k < 64 → rd (xh0 (xg L xs fl)) 70 k = some (.ref (88 + 7 * k)) ∧ rd (xh0 (xg L xs fl)) (88 + 7 * k) 0 = some (.int (Int32.ofInt 0)) ∧ ∀ j, j < 6 → rd (xh0 (xg L xs fl)) (88 + 7 * k) (1 + j) = some (.ref (88 + 7 * k + 1 + j)) := fun k hk => by
    have q := List.all_eq_true.mp q0_ok k (List.mem_range.mpr hk)
    unfold q0E at q
    rw [Bool.and_eq_true, Bool.and_eq_true] at q
    obtain ⟨q1, q2, q3⟩ := q
    refine ⟨(xh0_13 L xs fl (by omega) (by omega) k).trans (rd_ref_of q1), (xh0_13 L xs fl (by omega) (by omega) 0).trans (rd_int_of q2), fun j hj => ?_⟩
    exact (xh0_13 L xs fl (by omega) (by omega) (1 + j)).trans (rd_ref_of (List.all_eq_true.mp q3 j (List.mem_range.mpr hj)))
  refine ⟨fun k hk => ⟨?_, fun j hj => ?_⟩, ⟨0, 0, ⟨by omega, by omega⟩, ?_, ?_, fun k hk => absurd hk (Nat.not_lt_zero k), fun k hk => absurd hk (Nat.not_lt_zero k)⟩, fun n m f ag _ k hk => Or.inl ?_⟩
  · rw [vw_70]
    exact (key k hk).1
  · rw [vw_co0 hk]
    exact (key k hk).2.2 j hj
  · rw [vw_14 (Or.inl rfl)]
    exact (xh0_13 L xs fl (by decide) (by decide) 0).trans rfl
  · rw [vw_14 (Or.inr rfl)]
    exact (xh0_13 L xs fl (by decide) (by decide) 3).trans rfl
  · rw [vw_co0 hk]
    exact (key k hk).2.1
/-! what the two sides have in common -/
def rel (h : XH) : Prop := ∃ r q x : Int32, (0 ≤ r.toInt ∧ r.toInt ≤ 41) ∧ (0 ≤ q.toInt ∧ q.toInt ≤ 41) ∧ rd h 14 11 = some (.int r) ∧ rd h 537 3 = some (.int r) ∧ rd h 42 11 = some (.int q) ∧ rd h 538 3 = some (.int q) ∧ rd h 13 2 = some (.int x) ∧ rd h 536 3 = some (.int x)
def INV (L : Nat) (xs : Nat → Int32) (h : XH) : Prop := AInv w_W h ∧ PInv w_W w_P h [] ∧ PInv w_W (67, w_P.2) h [] ∧ rel h ∧ h.2.2 1 = .inr (.inl (0, L, xs))
theorem prs_0 : prs (fun _ => 0) := ⟨fun _ _ h => absurd (show (0 : Int) = 3 from h) (by decide), fun _ _ => ⟨fun h => absurd (show (0 : Int) = 3 from h) (by decide), fun h => absurd (show (0 : Int) = 3 from h) (by decide)⟩⟩
theorem INV_0 (L : Nat) (xs : Nat → Int32) (fl : Bool) : INV L xs (xh0 (xg L xs fl)) := by
  have e1 : (xh0 (xg L xs fl)).2.2 537 = .inr (.inl (0, 490, fun _ => 0)) := rfl
  have e2 : (xh0 (xg L xs fl)).2.2 538 = .inr (.inl (0, 490, fun _ => 0)) := rfl
  exact ⟨inv_0 L xs fl, pinv_of (hc := fun _ => cq_0 L xs fl) (p := 537) (by decide) w_rg_537 rfl e1 prs_0, pinv_of (hc := cq67) (p := 538) (by decide) w_rg_538 rfl e2 prs_0, ⟨0, 0, 0, by decide, by decide, rfl, rfl, rfl, rfl, rfl, rfl⟩, rfl⟩
