/-! the model's questions of a course: children, the eldest -/
section MQ
variable {h : XH} {fs : List Value} {f : Nat → Int32} {s : LV} {n m : Nat}
set_option maxRecDepth 100000 in
theorem ch_l (d : Nat) (hK : LVk h fs f) (hs : LVr h s) (h0 : f 0 = nI n) (hn : n ≤ 8) (h1 : f 1 = nI m) (hm : m ≤ 6) {o y : Nat} {k x : Int32} (hy : y < 2147483648) (hx : k = Int32.ofInt 3 → 0 ≤ x.toInt ∧ x.toInt ≤ 3) : ∀ (q p : Nat), p + q = 14 → XGo (d + 2) xm_X7_children (6, [some (.ref 536), some (.int (nI o)), some (.int k), some (.int x), some (.int (nI y)), some (.int (bset (fun p => kid f n m p o && (alv s p y && hold f s k x p y)) p)), some (.int (nI p))], [], h) (some (.int (chS f n m s o k x y))) h
  | 0, p, hp => by
    have hp : p = 14 := by omega
    subst hp
    refine XGo.go 3 rfl ?_
    refine XGo.ifp (Int32.le_refl _) ?_
    refine XGo.go 1 rfl ?_
    exact XGo.iret _ rfl rfl .int rfl rfl
  | q + 1, p, hp => by
    have p14 : p < 14 := by omega
    refine XGo.go 3 rfl ?_
    refine XGo.ifn (fun z => absurd ((xnI_ge (m := 14) (by decide) (by omega)).mp z) (by omega)) ?_
    refine XGo.go 4 rfl ?_
    refine XGo.call _ rfl xm_X7_isChild rfl rfl [.ref 536, .int (nI p), .int (nI o)] [.int (bset (fun p => kid f n m p o && (alv s p y && hold f s k x p y)) p)] rfl rfl (rc7 hK rfl rfl) (Nat.le_of_ble_eq_true rfl) (k_kid (d + 1) hK h0 hn h1 hm p14) ?_
    have nx : ∀ b : Bool, (kid f n m p o && (alv s p y && hold f s k x p y)) = b → XGo (d + 2) xm_X7_children (57, [some (.ref 536), some (.int (nI o)), some (.int k), some (.int x), some (.int (nI y)), some (.int (bset (fun p => kid f n m p o && (alv s p y && hold f s k x p y)) p)), some (.int (nI p))], [.int (if b = true then Int32.ofInt 1 <<< (nI p &&& 31) else Int32.ofInt 0), .int (bset (fun p => kid f n m p o && (alv s p y && hold f s k x p y)) p)], h) (some (.int (chS f n m s o k x y))) h := fun b e => by
      subst e
      refine XGo.go 4 rfl ?_
      have := ch_l d hK hs h0 hn h1 hm hy hx q (p + 1) (by omega) (o := o)
      rw [← show nI p + Int32.ofInt 1 = nI (p + 1) from nI_1 p] at this
      exact this
    refine XGo.go 1 rfl ?_
    cases e1 : kid f n m p o
    · refine XGo.ifp rfl ?_
      refine XGo.go 1 rfl ?_
      exact nx false (by rw [e1]; rfl)
    · refine XGo.ifn (by decide) ?_
      refine XGo.go 3 rfl ?_
      refine XGo.call _ rfl xm_X7_isAlive rfl rfl [.ref 536, .int (nI p), .int (nI y)] [.int (bset (fun p => kid f n m p o && (alv s p y && hold f s k x p y)) p)] rfl rfl (rc7 hK rfl rfl) (Nat.le_of_ble_eq_true rfl) (k_al (d + 1) hK hs p14 hy) ?_
      refine XGo.go 1 rfl ?_
      cases e2 : alv s p y
      · refine XGo.ifp rfl ?_
        refine XGo.go 1 rfl ?_
        exact nx false (by rw [e1, e2]; rfl)
      · refine XGo.ifn (by decide) ?_
        refine XGo.go 5 rfl ?_
        refine XGo.call _ rfl xm_X7_holdsFor rfl rfl [.ref 536, .int k, .int x, .int (nI p), .int (nI y)] [.int (bset (fun p => kid f n m p o && (alv s p y && hold f s k x p y)) p)] rfl rfl (rc7 hK rfl rfl) (Nat.le_of_ble_eq_true rfl) (k_holds d hK hs p14 hy hx) ?_
        refine XGo.go 1 rfl ?_
        cases e3 : hold f s k x p y
        · refine XGo.ifp rfl ?_
          refine XGo.go 1 rfl ?_
          exact nx false (by rw [e1, e2, e3]; rfl)
        · refine XGo.ifn (by decide) ?_
          refine XGo.go 4 rfl ?_
          exact nx true (by rw [e1, e2, e3]; rfl)
  termination_by q => q
theorem k_ch (d : Nat) (hK : LVk h fs f) (hs : LVr h s) (h0 : f 0 = nI n) (hn : n ≤ 8) (h1 : f 1 = nI m) (hm : m ≤ 6) {o y : Nat} {k x : Int32} (hy : y < 2147483648) (hx : k = Int32.ofInt 3 → 0 ≤ x.toInt ∧ x.toInt ≤ 3) : XCall xM (d + 3) 135 [.ref 536, .int (nI o), .int k, .int x, .int (nI y)] h (some (.int (chS f n m s o k x y))) h :=
  XCall.of (M := xm_X7_children) rfl (Nat.le_of_ble_eq_true rfl) (XGo.go 4 rfl (ch_l d hK hs h0 hn h1 hm hy hx 14 0 rfl))
theorem i8le {p : Nat} (hp : p < 2147483648) : (Int8.ofInt 8).toInt32 ≤ nI p ↔ 8 ≤ p := xnI_ge (m := 8) (by decide) hp
set_option maxRecDepth 100000 in
theorem k_old (d : Nat) (hK : LVk h fs f) (hs : LVr h s) {a b : Nat} (ha : a < 14) (hb : b < 14) : XCall xM (d + 1) 136 [.ref 536, .int (nI a), .int (nI b)] h (some (.int (b01 (oldS f s a b)))) h := by
  have hN := hK.1
  obtain ⟨g4, g5, g6⟩ := lvfld hK
  obtain ⟨-, -, -, -, qa⟩ := d8 ⟨a, ha⟩
  obtain ⟨-, -, -, -, qb⟩ := d8 ⟨b, hb⟩
  dsimp only at qa qb
  refine XCall.of (M := xm_X7_isOlder) rfl (Nat.le_of_ble_eq_true rfl) ?_
  refine XGo.go 3 rfl ?_
  by_cases a8 : a < 8
  · refine XGo.ifn (fun z => absurd ((i8le (by omega)).mp z) (by omega)) ?_
    refine XGo.go 3 rfl ?_
    by_cases b8 : b < 8
    · rw [show oldS f s a b = _ from if_pos ⟨a8, b8⟩]
      refine XGo.ifn (fun z => absurd ((i8le (by omega)).mp z) (by omega)) ?_
      refine XGo.go 1 rfl ?_
      refine XGo.getf rfl ⟨lvf1 hK, by decide⟩ ?_
      refine XGo.go 3 rfl ?_
      refine XGo.top qa ?_
      refine XGo.iald rfl (row_i hK (by omega)) ?_
      refine XGo.go 1 rfl ?_
      refine XGo.getf rfl ⟨lvf1 hK, by decide⟩ ?_
      refine XGo.go 3 rfl ?_
      refine XGo.top qb ?_
      refine XGo.iald rfl (row_i hK (by omega)) ?_
      refine XGo.go 1 rfl ?_
      by_cases e : f (90 + b) < f (90 + a)
      · refine XGo.ifp e ?_
        refine XGo.go 2 rfl ?_
        exact XGo.ib (b := true) _ rfl rfl rfl (dec_t (Or.inl e))
      · refine XGo.ifn e ?_
        refine XGo.go 1 rfl ?_
        refine XGo.getf rfl ⟨lvf1 hK, by decide⟩ ?_
        refine XGo.go 3 rfl ?_
        refine XGo.top qa ?_
        refine XGo.iald rfl (row_i hK (by omega)) ?_
        refine XGo.go 1 rfl ?_
        refine XGo.getf rfl ⟨lvf1 hK, by decide⟩ ?_
        refine XGo.go 3 rfl ?_
        refine XGo.top qb ?_
        refine XGo.iald rfl (row_i hK (by omega)) ?_
        refine XGo.go 1 rfl ?_
        by_cases e2 : f (90 + a) = f (90 + b)
        · refine XGo.ifp e2 ?_
          refine XGo.go 3 rfl ?_
          by_cases e3 : a < b
          · refine XGo.ifn (fun z => absurd ((nIle (by omega) (by omega)).mp z) (by omega)) ?_
            refine XGo.go 2 rfl ?_
            exact XGo.ib (b := true) _ rfl rfl rfl (dec_t (Or.inr ⟨e2, e3⟩))
          · refine XGo.ifp ((nIle (by omega) (by omega)).mpr (by omega)) ?_
            refine XGo.go 1 rfl ?_
            exact XGo.ib (b := false) _ rfl rfl rfl (dec_f (fun z => z.elim e fun z => e3 z.2))
        · refine XGo.ifn e2 ?_
          refine XGo.go 1 rfl ?_
          exact XGo.ib (b := false) _ rfl rfl rfl (dec_f (fun z => z.elim e fun z => e2 z.1))
    · rw [show oldS f s a b = _ from (if_neg (fun z => b8 z.2)).trans (if_pos (Or.inl a8))]
      refine XGo.ifp ((i8le (by omega)).mpr (by omega)) ?_
      refine XGo.go 3 rfl ?_
      refine XGo.ifp (Int32.not_le.mp fun z => absurd ((i8le (by omega)).mp z) (by omega)) ?_
      refine XGo.go 3 rfl ?_
      refine XGo.ifn (fun z => absurd ((i8le (by omega)).mp z) (by omega)) ?_
      refine XGo.go 2 rfl ?_
      exact XGo.ib (b := true) _ rfl rfl rfl (dec_t a8)
  · refine XGo.ifp ((i8le (by omega)).mpr (by omega)) ?_
    refine XGo.go 3 rfl ?_
    refine XGo.ifn (Int32.not_lt.mpr ((i8le (by omega)).mpr (by omega))) ?_
    refine XGo.go 3 rfl ?_
    by_cases b8 : b < 8
    · rw [show oldS f s a b = _ from (if_neg (fun z => a8 z.1)).trans (if_pos (Or.inr b8))]
      refine XGo.ifn (fun z => absurd ((i8le (by omega)).mp z) (by omega)) ?_
      refine XGo.go 3 rfl ?_
      refine XGo.ifp ((i8le (by omega)).mpr (by omega)) ?_
      refine XGo.go 1 rfl ?_
      exact XGo.ib (b := false) _ rfl rfl rfl (dec_f a8)
    · rw [show oldS f s a b = _ from (if_neg (fun z => a8 z.1)).trans (if_neg (fun z => z.elim a8 b8))]
      refine XGo.ifp ((i8le (by omega)).mpr (by omega)) ?_
      refine XGo.go 1 rfl ?_
      refine XGo.getf rfl ⟨g4, by decide⟩ ?_
      refine XGo.go 1 rfl ?_
      refine XGo.iald rfl (ia_nI hs.1 (by omega) ha (by decide)) ?_
      refine XGo.go 1 rfl ?_
      refine XGo.getf rfl ⟨g4, by decide⟩ ?_
      refine XGo.go 1 rfl ?_
      refine XGo.iald rfl (ia_nI hs.1 (by omega) hb (by decide)) ?_
      refine XGo.go 1 rfl ?_
      by_cases e : s.1 a < s.1 b
      · refine XGo.ifp e ?_
        refine XGo.go 2 rfl ?_
        exact XGo.ib (b := true) _ rfl rfl rfl (dec_t (Or.inl e))
      · refine XGo.ifn e ?_
        refine XGo.go 1 rfl ?_
        refine XGo.getf rfl ⟨g4, by decide⟩ ?_
        refine XGo.go 1 rfl ?_
        refine XGo.iald rfl (ia_nI hs.1 (by omega) ha (by decide)) ?_
        refine XGo.go 1 rfl ?_
        refine XGo.getf rfl ⟨g4, by decide⟩ ?_
        refine XGo.go 1 rfl ?_
        refine XGo.iald rfl (ia_nI hs.1 (by omega) hb (by decide)) ?_
        refine XGo.go 1 rfl ?_
        by_cases e2 : s.1 a = s.1 b
        · refine XGo.ifp e2 ?_
          refine XGo.go 3 rfl ?_
          by_cases e3 : a < b
          · refine XGo.ifn (fun z => absurd ((nIle (by omega) (by omega)).mp z) (by omega)) ?_
            refine XGo.go 2 rfl ?_
            exact XGo.ib (b := true) _ rfl rfl rfl (dec_t (Or.inr ⟨e2, e3⟩))
          · refine XGo.ifp ((nIle (by omega) (by omega)).mpr (by omega)) ?_
            refine XGo.go 1 rfl ?_
            exact XGo.ib (b := false) _ rfl rfl rfl (dec_f (fun z => z.elim e fun z => e3 z.2))
        · refine XGo.ifn e2 ?_
          refine XGo.go 1 rfl ?_
          exact XGo.ib (b := false) _ rfl rfl rfl (dec_f (fun z => z.elim e fun z => e2 z.1))
theorem eld_lt {S : Int32} : ∀ (k b : Nat), eldS f s S k = some b → b < k
  | 0, _, e => by cases e
  | k + 1, b, e => by
    unfold eldS at e
    split at e
    · cases e
      omega
    · have := eld_lt k b e
      omega
set_option maxRecDepth 100000 in
theorem eld_l (d : Nat) (hK : LVk h fs f) (hs : LVr h s) (S : Int32) : ∀ (q p : Nat), p + q = 14 → XGo (d + 1) xm_X7_eldest (4, [some (.ref 536), some (.int S), some (.int (o2i (eldS f s S p))), some (.int (nI p))], [], h) (some (.int (o2i (eldS f s S 14)))) h
  | 0, p, hp => by
    have hp : p = 14 := by omega
    subst hp
    refine XGo.go 3 rfl ?_
    refine XGo.ifp (Int32.le_refl _) ?_
    refine XGo.go 1 rfl ?_
    exact XGo.iret _ rfl rfl .int rfl rfl
  | q + 1, p, hp => by
    have p14 : p < 14 := by omega
    have nx : ∀ o : Option Nat, o = eldS f s S (p + 1) → XGo (d + 1) xm_X7_eldest (38, [some (.ref 536), some (.int S), some (.int (o2i (eldS f s S p))), some (.int (nI p))], [.int (o2i o)], h) (some (.int (o2i (eldS f s S 14)))) h := fun o e => by
      subst e
      refine XGo.go 3 rfl ?_
      have := eld_l d hK hs S q (p + 1) (by omega)
      rw [← show nI p + Int32.ofInt 1 = nI (p + 1) from nI_1 p] at this
      exact this
    refine XGo.go 3 rfl ?_
    refine XGo.ifn (fun z => absurd ((xnI_ge (m := 14) (by decide) (by omega)).mp z) (by omega)) ?_
    refine XGo.go 7 rfl ?_
    by_cases e1 : lvB S p
    · refine XGo.ifp e1 ?_
      refine XGo.go 3 rfl ?_
      cases e2 : eldS f s S p with
      | none =>
        refine XGo.ifp rfl ?_
        refine XGo.go 2 rfl ?_
        have := nx (some p) (by unfold eldS; rw [e2, if_pos ⟨e1, rfl⟩])
        rw [e2] at this
        exact this
      | some b =>
        have hb := eld_lt p b e2
        refine XGo.ifn (nI_nm1 (by omega)) ?_
        refine XGo.go 3 rfl ?_
        refine XGo.call _ rfl xm_X7_isOlder rfl rfl [.ref 536, .int (nI p), .int (nI b)] [] rfl rfl (rc7 hK rfl rfl) (Nat.le_of_ble_eq_true rfl) (k_old d hK hs p14 (by omega)) ?_
        refine XGo.go 1 rfl ?_
        cases e3 : oldS f s p b
        · refine XGo.ifp rfl ?_
          refine XGo.go 1 rfl ?_
          have := nx (some b) (by
            unfold eldS
            rw [e2]
            exact (if_neg (fun z => by
              have z2 : oldS f s p b = true := z.2
              rw [e3] at z2
              cases z2)).symm)
          rw [e2] at this
          exact this
        · refine XGo.ifn (by decide) ?_
          refine XGo.go 2 rfl ?_
          have := nx (some p) (by
            unfold eldS
            rw [e2]
            exact (if_pos ⟨e1, e3⟩).symm)
          rw [e2] at this
          exact this
    · refine XGo.ifn e1 ?_
      refine XGo.go 1 rfl ?_
      exact nx _ (by
        show eldS f s S p = if _ then _ else _
        rw [if_neg (fun z => e1 z.1)])
  termination_by q => q
theorem k_eld (d : Nat) (hK : LVk h fs f) (hs : LVr h s) (S : Int32) : XCall xM (d + 2) 137 [.ref 536, .int S] h (some (.int (o2i (eldS f s S 14)))) h :=
  XCall.of (M := xm_X7_eldest) rfl (Nat.le_of_ble_eq_true rfl) (XGo.go 4 rfl (eld_l d hK hs S 14 0 rfl))
end MQ
/-! the model's questions of a clause -/
/-- a clause's numbers are in their bounds -/
def CB (f : Nat → Int32) (a : Nat) : Prop := a + 8 ≤ 490 ∧ rg 7 (f (a + 3)) ∧ (f a = Int32.ofInt 3 → rg 3 (f (a + 1))) ∧ (f (a + 6) = Int32.ofInt 3 → rg 3 (f (a + 7))) ∧ rg 99 (f (a + 5))
section MQ
variable {h : XH} {fs : List Value} {f : Nat → Int32} {s : LV} {n m : Nat}
set_option maxRecDepth 100000 in
theorem k_tk (d : Nat) (hK : LVk h fs f) (hs : LVr h s) (h0 : f 0 = nI n) (hn : n ≤ 8) (h1 : f 1 = nI m) (hm : m ≤ 6) {a y : Nat} (hC : CB f a) (hy : y < 2147483648) : XCall xM (d + 4) 138 [.ref 536, .int (nI a), .int (nI y)] h (some (.int (tkS f n m s a y))) h := by
  obtain ⟨ha, ro, -, ri, -⟩ := hC
  obtain ⟨eo, lo⟩ := i32_nI ro.1 ro.2
  refine XCall.of (M := xm_X7_takers) rfl (Nat.le_of_ble_eq_true rfl) ?_
  refine XGo.go 1 rfl ?_
  refine XGo.getf rfl ⟨lvf1 hK, by decide⟩ ?_
  refine XGo.go 3 rfl ?_
  refine XGo.top (nI_add a 3) ?_
  refine XGo.iald rfl (row_i hK (by omega)) ?_
  refine XGo.go 2 rfl ?_
  refine XGo.getf rfl ⟨lvf1 hK, by decide⟩ ?_
  refine XGo.go 3 rfl ?_
  refine XGo.top (nI_add a 2) ?_
  refine XGo.iald rfl (row_i hK (by omega)) ?_
  show XGo _ _ (_, [some (.ref 536), some (.int (nI a)), some (.int (nI y)), some (.int (f (a + 3))), none], _, _) _ _
  generalize hof : (f (a + 3)).toNatClampNeg = o at eo lo
  have key : tkS f n m s a y = if f (a + 2) = 0 then (if (alv s o y && hold f s (f (a + 6)) (f (a + 7)) o y) = true then Int32.ofInt 1 <<< (nI o &&& 31) else Int32.ofInt 0) else if chS f n m s o (f (a + 6)) (f (a + 7)) y = 0 ∨ f (a + 2) = Int32.ofInt 2 then chS f n m s o (f (a + 6)) (f (a + 7)) y else Int32.ofInt 1 <<< (o2i (eldS f s (chS f n m s o (f (a + 6)) (f (a + 7)) y) 14) &&& 31) := by
    unfold tkS
    rw [hof, eo]
  rw [eo]
  refine XGo.go 1 rfl ?_
  by_cases e0 : f (a + 2) = 0
  · rw [key.trans (if_pos e0)]
    refine XGo.ifp e0 ?_
    refine XGo.go 3 rfl ?_
    refine XGo.call _ rfl xm_X7_isAlive rfl rfl [.ref 536, .int (nI o), .int (nI y)] [] rfl rfl (rc7 hK rfl rfl) (Nat.le_of_ble_eq_true rfl) (k_al (d + 2) hK hs (by omega) hy) ?_
    refine XGo.go 1 rfl ?_
    cases e1 : alv s o y
    · refine XGo.ifp rfl ?_
      refine XGo.go 1 rfl ?_
      exact XGo.iret _ rfl rfl .int rfl rfl
    · refine XGo.ifn (by decide) ?_
      refine XGo.go 2 rfl ?_
      refine XGo.getf rfl ⟨lvf1 hK, by decide⟩ ?_
      refine XGo.go 3 rfl ?_
      refine XGo.top (nI_add a 6) ?_
      refine XGo.iald rfl (row_i hK (by omega)) ?_
      refine XGo.go 1 rfl ?_
      refine XGo.getf rfl ⟨lvf1 hK, by decide⟩ ?_
      refine XGo.go 3 rfl ?_
      refine XGo.top (nI_add a 7) ?_
      refine XGo.iald rfl (row_i hK (by omega)) ?_
      refine XGo.go 2 rfl ?_
      refine XGo.call _ rfl xm_X7_holdsFor rfl rfl [.ref 536, .int (f (a + 6)), .int (f (a + 7)), .int (nI o), .int (nI y)] [] rfl rfl (rc7 hK rfl rfl) (Nat.le_of_ble_eq_true rfl) (k_holds (d + 1) hK hs (by omega) hy ri) ?_
      refine XGo.go 1 rfl ?_
      cases e2 : hold f s (f (a + 6)) (f (a + 7)) o y
      · refine XGo.ifp rfl ?_
        refine XGo.go 1 rfl ?_
        exact XGo.iret _ rfl rfl .int rfl rfl
      · refine XGo.ifn (by decide) ?_
        refine XGo.go 4 rfl ?_
        exact XGo.iret _ rfl rfl .int rfl rfl
  · have key := key.trans (if_neg e0)
    refine XGo.ifn e0 ?_
    refine XGo.go 3 rfl ?_
    refine XGo.getf rfl ⟨lvf1 hK, by decide⟩ ?_
    refine XGo.go 3 rfl ?_
    refine XGo.top (nI_add a 6) ?_
    refine XGo.iald rfl (row_i hK (by omega)) ?_
    refine XGo.go 1 rfl ?_
    refine XGo.getf rfl ⟨lvf1 hK, by decide⟩ ?_
    refine XGo.go 3 rfl ?_
    refine XGo.top (nI_add a 7) ?_
    refine XGo.iald rfl (row_i hK (by omega)) ?_
    refine XGo.go 1 rfl ?_
    refine XGo.call _ rfl xm_X7_children rfl rfl [.ref 536, .int (nI o), .int (f (a + 6)), .int (f (a + 7)), .int (nI y)] [] rfl rfl (rc7 hK rfl rfl) (Nat.le_of_ble_eq_true rfl) (k_ch d hK hs h0 hn h1 hm hy ri) ?_
    generalize chS f n m s o (f (a + 6)) (f (a + 7)) y = S at key
    refine XGo.go 3 rfl ?_
    by_cases e1 : S = 0
    · rw [key.trans (if_pos (Or.inl e1))]
      refine XGo.ifp e1 ?_
      refine XGo.go 2 rfl ?_
      exact XGo.iret _ rfl rfl .int rfl rfl
    · refine XGo.ifn e1 ?_
      refine XGo.go 1 rfl ?_
      refine XGo.getf rfl ⟨lvf1 hK, by decide⟩ ?_
      refine XGo.go 3 rfl ?_
      refine XGo.top (nI_add a 2) ?_
      refine XGo.iald rfl (row_i hK (by omega)) ?_
      refine XGo.go 2 rfl ?_
      by_cases e2 : f (a + 2) = Int32.ofInt 2
      · rw [key.trans (if_pos (Or.inr e2))]
        refine XGo.ifp e2 ?_
        refine XGo.go 2 rfl ?_
        exact XGo.iret _ rfl rfl .int rfl rfl
      · rw [key.trans (if_neg (fun z => z.elim e1 e2))]
        refine XGo.ifn e2 ?_
        refine XGo.go 3 rfl ?_
        refine XGo.call _ rfl xm_X7_eldest rfl rfl [.ref 536, .int S] [.int (Int32.ofInt 1)] rfl rfl (rc7 hK rfl rfl) (Nat.le_of_ble_eq_true rfl) (k_eld (d + 1) hK hs S) ?_
        refine XGo.go 1 rfl ?_
        exact XGo.iret _ rfl rfl .int rfl rfl
set_option maxRecDepth 100000 in
theorem k_fa (d : Nat) (hK : LVk h fs f) (hs : LVr h s) (h0 : f 0 = nI n) (hn : n ≤ 8) (h1 : f 1 = nI m) (hm : m ≤ 6) {a y : Nat} (hC : CB f a) (hy : y < 2147483648) : XCall xM (d + 4) 139 [.ref 536, .int (nI a), .int (nI y)] h (some (.int (b01 (faS f n m s a y)))) h := by
  obtain ⟨ha, ro, -, ri, -⟩ := hC
  obtain ⟨eo, lo⟩ := i32_nI ro.1 ro.2
  refine XCall.of (M := xm_X7_fails) rfl (Nat.le_of_ble_eq_true rfl) ?_
  refine XGo.go 1 rfl ?_
  refine XGo.getf rfl ⟨lvf1 hK, by decide⟩ ?_
  refine XGo.go 3 rfl ?_
  refine XGo.top (nI_add a 3) ?_
  refine XGo.iald rfl (row_i hK (by omega)) ?_
  unfold faS
  generalize (f (a + 3)).toNatClampNeg = o at eo lo ⊢
  rw [eo]
  refine XGo.go 4 rfl ?_
  refine XGo.call _ rfl xm_X7_isAlive rfl rfl [.ref 536, .int (nI o), .int (nI y)] [] rfl rfl (rc7 hK rfl rfl) (Nat.le_of_ble_eq_true rfl) (k_al (d + 2) hK hs (by omega) hy) ?_
  refine XGo.go 1 rfl ?_
  cases e1 : alv s o y
  · refine XGo.ifp rfl ?_
    refine XGo.go 1 rfl ?_
    refine XGo.getf rfl ⟨lvf1 hK, by decide⟩ ?_
    refine XGo.go 3 rfl ?_
    refine XGo.top (nI_add a 2) ?_
    refine XGo.iald rfl (row_i hK (by omega)) ?_
    refine XGo.go 1 rfl ?_
    by_cases e2 : f (a + 2) = 0
    · refine XGo.ifp e2 ?_
      refine XGo.go 2 rfl ?_
      exact XGo.ib (b := true) _ rfl rfl rfl (by rw [dec_t e2]; rfl)
    · refine XGo.ifn e2 ?_
      refine XGo.go 5 rfl ?_
      refine XGo.call _ rfl xm_X7_children rfl rfl [.ref 536, .int (nI o), .int (Int32.ofInt 0), .int (Int32.ofInt 0), .int (nI y)] [] rfl rfl (rc7 hK rfl rfl) (Nat.le_of_ble_eq_true rfl) (k_ch d hK hs h0 hn h1 hm hy (fun z => absurd z (by decide))) ?_
      refine XGo.go 1 rfl ?_
      by_cases e3 : chS f n m s o (Int32.ofInt 0) (Int32.ofInt 0) y = 0
      · refine XGo.ifp e3 ?_
        refine XGo.go 2 rfl ?_
        exact XGo.ib (b := true) _ rfl rfl rfl (by rw [dec_f e2, dec_t e3]; rfl)
      · refine XGo.ifn e3 ?_
        refine XGo.go 1 rfl ?_
        exact XGo.ib (b := false) _ rfl rfl rfl (by rw [dec_f e2, dec_f e3]; rfl)
  · refine XGo.ifn (by decide) ?_
    refine XGo.go 1 rfl ?_
    exact XGo.ib (b := false) _ rfl rfl rfl rfl
set_option maxRecDepth 100000 in
theorem als_l (d : Nat) (hK : LVk h fs f) (hs : LVr h s) {S : Int32} {y : Nat} (hy : y < 2147483648) : ∀ (q p : Nat), p + q = 14 → XGo (d + 1) xm_X7_aliveOf (5, [some (.ref 536), some (.int S), some (.int (nI y)), some (.int (bset (fun p => decide (lvB S p) && alv s p y) p)), some (.int (nI p))], [], h) (some (.int (alS s S y))) h
  | 0, p, hp => by
    have hp : p = 14 := by omega
    subst hp
    refine XGo.go 3 rfl ?_
    refine XGo.ifp (Int32.le_refl _) ?_
    refine XGo.go 1 rfl ?_
    exact XGo.iret _ rfl rfl .int rfl rfl
  | q + 1, p, hp => by
    have p14 : p < 14 := by omega
    have nx : ∀ b : Bool, (decide (lvB S p) && alv s p y) = b → XGo (d + 1) xm_X7_aliveOf (41, [some (.ref 536), some (.int S), some (.int (nI y)), some (.int (bset (fun p => decide (lvB S p) && alv s p y) p)), some (.int (nI p))], [.int (if b = true then Int32.ofInt 1 <<< (nI p &&& 31) else Int32.ofInt 0), .int (bset (fun p => decide (lvB S p) && alv s p y) p)], h) (some (.int (alS s S y))) h := fun b e => by
      subst e
      refine XGo.go 4 rfl ?_
      have := als_l d hK hs hy q (p + 1) (by omega) (S := S)
      rw [← show nI p + Int32.ofInt 1 = nI (p + 1) from nI_1 p] at this
      exact this
    refine XGo.go 3 rfl ?_
    refine XGo.ifn (fun z => absurd ((xnI_ge (m := 14) (by decide) (by omega)).mp z) (by omega)) ?_
    refine XGo.go 8 rfl ?_
    by_cases e1 : lvB S p
    · refine XGo.ifp e1 ?_
      refine XGo.go 3 rfl ?_
      refine XGo.call _ rfl xm_X7_isAlive rfl rfl [.ref 536, .int (nI p), .int (nI y)] [.int (bset (fun p => decide (lvB S p) && alv s p y) p)] rfl rfl (rc7 hK rfl rfl) (Nat.le_of_ble_eq_true rfl) (k_al d hK hs p14 hy) ?_
      refine XGo.go 1 rfl ?_
      cases e2 : alv s p y
      · refine XGo.ifp rfl ?_
        refine XGo.go 1 rfl ?_
        exact nx false (by rw [e2]; exact Bool.and_false _)
      · refine XGo.ifn (by decide) ?_
        refine XGo.go 4 rfl ?_
        exact nx true (by rw [e2, dec_t e1]; rfl)
    · refine XGo.ifn e1 ?_
      refine XGo.go 1 rfl ?_
      exact nx false (by rw [dec_f e1]; rfl)
  termination_by q => q
theorem k_als (d : Nat) (hK : LVk h fs f) (hs : LVr h s) (S : Int32) {y : Nat} (hy : y < 2147483648) : XCall xM (d + 2) 140 [.ref 536, .int S, .int (nI y)] h (some (.int (alS s S y))) h :=
  XCall.of (M := xm_X7_aliveOf) rfl (Nat.le_of_ble_eq_true rfl) (XGo.go 4 rfl (als_l d hK hs hy 14 0 rfl))
set_option maxRecDepth 100000 in
theorem k_en (d : Nat) (hK : LVk h fs f) (hs : LVr h s) {a y : Nat} (ha : a + 8 ≤ 490) (bg S : Int32) (hy : y < 2147483648) : XCall xM (d + 3) 141 [.ref 536, .int (nI a), .int bg, .int S, .int (nI y)] h (some (.int (b01 (enS f s a bg S y)))) h := by
  refine XCall.of (M := xm_X7_ends) rfl (Nat.le_of_ble_eq_true rfl) ?_
  refine XGo.go 1 rfl ?_
  refine XGo.getf rfl ⟨lvf1 hK, by decide⟩ ?_
  refine XGo.go 3 rfl ?_
  refine XGo.top (nI_add a 4) ?_
  refine XGo.iald rfl (row_i hK (by omega)) ?_
  refine XGo.go 2 rfl ?_
  by_cases e0 : f (a + 4) = Int32.ofInt 1
  · rw [show enS f s a bg S y = false from if_pos e0]
    refine XGo.ifp e0 ?_
    refine XGo.go 1 rfl ?_
    exact XGo.ib (b := false) _ rfl rfl rfl rfl
  · rw [show enS f s a bg S y = _ from if_neg e0]
    refine XGo.ifn e0 ?_
    refine XGo.go 3 rfl ?_
    refine XGo.call _ rfl xm_X7_aliveOf rfl rfl [.ref 536, .int S, .int (nI y)] [] rfl rfl (rc7 hK rfl rfl) (Nat.le_of_ble_eq_true rfl) (k_als d hK hs S hy) ?_
    refine XGo.go 1 rfl ?_
    by_cases e1 : alS s S y = 0
    · refine XGo.ifp e1 ?_
      refine XGo.go 2 rfl ?_
      exact XGo.ib (b := true) _ rfl rfl rfl (by rw [dec_t e1]; rfl)
    · refine XGo.ifn e1 ?_
      refine XGo.go 1 rfl ?_
      refine XGo.getf rfl ⟨lvf1 hK, by decide⟩ ?_
      refine XGo.go 3 rfl ?_
      refine XGo.top (nI_add a 4) ?_
      refine XGo.iald rfl (row_i hK (by omega)) ?_
      refine XGo.go 2 rfl ?_
      by_cases e2 : f (a + 4) = Int32.ofInt 2
      · refine XGo.ifp e2 ?_
        refine XGo.go 3 rfl ?_
        refine XGo.getf rfl ⟨lvf1 hK, by decide⟩ ?_
        refine XGo.go 3 rfl ?_
        refine XGo.top (nI_add a 5) ?_
        refine XGo.iald rfl (row_i hK (by omega)) ?_
        refine XGo.go 2 rfl ?_
        by_cases e3 : nI y < bg + f (a + 5)
        · refine XGo.ifp e3 ?_
          refine XGo.go 1 rfl ?_
          exact XGo.ib (b := false) _ rfl rfl rfl (by rw [dec_f e1, dec_t e2, dec_f (Int32.not_le.mpr e3)]; rfl)
        · refine XGo.ifn e3 ?_
          refine XGo.go 2 rfl ?_
          exact XGo.ib (b := true) _ rfl rfl rfl (by rw [dec_f e1, dec_t e2, dec_t (Int32.not_lt.mp e3)]; rfl)
      · refine XGo.ifn e2 ?_
        refine XGo.go 1 rfl ?_
        exact XGo.ib (b := false) _ rfl rfl rfl (by rw [dec_f e1, dec_f e2]; rfl)
theorem c130 : ∀ g : Fin 6, (Int16.ofInt 130).toInt32 + nI g.val = nI (130 + g.val) := by decide +kernel
abbrev shL (g l y c : Nat) (a : Option Value) : XL := [some (.ref 536), some (.int (nI g)), some (.int (nI l)), some (.int (nI y)), some (.int (nI c)), a]
set_option maxRecDepth 100000 in
theorem sh_l (d : Nat) (hK : LVk h fs f) (hs : LVr h s) {g l y nc : Nat} (hg : g < 6) (hnc : nc ≤ 6) (hf : f (130 + g) = nI nc) (hC : ∀ c, c < nc → CB f (atC g c)) (hy : y < 2147483648) : ∀ (q c : Nat) (a : Option Value), nc - c = q → c ≤ 7 → XGo (d + 1) xm_X7_shiftOf (5, shL g l y c a, [], h) (some (.int (o2i (shS f s g y q c)))) h
  | q, c, a, hq, hc => by
    have head : ∀ {v : Option Value} {hend : XH}, XGo (d + 1) xm_X7_shiftOf (if nI nc ≤ nI c then 66 else 20, shL g l y c a, [], h) v hend → XGo (d + 1) xm_X7_shiftOf (5, shL g l y c a, [], h) v hend := fun k => by
      refine XGo.go 2 rfl ?_
      refine XGo.getf rfl ⟨lvf1 hK, by decide⟩ ?_
      refine XGo.go 3 rfl ?_
      refine XGo.top (c130 ⟨g, hg⟩) ?_
      refine XGo.iald rfl (row_i hK (by show 130 + g < 490; omega)) ?_
      rw [show f (130 + (⟨g, hg⟩ : Fin 6).val) = nI nc from hf]
      exact XGo.go 1 rfl k
    match q, hq with
    | 0, hq =>
      refine head (XGo.ifp ((nIle (by omega) (by omega)).mpr (by omega)) ?_)
      refine XGo.go 1 rfl ?_
      exact XGo.iret _ rfl rfl .int rfl rfl
    | q + 1, hq =>
      have cn : c < nc := by omega
      obtain ⟨b1, -, b3, -⟩ := hC c cn
      have ih := sh_l d hK hs hg hnc hf hC hy q (c + 1) (some (.int (nI (atC g c)))) (by omega) (by omega) (l := l)
      rw [show shL g l y (c + 1) (some (.int (nI (atC g c)))) = [some (.ref 536), some (.int (nI g)), some (.int (nI l)), some (.int (nI y)), some (.int (nI c + Int32.ofInt 1)), some (.int (nI (atC g c)))] by rw [show nI c + Int32.ofInt 1 = nI (c + 1) from nI_1 c]] at ih
      refine head (XGo.ifn (fun z => absurd ((nIle (by omega) (by omega)).mp z) (by omega)) ?_)
      refine XGo.go 2 rfl ?_
      refine XGo.call _ rfl xm_X7_at rfl rfl [.int (nI g), .int (nI c)] [] rfl rfl (fun z => absurd rfl z) (Nat.le_of_ble_eq_true rfl) (k_atg d hg (by omega)) ?_
      show XGo _ _ (_, _, [.int (nI (atC g c))], _) _ _
      have no : ¬ (f (atC g c) = Int32.ofInt 3 ∧ (s.2.2.2 (f (atC g c + 1)).toNatClampNeg).toInt ≤ (y : Int)) → XGo (d + 1) xm_X7_shiftOf (60, shL g l y c (some (.int (nI (atC g c)))), [], h) (some (.int (o2i (shS f s g y (q + 1) c)))) h := fun z => by
        rw [show shS f s g y (q + 1) c = shS f s g y q (c + 1) from if_neg z]
        exact XGo.go 2 rfl ih
      generalize hat : atC g c = A at *
      refine XGo.go 2 rfl ?_
      refine XGo.getf rfl ⟨lvf1 hK, by decide⟩ ?_
      refine XGo.go 1 rfl ?_
      refine XGo.iald rfl (row_i hK (by omega)) ?_
      refine XGo.go 2 rfl ?_
      by_cases e1 : f A = Int32.ofInt 3
      · obtain ⟨x1, x2⟩ := i32_nI (b3 e1).1 (b3 e1).2
        refine XGo.ifp e1 ?_
        refine XGo.go 1 rfl ?_
        refine XGo.getf rfl ⟨lvf7 hK, by decide⟩ ?_
        refine XGo.go 1 rfl ?_
        refine XGo.getf rfl ⟨lvf1 hK, by decide⟩ ?_
        refine XGo.go 3 rfl ?_
        refine XGo.top (nI_add A 1) ?_
        refine XGo.iald rfl (row_i hK (by omega)) ?_
        refine XGo.top x1 ?_
        refine XGo.iald rfl (ia_nI hs.2.2.2 (by rw [hK.1]; decide) (by omega) (by decide)) ?_
        refine XGo.go 2 rfl ?_
        by_cases e2 : nI y < s.2.2.2 (f (A + 1)).toNatClampNeg
        · refine XGo.ifp e2 (no fun z => ?_)
          have := (nIlt' hy).mp e2
          have := z.2
          omega
        · have le2 := Int.not_lt.mp fun q => e2 ((nIlt' hy).mpr q)
          refine XGo.ifn e2 ?_
          have e : shS f s g y (q + 1) c = some c := by
            unfold shS
            rw [hat]
            exact if_pos ⟨e1, le2⟩
          rw [e]
          refine XGo.go 1 rfl ?_
          exact XGo.iret _ rfl rfl .int rfl rfl
      · exact XGo.ifn e1 (no fun z => e1 z.1)
  termination_by q => q
theorem k_sh (d : Nat) (hK : LVk h fs f) (hs : LVr h s) {g l y nc : Nat} (hg : g < 6) (hnc : nc ≤ 6) (hf : f (130 + g) = nI nc) (hC : ∀ c, c < nc → CB f (atC g c)) (hy : y < 2147483648) (hl : l ≤ 6) : XCall xM (d + 2) 142 [.ref 536, .int (nI g), .int (nI l), .int (nI y)] h (some (.int (o2i (shS f s g y (nc - (l + 1)) (l + 1))))) h := by
  refine XCall.of (M := xm_X7_shiftOf) rfl (Nat.le_of_ble_eq_true rfl) ?_
  refine XGo.go 4 rfl ?_
  have := sh_l d hK hs hg hnc hf hC hy (nc - (l + 1)) (l + 1) none rfl (by omega) (l := l)
  rw [show shL g l y (l + 1) none = [some (.ref 536), some (.int (nI g)), some (.int (nI l)), some (.int (nI y)), some (.int (nI l + Int32.ofInt 1)), none] by rw [show nI l + Int32.ofInt 1 = nI (l + 1) from nI_1 l]] at this
  exact this
set_option maxRecDepth 100000 in
theorem nx_l (d : Nat) (hK : LVk h fs f) {g c0 nc : Nat} (hg : g < 6) (hnc : nc ≤ 6) (hf : f (130 + g) = nI nc) : ∀ (q c : Nat), nc - c = q → c ≤ 7 → XGo (d + 1) xm_X7_nextOf (4, [some (.ref 536), some (.int (nI g)), some (.int (nI c0)), some (.int (nI c))], [], h) (some (.int (o2i (nxS f g q c)))) h
  | q, c, hq, hc => by
    have head : ∀ {v : Option Value} {hend : XH}, XGo (d + 1) xm_X7_nextOf (if nI nc ≤ nI c then 37 else 18, [some (.ref 536), some (.int (nI g)), some (.int (nI c0)), some (.int (nI c))], [], h) v hend → XGo (d + 1) xm_X7_nextOf (4, [some (.ref 536), some (.int (nI g)), some (.int (nI c0)), some (.int (nI c))], [], h) v hend := fun k => by
      refine XGo.go 2 rfl ?_
      refine XGo.getf rfl ⟨lvf1 hK, by decide⟩ ?_
      refine XGo.go 3 rfl ?_
      refine XGo.top (c130 ⟨g, hg⟩) ?_
      refine XGo.iald rfl (row_i hK (by show 130 + g < 490; omega)) ?_
      rw [show f (130 + (⟨g, hg⟩ : Fin 6).val) = nI nc from hf]
      exact XGo.go 1 rfl k
    have tail : ∀ {v : Option Value} {hend : XH}, XGo (d + 1) xm_X7_nextOf (if nI nc ≤ nI c then 55 else 51, [some (.ref 536), some (.int (nI g)), some (.int (nI c0)), some (.int (nI c))], [], h) v hend → XGo (d + 1) xm_X7_nextOf (37, [some (.ref 536), some (.int (nI g)), some (.int (nI c0)), some (.int (nI c))], [], h) v hend := fun k => by
      refine XGo.go 2 rfl ?_
      refine XGo.getf rfl ⟨lvf1 hK, by decide⟩ ?_
      refine XGo.go 3 rfl ?_
      refine XGo.top (c130 ⟨g, hg⟩) ?_
      refine XGo.iald rfl (row_i hK (by show 130 + g < 490; omega)) ?_
      rw [show f (130 + (⟨g, hg⟩ : Fin 6).val) = nI nc from hf]
      exact XGo.go 1 rfl k
    match q, hq with
    | 0, hq =>
      have ge : nI nc ≤ nI c := (nIle (by omega) (by omega)).mpr (by omega)
      refine head (XGo.ifp ge (tail (XGo.ifp ge ?_)))
      refine XGo.go 1 rfl ?_
      exact XGo.iret _ rfl rfl .int rfl rfl
    | q + 1, hq =>
      have cn : c < nc := by omega
      have ge : ¬ nI nc ≤ nI c := fun z => absurd ((nIle (by omega) (by omega)).mp z) (by omega)
      refine head (XGo.ifn ge ?_)
      refine XGo.go 1 rfl ?_
      refine XGo.getf rfl ⟨lvf1 hK, by decide⟩ ?_
      refine XGo.go 2 rfl ?_
      refine XGo.call _ rfl xm_X7_at rfl rfl [.int (nI g), .int (nI c)] [.ref 537] rfl rfl (fun z => absurd rfl z) (Nat.le_of_ble_eq_true rfl) (k_atg d hg (by omega)) ?_
      refine XGo.iald rfl (row_i hK (by omega)) ?_
      refine XGo.go 1 rfl ?_
      by_cases e1 : f (140 + 8 * (6 * g + c)) = 0
      · refine XGo.ifp e1 (tail (XGo.ifn ge ?_))
        rw [show nxS f g (q + 1) c = some c from if_pos e1]
        refine XGo.go 2 rfl ?_
        exact XGo.iret _ rfl rfl .int rfl rfl
      · refine XGo.ifn e1 ?_
        rw [show nxS f g (q + 1) c = nxS f g q (c + 1) from if_neg e1]
        have ih := nx_l d hK hg hnc hf q (c + 1) (by omega) (by omega) (c0 := c0)
        rw [← show nI c + Int32.ofInt 1 = nI (c + 1) from nI_1 c] at ih
        exact XGo.go 2 rfl ih
  termination_by q => q
theorem k_nx (d : Nat) (hK : LVk h fs f) {g c nc : Nat} (hg : g < 6) (hnc : nc ≤ 6) (hf : f (130 + g) = nI nc) (hc : c ≤ 6) : XCall xM (d + 2) 143 [.ref 536, .int (nI g), .int (nI c)] h (some (.int (o2i (nxS f g (nc - (c + 1)) (c + 1))))) h := by
  refine XCall.of (M := xm_X7_nextOf) rfl (Nat.le_of_ble_eq_true rfl) ?_
  refine XGo.go 4 rfl ?_
  have := nx_l d hK hg hnc hf (nc - (c + 1)) (c + 1) rfl (by omega) (c0 := c)
  rw [← show nI c + Int32.ofInt 1 = nI (c + 1) from nI_1 c] at this
  exact this
end MQ
