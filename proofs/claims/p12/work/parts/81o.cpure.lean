/-! the class's questions of a course and of a grant -/
abbrev CE (H : XH) (p b nc : Nat) (Lt Nt al we de bi ch : Nat → Int32) : Prop :=
  (H.1 = 549) ∧
  (13 ≤ p ∧ p + 2 < 549) ∧
  (88 ≤ b ∧ b + 6 < 549) ∧
  (H.2.2 p = .inl (1, [.int (nI nc), .ref (p + 1), .ref (p + 2)])) ∧
  (H.2.2 (p + 1) = .inr (.inl (0, 24, Lt))) ∧
  (H.2.2 (p + 2) = .inr (.inl (0, 24, Nt))) ∧
  (∃ i lt ld a w d : Int32, H.2.2 b = .inl (0, coF b i lt ld a w d)) ∧
  (H.2.2 (b + 1) = .inr (.inl (0, 41, al))) ∧
  (H.2.2 (b + 2) = .inr (.inl (0, 41, we))) ∧
  (H.2.2 (b + 3) = .inr (.inl (0, 41, de))) ∧
  (H.2.2 (b + 4) = .inr (.inl (0, 14, bi))) ∧
  (H.2.2 (b + 6) = .inr (.inl (0, 14, ch)))
theorem CE.N {H : XH} {p b nc : Nat} {Lt Nt al we de bi ch : Nat → Int32} (u : CE H p b nc Lt Nt al we de bi ch) : H.1 = 549 := u.1
theorem CE.p1 {H : XH} {p b nc : Nat} {Lt Nt al we de bi ch : Nat → Int32} (u : CE H p b nc Lt Nt al we de bi ch) : 13 ≤ p ∧ p + 2 < 549 := u.2.1
theorem CE.b1 {H : XH} {p b nc : Nat} {Lt Nt al we de bi ch : Nat → Int32} (u : CE H p b nc Lt Nt al we de bi ch) : 88 ≤ b ∧ b + 6 < 549 := u.2.2.1
theorem CE.g {H : XH} {p b nc : Nat} {Lt Nt al we de bi ch : Nat → Int32} (u : CE H p b nc Lt Nt al we de bi ch) : H.2.2 p = .inl (1, [.int (nI nc), .ref (p + 1), .ref (p + 2)]) := u.2.2.2.1
theorem CE.gl {H : XH} {p b nc : Nat} {Lt Nt al we de bi ch : Nat → Int32} (u : CE H p b nc Lt Nt al we de bi ch) : H.2.2 (p + 1) = .inr (.inl (0, 24, Lt)) := u.2.2.2.2.1
theorem CE.gn {H : XH} {p b nc : Nat} {Lt Nt al we de bi ch : Nat → Int32} (u : CE H p b nc Lt Nt al we de bi ch) : H.2.2 (p + 2) = .inr (.inl (0, 24, Nt)) := u.2.2.2.2.2.1
theorem CE.co {H : XH} {p b nc : Nat} {Lt Nt al we de bi ch : Nat → Int32} (u : CE H p b nc Lt Nt al we de bi ch) : ∃ i lt ld a w d : Int32, H.2.2 b = .inl (0, coF b i lt ld a w d) := u.2.2.2.2.2.2.1
theorem CE.c1 {H : XH} {p b nc : Nat} {Lt Nt al we de bi ch : Nat → Int32} (u : CE H p b nc Lt Nt al we de bi ch) : H.2.2 (b + 1) = .inr (.inl (0, 41, al)) := u.2.2.2.2.2.2.2.1
theorem CE.c2 {H : XH} {p b nc : Nat} {Lt Nt al we de bi ch : Nat → Int32} (u : CE H p b nc Lt Nt al we de bi ch) : H.2.2 (b + 2) = .inr (.inl (0, 41, we)) := u.2.2.2.2.2.2.2.2.1
theorem CE.c3 {H : XH} {p b nc : Nat} {Lt Nt al we de bi ch : Nat → Int32} (u : CE H p b nc Lt Nt al we de bi ch) : H.2.2 (b + 3) = .inr (.inl (0, 41, de)) := u.2.2.2.2.2.2.2.2.2.1
theorem CE.c4 {H : XH} {p b nc : Nat} {Lt Nt al we de bi ch : Nat → Int32} (u : CE H p b nc Lt Nt al we de bi ch) : H.2.2 (b + 4) = .inr (.inl (0, 14, bi)) := u.2.2.2.2.2.2.2.2.2.2.1
theorem CE.c6 {H : XH} {p b nc : Nat} {Lt Nt al we de bi ch : Nat → Int32} (u : CE H p b nc Lt Nt al we de bi ch) : H.2.2 (b + 6) = .inr (.inl (0, 14, ch)) := u.2.2.2.2.2.2.2.2.2.2.2
theorem c4p : ∀ (c : Fin 7) (q : Fin 4), nI c.val * Int32.ofInt 4 + nI q.val = nI (4 * c.val + q.val) := by decide +kernel
theorem or_z (x : Int32) : x ||| Int32.ofInt 0 = x := Int32.or_zero
/-- the COND met, as the class has it -/
def meC (we de bi : Nat → Int32) (T l x : Int32) (y : Nat) : Int32 :=
  if l = (Int8.ofInt 119).toInt32 then T &&& we y
  else if l = (Int8.ofInt 100).toInt32 then (if (de y >>> (x &&& 31)) &&& Int32.ofInt 1 = Int32.ofInt 1 then T else Int32.ofInt 0)
  else if l = (Int8.ofInt 97).toInt32 then T &&& bset (fun p => decide (bi p ≤ nI y - x)) 14
  else T
def fbP (bi : Nat → Int32) (k : Nat) (o : Option Nat) : Bool := match o with
  | none => true
  | some b => decide (bi k < bi b)
def fbC (bi : Nat → Int32) (S : Int32) : Nat → Option Nat
  | 0 => none
  | k + 1 => if lvB S k ∧ fbP bi k (fbC bi S k) = true then some k else fbC bi S k
def fbV (o : Option Nat) : Int32 := match o with
  | none => Int32.ofInt 0
  | some p => Int32.ofInt 1 <<< (nI p &&& 31)
theorem fbC_lt {bi : Nat → Int32} {S : Int32} : ∀ (k b : Nat), fbC bi S k = some b → b < k
  | 0, _, e => by cases e
  | k + 1, b, e => by
    unfold fbC at e
    split at e
    · cases e
      omega
    · have := fbC_lt k b e
      omega
section CQ
variable {H : XH} {p b nc : Nat} {Lt Nt al we de bi ch : Nat → Int32}
theorem ce_rg (hE : CE H p b nc Lt Nt al we de bi ch) {M : XMeth} (hM : xmC M = 1) {as : List Value} (ha : as.head? = some (.ref p)) : xrecv M as H := fun _ => ⟨p, _, ha, by rw [hM]; exact hE.g, by have := hE.p1; omega, by have := hE.N; have := hE.p1; omega⟩
theorem ce_rc (hE : CE H p b nc Lt Nt al we de bi ch) {M : XMeth} (hM : xmC M = 0) {as : List Value} (ha : as.head? = some (.ref b)) : xrecv M as H := by
  obtain ⟨i, lt, ld, a, w, d, e⟩ := hE.co
  exact fun _ => ⟨b, _, ha, by rw [hM]; exact e, by have := hE.b1; omega, by have := hE.N; have := hE.b1; omega⟩
theorem ce_f (hE : CE H p b nc Lt Nt al we de bi ch) {j : Nat} (h1 : 1 ≤ j) (h6 : j ≤ 6) : xfd H b 0 j = some (.ref (b + j)) ∧ 0 < 98 := by
  obtain ⟨i, lt, ld, a, w, d, e⟩ := hE.co
  refine xfd_o e (by have := hE.N; have := hE.b1; omega) (by have := hE.b1; omega) ?_
  match j, h1, h6 with
  | 1, _, _ => rfl
  | 2, _, _ => rfl
  | 3, _, _ => rfl
  | 4, _, _ => rfl
  | 5, _, _ => rfl
  | 6, _, _ => rfl
theorem ce_l (hE : CE H p b nc Lt Nt al we de bi ch) {k : Nat} (hk : k < 549) : k < H.1 := by rw [hE.N]; exact hk
set_option maxRecDepth 100000 in
theorem k_let (d : Nat) (hE : CE H p b nc Lt Nt al we de bi ch) {c q : Nat} (hc : c < 7) (hq : q < 4) (hcq : 4 * c + q < 24) : XCall xM (d + 1) 15 [.ref p, .int (nI c), .int (nI q)] H (some (.int (Lt (4 * c + q)))) H := by
  have l := hE.p1
  refine XCall.of (M := xm_X1_letter) rfl (Nat.le_of_ble_eq_true rfl) ?_
  refine XGo.go 5 rfl ?_
  refine XGo.top (c4p ⟨c, hc⟩ ⟨q, hq⟩) ?_
  refine XGo.go 3 rfl ?_
  refine XGo.ifn (xnI_lt0 (by show 4 * c + q < 2147483648; omega)) ?_
  refine XGo.go 2 rfl ?_
  refine XGo.getf rfl (xfd_o hE.g (ce_l hE (by omega)) (by omega) rfl) ?_
  refine XGo.alen rfl (xlen_i hE.gl (ce_l hE (by omega)) (by decide)) ?_
  refine XGo.go 1 rfl ?_
  refine XGo.ifn (fun z => absurd ((xnI_ge (m := 24) (by decide) (by show 4 * c + q < 2147483648; omega)).mp z) (by show ¬ 24 ≤ 4 * c + q; omega)) ?_
  refine XGo.go 1 rfl ?_
  refine XGo.getf rfl (xfd_o hE.g (ce_l hE (by omega)) (by omega) rfl) ?_
  refine XGo.go 1 rfl ?_
  refine XGo.iald rfl (ia_nI hE.gl (ce_l hE (by omega)) (show 4 * c + q < 24 by omega) (by decide)) ?_
  refine XGo.go 1 rfl ?_
  exact XGo.iret _ rfl rfl .int rfl rfl
set_option maxRecDepth 100000 in
theorem k_num (d : Nat) (hE : CE H p b nc Lt Nt al we de bi ch) {c q : Nat} (hc : c < 7) (hq : q < 4) (hcq : 4 * c + q < 24) : XCall xM (d + 1) 16 [.ref p, .int (nI c), .int (nI q)] H (some (.int (Nt (4 * c + q)))) H := by
  have l := hE.p1
  refine XCall.of (M := xm_X1_number) rfl (Nat.le_of_ble_eq_true rfl) ?_
  refine XGo.go 5 rfl ?_
  refine XGo.top (c4p ⟨c, hc⟩ ⟨q, hq⟩) ?_
  refine XGo.go 3 rfl ?_
  refine XGo.ifn (xnI_lt0 (by show 4 * c + q < 2147483648; omega)) ?_
  refine XGo.go 2 rfl ?_
  refine XGo.getf rfl (xfd_o hE.g (ce_l hE (by omega)) (by omega) rfl) ?_
  refine XGo.alen rfl (xlen_i hE.gn (ce_l hE (by omega)) (by decide)) ?_
  refine XGo.go 1 rfl ?_
  refine XGo.ifn (fun z => absurd ((xnI_ge (m := 24) (by decide) (by show 4 * c + q < 2147483648; omega)).mp z) (by show ¬ 24 ≤ 4 * c + q; omega)) ?_
  refine XGo.go 1 rfl ?_
  refine XGo.getf rfl (xfd_o hE.g (ce_l hE (by omega)) (by omega) rfl) ?_
  refine XGo.go 1 rfl ?_
  refine XGo.iald rfl (ia_nI hE.gn (ce_l hE (by omega)) (show 4 * c + q < 24 by omega) (by decide)) ?_
  refine XGo.go 1 rfl ?_
  exact XGo.iret _ rfl rfl .int rfl rfl
set_option maxRecDepth 100000 in
theorem k_shp (d : Nat) (hE : CE H p b nc Lt Nt al we de bi ch) {c : Nat} (hc : c < 6) : XCall xM (d + 2) 18 [.ref p, .int (nI c)] H (some (.int (b01 (!decide (Lt (4 * c) = 0))))) H := by
  refine XCall.of (M := xm_X1_isShift) rfl (Nat.le_of_ble_eq_true rfl) ?_
  refine XGo.go 3 rfl ?_
  refine XGo.call _ rfl xm_X1_letter rfl rfl [.ref p, .int (nI c), .int (nI 0)] [] rfl rfl (ce_rg hE rfl rfl) (Nat.le_of_ble_eq_true rfl) (k_let d hE (c := c) (q := 0) (by omega) (by decide) (by omega)) ?_
  refine XGo.go 1 rfl ?_
  by_cases e : Lt (4 * c) = 0
  · refine XGo.ifp e ?_
    refine XGo.go 1 rfl ?_
    exact XGo.ib (b := false) _ rfl rfl rfl (by rw [dec_t e]; rfl)
  · refine XGo.ifn e ?_
    refine XGo.go 2 rfl ?_
    exact XGo.ib (b := true) _ rfl rfl rfl (by rw [dec_f e]; rfl)
theorem at_row {d r n : Nat} {f : Nat → Int32} {i : Nat} (hr : H.2.2 r = .inr (.inl (0, n, f))) (hk : r < H.1) (hn : n < 2147483648) (hi : i < n) : XCall xM (d + 1) 102 [.ref r, .int (nI i)] H (some (.int (f i))) H := by
  have q := k_at d H r n f (nI i) hr hk hn
  rw [if_neg (ca_nI hi hn), xnI_nat (by omega)] at q
  exact q
set_option maxRecDepth 100000 in
theorem k_done (d : Nat) (hE : CE H p b nc Lt Nt al we de bi ch) {x : Int32} {y : Nat} (hy : y < 41) : XCall xM (d + 1) 7 [.ref b, .int x, .int (nI y)] H (some (.int (b01 (decide ((de y >>> (x &&& 31)) &&& Int32.ofInt 1 = Int32.ofInt 1))))) H := by
  have l := hE.b1
  refine XCall.of (M := xm_X0_isDone) rfl (Nat.le_of_ble_eq_true rfl) ?_
  refine XGo.go 2 rfl ?_
  refine XGo.ifn (xnI_lt0 (by omega)) ?_
  refine XGo.go 2 rfl ?_
  refine XGo.getf rfl (ce_f hE (j := 3) (by decide) (by decide)) ?_
  refine XGo.alen rfl (xlen_i hE.c3 (ce_l hE (by omega)) (by decide)) ?_
  refine XGo.go 1 rfl ?_
  refine XGo.ifn (fun z => absurd ((xnI_ge (m := 41) (by decide) (by omega)).mp z) (by omega)) ?_
  refine XGo.go 1 rfl ?_
  refine XGo.getf rfl (ce_f hE (j := 3) (by decide) (by decide)) ?_
  refine XGo.go 1 rfl ?_
  refine XGo.iald rfl (ia_nI hE.c3 (ce_l hE (by omega)) hy (by decide)) ?_
  refine XGo.go 6 rfl ?_
  by_cases e : (de y >>> (x &&& 31)) &&& Int32.ofInt 1 = Int32.ofInt 1
  · refine XGo.ifp e ?_
    refine XGo.go 2 rfl ?_
    exact XGo.ib (b := true) _ rfl rfl rfl (dec_t e)
  · refine XGo.ifn e ?_
    refine XGo.go 1 rfl ?_
    exact XGo.ib (b := false) _ rfl rfl rfl (dec_f e)
set_option maxRecDepth 100000 in
theorem born_l (d : Nat) (hE : CE H p b nc Lt Nt al we de bi ch) {T z : Int32} : ∀ (q j : Nat), j + q = 14 → XGo (d + 1) xm_X0_thoseBornBy (5, [some (.ref b), some (.int T), some (.int z), some (.int (bset (fun p => decide (bi p ≤ z)) j)), some (.int (nI j))], [], H) (some (.int (T &&& bset (fun p => decide (bi p ≤ z)) 14))) H
  | 0, j, hj => by
    have hj : j = 14 := by omega
    subst hj
    refine XGo.go 3 rfl ?_
    refine XGo.ifp (Int32.le_refl _) ?_
    refine XGo.go 3 rfl ?_
    exact XGo.iret _ rfl rfl .int rfl rfl
  | q + 1, j, hj => by
    have l := hE.b1
    have ih := born_l d hE q (j + 1) (by omega) (T := T) (z := z)
    rw [← show nI j + Int32.ofInt 1 = nI (j + 1) from nI_1 j] at ih
    refine XGo.go 3 rfl ?_
    refine XGo.ifn (fun z => absurd ((xnI_ge (m := 14) (by decide) (by omega)).mp z) (by omega)) ?_
    refine XGo.go 1 rfl ?_
    refine XGo.getf rfl (ce_f hE (j := 4) (by decide) (by decide)) ?_
    refine XGo.go 1 rfl ?_
    refine XGo.iald rfl (ia_nI hE.c4 (ce_l hE (by omega)) (by omega) (by decide)) ?_
    refine XGo.go 2 rfl ?_
    by_cases e : z < bi j
    · refine XGo.ifp e ?_
      rw [show bset (fun p => decide (bi p ≤ z)) (j + 1) = bset (fun p => decide (bi p ≤ z)) j from by
        show _ ||| (if decide (bi j ≤ z) = true then _ else _) = _
        rw [if_neg (by rw [dec_f (Int32.not_le.mpr e)]; decide)]
        exact or_z _] at ih
      exact XGo.go 2 rfl ih
    · refine XGo.ifn e ?_
      rw [show bset (fun p => decide (bi p ≤ z)) (j + 1) = bset (fun p => decide (bi p ≤ z)) j ||| (Int32.ofInt 1 <<< (nI j &&& 31)) from by
        show _ ||| (if decide (bi j ≤ z) = true then _ else _) = _
        rw [if_pos (dec_t (Int32.not_lt.mp e))]] at ih
      exact XGo.go 8 rfl ih
  termination_by q => q
theorem k_born (d : Nat) (hE : CE H p b nc Lt Nt al we de bi ch) {T z : Int32} : XCall xM (d + 2) 8 [.ref b, .int T, .int z] H (some (.int (T &&& bset (fun p => decide (bi p ≤ z)) 14))) H :=
  XCall.of (M := xm_X0_thoseBornBy) rfl (Nat.le_of_ble_eq_true rfl) (XGo.go 4 rfl (born_l d hE 14 0 rfl))
set_option maxRecDepth 100000 in
theorem k_meet (d : Nat) (hE : CE H p b nc Lt Nt al we de bi ch) {T l x : Int32} {y : Nat} (hy : y < 41) : XCall xM (d + 3) 6 [.ref b, .int T, .int l, .int x, .int (nI y)] H (some (.int (meC we de bi T l x y))) H := by
  have lb := hE.b1
  refine XCall.of (M := xm_X0_meeting) rfl (Nat.le_of_ble_eq_true rfl) ?_
  refine XGo.go 3 rfl ?_
  by_cases e1 : l = (Int8.ofInt 119).toInt32
  · rw [show meC we de bi T l x y = T &&& we y from if_pos e1]
    refine XGo.ifp e1 ?_
    refine XGo.go 2 rfl ?_
    refine XGo.getf rfl (ce_f hE (j := 2) (by decide) (by decide)) ?_
    refine XGo.go 1 rfl ?_
    refine XGo.call _ rfl xm_X6_at rfl rfl [.ref (b + 2), .int (nI y)] [.int T] rfl rfl (fun z => absurd rfl z) (Nat.le_of_ble_eq_true rfl) (at_row hE.c2 (ce_l hE (by omega)) (by decide) hy) ?_
    refine XGo.go 1 rfl ?_
    exact XGo.iret _ rfl rfl .int rfl rfl
  · refine XGo.ifn e1 ?_
    refine XGo.go 3 rfl ?_
    by_cases e2 : l = (Int8.ofInt 100).toInt32
    · rw [show meC we de bi T l x y = _ from (if_neg e1).trans (if_pos e2)]
      refine XGo.ifp e2 ?_
      refine XGo.go 3 rfl ?_
      refine XGo.call _ rfl xm_X0_isDone rfl rfl [.ref b, .int x, .int (nI y)] [] rfl rfl (ce_rc hE rfl rfl) (Nat.le_of_ble_eq_true rfl) (k_done (d + 1) hE hy) ?_
      refine XGo.go 1 rfl ?_
      by_cases e : (de y >>> (x &&& 31)) &&& Int32.ofInt 1 = Int32.ofInt 1
      · rw [dec_t e]
        refine XGo.ifn (by decide) ?_
        refine XGo.go 2 rfl ?_
        rw [if_pos e]
        exact XGo.iret _ rfl rfl .int rfl rfl
      · rw [dec_f e]
        refine XGo.ifp (by decide) ?_
        refine XGo.go 1 rfl ?_
        rw [if_neg e]
        exact XGo.iret _ rfl rfl .int rfl rfl
    · refine XGo.ifn e2 ?_
      refine XGo.go 3 rfl ?_
      by_cases e3 : l = (Int8.ofInt 97).toInt32
      · rw [show meC we de bi T l x y = _ from (if_neg e1).trans ((if_neg e2).trans (if_pos e3))]
        refine XGo.ifp e3 ?_
        refine XGo.go 5 rfl ?_
        refine XGo.call _ rfl xm_X0_thoseBornBy rfl rfl [.ref b, .int T, .int (nI y - x)] [] rfl rfl (ce_rc hE rfl rfl) (Nat.le_of_ble_eq_true rfl) (k_born d hE) ?_
        refine XGo.go 1 rfl ?_
        exact XGo.iret _ rfl rfl .int rfl rfl
      · rw [show meC we de bi T l x y = T from (if_neg e1).trans ((if_neg e2).trans (if_neg e3))]
        refine XGo.ifn e3 ?_
        refine XGo.go 1 rfl ?_
        exact XGo.iret _ rfl rfl .int rfl rfl
set_option maxRecDepth 100000 in
theorem fb_l (d : Nat) (hE : CE H p b nc Lt Nt al we de bi ch) {S : Int32} : ∀ (q j : Nat) (w : Option Value), j + q = 14 → XGo (d + 1) xm_X0_firstBorn (4, [some (.ref b), some (.int S), some (.int (o2i (fbC bi S j))), some (.int (nI j)), w], [], H) (some (.int (fbV (fbC bi S 14)))) H
  | 0, j, w, hj => by
    have hj : j = 14 := by omega
    subst hj
    refine XGo.go 3 rfl ?_
    refine XGo.ifp (Int32.le_refl _) ?_
    refine XGo.go 2 rfl ?_
    cases e : fbC bi S 14 with
    | none =>
      refine XGo.ifn (by decide) ?_
      refine XGo.go 2 rfl ?_
      exact XGo.iret _ rfl rfl .int rfl rfl
    | some o =>
      have := fbC_lt _ _ e
      refine XGo.ifp (by
        show (0 : Int32) ≤ nI o
        exact Int32.not_lt.mp (xnI_lt0 (by omega))) ?_
      refine XGo.go 3 rfl ?_
      exact XGo.iret _ rfl rfl .int rfl rfl
  | q + 1, j, w, hj => by
    have lb := hE.b1
    have ih := fun w => fb_l d hE q (j + 1) w (by omega) (S := S)
    rw [← show nI j + Int32.ofInt 1 = nI (j + 1) from nI_1 j] at ih
    have keep : ∀ x : Int32, fbC bi S (j + 1) = fbC bi S j → XGo (d + 1) xm_X0_firstBorn (54, [some (.ref b), some (.int S), some (.int (o2i (fbC bi S j))), some (.int (nI j)), some (.int x)], [], H) (some (.int (fbV (fbC bi S 14)))) H := fun x e => by
      rw [e] at ih
      exact XGo.go 2 rfl (ih _)
    have take : fbC bi S (j + 1) = some j → XGo (d + 1) xm_X0_firstBorn (52, [some (.ref b), some (.int S), some (.int (o2i (fbC bi S j))), some (.int (nI j)), some (.int (Int32.ofInt 1))], [], H) (some (.int (fbV (fbC bi S 14)))) H := fun e => by
      rw [e] at ih
      exact XGo.go 4 rfl (ih _)
    refine XGo.go 3 rfl ?_
    refine XGo.ifn (fun z => absurd ((xnI_ge (m := 14) (by decide) (by omega)).mp z) (by omega)) ?_
    refine XGo.go 7 rfl ?_
    by_cases e1 : lvB S j
    · refine XGo.ifp e1 ?_
      refine XGo.go 5 rfl ?_
      refine XGo.ifn (by decide) ?_
      refine XGo.go 2 rfl ?_
      cases e2 : fbC bi S j with
      | none =>
        refine XGo.ifp (by decide) ?_
        have := take (by
          show (if _ then _ else _) = _
          rw [e2]
          exact if_pos ⟨e1, rfl⟩)
        rw [e2] at this
        exact this
      | some o =>
        have lo := fbC_lt _ _ e2
        refine XGo.ifn (show ¬ nI o < 0 from xnI_lt0 (by omega)) ?_
        refine XGo.go 1 rfl ?_
        refine XGo.getf rfl (ce_f hE (j := 4) (by decide) (by decide)) ?_
        refine XGo.go 1 rfl ?_
        refine XGo.iald rfl (ia_nI hE.c4 (ce_l hE (by omega)) (show j < 14 by omega) (by decide)) ?_
        refine XGo.go 1 rfl ?_
        refine XGo.getf rfl (ce_f hE (j := 4) (by decide) (by decide)) ?_
        refine XGo.go 1 rfl ?_
        refine XGo.call _ rfl xm_X6_at rfl rfl [.ref (b + 4), .int (nI o)] [.int (bi j)] rfl rfl (fun z => absurd rfl z) (Nat.le_of_ble_eq_true rfl) (at_row hE.c4 (ce_l hE (by omega)) (by decide) (by omega)) ?_
        refine XGo.go 1 rfl ?_
        by_cases e3 : bi o ≤ bi j
        · refine XGo.ifp e3 ?_
          have := keep (Int32.ofInt 1) (by
            show (if _ then _ else _) = _
            rw [e2]
            exact if_neg fun z => by
              have z2 : decide (bi j < bi o) = true := z.2
              exact absurd (of_decide_eq_true z2) (Int32.not_lt.mpr e3))
          rw [e2] at this
          exact this
        · refine XGo.ifn e3 ?_
          have := take (by
            show (if _ then _ else _) = _
            rw [e2]
            exact if_pos ⟨e1, dec_t (Int32.not_le.mp e3)⟩)
          rw [e2] at this
          exact this
    · refine XGo.ifn e1 ?_
      refine XGo.go 4 rfl ?_
      refine XGo.ifp (by decide) ?_
      exact keep _ (if_neg fun z => e1 z.1)
  termination_by q => q
theorem k_fb (d : Nat) (hE : CE H p b nc Lt Nt al we de bi ch) {S : Int32} : XCall xM (d + 2) 9 [.ref b, .int S] H (some (.int (fbV (fbC bi S 14)))) H :=
  XCall.of (M := xm_X0_firstBorn) rfl (Nat.le_of_ble_eq_true rfl) (XGo.go 4 rfl (fb_l d hE 14 0 none rfl))
end CQ
/-! the class's run: what it computes -/
/-- the clause, whether it runs, whether it has begun, those that have, when clauses began -/
abbrev KS := Nat × Bool × Bool × Int32 × (Nat → Int32)
def nxC (Lt : Nat → Int32) : Nat → Nat → Option Nat
  | 0, _ => none
  | q + 1, c => if Lt (4 * c) = 0 then some c else nxC Lt q (c + 1)
def shC (Lt Nt de : Nat → Int32) (y : Nat) : Nat → Nat → Option Nat
  | 0, _ => none
  | q + 1, c => if Lt (4 * c) = (Int8.ofInt 100).toInt32 ∧ (de y >>> (Nt (4 * c) &&& 31)) &&& Int32.ofInt 1 = Int32.ofInt 1 then some c else shC Lt Nt de y q (c + 1)
def ttC (c : Nat) (σ : KS) : KS := (c, true, false, Int32.ofInt 0, σ.2.2.2.2)
def tnC (Lt : Nat → Int32) (nc : Nat) (σ : KS) : KS := match nxC Lt (nc - (σ.1 + 1)) (σ.1 + 1) with
  | none => (σ.1, false, σ.2.2.1, Int32.ofInt 0, σ.2.2.2.2)
  | some c => ttC c σ
def nmC (Lt Nt ch : Nat → Int32) (c : Nat) : Int32 := if Lt (4 * c + 1) = (Int8.ofInt 112).toInt32 then Int32.ofInt 1 <<< (Nt (4 * c + 1) &&& 31) else ch (Nt (4 * c + 1)).toNatClampNeg
def tkC (Lt Nt al we de bi ch : Nat → Int32) (c y : Nat) : Int32 :=
  if Lt (4 * c + 1) = (Int8.ofInt 102).toInt32 then fbV (fbC bi (meC we de bi (nmC Lt Nt ch c &&& al y) (Lt (4 * c + 3)) (Nt (4 * c + 3)) y) 14)
  else meC we de bi (nmC Lt Nt ch c &&& al y) (Lt (4 * c + 3)) (Nt (4 * c + 3)) y
def bgC (Lt Nt al we de bi ch : Nat → Int32) (y : Nat) (σ : KS) : KS :=
  if tkC Lt Nt al we de bi ch σ.1 y = 0 then (σ.1, σ.2.1, σ.2.2.1, tkC Lt Nt al we de bi ch σ.1 y, σ.2.2.2.2) else (σ.1, σ.2.1, true, tkC Lt Nt al we de bi ch σ.1 y, upd σ.2.2.2.2 σ.1 (nI y))
def faC (Lt Nt al ch : Nat → Int32) (c y : Nat) : Bool := decide ((nmC Lt Nt ch c ||| (Int32.ofInt 1 <<< (Nt (4 * c + 1) &&& 31))) &&& al y = 0)
def enH (Lt al : Nat → Int32) (y : Nat) (σ : KS) : KS := if Lt (4 * σ.1 + 2) = (Int8.ofInt 101).toInt32 then σ else (σ.1, σ.2.1, σ.2.2.1, σ.2.2.2.1 &&& al y, σ.2.2.2.2)
def enB (Lt Nt al : Nat → Int32) (y : Nat) (σ : KS) : Bool := if Lt (4 * σ.1 + 2) = (Int8.ofInt 101).toInt32 then false else decide (σ.2.2.2.1 &&& al y = 0) || (decide (Lt (4 * σ.1 + 2) = (Int8.ofInt 121).toInt32) && decide (σ.2.2.2.2 σ.1 + Nt (4 * σ.1 + 2) ≤ nI y))
def beC (Lt Nt al we de bi ch : Nat → Int32) (y : Nat) (σ : KS) : KS := if σ.2.2.1 = true then σ else bgC Lt Nt al we de bi ch y σ
def seC (Lt Nt al we de bi ch : Nat → Int32) (nc y : Nat) : Nat → KS → KS
  | 0, σ => σ
  | k + 1, σ => if σ.2.1 = false then σ
    else if (beC Lt Nt al we de bi ch y σ).2.2.1 = true then (if enB Lt Nt al y (beC Lt Nt al we de bi ch y σ) = true then seC Lt Nt al we de bi ch nc y k (tnC Lt nc (enH Lt al y (beC Lt Nt al we de bi ch y σ))) else enH Lt al y (beC Lt Nt al we de bi ch y σ))
    else (if faC Lt Nt al ch σ.1 y = true then seC Lt Nt al we de bi ch nc y k (tnC Lt nc (beC Lt Nt al we de bi ch y σ)) else beC Lt Nt al we de bi ch y σ)
def ysC (Lt Nt de : Nat → Int32) (nc y : Nat) (σ : KS) : KS := match shC Lt Nt de y (nc - (σ.1 + 1)) (σ.1 + 1) with
  | none => σ
  | some c => ttC c σ
def goC (Lt Nt al we de bi ch : Nat → Int32) (nc : Nat) (b0 : Nat → Int32) : Nat → KS
  | 0 => (0, true, false, Int32.ofInt 0, b0)
  | y + 1 => seC Lt Nt al we de bi ch nc y 6 (ysC Lt Nt de nc y (goC Lt Nt al we de bi ch nc b0 y))
/-- what go leaves in its two rows of years -/
def GCK (Lt Nt al we de bi ch : Nat → Int32) (nc : Nat) (b0 ho cl : Nat → Int32) (y : Nat) : Prop := ∀ j, j < y → ho j = (goC Lt Nt al we de bi ch nc b0 (j + 1)).2.2.2.1 ∧ cl j = if (goC Lt Nt al we de bi ch nc b0 (j + 1)).2.2.2.1 = 0 then m5 else nI (goC Lt Nt al we de bi ch nc b0 (j + 1)).1
/-- the clause is one of the grant -/
theorem nxC_lt {Lt : Nat → Int32} : ∀ (q c r : Nat), nxC Lt q c = some r → c ≤ r ∧ r < c + q
  | 0, _, _, h => by cases h
  | q + 1, c, r, h => by
    unfold nxC at h
    split at h
    · cases h
      omega
    · have := nxC_lt q (c + 1) r h
      omega
theorem shC_lt {Lt Nt de : Nat → Int32} {y : Nat} : ∀ (q c r : Nat), shC Lt Nt de y q c = some r → c ≤ r ∧ r < c + q
  | 0, _, _, h => by cases h
  | q + 1, c, r, h => by
    unfold shC at h
    split at h
    · cases h
      omega
    · have := shC_lt q (c + 1) r h
      omega
theorem tnC_1 {Lt : Nat → Int32} {nc : Nat} {σ : KS} (h : σ.1 < nc) : (tnC Lt nc σ).1 < nc := by
  unfold tnC
  split
  · exact h
  · rename_i c e
    have := nxC_lt _ _ _ e
    show c < nc
    omega
section
variable {Lt Nt al we de bi ch : Nat → Int32} {nc y : Nat}
theorem enH_1 {σ : KS} : (enH Lt al y σ).1 = σ.1 := by
  unfold enH
  split <;> rfl
theorem beC_1 {σ : KS} : (beC Lt Nt al we de bi ch y σ).1 = σ.1 := by
  unfold beC bgC
  split
  · rfl
  · split <;> rfl
theorem seC_1 : ∀ (k : Nat) (σ : KS), σ.1 < nc → (seC Lt Nt al we de bi ch nc y k σ).1 < nc
  | 0, _, h => h
  | k + 1, σ, h => by
    unfold seC
    split
    · exact h
    · split
      · split
        · exact seC_1 k _ (tnC_1 (by rw [enH_1, beC_1]; exact h))
        · rw [enH_1, beC_1]; exact h
      · split
        · exact seC_1 k _ (tnC_1 (by rw [beC_1]; exact h))
        · rw [beC_1]; exact h
theorem ysC_1 {σ : KS} (h : σ.1 < nc) : (ysC Lt Nt de nc y σ).1 < nc := by
  unfold ysC
  split
  · exact h
  · rename_i c e
    have := shC_lt _ _ _ e
    show c < nc
    omega
theorem goC_1 {b0 : Nat → Int32} (h : 0 < nc) : ∀ y, (goC Lt Nt al we de bi ch nc b0 y).1 < nc
  | 0 => h
  | y + 1 => seC_1 6 _ (ysC_1 (goC_1 h y))
end
