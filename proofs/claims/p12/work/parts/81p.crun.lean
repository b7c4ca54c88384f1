/-! the class's run (the Run at 71) -/
def uOa (c : Nat) (r b : Bool) (hv : Int32) : List Value := [.ref 72, .ref 73, .ref 74, .int (nI c), .int (b01 r), .int (b01 b), .int hv]
def UHa (H : XH) (ho cl : Nat → Int32) (σ : KS) : XH := (549, 14048, fun j => if j = 71 then .inl (4, uOa σ.1 σ.2.1 σ.2.2.1 σ.2.2.2.1) else if j = 72 then .inr (.inl (0, 41, ho)) else if j = 73 then .inr (.inl (0, 41, cl)) else if j = 74 then .inr (.inl (0, 6, σ.2.2.2.2)) else H.2.2 j)
section CRa
variable {H : XH} {ho cl : Nat → Int32} {c : Nat} {r b : Bool} {hv : Int32} {bg : Nat → Int32} {p bb nc : Nat} {Lt Nt al we de bi ch : Nat → Int32}
theorem UHa.ob {c2 : Nat} {r2 b2 : Bool} {hv2 : Int32} : xup (UHa H ho cl (c, r, b, hv, bg)) 71 (.inl (4, uOa c2 r2 b2 hv2)) = UHa H ho cl (c2, r2, b2, hv2, bg) := by
  unfold xup UHa
  refine Prod.ext rfl (Prod.ext rfl (funext fun j => ?_))
  dsimp only
  by_cases q : j = 71
  · simp only [if_pos q]
  · simp only [if_neg q]
theorem UHa.sho {x : Nat → Int32} : xup (UHa H ho cl (c, r, b, hv, bg)) 72 (.inr (.inl (0, 41, x))) = UHa H x cl (c, r, b, hv, bg) := by
  unfold xup UHa
  refine Prod.ext rfl (Prod.ext rfl (funext fun j => ?_))
  dsimp only
  by_cases q : j = 72
  · subst q
    rfl
  · simp only [if_neg q]
theorem UHa.scl {x : Nat → Int32} : xup (UHa H ho cl (c, r, b, hv, bg)) 73 (.inr (.inl (0, 41, x))) = UHa H ho x (c, r, b, hv, bg) := by
  unfold xup UHa
  refine Prod.ext rfl (Prod.ext rfl (funext fun j => ?_))
  dsimp only
  by_cases q : j = 73
  · subst q
    rfl
  · simp only [if_neg q]
theorem UHa.sbg {x : Nat → Int32} : xup (UHa H ho cl (c, r, b, hv, bg)) 74 (.inr (.inl (0, 6, x))) = UHa H ho cl (c, r, b, hv, x) := by
  unfold xup UHa
  refine Prod.ext rfl (Prod.ext rfl (funext fun j => ?_))
  dsimp only
  by_cases q : j = 74
  · subst q
    rfl
  · simp only [if_neg q]
theorem uha_k {σ : KS} {k : Nat} (h : k < 71 ∨ 74 < k) : (UHa H ho cl σ).2.2 k = H.2.2 k := by
  show (if k = 71 then _ else if k = 72 then _ else if k = 73 then _ else if k = 74 then _ else H.2.2 k) = _
  rw [if_neg (by omega), if_neg (by omega), if_neg (by omega), if_neg (by omega)]
theorem uha_e {σ : KS} (hE : CE H p bb nc Lt Nt al we de bi ch) (hp : p + 2 < 71 ∨ 79 ≤ p) : CE (UHa H ho cl σ) p bb nc Lt Nt al we de bi ch := by
  have b1 := hE.b1
  refine ⟨rfl, hE.p1, hE.b1, (uha_k (by omega)).trans hE.g, (uha_k (by omega)).trans hE.gl, (uha_k (by omega)).trans hE.gn, ?_, (uha_k (by omega)).trans hE.c1, (uha_k (by omega)).trans hE.c2, (uha_k (by omega)).trans hE.c3, (uha_k (by omega)).trans hE.c4, (uha_k (by omega)).trans hE.c6⟩
  obtain ⟨i, lt, ld, a, w, d, e⟩ := hE.co
  exact ⟨i, lt, ld, a, w, d, (uha_k (by omega)).trans e⟩
theorem uha_r {σ : KS} {M : XMeth} (hM : xmC M = 4) {as : List Value} (ha : as.head? = some (.ref 71)) : xrecv M as (UHa H ho cl σ) := fun _ => ⟨71, _, ha, by rw [hM]; rfl, by decide, Nat.le_of_ble_eq_true rfl⟩
theorem XGo.u3a {d : Nat} {M : XMeth} {pc idx len w : Nat} {L : XL} {st : List Value} {v : Option Value} {hend : XH} (c2 : Nat) (hm : xfind (xmT M) pc = some (pc, .putfield idx, len, 4, 3, w)) (g : XGo d M (pc + 3, L, st, UHa H ho cl (c2, r, b, hv, bg)) v hend) : XGo d M (pc, L, .int (nI c2) :: .ref 71 :: st, UHa H ho cl (c, r, b, hv, bg)) v hend := by
  refine XGo.putf hm (rfl : (UHa H ho cl (c, r, b, hv, bg)).2.2 71 = _) (Nat.le_of_ble_eq_true rfl) (by decide) (Nat.le_of_ble_eq_true rfl) rfl rfl ?_
  rw [show (uOa c r b hv).set 3 (.int (nI c2)) = uOa c2 r b hv from rfl, UHa.ob]
  exact g
theorem XGo.u4a {d : Nat} {M : XMeth} {pc idx len w : Nat} {L : XL} {st : List Value} {v : Option Value} {hend : XH} (x : Bool) (hm : xfind (xmT M) pc = some (pc, .putfield idx, len, 4, 4, w)) (g : XGo d M (pc + 3, L, st, UHa H ho cl (c, x, b, hv, bg)) v hend) : XGo d M (pc, L, .int (b01 x) :: .ref 71 :: st, UHa H ho cl (c, r, b, hv, bg)) v hend := by
  refine XGo.putf hm (rfl : (UHa H ho cl (c, r, b, hv, bg)).2.2 71 = _) (Nat.le_of_ble_eq_true rfl) (by decide) (Nat.le_of_ble_eq_true rfl) (by cases x <;> rfl) (by cases x <;> rfl) ?_
  rw [show (uOa c r b hv).set 4 (.int (b01 x)) = uOa c x b hv from rfl, UHa.ob]
  exact g
theorem XGo.u5a {d : Nat} {M : XMeth} {pc idx len w : Nat} {L : XL} {st : List Value} {v : Option Value} {hend : XH} (x : Bool) (hm : xfind (xmT M) pc = some (pc, .putfield idx, len, 4, 5, w)) (g : XGo d M (pc + 3, L, st, UHa H ho cl (c, r, x, hv, bg)) v hend) : XGo d M (pc, L, .int (b01 x) :: .ref 71 :: st, UHa H ho cl (c, r, b, hv, bg)) v hend := by
  refine XGo.putf hm (rfl : (UHa H ho cl (c, r, b, hv, bg)).2.2 71 = _) (Nat.le_of_ble_eq_true rfl) (by decide) (Nat.le_of_ble_eq_true rfl) (by cases x <;> rfl) (by cases x <;> rfl) ?_
  rw [show (uOa c r b hv).set 5 (.int (b01 x)) = uOa c r x hv from rfl, UHa.ob]
  exact g
theorem XGo.u6a {d : Nat} {M : XMeth} {pc idx len w : Nat} {L : XL} {st : List Value} {v : Option Value} {hend : XH} {x : Int32} (hm : xfind (xmT M) pc = some (pc, .putfield idx, len, 4, 6, w)) (g : XGo d M (pc + 3, L, st, UHa H ho cl (c, r, b, x, bg)) v hend) : XGo d M (pc, L, .int x :: .ref 71 :: st, UHa H ho cl (c, r, b, hv, bg)) v hend := by
  refine XGo.putf hm (rfl : (UHa H ho cl (c, r, b, hv, bg)).2.2 71 = _) (Nat.le_of_ble_eq_true rfl) (by decide) (Nat.le_of_ble_eq_true rfl) rfl rfl ?_
  rw [show (uOa c r b hv).set 6 (.int x) = uOa c r b x from rfl, UHa.ob]
  exact g
set_option maxRecDepth 100000 in
theorem k_tta (d : Nat) (c2 : Nat) (σ : KS) : XCall xM (d + 1) 45 [.ref 71, .int (nI c2)] (UHa H ho cl σ) none (UHa H ho cl (ttC c2 σ)) := by
  obtain ⟨c, r, b, hv, bg⟩ := σ
  refine XCall.of (M := xm_X4_turnTo) rfl (Nat.le_of_ble_eq_true rfl) ?_
  refine XGo.go 2 rfl ?_
  refine XGo.u3a c2 rfl ?_
  refine XGo.go 2 rfl ?_
  refine XGo.u4a true rfl ?_
  refine XGo.go 2 rfl ?_
  refine XGo.u5a false rfl ?_
  refine XGo.go 2 rfl ?_
  refine XGo.u6a rfl ?_
  exact XGo.vret _ rfl rfl rfl
theorem h13pa (hE : CE H p bb nc Lt Nt al we de bi ch) (σ : KS) (hp : p + 2 < 71 ∨ 79 ≤ p) : xfd (UHa H ho cl σ) p 1 0 = some (.int (nI nc)) ∧ 1 < 98 :=
  xfd_o ((uha_k (by omega)).trans hE.g) (by show p < 549; have := hE.p1; omega) hE.p1.1 rfl
set_option maxRecDepth 100000 in
theorem sha_l (d : Nat) (hE : CE H p bb nc Lt Nt al we de bi ch) (hp : p + 2 < 71 ∨ 79 ≤ p) (hnc : nc ≤ 6) {y : Nat} (hy : y < 41) (σ : KS) : ∀ (q c : Nat) (w : Option Value), nc - c = q → c ≤ 7 → XGo (d + 2) xm_X4_shift (8, [some (.ref 71), some (.ref p), some (.ref bb), some (.int (nI y)), some (.int (nI c)), w], [], UHa H ho cl σ) none (UHa H ho cl (match shC Lt Nt de y q c with | none => σ | some c => ttC c σ))
  | q, c, w, hq, hc => by
    have hE' := uha_e (ho := ho) (cl := cl) (σ := σ) hE hp
    have head : ∀ {v : Option Value} {hend : XH}, XGo (d + 2) xm_X4_shift (if nI nc ≤ nI c then 69 else 17, [some (.ref 71), some (.ref p), some (.ref bb), some (.int (nI y)), some (.int (nI c)), w], [], UHa H ho cl σ) v hend → XGo (d + 2) xm_X4_shift (8, [some (.ref 71), some (.ref p), some (.ref bb), some (.int (nI y)), some (.int (nI c)), w], [], UHa H ho cl σ) v hend := fun k => by
      refine XGo.go 2 rfl ?_
      refine XGo.getf rfl (h13pa hE σ hp) ?_
      exact XGo.go 1 rfl k
    match q, hq with
    | 0, hq =>
      refine head (XGo.ifp ((nIle (by omega) (by omega)).mpr (by omega)) ?_)
      exact XGo.vret _ rfl rfl rfl
    | q + 1, hq =>
      have cn : c < nc := by omega
      have ih := fun w => sha_l d hE hp hnc hy σ q (c + 1) w (by omega) (by omega)
      rw [← show nI c + Int32.ofInt 1 = nI (c + 1) from nI_1 c] at ih
      have no : ∀ x : Int32, ¬ (Lt (4 * c) = (Int8.ofInt 100).toInt32 ∧ (de y >>> (Nt (4 * c) &&& 31)) &&& Int32.ofInt 1 = Int32.ofInt 1) → XGo (d + 2) xm_X4_shift (63, [some (.ref 71), some (.ref p), some (.ref bb), some (.int (nI y)), some (.int (nI c)), some (.int x)], [], UHa H ho cl σ) none (UHa H ho cl (match shC Lt Nt de y (q + 1) c with | none => σ | some c => ttC c σ)) := fun x z => by
        rw [show shC Lt Nt de y (q + 1) c = shC Lt Nt de y q (c + 1) from if_neg z]
        exact XGo.go 2 rfl (ih _)
      refine head (XGo.ifn (fun z => absurd ((nIle (by omega) (by omega)).mp z) (by omega)) ?_)
      refine XGo.go 3 rfl ?_
      refine XGo.call _ rfl xm_X1_letter rfl rfl [.ref p, .int (nI c), .int (nI 0)] [] rfl rfl (ce_rg hE' rfl rfl) (Nat.le_of_ble_eq_true rfl) (k_let (d + 1) hE' (c := c) (q := 0) (by omega) (by decide) (by omega)) ?_
      refine XGo.go 2 rfl ?_
      by_cases e1 : Lt (4 * c) = (Int8.ofInt 100).toInt32
      · refine XGo.ifp e1 ?_
        refine XGo.go 5 rfl ?_
        refine XGo.ifn (by decide) ?_
        refine XGo.go 4 rfl ?_
        refine XGo.call _ rfl xm_X1_number rfl rfl [.ref p, .int (nI c), .int (nI 0)] [.ref bb] rfl rfl (ce_rg hE' rfl rfl) (Nat.le_of_ble_eq_true rfl) (k_num (d + 1) hE' (c := c) (q := 0) (by omega) (by decide) (by omega)) ?_
        refine XGo.go 1 rfl ?_
        refine XGo.call _ rfl xm_X0_isDone rfl rfl [.ref bb, .int (Nt (4 * c + 0)), .int (nI y)] [] rfl rfl (ce_rc hE' rfl rfl) (Nat.le_of_ble_eq_true rfl) (k_done (d + 1) hE' hy) ?_
        refine XGo.go 1 rfl ?_
        by_cases e2 : (de y >>> (Nt (4 * c + 0) &&& 31)) &&& Int32.ofInt 1 = Int32.ofInt 1
        · rw [dec_t e2]
          refine XGo.ifn (by decide) ?_
          refine XGo.go 2 rfl ?_
          refine XGo.call _ rfl xm_X4_turnTo rfl rfl [.ref 71, .int (nI c)] [] rfl rfl (uha_r rfl rfl) (Nat.le_of_ble_eq_true rfl) (k_tta (d + 1) c σ) ?_
          rw [show shC Lt Nt de y (q + 1) c = some c from if_pos ⟨e1, e2⟩]
          exact XGo.vret _ rfl rfl rfl
        · rw [dec_f e2]
          refine XGo.ifp (by decide) ?_
          exact no _ fun z => e2 z.2
      · refine XGo.ifn e1 ?_
        refine XGo.go 4 rfl ?_
        refine XGo.ifp (by decide) ?_
        exact no _ fun z => e1 z.1
  termination_by q => q
theorem k_shfa (d : Nat) (hE : CE H p bb nc Lt Nt al we de bi ch) (hp : p + 2 < 71 ∨ 79 ≤ p) (hnc : nc ≤ 6) {y : Nat} (hy : y < 41) (σ : KS) (hc : σ.1 ≤ 6) : XCall xM (d + 3) 46 [.ref 71, .ref p, .ref bb, .int (nI y)] (UHa H ho cl σ) none (UHa H ho cl (ysC Lt Nt de nc y σ)) := by
  obtain ⟨c, r, b, hv, bg⟩ := σ
  refine XCall.of (M := xm_X4_shift) rfl (Nat.le_of_ble_eq_true rfl) ?_
  refine XGo.go 5 rfl ?_
  have := sha_l (ho := ho) (cl := cl) d hE hp hnc hy (c, r, b, hv, bg) (nc - (c + 1)) (c + 1) none rfl (by have : c ≤ 6 := hc; omega)
  rw [← show nI c + Int32.ofInt 1 = nI (c + 1) from nI_1 c] at this
  exact this
set_option maxRecDepth 100000 in
theorem k_nma (d : Nat) (hE : CE H p bb nc Lt Nt al we de bi ch) (hp : p + 2 < 71 ∨ 79 ≤ p) (σ : KS) (hc : σ.1 < 6) (hr : rg 7 (Nt (4 * σ.1 + 1))) : XCall xM (d + 2) 51 [.ref 71, .ref p, .ref bb] (UHa H ho cl σ) (some (.int (nmC Lt Nt ch σ.1))) (UHa H ho cl σ) := by
  have hE' := uha_e (ho := ho) (cl := cl) (σ := σ) hE hp
  obtain ⟨c, r, b, hv, bg⟩ := σ
  have hc : c < 6 := hc
  have lb := hE.b1
  obtain ⟨eo, lo⟩ := i32_nI hr.1 hr.2
  dsimp only at eo lo
  refine XCall.of (M := xm_X4_named) rfl (Nat.le_of_ble_eq_true rfl) ?_
  refine XGo.go 4 rfl ?_
  refine XGo.call _ rfl xm_X1_number rfl rfl [.ref p, .int (nI c), .int (nI 1)] [] rfl rfl (ce_rg hE' rfl rfl) (Nat.le_of_ble_eq_true rfl) (k_num d hE' (c := c) (q := 1) (by omega) (by decide) (by omega)) ?_
  refine XGo.go 5 rfl ?_
  refine XGo.call _ rfl xm_X1_letter rfl rfl [.ref p, .int (nI c), .int (nI 1)] [] rfl rfl (ce_rg hE' rfl rfl) (Nat.le_of_ble_eq_true rfl) (k_let d hE' (c := c) (q := 1) (by omega) (by decide) (by omega)) ?_
  refine XGo.go 2 rfl ?_
  by_cases e1 : Lt (4 * c + 1) = (Int8.ofInt 112).toInt32
  · rw [show nmC Lt Nt ch c = _ from if_pos e1]
    refine XGo.ifp e1 ?_
    refine XGo.go 4 rfl ?_
    exact XGo.iret _ rfl rfl .int rfl rfl
  · rw [show nmC Lt Nt ch c = _ from if_neg e1]
    refine XGo.ifn e1 ?_
    refine XGo.go 1 rfl ?_
    refine XGo.getf rfl (ce_f hE' (j := 6) (by decide) (by decide)) ?_
    refine XGo.go 1 rfl ?_
    refine XGo.top eo ?_
    refine XGo.call _ rfl xm_X6_at rfl rfl [.ref (bb + 6), .int (nI (Nt (4 * c + 1)).toNatClampNeg)] [] rfl rfl (fun z => absurd rfl z) (Nat.le_of_ble_eq_true rfl) (at_row hE'.c6 (ce_l hE' (by omega)) (by decide) (by omega)) ?_
    exact XGo.iret _ rfl rfl .int rfl rfl
set_option maxRecDepth 100000 in
theorem k_bga (d : Nat) (hE : CE H p bb nc Lt Nt al we de bi ch) (hp : p + 2 < 71 ∨ 79 ≤ p) (σ : KS) (hc : σ.1 < 6) (hr : rg 7 (Nt (4 * σ.1 + 1))) {y : Nat} (hy : y < 41) : XCall xM (d + 4) 48 [.ref 71, .ref p, .ref bb, .int (nI y)] (UHa H ho cl σ) none (UHa H ho cl (bgC Lt Nt al we de bi ch y σ)) := by
  have hE' := uha_e (ho := ho) (cl := cl) (σ := σ) hE hp
  have cN := k_nma (ho := ho) (cl := cl) (d + 1) hE hp σ hc hr
  obtain ⟨c, r, b, hv, bg⟩ := σ
  have hc : c < 6 := hc
  have lb := hE.b1
  dsimp only at cN
  refine XCall.of (M := xm_X4_begin) rfl (Nat.le_of_ble_eq_true rfl) ?_
  refine XGo.go 3 rfl ?_
  refine XGo.call _ rfl xm_X4_named rfl rfl [.ref 71, .ref p, .ref bb] [] rfl rfl (uha_r rfl rfl) (Nat.le_of_ble_eq_true rfl) cN ?_
  refine XGo.go 1 rfl ?_
  refine XGo.getf rfl (ce_f hE' (j := 1) (by decide) (by decide)) ?_
  refine XGo.go 1 rfl ?_
  refine XGo.call _ rfl xm_X6_at rfl rfl [.ref (bb + 1), .int (nI y)] [.int (nmC Lt Nt ch c)] rfl rfl (fun z => absurd rfl z) (Nat.le_of_ble_eq_true rfl) (at_row hE'.c1 (ce_l hE' (by omega)) (by decide) hy) ?_
  refine XGo.go 8 rfl ?_
  refine XGo.call _ rfl xm_X1_letter rfl rfl [.ref p, .int (nI c), .int (nI 3)] [.int (nmC Lt Nt ch c &&& al y), .ref bb] rfl rfl (ce_rg hE' rfl rfl) (Nat.le_of_ble_eq_true rfl) (k_let (d + 2) hE' (c := c) (q := 3) (by omega) (by decide) (by omega)) ?_
  refine XGo.go 4 rfl ?_
  refine XGo.call _ rfl xm_X1_number rfl rfl [.ref p, .int (nI c), .int (nI 3)] [.int (Lt (4 * c + 3)), .int (nmC Lt Nt ch c &&& al y), .ref bb] rfl rfl (ce_rg hE' rfl rfl) (Nat.le_of_ble_eq_true rfl) (k_num (d + 2) hE' (c := c) (q := 3) (by omega) (by decide) (by omega)) ?_
  refine XGo.go 1 rfl ?_
  refine XGo.call _ rfl xm_X0_meeting rfl rfl [.ref bb, .int (nmC Lt Nt ch c &&& al y), .int (Lt (4 * c + 3)), .int (Nt (4 * c + 3)), .int (nI y)] [] rfl rfl (ce_rc hE' rfl rfl) (Nat.le_of_ble_eq_true rfl) (k_meet d hE' hy) ?_
  refine XGo.go 6 rfl ?_
  refine XGo.call _ rfl xm_X1_letter rfl rfl [.ref p, .int (nI c), .int (nI 1)] [.ref 71] rfl rfl (ce_rg hE' rfl rfl) (Nat.le_of_ble_eq_true rfl) (k_let (d + 2) hE' (c := c) (q := 1) (by omega) (by decide) (by omega)) ?_
  refine XGo.go 2 rfl ?_
  have fin : ∀ T : Int32, T = tkC Lt Nt al we de bi ch c y → XGo (d + 3) xm_X4_begin (70, [some (.ref 71), some (.ref p), some (.ref bb), some (.int (nI y)), some (.int (nmC Lt Nt ch c &&& al y)), some (.int (meC we de bi (nmC Lt Nt ch c &&& al y) (Lt (4 * c + 3)) (Nt (4 * c + 3)) y))], [.int T, .ref 71], UHa H ho cl (c, r, b, hv, bg)) none (UHa H ho cl (bgC Lt Nt al we de bi ch y (c, r, b, hv, bg))) := fun T eT => by
    refine XGo.u6a rfl ?_
    have eB : bgC Lt Nt al we de bi ch y (c, r, b, hv, bg) = if T = 0 then (c, r, b, T, bg) else (c, r, true, T, upd bg c (nI y)) := by rw [eT]; rfl
    rw [eB]
    refine XGo.go 2 rfl ?_
    by_cases e0 : T = 0
    · rw [show (if T = 0 then ((c, r, b, T, bg) : KS) else (c, r, true, T, upd bg c (nI y))) = _ from if_pos e0]
      refine XGo.go 1 rfl ?_
      refine XGo.ifp e0 ?_
      exact XGo.vret _ rfl rfl rfl
    · rw [show (if T = 0 then ((c, r, b, T, bg) : KS) else (c, r, true, T, upd bg c (nI y))) = _ from if_neg e0]
      refine XGo.go 1 rfl ?_
      refine XGo.ifn e0 ?_
      refine XGo.go 2 rfl ?_
      refine XGo.u5a true rfl ?_
      refine XGo.go 5 rfl ?_
      have q := k_put_in (d + 2) (UHa H ho cl (c, r, true, T, bg)) 74 6 bg (nI c) (nI y) rfl (Nat.le_of_ble_eq_true rfl) (by decide) (by decide) (ca_nI hc (by decide))
      rw [xnI_nat (by omega), UHa.sbg] at q
      refine XGo.call _ rfl xm_X6_put rfl rfl [.ref 74, .int (nI c), .int (nI y)] [] rfl rfl (fun z => absurd rfl z) (Nat.le_of_ble_eq_true rfl) q ?_
      exact XGo.vret _ rfl rfl rfl
  by_cases e1 : Lt (4 * c + 1) = (Int8.ofInt 102).toInt32
  · refine XGo.ifp e1 ?_
    refine XGo.go 2 rfl ?_
    refine XGo.call _ rfl xm_X0_firstBorn rfl rfl [.ref bb, .int (meC we de bi (nmC Lt Nt ch c &&& al y) (Lt (4 * c + 3)) (Nt (4 * c + 3)) y)] [.ref 71] rfl rfl (ce_rc hE' rfl rfl) (Nat.le_of_ble_eq_true rfl) (k_fb (d + 1) hE') ?_
    refine XGo.go 1 rfl ?_
    exact fin _ (if_pos e1).symm
  · refine XGo.ifn e1 ?_
    refine XGo.go 1 rfl ?_
    exact fin _ (if_neg e1).symm
set_option maxRecDepth 100000 in
theorem k_hea (d : Nat) (hE : CE H p bb nc Lt Nt al we de bi ch) (hp : p + 2 < 71 ∨ 79 ≤ p) (σ : KS) (hc : σ.1 < 6) {y : Nat} (hy : y < 41) : XCall xM (d + 2) 49 [.ref 71, .ref p, .ref bb, .int (nI y)] (UHa H ho cl σ) (some (.int (b01 (enB Lt Nt al y σ)))) (UHa H ho cl (enH Lt al y σ)) := by
  have hE' := uha_e (ho := ho) (cl := cl) (σ := σ) hE hp
  obtain ⟨c, r, b, hv, bg⟩ := σ
  have hc : c < 6 := hc
  have lb := hE.b1
  refine XCall.of (M := xm_X4_hasEnded) rfl (Nat.le_of_ble_eq_true rfl) ?_
  refine XGo.go 4 rfl ?_
  refine XGo.call _ rfl xm_X1_letter rfl rfl [.ref p, .int (nI c), .int (nI 2)] [] rfl rfl (ce_rg hE' rfl rfl) (Nat.le_of_ble_eq_true rfl) (k_let d hE' (c := c) (q := 2) (by omega) (by decide) (by omega)) ?_
  refine XGo.go 4 rfl ?_
  by_cases e1 : Lt (4 * c + 2) = (Int8.ofInt 101).toInt32
  · rw [show enB Lt Nt al y (c, r, b, hv, bg) = false from if_pos e1, show enH Lt al y (c, r, b, hv, bg) = (c, r, b, hv, bg) from if_pos e1]
    refine XGo.ifp e1 ?_
    refine XGo.go 1 rfl ?_
    exact XGo.ib (b := false) _ rfl rfl rfl rfl
  · rw [show enB Lt Nt al y (c, r, b, hv, bg) = (decide (hv &&& al y = 0) || (decide (Lt (4 * c + 2) = (Int8.ofInt 121).toInt32) && decide (bg c + Nt (4 * c + 2) ≤ nI y))) from if_neg e1, show enH Lt al y (c, r, b, hv, bg) = (c, r, b, hv &&& al y, bg) from if_neg e1]
    refine XGo.ifn e1 ?_
    refine XGo.go 4 rfl ?_
    refine XGo.getf rfl (ce_f hE' (j := 1) (by decide) (by decide)) ?_
    refine XGo.go 1 rfl ?_
    refine XGo.call _ rfl xm_X6_at rfl rfl [.ref (bb + 1), .int (nI y)] [.int hv, .ref 71] rfl rfl (fun z => absurd rfl z) (Nat.le_of_ble_eq_true rfl) (at_row hE'.c1 (ce_l hE' (by omega)) (by decide) hy) ?_
    refine XGo.go 1 rfl ?_
    refine XGo.u6a rfl ?_
    refine XGo.go 3 rfl ?_
    by_cases e0 : hv &&& al y = 0
    · refine XGo.ifp e0 ?_
      refine XGo.go 2 rfl ?_
      exact XGo.ib (b := true) _ rfl rfl rfl (by rw [dec_t e0]; rfl)
    · refine XGo.ifn e0 ?_
      refine XGo.go 3 rfl ?_
      by_cases e2 : Lt (4 * c + 2) = (Int8.ofInt 121).toInt32
      · have hE2 := uha_e (ho := ho) (cl := cl) (σ := (c, r, b, hv &&& al y, bg)) hE hp
        refine XGo.ifp e2 ?_
        refine XGo.go 5 rfl ?_
        refine XGo.call _ rfl xm_X6_at rfl rfl [.ref 74, .int (nI c)] [.int (nI y)] rfl rfl (fun z => absurd rfl z) (Nat.le_of_ble_eq_true rfl) (at_row (d := d) (r := 74) (n := 6) (f := bg) rfl (Nat.le_of_ble_eq_true rfl) (by decide) hc) ?_
        refine XGo.go 4 rfl ?_
        refine XGo.call _ rfl xm_X1_number rfl rfl [.ref p, .int (nI c), .int (nI 2)] [.int (bg c), .int (nI y)] rfl rfl (ce_rg hE2 rfl rfl) (Nat.le_of_ble_eq_true rfl) (k_num d hE2 (c := c) (q := 2) (by omega) (by decide) (by omega)) ?_
        refine XGo.go 2 rfl ?_
        by_cases e3 : nI y < bg c + Nt (4 * c + 2)
        · refine XGo.ifp e3 ?_
          refine XGo.go 1 rfl ?_
          exact XGo.ib (b := false) _ rfl rfl rfl (by rw [dec_f e0, dec_t e2, dec_f (Int32.not_le.mpr e3)]; rfl)
        · refine XGo.ifn e3 ?_
          refine XGo.go 2 rfl ?_
          exact XGo.ib (b := true) _ rfl rfl rfl (by rw [dec_f e0, dec_t e2, dec_t (Int32.not_lt.mp e3)]; rfl)
      · refine XGo.ifn e2 ?_
        refine XGo.go 1 rfl ?_
        exact XGo.ib (b := false) _ rfl rfl rfl (by rw [dec_f e0, dec_f e2]; rfl)
set_option maxRecDepth 100000 in
theorem k_hfa (d : Nat) (hE : CE H p bb nc Lt Nt al we de bi ch) (hp : p + 2 < 71 ∨ 79 ≤ p) (σ : KS) (hc : σ.1 < 6) (hr : rg 7 (Nt (4 * σ.1 + 1))) {y : Nat} (hy : y < 41) : XCall xM (d + 3) 50 [.ref 71, .ref p, .ref bb, .int (nI y)] (UHa H ho cl σ) (some (.int (b01 (faC Lt Nt al ch σ.1 y)))) (UHa H ho cl σ) := by
  have hE' := uha_e (ho := ho) (cl := cl) (σ := σ) hE hp
  have cN := k_nma (ho := ho) (cl := cl) d hE hp σ hc hr
  obtain ⟨c, r, b, hv, bg⟩ := σ
  have hc : c < 6 := hc
  have lb := hE.b1
  dsimp only at cN
  refine XCall.of (M := xm_X4_hasFailed) rfl (Nat.le_of_ble_eq_true rfl) ?_
  refine XGo.go 3 rfl ?_
  refine XGo.call _ rfl xm_X4_named rfl rfl [.ref 71, .ref p, .ref bb] [] rfl rfl (uha_r rfl rfl) (Nat.le_of_ble_eq_true rfl) cN ?_
  refine XGo.go 5 rfl ?_
  refine XGo.call _ rfl xm_X1_number rfl rfl [.ref p, .int (nI c), .int (nI 1)] [.int (Int32.ofInt 1), .int (nmC Lt Nt ch c)] rfl rfl (ce_rg hE' rfl rfl) (Nat.le_of_ble_eq_true rfl) (k_num (d + 1) hE' (c := c) (q := 1) (by omega) (by decide) (by omega)) ?_
  refine XGo.go 5 rfl ?_
  refine XGo.getf rfl (ce_f hE' (j := 1) (by decide) (by decide)) ?_
  refine XGo.go 1 rfl ?_
  refine XGo.call _ rfl xm_X6_at rfl rfl [.ref (bb + 1), .int (nI y)] [.int (nmC Lt Nt ch c ||| (Int32.ofInt 1 <<< (Nt (4 * c + 1) &&& 31)))] rfl rfl (fun z => absurd rfl z) (Nat.le_of_ble_eq_true rfl) (at_row hE'.c1 (ce_l hE' (by omega)) (by decide) hy) ?_
  refine XGo.go 2 rfl ?_
  by_cases e0 : (nmC Lt Nt ch c ||| (Int32.ofInt 1 <<< (Nt (4 * c + 1) &&& 31))) &&& al y = 0
  · refine XGo.ifp e0 ?_
    refine XGo.go 2 rfl ?_
    exact XGo.ib (b := true) _ rfl rfl rfl (dec_t e0)
  · refine XGo.ifn e0 ?_
    refine XGo.go 1 rfl ?_
    exact XGo.ib (b := false) _ rfl rfl rfl (dec_f e0)
set_option maxRecDepth 100000 in
theorem tna_l (d : Nat) (hE : CE H p bb nc Lt Nt al we de bi ch) (hp : p + 2 < 71 ∨ 79 ≤ p) (hnc : nc ≤ 6) (σ : KS) : ∀ (q c : Nat), nc - c = q → c ≤ 7 → XGo (d + 2) xm_X4_turnToNext (17, [some (.ref 71), some (.ref p), some (.int (nI c))], [], UHa H ho cl σ) none (UHa H ho cl (match nxC Lt q c with | none => σ | some c => ttC c σ))
  | q, c, hq, hc => by
    have hE' := uha_e (ho := ho) (cl := cl) (σ := σ) hE hp
    have head : ∀ {v : Option Value} {hend : XH}, XGo (d + 2) xm_X4_turnToNext (if nI nc ≤ nI c then 45 else 25, [some (.ref 71), some (.ref p), some (.int (nI c))], [], UHa H ho cl σ) v hend → XGo (d + 2) xm_X4_turnToNext (17, [some (.ref 71), some (.ref p), some (.int (nI c))], [], UHa H ho cl σ) v hend := fun k => by
      refine XGo.go 2 rfl ?_
      refine XGo.getf rfl (h13pa hE σ hp) ?_
      exact XGo.go 1 rfl k
    match q, hq with
    | 0, hq =>
      refine head (XGo.ifp ((nIle (by omega) (by omega)).mpr (by omega)) ?_)
      exact XGo.vret _ rfl rfl rfl
    | q + 1, hq =>
      have cn : c < nc := by omega
      have ih := tna_l d hE hp hnc σ q (c + 1) (by omega) (by omega)
      rw [← show nI c + Int32.ofInt 1 = nI (c + 1) from nI_1 c] at ih
      refine head (XGo.ifn (fun z => absurd ((nIle (by omega) (by omega)).mp z) (by omega)) ?_)
      refine XGo.go 2 rfl ?_
      refine XGo.call _ rfl xm_X1_isShift rfl rfl [.ref p, .int (nI c)] [] rfl rfl (ce_rg hE' rfl rfl) (Nat.le_of_ble_eq_true rfl) (k_shp d hE' (by omega)) ?_
      refine XGo.go 1 rfl ?_
      by_cases e1 : Lt (4 * c) = 0
      · rw [dec_t e1, show nxC Lt (q + 1) c = some c from if_pos e1]
        refine XGo.ifp (by decide) ?_
        refine XGo.go 2 rfl ?_
        refine XGo.call _ rfl xm_X4_turnTo rfl rfl [.ref 71, .int (nI c)] [] rfl rfl (uha_r rfl rfl) (Nat.le_of_ble_eq_true rfl) (k_tta (d + 1) c σ) ?_
        exact XGo.vret _ rfl rfl rfl
      · rw [dec_f e1, show nxC Lt (q + 1) c = nxC Lt q (c + 1) from if_neg e1]
        refine XGo.ifn (by decide) ?_
        exact XGo.go 2 rfl ih
  termination_by q => q
set_option maxRecDepth 100000 in
theorem k_tna (d : Nat) (hE : CE H p bb nc Lt Nt al we de bi ch) (hp : p + 2 < 71 ∨ 79 ≤ p) (hnc : nc ≤ 6) (σ : KS) (hc : σ.1 < 6) : XCall xM (d + 3) 52 [.ref 71, .ref p] (UHa H ho cl σ) none (UHa H ho cl (tnC Lt nc σ)) := by
  obtain ⟨c, r, b, hv, bg⟩ := σ
  have hc : c < 6 := hc
  refine XCall.of (M := xm_X4_turnToNext) rfl (Nat.le_of_ble_eq_true rfl) ?_
  refine XGo.go 2 rfl ?_
  refine XGo.u6a rfl ?_
  refine XGo.go 2 rfl ?_
  refine XGo.u4a false rfl ?_
  refine XGo.go 5 rfl ?_
  have := tna_l (ho := ho) (cl := cl) d hE hp hnc (c, false, b, Int32.ofInt 0, bg) (nc - (c + 1)) (c + 1) rfl (by omega)
  rw [← show nI c + Int32.ofInt 1 = nI (c + 1) from nI_1 c] at this
  exact this
end CRa
/-! the class's run (the Run at 75) -/
def uOb (c : Nat) (r b : Bool) (hv : Int32) : List Value := [.ref 76, .ref 77, .ref 78, .int (nI c), .int (b01 r), .int (b01 b), .int hv]
def UHb (H : XH) (ho cl : Nat → Int32) (σ : KS) : XH := (549, 14048, fun j => if j = 75 then .inl (4, uOb σ.1 σ.2.1 σ.2.2.1 σ.2.2.2.1) else if j = 76 then .inr (.inl (0, 41, ho)) else if j = 77 then .inr (.inl (0, 41, cl)) else if j = 78 then .inr (.inl (0, 6, σ.2.2.2.2)) else H.2.2 j)
section CRb
variable {H : XH} {ho cl : Nat → Int32} {c : Nat} {r b : Bool} {hv : Int32} {bg : Nat → Int32} {p bb nc : Nat} {Lt Nt al we de bi ch : Nat → Int32}
theorem UHb.ob {c2 : Nat} {r2 b2 : Bool} {hv2 : Int32} : xup (UHb H ho cl (c, r, b, hv, bg)) 75 (.inl (4, uOb c2 r2 b2 hv2)) = UHb H ho cl (c2, r2, b2, hv2, bg) := by
  unfold xup UHb
  refine Prod.ext rfl (Prod.ext rfl (funext fun j => ?_))
  dsimp only
  by_cases q : j = 75
  · simp only [if_pos q]
  · simp only [if_neg q]
theorem UHb.sho {x : Nat → Int32} : xup (UHb H ho cl (c, r, b, hv, bg)) 76 (.inr (.inl (0, 41, x))) = UHb H x cl (c, r, b, hv, bg) := by
  unfold xup UHb
  refine Prod.ext rfl (Prod.ext rfl (funext fun j => ?_))
  dsimp only
  by_cases q : j = 76
  · subst q
    rfl
  · simp only [if_neg q]
theorem UHb.scl {x : Nat → Int32} : xup (UHb H ho cl (c, r, b, hv, bg)) 77 (.inr (.inl (0, 41, x))) = UHb H ho x (c, r, b, hv, bg) := by
  unfold xup UHb
  refine Prod.ext rfl (Prod.ext rfl (funext fun j => ?_))
  dsimp only
  by_cases q : j = 77
  · subst q
    rfl
  · simp only [if_neg q]
theorem UHb.sbg {x : Nat → Int32} : xup (UHb H ho cl (c, r, b, hv, bg)) 78 (.inr (.inl (0, 6, x))) = UHb H ho cl (c, r, b, hv, x) := by
  unfold xup UHb
  refine Prod.ext rfl (Prod.ext rfl (funext fun j => ?_))
  dsimp only
  by_cases q : j = 78
  · subst q
    rfl
  · simp only [if_neg q]
theorem uhb_k {σ : KS} {k : Nat} (h : k < 75 ∨ 78 < k) : (UHb H ho cl σ).2.2 k = H.2.2 k := by
  show (if k = 75 then _ else if k = 76 then _ else if k = 77 then _ else if k = 78 then _ else H.2.2 k) = _
  rw [if_neg (by omega), if_neg (by omega), if_neg (by omega), if_neg (by omega)]
theorem uhb_e {σ : KS} (hE : CE H p bb nc Lt Nt al we de bi ch) (hp : p + 2 < 71 ∨ 79 ≤ p) : CE (UHb H ho cl σ) p bb nc Lt Nt al we de bi ch := by
  have b1 := hE.b1
  refine ⟨rfl, hE.p1, hE.b1, (uhb_k (by omega)).trans hE.g, (uhb_k (by omega)).trans hE.gl, (uhb_k (by omega)).trans hE.gn, ?_, (uhb_k (by omega)).trans hE.c1, (uhb_k (by omega)).trans hE.c2, (uhb_k (by omega)).trans hE.c3, (uhb_k (by omega)).trans hE.c4, (uhb_k (by omega)).trans hE.c6⟩
  obtain ⟨i, lt, ld, a, w, d, e⟩ := hE.co
  exact ⟨i, lt, ld, a, w, d, (uhb_k (by omega)).trans e⟩
theorem uhb_r {σ : KS} {M : XMeth} (hM : xmC M = 4) {as : List Value} (ha : as.head? = some (.ref 75)) : xrecv M as (UHb H ho cl σ) := fun _ => ⟨75, _, ha, by rw [hM]; rfl, by decide, Nat.le_of_ble_eq_true rfl⟩
theorem XGo.u3b {d : Nat} {M : XMeth} {pc idx len w : Nat} {L : XL} {st : List Value} {v : Option Value} {hend : XH} (c2 : Nat) (hm : xfind (xmT M) pc = some (pc, .putfield idx, len, 4, 3, w)) (g : XGo d M (pc + 3, L, st, UHb H ho cl (c2, r, b, hv, bg)) v hend) : XGo d M (pc, L, .int (nI c2) :: .ref 75 :: st, UHb H ho cl (c, r, b, hv, bg)) v hend := by
  refine XGo.putf hm (rfl : (UHb H ho cl (c, r, b, hv, bg)).2.2 75 = _) (Nat.le_of_ble_eq_true rfl) (by decide) (Nat.le_of_ble_eq_true rfl) rfl rfl ?_
  rw [show (uOb c r b hv).set 3 (.int (nI c2)) = uOb c2 r b hv from rfl, UHb.ob]
  exact g
theorem XGo.u4b {d : Nat} {M : XMeth} {pc idx len w : Nat} {L : XL} {st : List Value} {v : Option Value} {hend : XH} (x : Bool) (hm : xfind (xmT M) pc = some (pc, .putfield idx, len, 4, 4, w)) (g : XGo d M (pc + 3, L, st, UHb H ho cl (c, x, b, hv, bg)) v hend) : XGo d M (pc, L, .int (b01 x) :: .ref 75 :: st, UHb H ho cl (c, r, b, hv, bg)) v hend := by
  refine XGo.putf hm (rfl : (UHb H ho cl (c, r, b, hv, bg)).2.2 75 = _) (Nat.le_of_ble_eq_true rfl) (by decide) (Nat.le_of_ble_eq_true rfl) (by cases x <;> rfl) (by cases x <;> rfl) ?_
  rw [show (uOb c r b hv).set 4 (.int (b01 x)) = uOb c x b hv from rfl, UHb.ob]
  exact g
theorem XGo.u5b {d : Nat} {M : XMeth} {pc idx len w : Nat} {L : XL} {st : List Value} {v : Option Value} {hend : XH} (x : Bool) (hm : xfind (xmT M) pc = some (pc, .putfield idx, len, 4, 5, w)) (g : XGo d M (pc + 3, L, st, UHb H ho cl (c, r, x, hv, bg)) v hend) : XGo d M (pc, L, .int (b01 x) :: .ref 75 :: st, UHb H ho cl (c, r, b, hv, bg)) v hend := by
  refine XGo.putf hm (rfl : (UHb H ho cl (c, r, b, hv, bg)).2.2 75 = _) (Nat.le_of_ble_eq_true rfl) (by decide) (Nat.le_of_ble_eq_true rfl) (by cases x <;> rfl) (by cases x <;> rfl) ?_
  rw [show (uOb c r b hv).set 5 (.int (b01 x)) = uOb c r x hv from rfl, UHb.ob]
  exact g
theorem XGo.u6b {d : Nat} {M : XMeth} {pc idx len w : Nat} {L : XL} {st : List Value} {v : Option Value} {hend : XH} {x : Int32} (hm : xfind (xmT M) pc = some (pc, .putfield idx, len, 4, 6, w)) (g : XGo d M (pc + 3, L, st, UHb H ho cl (c, r, b, x, bg)) v hend) : XGo d M (pc, L, .int x :: .ref 75 :: st, UHb H ho cl (c, r, b, hv, bg)) v hend := by
  refine XGo.putf hm (rfl : (UHb H ho cl (c, r, b, hv, bg)).2.2 75 = _) (Nat.le_of_ble_eq_true rfl) (by decide) (Nat.le_of_ble_eq_true rfl) rfl rfl ?_
  rw [show (uOb c r b hv).set 6 (.int x) = uOb c r b x from rfl, UHb.ob]
  exact g
set_option maxRecDepth 100000 in
theorem k_ttb (d : Nat) (c2 : Nat) (σ : KS) : XCall xM (d + 1) 45 [.ref 75, .int (nI c2)] (UHb H ho cl σ) none (UHb H ho cl (ttC c2 σ)) := by
  obtain ⟨c, r, b, hv, bg⟩ := σ
  refine XCall.of (M := xm_X4_turnTo) rfl (Nat.le_of_ble_eq_true rfl) ?_
  refine XGo.go 2 rfl ?_
  refine XGo.u3b c2 rfl ?_
  refine XGo.go 2 rfl ?_
  refine XGo.u4b true rfl ?_
  refine XGo.go 2 rfl ?_
  refine XGo.u5b false rfl ?_
  refine XGo.go 2 rfl ?_
  refine XGo.u6b rfl ?_
  exact XGo.vret _ rfl rfl rfl
theorem h13pb (hE : CE H p bb nc Lt Nt al we de bi ch) (σ : KS) (hp : p + 2 < 71 ∨ 79 ≤ p) : xfd (UHb H ho cl σ) p 1 0 = some (.int (nI nc)) ∧ 1 < 98 :=
  xfd_o ((uhb_k (by omega)).trans hE.g) (by show p < 549; have := hE.p1; omega) hE.p1.1 rfl
set_option maxRecDepth 100000 in
theorem shb_l (d : Nat) (hE : CE H p bb nc Lt Nt al we de bi ch) (hp : p + 2 < 71 ∨ 79 ≤ p) (hnc : nc ≤ 6) {y : Nat} (hy : y < 41) (σ : KS) : ∀ (q c : Nat) (w : Option Value), nc - c = q → c ≤ 7 → XGo (d + 2) xm_X4_shift (8, [some (.ref 75), some (.ref p), some (.ref bb), some (.int (nI y)), some (.int (nI c)), w], [], UHb H ho cl σ) none (UHb H ho cl (match shC Lt Nt de y q c with | none => σ | some c => ttC c σ))
  | q, c, w, hq, hc => by
    have hE' := uhb_e (ho := ho) (cl := cl) (σ := σ) hE hp
    have head : ∀ {v : Option Value} {hend : XH}, XGo (d + 2) xm_X4_shift (if nI nc ≤ nI c then 69 else 17, [some (.ref 75), some (.ref p), some (.ref bb), some (.int (nI y)), some (.int (nI c)), w], [], UHb H ho cl σ) v hend → XGo (d + 2) xm_X4_shift (8, [some (.ref 75), some (.ref p), some (.ref bb), some (.int (nI y)), some (.int (nI c)), w], [], UHb H ho cl σ) v hend := fun k => by
      refine XGo.go 2 rfl ?_
      refine XGo.getf rfl (h13pb hE σ hp) ?_
      exact XGo.go 1 rfl k
    match q, hq with
    | 0, hq =>
      refine head (XGo.ifp ((nIle (by omega) (by omega)).mpr (by omega)) ?_)
      exact XGo.vret _ rfl rfl rfl
    | q + 1, hq =>
      have cn : c < nc := by omega
      have ih := fun w => shb_l d hE hp hnc hy σ q (c + 1) w (by omega) (by omega)
      rw [← show nI c + Int32.ofInt 1 = nI (c + 1) from nI_1 c] at ih
      have no : ∀ x : Int32, ¬ (Lt (4 * c) = (Int8.ofInt 100).toInt32 ∧ (de y >>> (Nt (4 * c) &&& 31)) &&& Int32.ofInt 1 = Int32.ofInt 1) → XGo (d + 2) xm_X4_shift (63, [some (.ref 75), some (.ref p), some (.ref bb), some (.int (nI y)), some (.int (nI c)), some (.int x)], [], UHb H ho cl σ) none (UHb H ho cl (match shC Lt Nt de y (q + 1) c with | none => σ | some c => ttC c σ)) := fun x z => by
        rw [show shC Lt Nt de y (q + 1) c = shC Lt Nt de y q (c + 1) from if_neg z]
        exact XGo.go 2 rfl (ih _)
      refine head (XGo.ifn (fun z => absurd ((nIle (by omega) (by omega)).mp z) (by omega)) ?_)
      refine XGo.go 3 rfl ?_
      refine XGo.call _ rfl xm_X1_letter rfl rfl [.ref p, .int (nI c), .int (nI 0)] [] rfl rfl (ce_rg hE' rfl rfl) (Nat.le_of_ble_eq_true rfl) (k_let (d + 1) hE' (c := c) (q := 0) (by omega) (by decide) (by omega)) ?_
      refine XGo.go 2 rfl ?_
      by_cases e1 : Lt (4 * c) = (Int8.ofInt 100).toInt32
      · refine XGo.ifp e1 ?_
        refine XGo.go 5 rfl ?_
        refine XGo.ifn (by decide) ?_
        refine XGo.go 4 rfl ?_
        refine XGo.call _ rfl xm_X1_number rfl rfl [.ref p, .int (nI c), .int (nI 0)] [.ref bb] rfl rfl (ce_rg hE' rfl rfl) (Nat.le_of_ble_eq_true rfl) (k_num (d + 1) hE' (c := c) (q := 0) (by omega) (by decide) (by omega)) ?_
        refine XGo.go 1 rfl ?_
        refine XGo.call _ rfl xm_X0_isDone rfl rfl [.ref bb, .int (Nt (4 * c + 0)), .int (nI y)] [] rfl rfl (ce_rc hE' rfl rfl) (Nat.le_of_ble_eq_true rfl) (k_done (d + 1) hE' hy) ?_
        refine XGo.go 1 rfl ?_
        by_cases e2 : (de y >>> (Nt (4 * c + 0) &&& 31)) &&& Int32.ofInt 1 = Int32.ofInt 1
        · rw [dec_t e2]
          refine XGo.ifn (by decide) ?_
          refine XGo.go 2 rfl ?_
          refine XGo.call _ rfl xm_X4_turnTo rfl rfl [.ref 75, .int (nI c)] [] rfl rfl (uhb_r rfl rfl) (Nat.le_of_ble_eq_true rfl) (k_ttb (d + 1) c σ) ?_
          rw [show shC Lt Nt de y (q + 1) c = some c from if_pos ⟨e1, e2⟩]
          exact XGo.vret _ rfl rfl rfl
        · rw [dec_f e2]
          refine XGo.ifp (by decide) ?_
          exact no _ fun z => e2 z.2
      · refine XGo.ifn e1 ?_
        refine XGo.go 4 rfl ?_
        refine XGo.ifp (by decide) ?_
        exact no _ fun z => e1 z.1
  termination_by q => q
theorem k_shfb (d : Nat) (hE : CE H p bb nc Lt Nt al we de bi ch) (hp : p + 2 < 71 ∨ 79 ≤ p) (hnc : nc ≤ 6) {y : Nat} (hy : y < 41) (σ : KS) (hc : σ.1 ≤ 6) : XCall xM (d + 3) 46 [.ref 75, .ref p, .ref bb, .int (nI y)] (UHb H ho cl σ) none (UHb H ho cl (ysC Lt Nt de nc y σ)) := by
  obtain ⟨c, r, b, hv, bg⟩ := σ
  refine XCall.of (M := xm_X4_shift) rfl (Nat.le_of_ble_eq_true rfl) ?_
  refine XGo.go 5 rfl ?_
  have := shb_l (ho := ho) (cl := cl) d hE hp hnc hy (c, r, b, hv, bg) (nc - (c + 1)) (c + 1) none rfl (by have : c ≤ 6 := hc; omega)
  rw [← show nI c + Int32.ofInt 1 = nI (c + 1) from nI_1 c] at this
  exact this
set_option maxRecDepth 100000 in
theorem k_nmb (d : Nat) (hE : CE H p bb nc Lt Nt al we de bi ch) (hp : p + 2 < 71 ∨ 79 ≤ p) (σ : KS) (hc : σ.1 < 6) (hr : rg 7 (Nt (4 * σ.1 + 1))) : XCall xM (d + 2) 51 [.ref 75, .ref p, .ref bb] (UHb H ho cl σ) (some (.int (nmC Lt Nt ch σ.1))) (UHb H ho cl σ) := by
  have hE' := uhb_e (ho := ho) (cl := cl) (σ := σ) hE hp
  obtain ⟨c, r, b, hv, bg⟩ := σ
  have hc : c < 6 := hc
  have lb := hE.b1
  obtain ⟨eo, lo⟩ := i32_nI hr.1 hr.2
  dsimp only at eo lo
  refine XCall.of (M := xm_X4_named) rfl (Nat.le_of_ble_eq_true rfl) ?_
  refine XGo.go 4 rfl ?_
  refine XGo.call _ rfl xm_X1_number rfl rfl [.ref p, .int (nI c), .int (nI 1)] [] rfl rfl (ce_rg hE' rfl rfl) (Nat.le_of_ble_eq_true rfl) (k_num d hE' (c := c) (q := 1) (by omega) (by decide) (by omega)) ?_
  refine XGo.go 5 rfl ?_
  refine XGo.call _ rfl xm_X1_letter rfl rfl [.ref p, .int (nI c), .int (nI 1)] [] rfl rfl (ce_rg hE' rfl rfl) (Nat.le_of_ble_eq_true rfl) (k_let d hE' (c := c) (q := 1) (by omega) (by decide) (by omega)) ?_
  refine XGo.go 2 rfl ?_
  by_cases e1 : Lt (4 * c + 1) = (Int8.ofInt 112).toInt32
  · rw [show nmC Lt Nt ch c = _ from if_pos e1]
    refine XGo.ifp e1 ?_
    refine XGo.go 4 rfl ?_
    exact XGo.iret _ rfl rfl .int rfl rfl
  · rw [show nmC Lt Nt ch c = _ from if_neg e1]
    refine XGo.ifn e1 ?_
    refine XGo.go 1 rfl ?_
    refine XGo.getf rfl (ce_f hE' (j := 6) (by decide) (by decide)) ?_
    refine XGo.go 1 rfl ?_
    refine XGo.top eo ?_
    refine XGo.call _ rfl xm_X6_at rfl rfl [.ref (bb + 6), .int (nI (Nt (4 * c + 1)).toNatClampNeg)] [] rfl rfl (fun z => absurd rfl z) (Nat.le_of_ble_eq_true rfl) (at_row hE'.c6 (ce_l hE' (by omega)) (by decide) (by omega)) ?_
    exact XGo.iret _ rfl rfl .int rfl rfl
set_option maxRecDepth 100000 in
theorem k_bgb (d : Nat) (hE : CE H p bb nc Lt Nt al we de bi ch) (hp : p + 2 < 71 ∨ 79 ≤ p) (σ : KS) (hc : σ.1 < 6) (hr : rg 7 (Nt (4 * σ.1 + 1))) {y : Nat} (hy : y < 41) : XCall xM (d + 4) 48 [.ref 75, .ref p, .ref bb, .int (nI y)] (UHb H ho cl σ) none (UHb H ho cl (bgC Lt Nt al we de bi ch y σ)) := by
  have hE' := uhb_e (ho := ho) (cl := cl) (σ := σ) hE hp
  have cN := k_nmb (ho := ho) (cl := cl) (d + 1) hE hp σ hc hr
  obtain ⟨c, r, b, hv, bg⟩ := σ
  have hc : c < 6 := hc
  have lb := hE.b1
  dsimp only at cN
  refine XCall.of (M := xm_X4_begin) rfl (Nat.le_of_ble_eq_true rfl) ?_
  refine XGo.go 3 rfl ?_
  refine XGo.call _ rfl xm_X4_named rfl rfl [.ref 75, .ref p, .ref bb] [] rfl rfl (uhb_r rfl rfl) (Nat.le_of_ble_eq_true rfl) cN ?_
  refine XGo.go 1 rfl ?_
  refine XGo.getf rfl (ce_f hE' (j := 1) (by decide) (by decide)) ?_
  refine XGo.go 1 rfl ?_
  refine XGo.call _ rfl xm_X6_at rfl rfl [.ref (bb + 1), .int (nI y)] [.int (nmC Lt Nt ch c)] rfl rfl (fun z => absurd rfl z) (Nat.le_of_ble_eq_true rfl) (at_row hE'.c1 (ce_l hE' (by omega)) (by decide) hy) ?_
  refine XGo.go 8 rfl ?_
  refine XGo.call _ rfl xm_X1_letter rfl rfl [.ref p, .int (nI c), .int (nI 3)] [.int (nmC Lt Nt ch c &&& al y), .ref bb] rfl rfl (ce_rg hE' rfl rfl) (Nat.le_of_ble_eq_true rfl) (k_let (d + 2) hE' (c := c) (q := 3) (by omega) (by decide) (by omega)) ?_
  refine XGo.go 4 rfl ?_
  refine XGo.call _ rfl xm_X1_number rfl rfl [.ref p, .int (nI c), .int (nI 3)] [.int (Lt (4 * c + 3)), .int (nmC Lt Nt ch c &&& al y), .ref bb] rfl rfl (ce_rg hE' rfl rfl) (Nat.le_of_ble_eq_true rfl) (k_num (d + 2) hE' (c := c) (q := 3) (by omega) (by decide) (by omega)) ?_
  refine XGo.go 1 rfl ?_
  refine XGo.call _ rfl xm_X0_meeting rfl rfl [.ref bb, .int (nmC Lt Nt ch c &&& al y), .int (Lt (4 * c + 3)), .int (Nt (4 * c + 3)), .int (nI y)] [] rfl rfl (ce_rc hE' rfl rfl) (Nat.le_of_ble_eq_true rfl) (k_meet d hE' hy) ?_
  refine XGo.go 6 rfl ?_
  refine XGo.call _ rfl xm_X1_letter rfl rfl [.ref p, .int (nI c), .int (nI 1)] [.ref 75] rfl rfl (ce_rg hE' rfl rfl) (Nat.le_of_ble_eq_true rfl) (k_let (d + 2) hE' (c := c) (q := 1) (by omega) (by decide) (by omega)) ?_
  refine XGo.go 2 rfl ?_
  have fin : ∀ T : Int32, T = tkC Lt Nt al we de bi ch c y → XGo (d + 3) xm_X4_begin (70, [some (.ref 75), some (.ref p), some (.ref bb), some (.int (nI y)), some (.int (nmC Lt Nt ch c &&& al y)), some (.int (meC we de bi (nmC Lt Nt ch c &&& al y) (Lt (4 * c + 3)) (Nt (4 * c + 3)) y))], [.int T, .ref 75], UHb H ho cl (c, r, b, hv, bg)) none (UHb H ho cl (bgC Lt Nt al we de bi ch y (c, r, b, hv, bg))) := fun T eT => by
    refine XGo.u6b rfl ?_
    have eB : bgC Lt Nt al we de bi ch y (c, r, b, hv, bg) = if T = 0 then (c, r, b, T, bg) else (c, r, true, T, upd bg c (nI y)) := by rw [eT]; rfl
    rw [eB]
    refine XGo.go 2 rfl ?_
    by_cases e0 : T = 0
    · rw [show (if T = 0 then ((c, r, b, T, bg) : KS) else (c, r, true, T, upd bg c (nI y))) = _ from if_pos e0]
      refine XGo.go 1 rfl ?_
      refine XGo.ifp e0 ?_
      exact XGo.vret _ rfl rfl rfl
    · rw [show (if T = 0 then ((c, r, b, T, bg) : KS) else (c, r, true, T, upd bg c (nI y))) = _ from if_neg e0]
      refine XGo.go 1 rfl ?_
      refine XGo.ifn e0 ?_
      refine XGo.go 2 rfl ?_
      refine XGo.u5b true rfl ?_
      refine XGo.go 5 rfl ?_
      have q := k_put_in (d + 2) (UHb H ho cl (c, r, true, T, bg)) 78 6 bg (nI c) (nI y) rfl (Nat.le_of_ble_eq_true rfl) (by decide) (by decide) (ca_nI hc (by decide))
      rw [xnI_nat (by omega), UHb.sbg] at q
      refine XGo.call _ rfl xm_X6_put rfl rfl [.ref 78, .int (nI c), .int (nI y)] [] rfl rfl (fun z => absurd rfl z) (Nat.le_of_ble_eq_true rfl) q ?_
      exact XGo.vret _ rfl rfl rfl
  by_cases e1 : Lt (4 * c + 1) = (Int8.ofInt 102).toInt32
  · refine XGo.ifp e1 ?_
    refine XGo.go 2 rfl ?_
    refine XGo.call _ rfl xm_X0_firstBorn rfl rfl [.ref bb, .int (meC we de bi (nmC Lt Nt ch c &&& al y) (Lt (4 * c + 3)) (Nt (4 * c + 3)) y)] [.ref 75] rfl rfl (ce_rc hE' rfl rfl) (Nat.le_of_ble_eq_true rfl) (k_fb (d + 1) hE') ?_
    refine XGo.go 1 rfl ?_
    exact fin _ (if_pos e1).symm
  · refine XGo.ifn e1 ?_
    refine XGo.go 1 rfl ?_
    exact fin _ (if_neg e1).symm
set_option maxRecDepth 100000 in
theorem k_heb (d : Nat) (hE : CE H p bb nc Lt Nt al we de bi ch) (hp : p + 2 < 71 ∨ 79 ≤ p) (σ : KS) (hc : σ.1 < 6) {y : Nat} (hy : y < 41) : XCall xM (d + 2) 49 [.ref 75, .ref p, .ref bb, .int (nI y)] (UHb H ho cl σ) (some (.int (b01 (enB Lt Nt al y σ)))) (UHb H ho cl (enH Lt al y σ)) := by
  have hE' := uhb_e (ho := ho) (cl := cl) (σ := σ) hE hp
  obtain ⟨c, r, b, hv, bg⟩ := σ
  have hc : c < 6 := hc
  have lb := hE.b1
  refine XCall.of (M := xm_X4_hasEnded) rfl (Nat.le_of_ble_eq_true rfl) ?_
  refine XGo.go 4 rfl ?_
  refine XGo.call _ rfl xm_X1_letter rfl rfl [.ref p, .int (nI c), .int (nI 2)] [] rfl rfl (ce_rg hE' rfl rfl) (Nat.le_of_ble_eq_true rfl) (k_let d hE' (c := c) (q := 2) (by omega) (by decide) (by omega)) ?_
  refine XGo.go 4 rfl ?_
  by_cases e1 : Lt (4 * c + 2) = (Int8.ofInt 101).toInt32
  · rw [show enB Lt Nt al y (c, r, b, hv, bg) = false from if_pos e1, show enH Lt al y (c, r, b, hv, bg) = (c, r, b, hv, bg) from if_pos e1]
    refine XGo.ifp e1 ?_
    refine XGo.go 1 rfl ?_
    exact XGo.ib (b := false) _ rfl rfl rfl rfl
  · rw [show enB Lt Nt al y (c, r, b, hv, bg) = (decide (hv &&& al y = 0) || (decide (Lt (4 * c + 2) = (Int8.ofInt 121).toInt32) && decide (bg c + Nt (4 * c + 2) ≤ nI y))) from if_neg e1, show enH Lt al y (c, r, b, hv, bg) = (c, r, b, hv &&& al y, bg) from if_neg e1]
    refine XGo.ifn e1 ?_
    refine XGo.go 4 rfl ?_
    refine XGo.getf rfl (ce_f hE' (j := 1) (by decide) (by decide)) ?_
    refine XGo.go 1 rfl ?_
    refine XGo.call _ rfl xm_X6_at rfl rfl [.ref (bb + 1), .int (nI y)] [.int hv, .ref 75] rfl rfl (fun z => absurd rfl z) (Nat.le_of_ble_eq_true rfl) (at_row hE'.c1 (ce_l hE' (by omega)) (by decide) hy) ?_
    refine XGo.go 1 rfl ?_
    refine XGo.u6b rfl ?_
    refine XGo.go 3 rfl ?_
    by_cases e0 : hv &&& al y = 0
    · refine XGo.ifp e0 ?_
      refine XGo.go 2 rfl ?_
      exact XGo.ib (b := true) _ rfl rfl rfl (by rw [dec_t e0]; rfl)
    · refine XGo.ifn e0 ?_
      refine XGo.go 3 rfl ?_
      by_cases e2 : Lt (4 * c + 2) = (Int8.ofInt 121).toInt32
      · have hE2 := uhb_e (ho := ho) (cl := cl) (σ := (c, r, b, hv &&& al y, bg)) hE hp
        refine XGo.ifp e2 ?_
        refine XGo.go 5 rfl ?_
        refine XGo.call _ rfl xm_X6_at rfl rfl [.ref 78, .int (nI c)] [.int (nI y)] rfl rfl (fun z => absurd rfl z) (Nat.le_of_ble_eq_true rfl) (at_row (d := d) (r := 78) (n := 6) (f := bg) rfl (Nat.le_of_ble_eq_true rfl) (by decide) hc) ?_
        refine XGo.go 4 rfl ?_
        refine XGo.call _ rfl xm_X1_number rfl rfl [.ref p, .int (nI c), .int (nI 2)] [.int (bg c), .int (nI y)] rfl rfl (ce_rg hE2 rfl rfl) (Nat.le_of_ble_eq_true rfl) (k_num d hE2 (c := c) (q := 2) (by omega) (by decide) (by omega)) ?_
        refine XGo.go 2 rfl ?_
        by_cases e3 : nI y < bg c + Nt (4 * c + 2)
        · refine XGo.ifp e3 ?_
          refine XGo.go 1 rfl ?_
          exact XGo.ib (b := false) _ rfl rfl rfl (by rw [dec_f e0, dec_t e2, dec_f (Int32.not_le.mpr e3)]; rfl)
        · refine XGo.ifn e3 ?_
          refine XGo.go 2 rfl ?_
          exact XGo.ib (b := true) _ rfl rfl rfl (by rw [dec_f e0, dec_t e2, dec_t (Int32.not_lt.mp e3)]; rfl)
      · refine XGo.ifn e2 ?_
        refine XGo.go 1 rfl ?_
        exact XGo.ib (b := false) _ rfl rfl rfl (by rw [dec_f e0, dec_f e2]; rfl)
set_option maxRecDepth 100000 in
theorem k_hfb (d : Nat) (hE : CE H p bb nc Lt Nt al we de bi ch) (hp : p + 2 < 71 ∨ 79 ≤ p) (σ : KS) (hc : σ.1 < 6) (hr : rg 7 (Nt (4 * σ.1 + 1))) {y : Nat} (hy : y < 41) : XCall xM (d + 3) 50 [.ref 75, .ref p, .ref bb, .int (nI y)] (UHb H ho cl σ) (some (.int (b01 (faC Lt Nt al ch σ.1 y)))) (UHb H ho cl σ) := by
  have hE' := uhb_e (ho := ho) (cl := cl) (σ := σ) hE hp
  have cN := k_nmb (ho := ho) (cl := cl) d hE hp σ hc hr
  obtain ⟨c, r, b, hv, bg⟩ := σ
  have hc : c < 6 := hc
  have lb := hE.b1
  dsimp only at cN
  refine XCall.of (M := xm_X4_hasFailed) rfl (Nat.le_of_ble_eq_true rfl) ?_
  refine XGo.go 3 rfl ?_
  refine XGo.call _ rfl xm_X4_named rfl rfl [.ref 75, .ref p, .ref bb] [] rfl rfl (uhb_r rfl rfl) (Nat.le_of_ble_eq_true rfl) cN ?_
  refine XGo.go 5 rfl ?_
  refine XGo.call _ rfl xm_X1_number rfl rfl [.ref p, .int (nI c), .int (nI 1)] [.int (Int32.ofInt 1), .int (nmC Lt Nt ch c)] rfl rfl (ce_rg hE' rfl rfl) (Nat.le_of_ble_eq_true rfl) (k_num (d + 1) hE' (c := c) (q := 1) (by omega) (by decide) (by omega)) ?_
  refine XGo.go 5 rfl ?_
  refine XGo.getf rfl (ce_f hE' (j := 1) (by decide) (by decide)) ?_
  refine XGo.go 1 rfl ?_
  refine XGo.call _ rfl xm_X6_at rfl rfl [.ref (bb + 1), .int (nI y)] [.int (nmC Lt Nt ch c ||| (Int32.ofInt 1 <<< (Nt (4 * c + 1) &&& 31)))] rfl rfl (fun z => absurd rfl z) (Nat.le_of_ble_eq_true rfl) (at_row hE'.c1 (ce_l hE' (by omega)) (by decide) hy) ?_
  refine XGo.go 2 rfl ?_
  by_cases e0 : (nmC Lt Nt ch c ||| (Int32.ofInt 1 <<< (Nt (4 * c + 1) &&& 31))) &&& al y = 0
  · refine XGo.ifp e0 ?_
    refine XGo.go 2 rfl ?_
    exact XGo.ib (b := true) _ rfl rfl rfl (dec_t e0)
  · refine XGo.ifn e0 ?_
    refine XGo.go 1 rfl ?_
    exact XGo.ib (b := false) _ rfl rfl rfl (dec_f e0)
set_option maxRecDepth 100000 in
theorem tnb_l (d : Nat) (hE : CE H p bb nc Lt Nt al we de bi ch) (hp : p + 2 < 71 ∨ 79 ≤ p) (hnc : nc ≤ 6) (σ : KS) : ∀ (q c : Nat), nc - c = q → c ≤ 7 → XGo (d + 2) xm_X4_turnToNext (17, [some (.ref 75), some (.ref p), some (.int (nI c))], [], UHb H ho cl σ) none (UHb H ho cl (match nxC Lt q c with | none => σ | some c => ttC c σ))
  | q, c, hq, hc => by
    have hE' := uhb_e (ho := ho) (cl := cl) (σ := σ) hE hp
    have head : ∀ {v : Option Value} {hend : XH}, XGo (d + 2) xm_X4_turnToNext (if nI nc ≤ nI c then 45 else 25, [some (.ref 75), some (.ref p), some (.int (nI c))], [], UHb H ho cl σ) v hend → XGo (d + 2) xm_X4_turnToNext (17, [some (.ref 75), some (.ref p), some (.int (nI c))], [], UHb H ho cl σ) v hend := fun k => by
      refine XGo.go 2 rfl ?_
      refine XGo.getf rfl (h13pb hE σ hp) ?_
      exact XGo.go 1 rfl k
    match q, hq with
    | 0, hq =>
      refine head (XGo.ifp ((nIle (by omega) (by omega)).mpr (by omega)) ?_)
      exact XGo.vret _ rfl rfl rfl
    | q + 1, hq =>
      have cn : c < nc := by omega
      have ih := tnb_l d hE hp hnc σ q (c + 1) (by omega) (by omega)
      rw [← show nI c + Int32.ofInt 1 = nI (c + 1) from nI_1 c] at ih
      refine head (XGo.ifn (fun z => absurd ((nIle (by omega) (by omega)).mp z) (by omega)) ?_)
      refine XGo.go 2 rfl ?_
      refine XGo.call _ rfl xm_X1_isShift rfl rfl [.ref p, .int (nI c)] [] rfl rfl (ce_rg hE' rfl rfl) (Nat.le_of_ble_eq_true rfl) (k_shp d hE' (by omega)) ?_
      refine XGo.go 1 rfl ?_
      by_cases e1 : Lt (4 * c) = 0
      · rw [dec_t e1, show nxC Lt (q + 1) c = some c from if_pos e1]
        refine XGo.ifp (by decide) ?_
        refine XGo.go 2 rfl ?_
        refine XGo.call _ rfl xm_X4_turnTo rfl rfl [.ref 75, .int (nI c)] [] rfl rfl (uhb_r rfl rfl) (Nat.le_of_ble_eq_true rfl) (k_ttb (d + 1) c σ) ?_
        exact XGo.vret _ rfl rfl rfl
      · rw [dec_f e1, show nxC Lt (q + 1) c = nxC Lt q (c + 1) from if_neg e1]
        refine XGo.ifn (by decide) ?_
        exact XGo.go 2 rfl ih
  termination_by q => q
set_option maxRecDepth 100000 in
theorem k_tnb (d : Nat) (hE : CE H p bb nc Lt Nt al we de bi ch) (hp : p + 2 < 71 ∨ 79 ≤ p) (hnc : nc ≤ 6) (σ : KS) (hc : σ.1 < 6) : XCall xM (d + 3) 52 [.ref 75, .ref p] (UHb H ho cl σ) none (UHb H ho cl (tnC Lt nc σ)) := by
  obtain ⟨c, r, b, hv, bg⟩ := σ
  have hc : c < 6 := hc
  refine XCall.of (M := xm_X4_turnToNext) rfl (Nat.le_of_ble_eq_true rfl) ?_
  refine XGo.go 2 rfl ?_
  refine XGo.u6b rfl ?_
  refine XGo.go 2 rfl ?_
  refine XGo.u4b false rfl ?_
  refine XGo.go 5 rfl ?_
  have := tnb_l (ho := ho) (cl := cl) d hE hp hnc (c, false, b, Int32.ofInt 0, bg) (nc - (c + 1)) (c + 1) rfl (by omega)
  rw [← show nI c + Int32.ofInt 1 = nI (c + 1) from nI_1 c] at this
  exact this
end CRb
