/-! holders on both sides -/
theorem lvB_14 {x : Int32} (h : ∀ i, i < 32 → lvB x i → i < 14) : x &&& (Int16.ofInt 16383).toInt32 = x := by
  refine lvB_ext fun i hi => ?_
  rw [lvB_and hi]
  have t : ∀ i : Fin 14, lvB (Int16.ofInt 16383).toInt32 i.val := by decide +kernel
  exact ⟨fun z => z.1, fun z => ⟨z, t ⟨i, h i hi z⟩⟩⟩
theorem hsX_14 {f : Nat → Int32} {n m g nc : Nat} {Lt Nt : Nat → Int32} (W : RW f n m) (hnc : 1 ≤ nc ∧ nc ≤ 6) (hC : CI f g Lt Nt nc) (co : Int32) {j : Nat} (hj : j < 41) : ∀ i, i < 32 → lvB (hsX f n m co g nc j) i → i < 14 := by
  obtain ⟨al, we, de, bi, ch, F⟩ := cfa_can (L := lvOf f n m co) W.n8 W.m6 (lvOf_in W.n8 W.yr co) W.ag (fun j hj => lvOf_b8 hj)
  have q := rs_go F hnc.2 hnc.1 (g := g) hC (b0 := fun _ => m5) (b1 := fun _ => m5) (fun _ _ => rfl) j (by omega)
  unfold hsX goX
  generalize goY f n m (lvOf f n m co) g nc (fun _ => m5) (j + 1) = σ at q ⊢
  obtain ⟨⟨-, -, -, -, -, q6⟩, -⟩ := q
  intro i hi
  unfold hsS
  split
  · exact fun z => absurd z (by
      have t : ∀ i : Fin 32, ¬ lvB (Int32.ofInt 0) i.val := by decide +kernel
      exact t ⟨i, hi⟩)
  · rename_i c ec
    split
    · rename_i hb
      split
      · intro z
        exact ((q6 (by rw [ec]; rfl)).2.2 hb).2.1 i hi z
      · intro z
        unfold alS at z
        exact ((bset_bit 14 i (by decide) hi).mp z).1
    · exact fun z => absurd z (by
        have t : ∀ i : Fin 32, ¬ lvB (Int32.ofInt 0) i.val := by decide +kernel
        exact t ⟨i, hi⟩)
def oyS (a : Nat → Int32) : Nat → Int32
  | 0 => Int32.ofInt 0
  | k + 1 => oyS a k ||| a k
theorem oyS_c {a b : Nat → Int32} : ∀ k, (∀ j, j < k → a j = b j) → oyS a k = oyS b k
  | 0, _ => rfl
  | k + 1, h => by
    unfold oyS
    rw [oyS_c k fun j hj => h j (by omega), h k (by omega)]
theorem oyS_14 {a : Nat → Int32} : ∀ k, (∀ j, j < k → ∀ i, i < 32 → lvB (a j) i → i < 14) → ∀ i, i < 32 → lvB (oyS a k) i → i < 14
  | 0, _, i, hi, z => absurd z (by
      have t : ∀ i : Fin 32, ¬ lvB (Int32.ofInt 0) i.val := by decide +kernel
      exact t ⟨i, hi⟩)
  | k + 1, h, i, hi, z => by
    unfold oyS at z
    rw [lvB_or2 hi] at z
    rcases z with z | z
    · exact oyS_14 k (fun j hj => h j (by omega)) i hi z
    · exact h k (by omega) i hi z
def hoO (f : Nat → Int32) (n m g nc : Nat) : Nat → Int32
  | 0 => Int32.ofInt 0
  | k + 1 => hoO f n m g nc k ||| oyS (hsX f n m (nI k) g nc) 41
def hoN (f : Nat → Int32) (n m g nc : Nat) (x : Int32) : Nat → Int32
  | 0 => x
  | k + 1 => hoN f n m g nc x k &&& oyS (hsX f n m (nI k) g nc) 41
abbrev i14b : Int32 := (Int16.ofInt 16383).toInt32
theorem hoN_eq {f : Nat → Int32} {n m g nc : Nat} {Lt Nt : Nat → Int32} (W : RW f n m) (hnc : 1 ≤ nc ∧ nc ≤ 6) (hC : CI f g Lt Nt nc) : ∀ k, hoN f n m g nc (Int32.ofInt (-1)) (k + 1) = hoN f n m g nc i14b (k + 1)
  | 0 => by
    show Int32.ofInt (-1) &&& oyS (hsX f n m (nI 0) g nc) 41 = i14b &&& oyS (hsX f n m (nI 0) g nc) 41
    have e := lvB_14 (oyS_14 41 fun j hj => hsX_14 W hnc hC (nI 0) hj)
    rw [Int32.and_comm i14b, e, show Int32.ofInt (-1) = -1 by decide]
    exact Int32.neg_one_and
  | k + 1 => by
    show hoN f n m g nc (Int32.ofInt (-1)) (k + 1) &&& _ = hoN f n m g nc i14b (k + 1) &&& _
    rw [hoN_eq W hnc hC k]
/-- what holders answers for a grant that is there -/
def hlS (f : Nat → Int32) (n m g nc : Nat) (w : Int32) : Int32 := if ¬ (0 ≤ w.toInt ∧ w.toInt ≤ 1) then m1 else if w = 0 then hoO f n m g nc (2 ^ m) else hoN f n m g nc i14b (2 ^ m)
section HL
variable {L : Nat} {xs : Nat → Int32} {f : Nat → Int32} {n m : Nat} {g nc : Nat} {Lt Nt : Nat → Int32}
abbrev hlL (a1 a2 : Int32) (p : Nat) (a4 a5 a6 : Int32) (l7 l8 : Option Value) : XL := [some (.ref 13), some (.int a1), some (.int a2), some (.ref p), some (.int a4), some (.int a5), some (.int a6), l7, l8]
set_option maxRecDepth 100000 in
theorem hy_c (d : Nat) {h : XH} {ho : Nat → Int32} (hI : AInv w_W h) (o71 : ∃ c r b hv : Int32, h.2.2 71 = .inl (4, [.ref 72, .ref 73, .ref 74, .int c, .int r, .int b, .int hv])) (o72 : h.2.2 72 = .inr (.inl (0, 41, ho))) (a1 a2 : Int32) (p : Nat) (a4 a5 a6 : Int32) {v : Option Value} {hend : XH} (k9 : XGo (d + 1) xm_X6_holders (92, hlL a1 a2 p a4 a5 a6 (some (.int (oyS ho 41))) (some (.int (nI 41))), [], h) v hend) : ∀ (q k : Nat), k + q = 41 → XGo (d + 1) xm_X6_holders (62, hlL a1 a2 p a4 a5 a6 (some (.int (oyS ho k))) (some (.int (nI k))), [], h) v hend
  | 0, k, hk => by
    have hk : k = 41 := by omega
    subst hk
    refine XGo.go 3 rfl ?_
    exact XGo.ifp (by decide) k9
  | q + 1, k, hk => by
    have k41 : k < 41 := by omega
    have hN : h.1 = 549 := hI.1
    have nx := hy_c d hI o71 o72 a1 a2 p a4 a5 a6 k9 q (k + 1) (by omega)
    obtain ⟨_, _, _, _, p71⟩ := o71
    have q1 := at_row (H := h) (d := d) o72 (xlt hN (by decide)) (by decide) k41
    unfold hlL at nx
    rw [← show nI k + Int32.ofInt 1 = nI (k + 1) from nI_1 k] at nx
    refine XGo.go 3 rfl ?_
    refine XGo.ifn (fun z => absurd ((xnI_ge (m := 41) (by decide) (by omega)).mp z) (by omega)) ?_
    refine XGo.go 2 rfl ?_
    refine XGo.getr rfl hI (by decide) (by decide) w_rg_13 k13s (by decide) (r13_4 hI) ?_
    refine XGo.getf rfl (xfd_o p71 (xlt hN (by decide)) (by decide) rfl) ?_
    refine XGo.go 1 rfl ?_
    refine XGo.call _ rfl xm_X6_at rfl rfl [.ref 72, .int (nI k)] [.int (oyS ho k)] rfl rfl (fun z => absurd rfl z) (Nat.le_of_ble_eq_true rfl) q1 ?_
    exact XGo.go 4 rfl nx
  termination_by q => q
set_option maxRecDepth 100000 in
theorem hl_c (W : RW f n m) (hg : g < 6) (hnc : 1 ≤ nc ∧ nc ≤ 6) (hC : CI f g Lt Nt nc) (gr w : Int32) : ∀ (q k : Nat) (h : XH) (l7 l8 : Option Value), k + q = 2 ^ m → INVg L xs h → h.2.2 537 = .inr (.inl (0, 490, f)) → CG h (24 + 3 * g) (nI nc) Lt Nt → ∃ h1 : XH, XGo 7 xm_X6_holders (33, hlL gr w (24 + 3 * g) (hoO f n m g nc k) (hoN f n m g nc (Int32.ofInt (-1)) k) (nI k) l7 l8, [], h) (some (.int (if w = 0 then hoO f n m g nc (2 ^ m) else hoN f n m g nc (Int32.ofInt (-1)) (2 ^ m)))) h1 ∧ INVg L xs h1 ∧ h1.2.2 537 = h.2.2 537
  | q, k, h, l7, l8, hk, hI, hf, hCG => by
    have h3 := rd3_of hI hf W
    have hN : h.1 = 549 := hI.1.1.1
    obtain ⟨fs, h13, -, -, -⟩ := w_lg hI.1.1
    obtain ⟨e, e64⟩ := shm_nI ⟨m, by have := W.m6; omega⟩
    dsimp only at e e64
    have head : ∀ {v : Option Value} {hend : XH}, XGo 7 xm_X6_holders (if nI (2 ^ m) ≤ nI k then 112 else 42, hlL gr w (24 + 3 * g) (hoO f n m g nc k) (hoN f n m g nc (Int32.ofInt (-1)) k) (nI k) l7 l8, [], h) v hend → XGo 7 xm_X6_holders (33, hlL gr w (24 + 3 * g) (hoO f n m g nc k) (hoN f n m g nc (Int32.ofInt (-1)) k) (nI k) l7 l8, [], h) v hend := fun {v hend} t => by
      refine XGo.go 2 rfl ?_
      refine XGo.call _ rfl xm_X6_coursesThereAre rfl rfl [.ref 13] [.int (nI k)] rfl rfl (fun _ => ⟨13, fs, rfl, h13, by decide, by omega⟩) (Nat.le_of_ble_eq_true rfl) (k_many 6 hI.1.1 h3) ?_
      rw [e]
      exact XGo.go 1 rfl t
    match q, hk with
    | 0, hk =>
      have hk : k = 2 ^ m := by omega
      subst hk
      refine ⟨h, head (XGo.ifp (Int32.le_refl _) ?_), hI, rfl⟩
      refine XGo.go 2 rfl ?_
      by_cases w0 : w = 0
      · rw [show (if w = 0 then hoO f n m g nc (2 ^ m) else hoN f n m g nc (Int32.ofInt (-1)) (2 ^ m)) = hoO f n m g nc (2 ^ m) from if_pos w0]
        refine XGo.ifp w0 ?_
        refine XGo.go 2 rfl ?_
        exact XGo.iret _ rfl rfl .int rfl rfl
      · rw [show (if w = 0 then hoO f n m g nc (2 ^ m) else hoN f n m g nc (Int32.ofInt (-1)) (2 ^ m)) = hoN f n m g nc (Int32.ofInt (-1)) (2 ^ m) from if_neg w0]
        refine XGo.ifn w0 ?_
        refine XGo.go 1 rfl ?_
        exact XGo.iret _ rfl rfl .int rfl rfl
    | q + 1, hk =>
      have tk := nI_toInt (n := k) (by omega)
      obtain ⟨kk, h1, h2, cC, ⟨fs71, e71, l71⟩, cR, hI2, ⟨o71, ⟨ho, o72, eho⟩, -, -⟩, oth⟩ := G_crun hI hf W hg hnc hCG hC (c := nI k) (by omega) (by omega)
      have hf2 : h2.2.2 537 = .inr (.inl (0, 490, f)) := (oth 537 (by omega)).trans hf
      obtain ⟨h4, c4, hI4, o4⟩ := hl_c W hg hnc hC gr w q (k + 1) h2 (some (.int (oyS ho 41))) (some (.int (nI 41))) (by omega) hI2 hf2 ⟨(oth _ (by omega)).trans hCG.1, (oth _ (by omega)).trans hCG.2.1, (oth _ (by omega)).trans hCG.2.2⟩
      refine ⟨h4, head (XGo.ifn (fun z => absurd ((xnI_ge (m := 2 ^ m) (by omega) (by omega)).mp z) (by omega)) ?_), hI4, o4.trans (oth 537 (by omega))⟩
      refine XGo.go 1 rfl ?_
      refine XGo.getr rfl hI.1.1 (by decide) (by decide) w_rg_13 k13s (by decide) (r13_4 hI.1.1) ?_
      refine XGo.go 3 rfl ?_
      refine XGo.call _ rfl xm_X6_courseOf rfl rfl [.ref 13, .int (nI k)] [.ref (24 + 3 * g), .ref 71] rfl rfl (fun _ => ⟨13, fs, rfl, h13, by decide, by omega⟩) (Nat.le_of_ble_eq_true rfl) (XCall.up (by decide) cC) ?_
      refine XGo.call _ rfl xm_X4_go rfl rfl [.ref 71, .ref (24 + 3 * g), .ref (88 + 7 * kk)] [] rfl rfl (fun _ => ⟨71, _, rfl, e71, by decide, l71⟩) (Nat.le_of_ble_eq_true rfl) (XCall.up (by decide) cR) ?_
      refine XGo.go 4 rfl ?_
      refine hy_c 6 hI2.1.1 o71 o72 gr w (24 + 3 * g) _ _ _ ?_ 41 0 rfl
      have es : oyS ho 41 = oyS (hsX f n m (nI k) g nc) 41 := oyS_c 41 eho
      rw [show hoO f n m g nc (k + 1) = hoO f n m g nc k ||| oyS ho 41 by rw [es]; rfl, show hoN f n m g nc (Int32.ofInt (-1)) (k + 1) = hoN f n m g nc (Int32.ofInt (-1)) k &&& oyS ho 41 by rw [es]; rfl] at c4
      unfold hlL at c4
      rw [← show nI k + Int32.ofInt 1 = nI (k + 1) from nI_1 k] at c4
      exact XGo.go 10 rfl c4
  termination_by q => q
abbrev hmL (a1 a2 : Int32) (a3 a4 a5 : Int32) (l6 l7 : Option Value) : XL := [some (.ref 536), some (.int a1), some (.int a2), some (.int a3), some (.int a4), some (.int a5), l6, l7]
set_option maxRecDepth 100000 in
theorem hy_m (d : Nat) {h : XH} {e ho : Nat → Int32} (hN : h.1 = 549) (o36 : h.2.2 536 = .inl (7, mO e)) (o43 : h.2.2 543 = .inr (.inl (0, 41, ho))) (a1 a2 a3 a4 a5 : Int32) {v : Option Value} {hend : XH} (k9 : XGo d xm_X7_holders (76, hmL a1 a2 a3 a4 a5 (some (.int (oyS ho 41))) (some (.int (nI 41))), [], h) v hend) : ∀ (q k : Nat), k + q = 41 → XGo d xm_X7_holders (51, hmL a1 a2 a3 a4 a5 (some (.int (oyS ho k))) (some (.int (nI k))), [], h) v hend
  | 0, k, hk => by
    have hk : k = 41 := by omega
    subst hk
    refine XGo.go 3 rfl ?_
    exact XGo.ifp (by decide) k9
  | q + 1, k, hk => by
    have k41 : k < 41 := by omega
    have nx := hy_m d hN o36 o43 a1 a2 a3 a4 a5 k9 q (k + 1) (by omega)
    unfold hmL at nx
    rw [← show nI k + Int32.ofInt 1 = nI (k + 1) from nI_1 k] at nx
    refine XGo.go 3 rfl ?_
    refine XGo.ifn (fun z => absurd ((xnI_ge (m := 41) (by decide) (by omega)).mp z) (by omega)) ?_
    refine XGo.go 2 rfl ?_
    refine XGo.getf rfl (xfd_o o36 (xlt hN (by decide)) (by decide) rfl) ?_
    refine XGo.go 1 rfl ?_
    refine XGo.iald rfl (ia_nI o43 (xlt hN (by decide)) k41 (by decide)) ?_
    exact XGo.go 4 rfl nx
  termination_by q => q
set_option maxRecDepth 100000 in
theorem hl_m (W : RW f n m) (hg : g < 6) (hnc : 1 ≤ nc ∧ nc ≤ 6) (hfn : f (130 + g) = nI nc) (hC : CI f g Lt Nt nc) (w : Int32) : ∀ (q k : Nat) (h : XH) (l6 l7 : Option Value), k + q = 2 ^ m → MBk h f → ∃ h1 : XH, XGo 7 xm_X7_holders (29, hmL (nI g) w (hoO f n m g nc k) (hoN f n m g nc i14b k) (nI k) l6 l7, [], h) (some (.int (if w = 0 then hoO f n m g nc (2 ^ m) else hoN f n m g nc i14b (2 ^ m)))) h1 ∧ h1.2.2 537 = .inr (.inl (0, 490, f)) ∧ ∀ z, z < 536 → h1.2.2 z = h.2.2 z
  | q, k, h, l6, l7, hk, hB => by
    obtain ⟨hN, hS, ⟨e, o36⟩, hf, -⟩ := id hB
    have e64 := (shm_nI ⟨m, by have := W.m6; omega⟩).2
    dsimp only at e64
    have head : ∀ {v : Option Value} {hend : XH}, XGo 7 xm_X7_holders (if nI (2 ^ m) ≤ nI k then 94 else 38, hmL (nI g) w (hoO f n m g nc k) (hoN f n m g nc i14b k) (nI k) l6 l7, [], h) v hend → XGo 7 xm_X7_holders (29, hmL (nI g) w (hoO f n m g nc k) (hoN f n m g nc i14b k) (nI k) l6 l7, [], h) v hend := fun {v hend} t => by
      refine XGo.go 2 rfl ?_
      refine XGo.call _ rfl xm_X7_courses rfl rfl [.ref 536] [.int (nI k)] rfl rfl (fun _ => ⟨536, _, rfl, o36, by decide, by omega⟩) (Nat.le_of_ble_eq_true rfl) (k_courses 6 W hN o36 hf) ?_
      exact XGo.go 1 rfl t
    match q, hk with
    | 0, hk =>
      have hk : k = 2 ^ m := by omega
      subst hk
      refine ⟨h, head (XGo.ifp (Int32.le_refl _) ?_), hf, fun _ _ => rfl⟩
      refine XGo.go 2 rfl ?_
      by_cases w0 : w = 0
      · rw [show (if w = 0 then hoO f n m g nc (2 ^ m) else hoN f n m g nc i14b (2 ^ m)) = hoO f n m g nc (2 ^ m) from if_pos w0]
        refine XGo.ifp w0 ?_
        refine XGo.go 2 rfl ?_
        exact XGo.iret _ rfl rfl .int rfl rfl
      · rw [show (if w = 0 then hoO f n m g nc (2 ^ m) else hoN f n m g nc i14b (2 ^ m)) = hoN f n m g nc i14b (2 ^ m) from if_neg w0]
        refine XGo.ifn w0 ?_
        refine XGo.go 1 rfl ?_
        exact XGo.iret _ rfl rfl .int rfl rfl
    | q + 1, hk =>
      obtain ⟨h2, cC, hB2, -, ⟨ho, o43, eho⟩, -, -, oth⟩ := M_goes hB W hg hnc hfn hC (nI k)
      obtain ⟨hN2, -, ⟨e2, o362⟩, hf2, -⟩ := id hB2
      obtain ⟨h4, c4, hf4, o4⟩ := hl_m W hg hnc hfn hC w q (k + 1) h2 (some (.int (oyS ho 41))) (some (.int (nI 41))) (by omega) hB2
      refine ⟨h4, head (XGo.ifn (fun z => absurd ((xnI_ge (m := 2 ^ m) (by omega) (by omega)).mp z) (by omega)) ?_), hf4, fun z hz => (o4 z hz).trans (oth z (by omega) (by omega))⟩
      refine XGo.go 3 rfl ?_
      refine XGo.call _ rfl xm_X7_goes rfl rfl [.ref 536, .int (nI g), .int (nI k)] [] rfl rfl (fun _ => ⟨536, _, rfl, o36, by decide, by omega⟩) (Nat.le_of_ble_eq_true rfl) cC ?_
      refine XGo.go 4 rfl ?_
      refine hy_m 7 hN2 o362 o43 (nI g) w _ _ _ ?_ 41 0 rfl
      have es : oyS ho 41 = oyS (hsX f n m (nI k) g nc) 41 := oyS_c 41 eho
      rw [show hoO f n m g nc (k + 1) = hoO f n m g nc k ||| oyS ho 41 by rw [es]; rfl, show hoN f n m g nc i14b (k + 1) = hoN f n m g nc i14b k &&& oyS ho 41 by rw [es]; rfl] at c4
      unfold hmL at c4
      rw [← show nI k + Int32.ofInt 1 = nI (k + 1) from nI_1 k] at c4
      exact XGo.go 10 rfl c4
  termination_by q => q
end HL
/-- HOLDERS ON BOTH SIDES -/
theorem G_holders (gr w : Int32) {L : Nat} {xs : Nat → Int32} {h : XH} (hI : INVg L xs h) : ∃ (v : Int32) (h1 h2 : XH), XCall xM 11 71 [.ref 13, .int gr, .int w] h (some (.int v)) h1 ∧ AInv w_W h1 ∧ h1.2.2 1 = h.2.2 1 ∧ XCall xM 11 151 [.ref 536, .int gr, .int w] h1 (some (.int v)) h2 ∧ INVg L xs h2 := by
  obtain ⟨f, n, m, G, T, fw, hf, W, hH, hG, f2, h3, hg⟩ := G_ctx hI
  have hB := mbk_of hI.1.1 hf
  have hN := hH.N
  have e1 : (Int32.ofInt 1).toInt = 1 := by decide
  -- the heads
  have ch : ∀ (d : Nat) {u : Value} {v : Option Value} {hend : XH}, XCall xM (d + 1) 58 [.ref 14, .int gr] h (some u) h → XGo (d + 1) xm_X6_holders (8, [some (.ref 13), some (.int gr), some (.int w), none, none, none, none, none, none], [u], h) v hend → XCall xM (d + 2) 71 [.ref 13, .int gr, .int w] h v hend := fun d {u v hend} c58 k => by
    refine XCall.of (M := xm_X6_holders) rfl (Nat.le_of_ble_eq_true rfl) ?_
    refine XGo.go 1 rfl ?_
    refine XGo.getr rfl hI.1.1 (by decide) (by decide) w_rg_13 k13s (by decide) (r13_0 hI.1.1) ?_
    refine XGo.go 1 rfl ?_
    exact XGo.call _ rfl xm_X5_grantAt rfl rfl [.ref 14, .int gr] [] rfl rfl (fun _ => ⟨14, _, rfl, hH.o14, by decide, by omega⟩) (Nat.le_of_ble_eq_true rfl) c58 k
  have mh : ∀ (d : Nat) {h1 : XH} {b : Int32} {v : Option Value} {hend : XH}, MBk h1 f → b = (if 0 ≤ gr.toInt ∧ gr.toInt < (G : Int) then 1 else 0) → XGo (d + 2) xm_X7_holders (5, [some (.ref 536), some (.int gr), some (.int w), none, none, none, none, none], [.int b], h1) v hend → XCall xM (d + 3) 151 [.ref 536, .int gr, .int w] h1 v hend := fun d {h1 b v hend} hB1 hb k => by
    obtain ⟨hN1, -, ⟨e, o36⟩, hf1, -⟩ := id hB1
    have q := k_isGr d hB1 hG f2 gr
    rw [← hb] at q
    refine XCall.of (M := xm_X7_holders) rfl (Nat.le_of_ble_eq_true rfl) ?_
    refine XGo.go 2 rfl ?_
    exact XGo.call _ rfl xm_X7_isGrant rfl rfl [.ref 536, .int gr] [] rfl rfl (fun _ => ⟨536, _, rfl, o36, by decide, by omega⟩) (Nat.le_of_ble_eq_true rfl) q k
  rcases gr_dec hG gr with hb | ⟨g, hgG, rfl⟩
  · refine ⟨m1, h, h, XCall.up (by decide) (ch 0 (k_gNo 0 hH hG hb) ?_), hI.1.1, rfl, XCall.up (by decide) (mh 0 hB (b := 0) (by rw [if_neg hb]) ?_), hI⟩
    · refine XGo.go 4 rfl ?_
      exact XGo.iret _ rfl rfl .int rfl rfl
    · refine XGo.go 1 rfl ?_
      refine XGo.ifp rfl ?_
      refine XGo.go 1 rfl ?_
      exact XGo.iret _ rfl rfl .int rfl rfl
  · have tg := nI_toInt (n := g) (by omega)
    have mh2 : ∀ {h1 : XH} {v : Option Value} {hend : XH}, MBk h1 f → XGo 7 xm_X7_holders (14, [some (.ref 536), some (.int (nI g)), some (.int w), none, none, none, none, none], [.int (if 0 ≤ w.toInt ∧ w.toInt ≤ 1 then 1 else 0)], h1) v hend → XCall xM 8 151 [.ref 536, .int (nI g), .int w] h1 v hend := fun {h1 v hend} hB1 k => by
      refine mh 5 hB1 (b := 1) (by rw [if_pos ⟨by omega, by omega⟩]) ?_
      refine XGo.go 1 rfl ?_
      refine XGo.ifn (by decide) ?_
      refine XGo.go 3 rfl ?_
      exact XGo.call _ rfl xm_X7_in rfl rfl [.int w, .int (Int32.ofInt 0), .int (Int32.ofInt 1)] [] rfl rfl (fun z => absurd rfl z) (Nat.le_of_ble_eq_true rfl) (k_in01 6 h1 w) k
    by_cases hw : 0 ≤ w.toInt ∧ w.toInt ≤ 1
    · obtain ⟨nc, Lt, Nt, hnc, hCG, hfn, hC⟩ := hg g hgG
      obtain ⟨h1, c1, hI1, o1⟩ := hl_c W (show g < 6 by omega) hnc hC (nI g) w (2 ^ m) 0 h none none (by omega) hI hf hCG
      have hf1 := o1.trans hf
      have hB1 := mbk_of hI1.1.1 hf1
      obtain ⟨h2, c2, hf2, o2⟩ := hl_m W (show g < 6 by omega) hnc hfn hC w (2 ^ m) 0 h1 none none (by omega) hB1
      have ev : (if w = 0 then hoO f n m g nc (2 ^ m) else hoN f n m g nc (Int32.ofInt (-1)) (2 ^ m)) = (if w = 0 then hoO f n m g nc (2 ^ m) else hoN f n m g nc i14b (2 ^ m)) := by
        obtain ⟨q, hq⟩ : ∃ q, 2 ^ m = q + 1 := ⟨2 ^ m - 1, by have := Nat.one_le_two_pow (n := m); omega⟩
        rw [hq, hoN_eq W hnc hC q]
      rw [ev] at c1
      have c1 : XCall xM 8 71 [.ref 13, .int (nI g), .int w] h (some (.int (if w = 0 then hoO f n m g nc (2 ^ m) else hoN f n m g nc i14b (2 ^ m)))) h1 := ch 6 (k_gAt 6 hH hgG hG) (by
        refine XGo.go 5 rfl ?_
        refine XGo.ifn (fun q => by have := lt0_iff.mp q; omega) ?_
        refine XGo.go 3 rfl ?_
        refine XGo.ifp (Int32.le_iff_toInt_le.mpr (by rw [e1]; exact hw.2)) ?_
        exact XGo.go 6 rfl c1)
      have c2 := mh2 hB1 (v := some (.int (if w = 0 then hoO f n m g nc (2 ^ m) else hoN f n m g nc i14b (2 ^ m)))) (hend := h2) (by
        rw [if_pos hw]
        refine XGo.go 1 rfl ?_
        refine XGo.ifn (by decide) ?_
        exact XGo.go 6 rfl c2)
      refine ⟨_, h1, h2, XCall.up (by decide) c1, hI1.1.1, XCall.ext _ _ _ _ _ _ c1 (by rw [hI.1.1.1]; decide) 1 (by decide), XCall.up (by decide) c2, ?_⟩
      exact G_fin h_936 (by decide +kernel) rfl (by decide +kernel) (by decide +kernel) (by decide +kernel) (gal536 (galT _ (galT w gal0))) hI1 c2 hf1 hf2 o2
    · have bad : ∀ l : XL, l = [some (.ref 13), some (.int (nI g)), some (.int w), some (.ref (24 + 3 * g)), none, none, none, none, none] → XGo 7 xm_X6_holders (22, l, [], h) (some (.int m1)) h := fun l hl => by
        subst hl
        refine XGo.go 1 rfl ?_
        exact XGo.iret _ rfl rfl .int rfl rfl
      refine ⟨m1, h, h, XCall.up (e := 11) (by decide) (ch 6 (k_gAt 6 hH hgG hG) ?_), hI.1.1, rfl, XCall.up (by decide) (mh2 hB ?_), hI⟩
      · refine XGo.go 5 rfl ?_
        by_cases w0 : w < 0
        · exact XGo.ifp w0 (bad _ rfl)
        · have e0 : ¬ w.toInt < 0 := fun q => w0 (lt0_iff.mpr q)
          refine XGo.ifn w0 ?_
          refine XGo.go 3 rfl ?_
          exact XGo.ifn (fun q => hw ⟨by omega, by have := Int32.le_iff_toInt_le.mp q; rw [e1] at this; exact this⟩) (bad _ rfl)
      · rw [if_neg hw]
        refine XGo.go 1 rfl ?_
        refine XGo.ifp rfl ?_
        refine XGo.go 1 rfl ?_
        exact XGo.iret _ rfl rfl .int rfl rfl
