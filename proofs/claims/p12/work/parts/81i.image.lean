/-! World.become behind its head: what it leaves -/
abbrev beL (a b : Nat) (i : Int32) : XL := [some (.ref a), some (.ref b), some (.int i)]
theorem xra_g {h : XH} {k : Nat} {f : Nat → Option Nat} (hN : h.1 = 549) (hk : 13 ≤ k ∧ k < 549) (hf : h.2.2 k = .inr (.inr (3, 6, f))) {g : Nat} (hg : g < 6) : xra h k (nI g) = some (f g) := by
  unfold xra
  rw [hf]
  dsimp only
  rw [if_pos ⟨by omega, hk.1, Or.inr rfl, ca_nI hg (by decide)⟩, xnI_nat (by omega)]
set_option maxRecDepth 100000 in
theorem be_l (d : Nat) {a b : Nat} (hab : (a = 14 ∧ b = 42) ∨ (a = 42 ∧ b = 14)) {fa fb : List Value} (a8 : fa[8]? = some (.ref (a + 6))) (b8 : fb[8]? = some (.ref (b + 6))) {ga gb : Nat → Option Nat} (hga : ∀ g, g < 6 → ga g = some (a + 10 + 3 * g)) (hgb : ∀ g, g < 6 → gb g = some (b + 10 + 3 * g)) {kb : Nat → Int32} {Lb Nb : Nat → Nat → Int32} : ∀ (q i : Nat) (H : XH), i + q = 6 → H.1 = 549 → H.2.2 a = .inl (5, fa) → H.2.2 b = .inl (5, fb) → H.2.2 (a + 6) = .inr (.inr (3, 6, ga)) → H.2.2 (b + 6) = .inr (.inr (3, 6, gb)) → (∀ g, i ≤ g → g < 6 → ∃ k L N, CG H (a + 10 + 3 * g) k L N) → (∀ g, g < 6 → CG H (b + 10 + 3 * g) (kb g) (Lb g) (Nb g)) →
    ∃ H1 : XH, H1.1 = H.1 ∧ H1.2.1 = H.2.1 ∧ (∀ z, ¬ (a + 10 + 3 * i ≤ z ∧ z < a + 28) → H1.2.2 z = H.2.2 z) ∧ (∀ g, i ≤ g → g < 6 → ∃ L N, CG H1 (a + 10 + 3 * g) (kb g) L N ∧ ∀ j, j < 24 → L j = Lb g j ∧ N j = Nb g j) ∧ ∀ {v : Option Value} {hend : XH}, XGo (d + 2) xm_X5_become (108, beL a b (nI 6), [], H1) v hend → XGo (d + 2) xm_X5_become (81, beL a b (nI i), [], H) v hend
  | 0, i, H, hi, hN, oa, ob, o6a, o6b, ca, cb => by
    have hi : i = 6 := by omega
    subst hi
    refine ⟨H, rfl, rfl, fun _ _ => rfl, fun g h1 h2 => absurd h2 (by omega), fun g => ?_⟩
    refine XGo.go 3 rfl ?_
    exact XGo.ifp (by decide) g
  | q + 1, i, H, hi, hN, oa, ob, o6a, o6b, ca, cb => by
    have hi6 : i < 6 := by omega
    obtain ⟨k, L, N, hc⟩ := ca i (Nat.le_refl _) hi6
    have hs := cb i hi6
    obtain ⟨H0, c1, n1, s1, t1, t2, t3, tz⟩ := k_repeat d hN hc.1 hc.2.1 hc.2.2 hs.1 hs.2.1 hs.2.2 (by omega) (by omega)
    obtain ⟨H1, m1, m2, mz, mg, road⟩ := be_l d hab a8 b8 hga hgb q (i + 1) H0 (by omega) (n1.trans hN) ((tz _ (by omega) (by omega) (by omega)).trans oa) ((tz _ (by omega) (by omega) (by omega)).trans ob) ((tz _ (by omega) (by omega) (by omega)).trans o6a) ((tz _ (by omega) (by omega) (by omega)).trans o6b) (fun g h1 h2 => by
        obtain ⟨k', L', N', c'⟩ := ca g (by omega) h2
        exact ⟨k', L', N', (tz _ (by omega) (by omega) (by omega)).trans c'.1, (tz _ (by omega) (by omega) (by omega)).trans c'.2.1, (tz _ (by omega) (by omega) (by omega)).trans c'.2.2⟩) (fun g h2 => by
        have c' := cb g h2
        exact ⟨(tz _ (by omega) (by omega) (by omega)).trans c'.1, (tz _ (by omega) (by omega) (by omega)).trans c'.2.1, (tz _ (by omega) (by omega) (by omega)).trans c'.2.2⟩)
    refine ⟨H1, m1.trans n1, m2.trans s1, fun z hz => (mz z (by omega)).trans (tz z (by omega) (by omega) (by omega)), fun g h1 h2 => ?_, fun g => ?_⟩
    · by_cases e : g = i
      · subst e
        exact ⟨_, _, ⟨(mz _ (by omega)).trans t1, (mz _ (by omega)).trans t2, (mz _ (by omega)).trans t3⟩, fun j hj => ⟨cpy24 hj, cpy24 hj⟩⟩
      · exact mg g (by omega) h2
    · refine XGo.go 3 rfl ?_
      refine XGo.ifn (fun z => absurd ((xnI_ge (m := 6) (by decide) (by omega)).mp z) (by omega)) ?_
      refine XGo.go 1 rfl ?_
      refine XGo.getf rfl (xfd_o oa (by omega) (by omega) a8) ?_
      refine XGo.go 1 rfl ?_
      refine XGo.aald rfl (xra_g hN (by omega) o6a hi6) ?_
      rw [hga i hi6]
      refine XGo.go 1 rfl ?_
      refine XGo.getf rfl (xfd_o ob (by omega) (by omega) b8) ?_
      refine XGo.go 1 rfl ?_
      refine XGo.aald rfl (xra_g hN (by omega) o6b hi6) ?_
      rw [hgb i hi6]
      refine XGo.call _ rfl xm_X1_repeat rfl rfl [.ref (a + 10 + 3 * i), .ref (b + 10 + 3 * i)] [] rfl rfl (fun _ => ⟨a + 10 + 3 * i, _, rfl, hc.1, by omega, by omega⟩) (Nat.le_of_ble_eq_true rfl) c1 ?_
      refine XGo.go 2 rfl ?_
      show XGo _ _ (81, beL a b (nI i + Int32.ofInt 1), [], H0) _ _
      rw [show nI i + Int32.ofInt 1 = nI (i + 1) from nI_1 i]
      exact road g
set_option maxRecDepth 100000 in
/-- from behind the grants on -/
theorem be_t (d : Nat) {a b : Nat} (hab : (a = 14 ∧ b = 42) ∨ (a = 42 ∧ b = 14)) {fa fb : List Value} (la : fa.length = 15) (a10 : fa[10]? = some (.ref (a + 7))) (a12 : fa[12]? = some (.ref (a + 8))) (a14 : fa[14]? = some (.ref (a + 9))) (b10 : fb[10]? = some (.ref (b + 7))) (b12 : fb[12]? = some (.ref (b + 8))) (b14 : fb[14]? = some (.ref (b + 9))) {x9 x11 x13 : Int32} (b9 : fb[9]? = some (.int x9)) (b11 : fb[11]? = some (.int x11)) (b13 : fb[13]? = some (.int x13)) {ta tb ra rb ca cb : Nat → Int32} {H : XH} (hN : H.1 = 549) (oa : H.2.2 a = .inl (5, fa)) (ob : H.2.2 b = .inl (5, fb)) (ta_ : H.2.2 (a + 7) = .inr (.inl (0, 80, ta))) (tb_ : H.2.2 (b + 7) = .inr (.inl (0, 80, tb))) (ra_ : H.2.2 (a + 8) = .inr (.inl (0, 41, ra))) (rb_ : H.2.2 (b + 8) = .inr (.inl (0, 41, rb))) (ca_ : H.2.2 (a + 9) = .inr (.inl (0, 20, ca))) (cb_ : H.2.2 (b + 9) = .inr (.inl (0, 20, cb))) {i : Int32} :
    ∃ H1 : XH, XGo (d + 2) xm_X5_become (108, beL a b i, [], H) none H1 ∧ H1.2.2 a = .inl (5, ((fa.set 9 (.int x9)).set 11 (.int x11)).set 13 (.int x13)) ∧ H1.2.2 (a + 7) = .inr (.inl (0, 80, va_cpy tb ta 0 0 80)) ∧ H1.2.2 (a + 8) = .inr (.inl (0, 41, va_cpy rb ra 0 0 41)) ∧ ∀ z, ¬ z = a → ¬ z = a + 7 → ¬ z = a + 8 → ¬ z = a + 9 → H1.2.2 z = H.2.2 z := by
  have hb549 : b < 549 ∧ 13 ≤ b ∧ a < 549 ∧ 13 ≤ a := by omega
  let A : XH := xup H a (.inl (5, fa.set 9 (.int x9)))
  have Aa : A.2.2 a = .inl (5, fa.set 9 (.int x9)) := xup_eq _ _ _
  have An : ∀ z, ¬ z = a → A.2.2 z = H.2.2 z := fun z hz => xup_ne _ _ hz
  have q1 := k_copy (d + 1) (h := A) (s := b + 7) (t := a + 7) (n := 80) ((An _ (by omega)).trans tb_) ((An _ (by omega)).trans ta_) (xlt (h := A) hN (by omega)) (xlt (h := A) hN (by omega)) (by omega) (by omega) (by decide)
  let B : XH := xup A (a + 7) (.inr (.inl (0, 80, va_cpy tb ta 0 0 80)))
  have Bn : ∀ z, ¬ z = a + 7 → B.2.2 z = A.2.2 z := fun z hz => xup_ne _ _ hz
  let C : XH := xup B a (.inl (5, (fa.set 9 (.int x9)).set 11 (.int x11)))
  have Ca : C.2.2 a = .inl (5, (fa.set 9 (.int x9)).set 11 (.int x11)) := xup_eq _ _ _
  have Cn : ∀ z, ¬ z = a → C.2.2 z = B.2.2 z := fun z hz => xup_ne _ _ hz
  have q2 := k_copy (d + 1) (h := C) (s := b + 8) (t := a + 8) (n := 41) ((Cn _ (by omega)).trans ((Bn _ (by omega)).trans ((An _ (by omega)).trans rb_))) ((Cn _ (by omega)).trans ((Bn _ (by omega)).trans ((An _ (by omega)).trans ra_))) (xlt (h := C) hN (by omega)) (xlt (h := C) hN (by omega)) (by omega) (by omega) (by decide)
  let D : XH := xup C (a + 8) (.inr (.inl (0, 41, va_cpy rb ra 0 0 41)))
  have Dn : ∀ z, ¬ z = a + 8 → D.2.2 z = C.2.2 z := fun z hz => xup_ne _ _ hz
  let E : XH := xup D a (.inl (5, ((fa.set 9 (.int x9)).set 11 (.int x11)).set 13 (.int x13)))
  have Ea : E.2.2 a = .inl (5, ((fa.set 9 (.int x9)).set 11 (.int x11)).set 13 (.int x13)) := xup_eq _ _ _
  have En : ∀ z, ¬ z = a → E.2.2 z = D.2.2 z := fun z hz => xup_ne _ _ hz
  have toH : ∀ z, ¬ z = a → ¬ z = a + 7 → ¬ z = a + 8 → E.2.2 z = H.2.2 z := fun z h1 h2 h3 => (En z h1).trans ((Dn z h3).trans ((Cn z h1).trans ((Bn z h2).trans (An z h1))))
  have q3 := k_copy (d + 1) (h := E) (s := b + 9) (t := a + 9) (n := 20) ((toH _ (by omega) (by omega) (by omega)).trans cb_) ((toH _ (by omega) (by omega) (by omega)).trans ca_) (xlt (h := E) hN (by omega)) (xlt (h := E) hN (by omega)) (by omega) (by omega) (by decide)
  have eb : A.2.2 b = .inl (5, fb) := (An _ (by omega)).trans ob
  have ebB : B.2.2 b = .inl (5, fb) := (Bn _ (by omega)).trans eb
  have ebC : C.2.2 b = .inl (5, fb) := (Cn _ (by omega)).trans ebB
  have ebD : D.2.2 b = .inl (5, fb) := (Dn _ (by omega)).trans ebC
  have ebE : E.2.2 b = .inl (5, fb) := (En _ (by omega)).trans ebD
  have Ba : B.2.2 a = .inl (5, fa.set 9 (.int x9)) := (Bn _ (by omega)).trans Aa
  have Da : D.2.2 a = .inl (5, (fa.set 9 (.int x9)).set 11 (.int x11)) := (Dn _ (by omega)).trans Ca
  refine ⟨xup E (a + 9) (.inr (.inl (0, 20, va_cpy cb ca 0 0 20))), ?_, (xup_ne _ _ (by omega)).trans Ea, (xup_ne _ _ (by omega)).trans ((En _ (by omega)).trans ((Dn _ (by omega)).trans ((Cn _ (by omega)).trans (xup_eq _ _ _)))), (xup_ne _ _ (by omega)).trans ((En _ (by omega)).trans (xup_eq _ _ _)), fun z h1 h2 h3 h4 => (xup_ne _ _ h4).trans (toH z h1 h2 h3)⟩
  refine XGo.go 2 rfl ?_
  refine XGo.getf rfl (xfd_o ob (xlt hN hb549.1) hb549.2.1 b9) ?_
  refine XGo.putf rfl oa (xlt hN hb549.2.2.1) hb549.2.2.2 (by omega) rfl rfl ?_
  show XGo _ _ (116, beL a b i, [], A) _ _
  refine XGo.go 1 rfl ?_
  refine XGo.getf rfl (xfd_o eb (xlt (h := A) hN hb549.1) hb549.2.1 b10) ?_
  refine XGo.go 1 rfl ?_
  refine XGo.getf rfl (xfd_o Aa (xlt (h := A) hN hb549.2.2.1) hb549.2.2.2 (by rw [List.getElem?_set_ne (by decide)]; exact a10)) ?_
  refine XGo.call _ rfl xm_X6_copy rfl rfl [.ref (b + 7), .ref (a + 7)] [] rfl rfl (fun z => absurd rfl z) (Nat.le_of_ble_eq_true rfl) q1 ?_
  refine XGo.go 2 rfl ?_
  refine XGo.getf rfl (xfd_o ebB (xlt (h := B) hN hb549.1) hb549.2.1 b11) ?_
  refine XGo.putf rfl Ba (xlt (h := B) hN hb549.2.2.1) hb549.2.2.2 (by rw [List.length_set]; omega) rfl rfl ?_
  show XGo _ _ (135, beL a b i, [], C) _ _
  refine XGo.go 1 rfl ?_
  refine XGo.getf rfl (xfd_o ebC (xlt (h := C) hN hb549.1) hb549.2.1 b12) ?_
  refine XGo.go 1 rfl ?_
  refine XGo.getf rfl (xfd_o Ca (xlt (h := C) hN hb549.2.2.1) hb549.2.2.2 (by rw [List.getElem?_set_ne (by decide), List.getElem?_set_ne (by decide)]; exact a12)) ?_
  refine XGo.call _ rfl xm_X6_copy rfl rfl [.ref (b + 8), .ref (a + 8)] [] rfl rfl (fun z => absurd rfl z) (Nat.le_of_ble_eq_true rfl) q2 ?_
  refine XGo.go 2 rfl ?_
  refine XGo.getf rfl (xfd_o ebD (xlt (h := D) hN hb549.1) hb549.2.1 b13) ?_
  refine XGo.putf rfl Da (xlt (h := D) hN hb549.2.2.1) hb549.2.2.2 (by rw [List.length_set, List.length_set]; omega) rfl rfl ?_
  show XGo _ _ (154, beL a b i, [], E) _ _
  refine XGo.go 1 rfl ?_
  refine XGo.getf rfl (xfd_o ebE (xlt (h := E) hN hb549.1) hb549.2.1 b14) ?_
  refine XGo.go 1 rfl ?_
  refine XGo.getf rfl (xfd_o Ea (xlt (h := E) hN hb549.2.2.1) hb549.2.2.2 (by rw [List.getElem?_set_ne (by decide), List.getElem?_set_ne (by decide), List.getElem?_set_ne (by decide)]; exact a14)) ?_
  refine XGo.call _ rfl xm_X6_copy rfl rfl [.ref (b + 9), .ref (a + 9)] [] rfl rfl (fun z => absurd rfl z) (Nat.le_of_ble_eq_true rfl) q3 ?_
  exact XGo.vret _ rfl rfl rfl
/-! image and undo: grants, tape and row are copied too -/
/-- a's grants, tape, row are b's -/
def Cont (h h1 : XH) (a b : Nat) : Prop := (rd h1 a 7 = rd h b 7 ∧ rd h1 a 9 = rd h b 9 ∧ rd h1 a 11 = rd h b 11) ∧ (∀ i, i < 80 → rd h1 (a + 7) i = rd h (b + 7) i) ∧ (∀ i, i < 41 → rd h1 (a + 8) i = rd h (b + 8) i) ∧ ∀ g, g < 6 → rd h1 (a + 10 + 3 * g) 0 = rd h (b + 10 + 3 * g) 0 ∧ (∀ j, j < 24 → rd h1 (a + 10 + 3 * g + 1) j = rd h (b + 10 + 3 * g + 1) j) ∧ ∀ j, j < 24 → rd h1 (a + 10 + 3 * g + 2) j = rd h (b + 10 + 3 * g + 2) j
/-- a world's cells: its object and rows -/
abbrev WC (h : XH) (a : Nat) (fw : List Value) (ga : Nat → Option Nat) (tp rw_ tc : Nat → Int32) (kk : Nat → Int32) (LL NN : Nat → Nat → Int32) : Prop :=
  (h.2.2 a = .inl (5, fw)) ∧
  (fw.length = 15) ∧
  (fw[8]? = some (.ref (a + 6))) ∧
  (fw[10]? = some (.ref (a + 7))) ∧
  (fw[12]? = some (.ref (a + 8))) ∧
  (fw[14]? = some (.ref (a + 9))) ∧
  (∃ x : Int32, fw[7]? = some (.int x)) ∧
  (∃ x : Int32, fw[9]? = some (.int x)) ∧
  (∃ x : Int32, fw[11]? = some (.int x)) ∧
  (∃ x : Int32, fw[13]? = some (.int x)) ∧
  (h.2.2 (a + 6) = .inr (.inr (3, 6, ga))) ∧
  (∀ g, g < 6 → ga g = some (a + 10 + 3 * g)) ∧
  (h.2.2 (a + 7) = .inr (.inl (0, 80, tp))) ∧
  (h.2.2 (a + 8) = .inr (.inl (0, 41, rw_))) ∧
  (h.2.2 (a + 9) = .inr (.inl (0, 20, tc))) ∧
  (∀ g, g < 6 → CG h (a + 10 + 3 * g) (kk g) (LL g) (NN g))
theorem WC.o {h : XH} {a : Nat} {fw : List Value} {ga : Nat → Option Nat} {tp rw_ tc : Nat → Int32} {kk : Nat → Int32} {LL NN : Nat → Nat → Int32} (u : WC h a fw ga tp rw_ tc kk LL NN) : h.2.2 a = .inl (5, fw) := u.1
theorem WC.l {h : XH} {a : Nat} {fw : List Value} {ga : Nat → Option Nat} {tp rw_ tc : Nat → Int32} {kk : Nat → Int32} {LL NN : Nat → Nat → Int32} (u : WC h a fw ga tp rw_ tc kk LL NN) : fw.length = 15 := u.2.1
theorem WC.r8 {h : XH} {a : Nat} {fw : List Value} {ga : Nat → Option Nat} {tp rw_ tc : Nat → Int32} {kk : Nat → Int32} {LL NN : Nat → Nat → Int32} (u : WC h a fw ga tp rw_ tc kk LL NN) : fw[8]? = some (.ref (a + 6)) := u.2.2.1
theorem WC.r10 {h : XH} {a : Nat} {fw : List Value} {ga : Nat → Option Nat} {tp rw_ tc : Nat → Int32} {kk : Nat → Int32} {LL NN : Nat → Nat → Int32} (u : WC h a fw ga tp rw_ tc kk LL NN) : fw[10]? = some (.ref (a + 7)) := u.2.2.2.1
theorem WC.r12 {h : XH} {a : Nat} {fw : List Value} {ga : Nat → Option Nat} {tp rw_ tc : Nat → Int32} {kk : Nat → Int32} {LL NN : Nat → Nat → Int32} (u : WC h a fw ga tp rw_ tc kk LL NN) : fw[12]? = some (.ref (a + 8)) := u.2.2.2.2.1
theorem WC.r14 {h : XH} {a : Nat} {fw : List Value} {ga : Nat → Option Nat} {tp rw_ tc : Nat → Int32} {kk : Nat → Int32} {LL NN : Nat → Nat → Int32} (u : WC h a fw ga tp rw_ tc kk LL NN) : fw[14]? = some (.ref (a + 9)) := u.2.2.2.2.2.1
theorem WC.i7 {h : XH} {a : Nat} {fw : List Value} {ga : Nat → Option Nat} {tp rw_ tc : Nat → Int32} {kk : Nat → Int32} {LL NN : Nat → Nat → Int32} (u : WC h a fw ga tp rw_ tc kk LL NN) : ∃ x : Int32, fw[7]? = some (.int x) := u.2.2.2.2.2.2.1
theorem WC.i9 {h : XH} {a : Nat} {fw : List Value} {ga : Nat → Option Nat} {tp rw_ tc : Nat → Int32} {kk : Nat → Int32} {LL NN : Nat → Nat → Int32} (u : WC h a fw ga tp rw_ tc kk LL NN) : ∃ x : Int32, fw[9]? = some (.int x) := u.2.2.2.2.2.2.2.1
theorem WC.i11 {h : XH} {a : Nat} {fw : List Value} {ga : Nat → Option Nat} {tp rw_ tc : Nat → Int32} {kk : Nat → Int32} {LL NN : Nat → Nat → Int32} (u : WC h a fw ga tp rw_ tc kk LL NN) : ∃ x : Int32, fw[11]? = some (.int x) := u.2.2.2.2.2.2.2.2.1
theorem WC.i13 {h : XH} {a : Nat} {fw : List Value} {ga : Nat → Option Nat} {tp rw_ tc : Nat → Int32} {kk : Nat → Int32} {LL NN : Nat → Nat → Int32} (u : WC h a fw ga tp rw_ tc kk LL NN) : ∃ x : Int32, fw[13]? = some (.int x) := u.2.2.2.2.2.2.2.2.2.1
theorem WC.g {h : XH} {a : Nat} {fw : List Value} {ga : Nat → Option Nat} {tp rw_ tc : Nat → Int32} {kk : Nat → Int32} {LL NN : Nat → Nat → Int32} (u : WC h a fw ga tp rw_ tc kk LL NN) : h.2.2 (a + 6) = .inr (.inr (3, 6, ga)) := u.2.2.2.2.2.2.2.2.2.2.1
theorem WC.gg {h : XH} {a : Nat} {fw : List Value} {ga : Nat → Option Nat} {tp rw_ tc : Nat → Int32} {kk : Nat → Int32} {LL NN : Nat → Nat → Int32} (u : WC h a fw ga tp rw_ tc kk LL NN) : ∀ g, g < 6 → ga g = some (a + 10 + 3 * g) := u.2.2.2.2.2.2.2.2.2.2.2.1
theorem WC.t {h : XH} {a : Nat} {fw : List Value} {ga : Nat → Option Nat} {tp rw_ tc : Nat → Int32} {kk : Nat → Int32} {LL NN : Nat → Nat → Int32} (u : WC h a fw ga tp rw_ tc kk LL NN) : h.2.2 (a + 7) = .inr (.inl (0, 80, tp)) := u.2.2.2.2.2.2.2.2.2.2.2.2.1
theorem WC.r {h : XH} {a : Nat} {fw : List Value} {ga : Nat → Option Nat} {tp rw_ tc : Nat → Int32} {kk : Nat → Int32} {LL NN : Nat → Nat → Int32} (u : WC h a fw ga tp rw_ tc kk LL NN) : h.2.2 (a + 8) = .inr (.inl (0, 41, rw_)) := u.2.2.2.2.2.2.2.2.2.2.2.2.2.1
theorem WC.c {h : XH} {a : Nat} {fw : List Value} {ga : Nat → Option Nat} {tp rw_ tc : Nat → Int32} {kk : Nat → Int32} {LL NN : Nat → Nat → Int32} (u : WC h a fw ga tp rw_ tc kk LL NN) : h.2.2 (a + 9) = .inr (.inl (0, 20, tc)) := u.2.2.2.2.2.2.2.2.2.2.2.2.2.2.1
theorem WC.cg {h : XH} {a : Nat} {fw : List Value} {ga : Nat → Option Nat} {tp rw_ tc : Nat → Int32} {kk : Nat → Int32} {LL NN : Nat → Nat → Int32} (u : WC h a fw ga tp rw_ tc kk LL NN) : ∀ g, g < 6 → CG h (a + 10 + 3 * g) (kk g) (LL g) (NN g) := u.2.2.2.2.2.2.2.2.2.2.2.2.2.2.2
theorem refs6 {h : XH} (hI : AInv w_W h) {k r : Nat} (hk : k < 549) (hr : w_rg k = r) {sl : List AV} (hS : w_S r = (2, 3, 6, sl, [])) {e : Nat → Nat} (hg : ∀ g, g < 6 → rd h k g = some (.ref (e g))) : ∃ f : Nat → Option Nat, h.2.2 k = .inr (.inr (3, 6, f)) ∧ ∀ g, g < 6 → f g = some (e g) := by
  have s1 := (hI.2.2 k hk).1
  rw [w_Sg, hr, hS] at s1
  unfold shp at s1
  split at s1
  · rename_i hc _
    exact absurd hc (by simp)
  · rename_i hc _
    exact absurd hc (by simp)
  · rename_i q _ hc
    obtain ⟨t, n, f⟩ := q
    have e1 : t = 3 := s1.1
    have e2 : n = 6 := s1.2
    subst e1
    subst e2
    refine ⟨f, hc, fun g hg2 => ?_⟩
    have r := hg g hg2
    unfold rd at r
    rw [hc] at r
    dsimp only at r
    rw [if_pos hg2] at r
    cases hfg : f g with
    | none => rw [hfg] at r; cases r
    | some z => rw [hfg] at r; cases r; rfl
  · rename_i hc
    exact absurd hc (by simp)
  · cases s1
theorem cg_im {h : XH} (hI : AInv w_W h) {p r0 r1 r2 : Nat} {s1 s2 : List (Nat × Int × Int)} {sl : List AV} (hp : p + 2 < 549) (e0 : w_rg p = r0) (e1 : w_rg (p + 1) = r1) (e2 : w_rg (p + 2) = r2) (S0 : w_S r0 = (0, 1, 0, sl, [])) (hl : sl.length = 3) (h0 : sl[0]? = some avT) (S1 : w_S r1 = (1, 0, 24, [], s1)) (S2 : w_S r2 = (1, 0, 24, [], s2)) (g1 : rd h p 1 = some (.ref (p + 1))) (g2 : rd h p 2 = some (.ref (p + 2))) : ∃ k L N, CG h p k L N := by
  obtain ⟨gf, o1, l1, -⟩ := w_obj hI (k := p) (by omega) e0 S0
  obtain ⟨k, hk⟩ := int_at hI (by omega) e0 S0 (b := 0) h0 rfl o1
  obtain ⟨L, hL⟩ := w_ints hI (k := p + 1) (by omega) e1 S1
  obtain ⟨N, hN⟩ := w_ints hI (k := p + 2) (by omega) e2 S2
  exact ⟨k, L, N, by rw [o1, list3 (l1.trans hl) hk ((rd_fld o1).symm.trans g1) ((rd_fld o1).symm.trans g2)], hL, hN⟩
theorem w_rg_y : (w_rg 22 = 22 ∧ w_rg 23 = 23) ∧ w_rg 50 = 35 ∧ w_rg 51 = 36 := by decide +kernel
theorem wc_14 {h : XH} (hI : AInv w_W h) (gS : GSt h) : ∃ fw ga tp rw_ tc kk LL NN, WC h 14 fw ga tp rw_ tc kk LL NN := by
  obtain ⟨x1, x2, -, -⟩ := w_rg_x
  obtain ⟨⟨y1, y2⟩, -⟩ := w_rg_y
  obtain ⟨fw, o, l, -⟩ := w_obj hI (k := 14) (by decide) w_rg_14 k14s
  obtain ⟨ga, g, gg⟩ := refs6 hI (k := 20) (by decide) x1 (show w_S 20 = (2, 3, 6, w_s20.2.2.2.1, []) from rfl) (e := fun g => 24 + 3 * g) fun g hg => (gS g hg).1.1
  obtain ⟨tp, t⟩ := w_ints hI (k := 21) (by decide) x2 (show w_S 21 = (1, 0, 80, [], w_s21.2.2.2.2) from rfl)
  obtain ⟨rw_, r⟩ := w_ints hI (k := 22) (by decide) y1 (show w_S 22 = (1, 0, 41, [], w_s22.2.2.2.2) from rfl)
  obtain ⟨tc, c⟩ := w_ints hI (k := 23) (by decide) y2 (show w_S 23 = (1, 0, 20, [], w_s23.2.2.2.2) from rfl)
  have hc : ∀ g, g < 6 → ∃ k L N, CG h (24 + 3 * g) k L N := fun g hg => by
    obtain ⟨⟨r1, r2, r3⟩, -⟩ := w_rg_g ⟨g, hg⟩
    obtain ⟨⟨-, q1, q2⟩, -⟩ := gS g hg
    exact cg_im hI (by omega) r1 (by rw [show 24 + 3 * g + 1 = 25 + 3 * g by omega]; exact r2) (by rw [show 24 + 3 * g + 2 = 26 + 3 * g by omega]; exact r3) k24s rfl rfl (show w_S 25 = (1, 0, 24, [], w_s25.2.2.2.2) from rfl) (show w_S 26 = (1, 0, 24, [], w_s26.2.2.2.2) from rfl) (by rw [show 24 + 3 * g + 1 = 25 + 3 * g by omega]; exact q1) (by rw [show 24 + 3 * g + 2 = 26 + 3 * g by omega]; exact q2)
  refine ⟨fw, ga, tp, rw_, tc, fun g => if hg : g < 6 then (hc g hg).choose else 0, fun g => if hg : g < 6 then (hc g hg).choose_spec.choose else fun _ => 0, fun g => if hg : g < 6 then (hc g hg).choose_spec.choose_spec.choose else fun _ => 0, ⟨o, l, ref_at hI (by decide) w_rg_14 k14s (b := 8) rfl rfl x1 (by decide) o, ref_at hI (by decide) w_rg_14 k14s (b := 10) rfl rfl x2 (by decide) o, ref_at hI (by decide) w_rg_14 k14s (b := 12) rfl rfl y1 (by decide) o, ref_at hI (by decide) w_rg_14 k14s (b := 14) rfl rfl y2 (by decide) o, int_at hI (by decide) w_rg_14 k14s (b := 7) rfl rfl o, int_at hI (by decide) w_rg_14 k14s (b := 9) rfl rfl o, int_at hI (by decide) w_rg_14 k14s (b := 11) rfl rfl o, int_at hI (by decide) w_rg_14 k14s (b := 13) rfl rfl o, g, gg, t, r, c, fun g hg => ?_⟩⟩
  simp only [dif_pos hg]
  exact (hc g hg).choose_spec.choose_spec.choose_spec
theorem wc_42 {h : XH} (hI : AInv w_W h) (gS : GSt h) : ∃ fw ga tp rw_ tc kk LL NN, WC h 42 fw ga tp rw_ tc kk LL NN := by
  obtain ⟨-, -, x1, x2⟩ := w_rg_x
  obtain ⟨-, y1, y2⟩ := w_rg_y
  obtain ⟨fw, o, l, -⟩ := w_obj hI (k := 42) (by decide) w_rg_42 k27s
  obtain ⟨ga, g, gg⟩ := refs6 hI (k := 48) (by decide) x1 (show w_S 33 = (2, 3, 6, w_s33.2.2.2.1, []) from rfl) (e := fun g => 52 + 3 * g) fun g hg => (gS g hg).2.1
  obtain ⟨tp, t⟩ := w_ints hI (k := 49) (by decide) x2 (show w_S 34 = (1, 0, 80, [], w_s34.2.2.2.2) from rfl)
  obtain ⟨rw_, r⟩ := w_ints hI (k := 50) (by decide) y1 (show w_S 35 = (1, 0, 41, [], w_s35.2.2.2.2) from rfl)
  obtain ⟨tc, c⟩ := w_ints hI (k := 51) (by decide) y2 (show w_S 36 = (1, 0, 20, [], w_s36.2.2.2.2) from rfl)
  have hc : ∀ g, g < 6 → ∃ k L N, CG h (52 + 3 * g) k L N := fun g hg => by
    obtain ⟨-, r1, r2, r3⟩ := w_rg_g ⟨g, hg⟩
    obtain ⟨-, -, q1, q2⟩ := gS g hg
    exact cg_im hI (by omega) r1 (by rw [show 52 + 3 * g + 1 = 53 + 3 * g by omega]; exact r2) (by rw [show 52 + 3 * g + 2 = 54 + 3 * g by omega]; exact r3) (show w_S 37 = (0, 1, 0, w_s37.2.2.2.1, []) from rfl) rfl rfl (show w_S 38 = (1, 0, 24, [], w_s38.2.2.2.2) from rfl) (show w_S 39 = (1, 0, 24, [], w_s39.2.2.2.2) from rfl) (by rw [show 52 + 3 * g + 1 = 53 + 3 * g by omega]; exact q1) (by rw [show 52 + 3 * g + 2 = 54 + 3 * g by omega]; exact q2)
  refine ⟨fw, ga, tp, rw_, tc, fun g => if hg : g < 6 then (hc g hg).choose else 0, fun g => if hg : g < 6 then (hc g hg).choose_spec.choose else fun _ => 0, fun g => if hg : g < 6 then (hc g hg).choose_spec.choose_spec.choose else fun _ => 0, ⟨o, l, ref_at hI (by decide) w_rg_42 k27s (b := 8) rfl rfl x1 (by decide) o, ref_at hI (by decide) w_rg_42 k27s (b := 10) rfl rfl x2 (by decide) o, ref_at hI (by decide) w_rg_42 k27s (b := 12) rfl rfl y1 (by decide) o, ref_at hI (by decide) w_rg_42 k27s (b := 14) rfl rfl y2 (by decide) o, int_at hI (by decide) w_rg_42 k27s (b := 7) rfl rfl o, int_at hI (by decide) w_rg_42 k27s (b := 9) rfl rfl o, int_at hI (by decide) w_rg_42 k27s (b := 11) rfl rfl o, int_at hI (by decide) w_rg_42 k27s (b := 13) rfl rfl o, g, gg, t, r, c, fun g hg => ?_⟩⟩
  simp only [dif_pos hg]
  exact (hc g hg).choose_spec.choose_spec.choose_spec
set_option maxRecDepth 100000 in
/-- become's rest: what it leaves -/
theorem bec_g (d : Nat) {A : XH} (hN : A.1 = 549) {a b : Nat} (hab : (a = 14 ∧ b = 42) ∨ (a = 42 ∧ b = 14)) {fa fb : List Value} {ga gb : Nat → Option Nat} {ta tb ra rb ca cb ka kb : Nat → Int32} {La Lb Na Nb : Nat → Nat → Int32} (wa : WC A a fa ga ta ra ca ka La Na) (wb : WC A b fb gb tb rb cb kb Lb Nb) : ∃ H1 : XH, XGo (d + 2) xm_X5_become (71, [some (.ref a), some (.ref b), none], [], A) none H1 ∧ Cont A H1 a b := by
  obtain ⟨x7, h7⟩ := wb.i7
  obtain ⟨x9, h9⟩ := wb.i9
  obtain ⟨x11, h11⟩ := wb.i11
  obtain ⟨x13, h13⟩ := wb.i13
  let B : XH := xup A a (.inl (5, fa.set 7 (.int x7)))
  have Ba : B.2.2 a = .inl (5, fa.set 7 (.int x7)) := xup_eq _ _ _
  have Bn : ∀ z, ¬ z = a → B.2.2 z = A.2.2 z := fun z hz => xup_ne _ _ hz
  have g7 : ∀ {n : Nat} {v : Value}, ¬ n = 7 → fa[n]? = some v → (fa.set 7 (.int x7))[n]? = some v := fun hn hv => by rw [List.getElem?_set_ne (fun e => hn e.symm)]; exact hv
  obtain ⟨C, n1, s1, cz, cgs, road⟩ := be_l d hab (fa := fa.set 7 (.int x7)) (g7 (by decide) wa.r8) wb.r8 wa.gg wb.gg (kb := kb) (Lb := Lb) (Nb := Nb) 6 0 B rfl hN Ba ((Bn _ (by omega)).trans wb.o) ((Bn _ (by omega)).trans wa.g) ((Bn _ (by omega)).trans wb.g) (fun g _ hg => by
    have c := wa.cg g hg
    exact ⟨_, _, _, (Bn _ (by omega)).trans c.1, (Bn _ (by omega)).trans c.2.1, (Bn _ (by omega)).trans c.2.2⟩) (fun g hg => by
    have c := wb.cg g hg
    exact ⟨(Bn _ (by omega)).trans c.1, (Bn _ (by omega)).trans c.2.1, (Bn _ (by omega)).trans c.2.2⟩)
  have toA : ∀ z, ¬ (a + 10 ≤ z ∧ z < a + 28) → ¬ z = a → C.2.2 z = A.2.2 z := fun z h1 h2 => (cz z (by omega)).trans (Bn z h2)
  obtain ⟨D, go, da, dt, dr, dz⟩ := be_t d hab (fa := fa.set 7 (.int x7)) (by rw [List.length_set]; exact wa.l) (g7 (by decide) wa.r10) (g7 (by decide) wa.r12) (g7 (by decide) wa.r14) wb.r10 wb.r12 wb.r14 h9 h11 h13 (n1.trans hN) ((cz a (by omega)).trans Ba) ((toA b (by omega) (by omega)).trans wb.o) ((toA _ (by omega) (by omega)).trans wa.t) ((toA _ (by omega) (by omega)).trans wb.t) ((toA _ (by omega) (by omega)).trans wa.r) ((toA _ (by omega) (by omega)).trans wb.r) ((toA _ (by omega) (by omega)).trans wa.c) ((toA _ (by omega) (by omega)).trans wb.c) (i := nI 6)
  refine ⟨D, ?_, ⟨?_, ?_, ?_⟩, fun i hi => ?_, fun i hi => ?_, fun g hg => ?_⟩
  · refine XGo.go 2 rfl ?_
    refine XGo.getf rfl (xfd_o wb.o (by omega) (by omega) h7) ?_
    refine XGo.putf rfl wa.o (by omega) (by omega) (by rw [wa.l]; decide) rfl rfl ?_
    show XGo _ _ (79, _, [], B) _ _
    refine XGo.go 2 rfl ?_
    exact road go
  · rw [rd_fld da, rd_fld wb.o, h7, List.getElem?_set_ne (by decide), List.getElem?_set_ne (by decide), List.getElem?_set_ne (by decide), List.getElem?_set_self (by rw [wa.l]; decide)]
  · rw [rd_fld da, rd_fld wb.o, h9, List.getElem?_set_ne (by decide), List.getElem?_set_ne (by decide), List.getElem?_set_self (by rw [List.length_set, wa.l]; decide)]
  · rw [rd_fld da, rd_fld wb.o, h11, List.getElem?_set_ne (by decide), List.getElem?_set_self (by rw [List.length_set, List.length_set, wa.l]; decide)]
  · rw [rd_ints dt hi, rd_ints wb.t hi, cpy24 hi]
  · rw [rd_ints dr hi, rd_ints wb.r hi, cpy24 hi]
  · obtain ⟨L, N, c, e⟩ := cgs g (Nat.zero_le _) hg
    have c1 := (dz _ (by omega) (by omega) (by omega) (by omega)).trans c.1
    have c2 := (dz _ (by omega) (by omega) (by omega) (by omega)).trans c.2.1
    have c3 := (dz _ (by omega) (by omega) (by omega) (by omega)).trans c.2.2
    have w := wb.cg g hg
    refine ⟨by rw [rd_fld c1, rd_fld w.1]; rfl, fun j hj => ?_, fun j hj => ?_⟩
    · rw [rd_ints c2 hj, rd_ints w.2.1 hj, (e j hj).1]
    · rw [rd_ints c3 hj, rd_ints w.2.2 hj, (e j hj).2]
