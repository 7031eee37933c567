/-! ===== reckon ===== -/
section
/-! the model reckons -/
/-- what reckoning writes -/
def RW (h h' : XH) : Prop := xFix h' ∧ xsm (fun a => a = 53 ∨ (81 ≤ a ∧ a ≤ 90)) h h' ∧ (∀ k, k ≠ 26 → k ≠ 35 → xpl h' 53 k = xpl h 53 k) ∧ xnx h' = xnx h ∧ xsl h' = xsl h
theorem RW.rfl {h : XH} (F : xFix h) : RW h h := ⟨F, xsm.refl h, fun _ _ _ => _root_.rfl, _root_.rfl, _root_.rfl⟩
theorem RW.trans {a b e : XH} (x : RW a b) (y : RW b e) : RW a e := ⟨y.1, x.2.1.trans y.2.1, fun k k1 k2 => (y.2.2.1 k k1 k2).trans (x.2.2.1 k k1 k2), y.2.2.2.1.trans x.2.2.2.1, y.2.2.2.2.trans x.2.2.2.2⟩
theorem RW.mqr {h h' : XH} {q : Int} {D : DR} (K : RW h h') (A : MQR h q D) : MQR h' q D := by
  have b := A.2.1.1
  exact A.of K.2.1 (K.2.2.1 19 (by decide) (by decide)) (fun c x y => by omega)
theorem RW.oth {h h' : XH} (K : RW h h') {a : Int} (a0 : 54 ≤ a) (a1 : a ≤ 80) (k : Int) : xpl h' a k = xpl h a k := K.2.1.pl (by
  have := K.1.nx
  have := K.2.2.2.1
  omega) (by omega) k
theorem RW.msr {h h' : XH} {T : List (Txt × Bool)} {z : List Int} {m : Int} (K : RW h h') (R : MSR h T z m) : MSR h' T z m := R.keep (fun k w => K.2.2.1 k (by omega) (by omega)) (fun c k a b => K.oth (by omega) (by omega) k)
/-- the same of one field -/
def RX (h h' : XH) (fl : Int) : Prop := RW h h' ∧ xpl h' 53 26 = xpl h 53 26 ∧ (∀ a k : Int, a = 81 ∨ a = 82 ∨ a = 83 → k % 2 ≠ fl → xpl h' a k = xpl h a k) ∧ ∀ k : Int, k ≠ fl → xpl h' 84 k = xpl h 84 k
theorem RX.rfl {h : XH} {fl : Int} (F : xFix h) : RX h h fl := ⟨RW.rfl F, _root_.rfl, fun _ _ _ _ => _root_.rfl, fun _ _ => _root_.rfl⟩
theorem RX.trans {a b e : XH} {fl : Int} (x : RX a b fl) (y : RX b e fl) : RX a e fl := ⟨x.1.trans y.1, y.2.1.trans x.2.1, fun i k z1 z2 => (y.2.2.1 i k z1 z2).trans (x.2.2.1 i k z1 z2), fun k z => (y.2.2.2 k z).trans (x.2.2.2 k z)⟩
theorem SW.rw {h h' : XH} {c : Int} (K : SW h h' c) : RW h h' := ⟨K.1, K.2.1.mono (fun a _ w => by omega), fun k k1 k2 => K.2.2.1 53 k (Or.inl ⟨by decide, by decide⟩) (Or.inr k2) (by decide) (by decide), K.2.2.2.1, K.2.2.2.2⟩
theorem SW.rx {h h' : XH} {c fl : Int} (K : SW h h' c) (hc : c % 2 = fl) : RX h h' fl := ⟨K.rw, K.2.2.1 53 26 (Or.inl ⟨by decide, by decide⟩) (Or.inr (by decide)) (by decide) (by decide), fun a k w z => K.2.2.1 a k (Or.inr (fun y => z (by rw [y]; exact hc))) (Or.inl (by omega)) (by omega) (by omega), fun k _ => K.2.2.1 84 k (Or.inl ⟨by decide, by decide⟩) (Or.inl (by decide)) (by decide) (by decide)⟩
/-- a part's fits in a field of all texts -/
def RKt (h : XH) (f : List (Txt × Bool)) (fl : Int) (i : Nat) (pt : PT) (n : Nat) : Prop := ∀ (k : Nat) x, k < n → f[k]? = some x → MatC h (2 * (60 * (i : Int) + k) + fl) (fitF pt fl (rwT x.1 fl))
def RKf (h : XH) (D : DR) (f : List (Txt × Bool)) (fl : Int) (n : Nat) : Prop := xpl h 84 fl = mlF f fl ∧ ∀ (i : Nat) pt, i < n → D.1[i]? = some pt → xpl h 83 (2 * (i : Int) + fl) = rrF f.length (hoF pt fl f) ∧ RKt h f fl i pt f.length
/-- the reckoned tables -/
def RK (h : XH) (D : DR) (f : List (Txt × Bool)) : Prop := RKf h D f 0 D.1.length ∧ RKf h D f 1 D.1.length
theorem RKf.of {h h' : XH} {D : DR} {f : List (Txt × Bool)} {fl : Int} {n : Nat} (R : RKf h D f fl n) (e4 : xpl h' 84 fl = xpl h 84 fl) (e : ∀ a k : Int, a = 81 ∨ a = 82 ∨ a = 83 → k % 2 = fl → xpl h' a k = xpl h a k) (hf : fl = 0 ∨ fl = 1) : RKf h' D f fl n := by
  refine ⟨e4.trans R.1, fun i pt hi hp => ?_⟩
  obtain ⟨a, b⟩ := R.2 i pt hi hp
  refine ⟨(e 83 _ (by decide) (by omega)).trans a, fun k x hk hx => ?_⟩
  obtain ⟨c, d⟩ := b k x hk hx
  exact ⟨(e 81 _ (by decide) (by omega)).trans c, (e 82 _ (by decide) (by omega)).trans d⟩
/-- what is looked at: the filed texts' rows -/
def RKw (h : XH) (f : List (Txt × Bool)) : Prop := f.length ≤ 60 ∧ ∀ (k : Nat) x, f[k]? = some x → (0 ≤ xpl h 55 k ∧ xpl h 55 k < 60) ∧ MTx h (xpl h 55 k) x ∧ TxP x.1
theorem RKw.rw {h h' : XH} {f : List (Txt × Bool)} (R : RKw h f) (K : RW h h') : RKw h' f := ⟨R.1, fun k x hx => by
  rw [K.oth (by decide) (by decide)]
  obtain ⟨a, b, c⟩ := R.2 k x hx
  exact ⟨a, b.keep (fun c k c1 c2 => K.oth (by omega) (by omega) k), c⟩⟩
theorem MSR.rkw {h : XH} {T : List (Txt × Bool)} {z : List Int} {m : Int} (R : MSR h T z m) (P : ∀ x ∈ T, TxP x.1) : RKw h (T.take z.sum.toNat) ∧ ((T.take z.sum.toNat).length : Int) = z.sum := by
  obtain ⟨⟨p1, p2⟩, n1, -, n3, n4, tx⟩ := R
  have z0 : 0 ≤ z.sum := sum_nn (fun y hy => by have := n3 y hy; omega)
  refine ⟨⟨by rw [List.length_take]; omega, fun k x hx => ?_⟩, by rw [List.length_take]; omega⟩
  have hk : k < 60 := by
    have := (List.getElem?_eq_some_iff.mp hx).1
    rw [List.length_take] at this
    omega
  have hx2 : T[k]? = some x := by
    rw [List.getElem?_take] at hx
    split at hx
    · exact hx
    · cases hx
  exact ⟨p1 k (by omega) (by omega), tx k x hx2, P x (List.mem_of_getElem? hx2)⟩
theorem reckon_field {G : XG} {d : Nat} {h : XH} {Q : XV → XH → Prop} {X : Nat → XH → Prop} {q m fl : Int} {D : DR} {T : List (Txt × Bool)} {z : List Int} (hf : fl = 0 ∨ fl = 1) (F : xFix h) (A : MQR h q D) (R : MSR h T z m) (P : ∀ x ∈ T, TxP x.1) (ok : ∀ (i : Nat) pt, D.1[i]? = some pt → PTok pt)
    (k : ∀ h', RX h h' fl → RKf h' D (T.take z.sum.toNat) fl D.1.length → xwp G m_M_reckon (d + 4) 20 [xR 53, xI z.sum, xI (fl + 1), xZ, xZ, xZ, xZ] [] h' Q X) : xwp G m_M_reckon (d + 4) 20 [xR 53, xI z.sum, xI fl, xZ, xZ, xZ, xZ] [] h Q X := by
  obtain ⟨W, fz⟩ := R.rkw P
  obtain ⟨f, hfe⟩ : ∃ f, f = T.take z.sum.toNat := ⟨_, rfl⟩
  rw [← hfe] at W fz k
  rw [← fz] at k ⊢
  have f60 := W.1
  have D40 := A.2.2.2.1
  -- the parts
  have parts : ∀ (n i : Nat) (h1 : XH), i + n = D.1.length → RX h h1 fl → RKf h1 D f fl i → xwp G m_M_reckon (d + 4) 85 [xR 53, xI (f.length : Nat), xI fl, xZ, xI (i : Nat), xZ, xZ] [] h1 Q X := by
    intro n
    induction n with
    | zero =>
      intro i h1 en K1 D1
      obtain ⟨e19, C, ⟨np, -⟩, -, -⟩ := K1.1.mqr A
      refine v_M_reckon_85 K1.1.1 ?_
      rw [e19, np]
      refine ⟨C.2.1, fun _ => ⟨⟨by omega, by omega⟩, ?_⟩, fun y => absurd (by omega) y⟩
      rw [show i = D.1.length by omega] at D1
      exact k h1 K1 D1
    | succ n ih =>
      intro i h1 en K1 D1
      obtain ⟨e19, C, ⟨np, -⟩, -, -⟩ := K1.1.mqr A
      have hi : i < D.1.length := by omega
      obtain ⟨pt, hpt⟩ : ∃ pt, D.1[i]? = some pt := ⟨_, List.getElem?_eq_getElem hi⟩
      -- the texts
      have texts : ∀ (n2 k2 : Nat) (h2 : XH) (c : Int), k2 + n2 = f.length → RX h h2 fl → RKf h2 D f fl i → RKt h2 f fl i pt k2 → 0 ≤ c → c ≤ k2 → c + hoF pt fl (f.drop k2) = hoF pt fl f → xwp G m_M_reckon (d + 4) 103 [xR 53, xI (f.length : Nat), xI fl, xZ, xI (i : Nat), xI c, xI (k2 : Nat)] [] h2 Q X := by
        intro n2
        induction n2 with
        | zero =>
          intro k2 h2 c e2 K2 D2 T2 c0 c1 hc
          refine v_M_reckon_103 K2.1.1 ⟨fun _ => ⟨⟨by omega, by omega⟩, ⟨by omega, by omega⟩, ?_⟩, fun y => absurd (by omega) y⟩
          refine p_M_rarityOf K2.1.1 (K2.1.msr R) c0 (by omega) ?_
          rw [List.drop_eq_nil_of_le (by omega)] at hc
          have hc : c + 0 = hoF pt fl f := hc
          refine v_M_reckon_167 K2.1.1 ⟨ft_83 K2.1.1, by decide, by omega, by rw [fl_83 K2.1.1]; omega, ⟨by omega, by omega⟩, fun F3 => ?_⟩
          have K3 : RX h (xst h2 83 (2 * (i : Int) + fl) (rrF z.sum c)) fl := K2.trans ⟨⟨F3, (xsm.refl h2).st (by omega) (Or.inl (Or.inr (by omega))), fun k _ _ => xpl_oa (by decide), rfl, rfl⟩, xpl_oa (by decide), fun a k w y => by rw [xpl_st, if_neg (by omega)], fun k y => xpl_oa (by decide)⟩
          have go := ih (i + 1) _ (by omega) K3 ⟨(xpl_oa (by decide)).trans D2.1, fun j pj hj hpj => ?_⟩
          · rw [show ((i + 1 : Nat) : Int) = (i : Int) + 1 by omega] at go
            exact go
          · by_cases y : j = i
            · subst y
              rw [hpt] at hpj
              cases hpj
              refine ⟨?_, fun k3 x3 hk3 hx3 => ?_⟩
              · rw [xpl_hit, ← fz, ← hc, Int.add_zero]
              · obtain ⟨a, b⟩ := T2 k3 x3 (by omega) hx3
                exact ⟨(xpl_oa (by decide)).trans a, (xpl_oa (by decide)).trans b⟩
            · obtain ⟨a, b⟩ := D2.2 j pj (by omega) hpj
              refine ⟨(xpl_ok (by omega)).trans a, fun k3 x3 hk3 hx3 => ?_⟩
              obtain ⟨a, b⟩ := b k3 x3 (by omega) hx3
              exact ⟨(xpl_oa (by decide)).trans a, (xpl_oa (by decide)).trans b⟩
        | succ n2 ih2 =>
          intro k2 h2 c e2 K2 D2 T2 c0 c1 hc
          have hk2 : k2 < f.length := by omega
          have W2 := W.rw K2.1
          have hx := List.getElem?_eq_getElem hk2
          obtain ⟨⟨r0, r1⟩, mt, tp⟩ := W2.2 k2 _ hx
          rw [List.drop_eq_getElem_cons hk2] at hc
          have hc : c + ((if 0 < (fitF pt fl (rwT (f[k2]).1 fl)).1 then 1 else 0) + hoF pt fl (f.drop (k2 + 1))) = hoF pt fl f := hc
          refine v_M_reckon_103 K2.1.1 ⟨fun y => by omega, fun _ => ?_⟩
          refine s_M_seek K2.1.1 (K2.1.mqr A) hpt (ok i pt hpt) (by omega) (by omega) hf r0 r1 mt tp (fun h3 S3 M3 => ?_)
          have X3 : RX h2 h3 fl := S3.rx (by omega)
          have K3 := K2.trans X3
          have D3 : RKf h3 D f fl i := by
            refine ⟨(S3.2.2.1 84 fl (Or.inl ⟨by decide, by decide⟩) (Or.inl (by decide)) (by decide) (by decide)).trans D2.1, fun j pj hj hpj => ?_⟩
            obtain ⟨a, b⟩ := D2.2 j pj hj hpj
            refine ⟨(S3.2.2.1 83 _ (Or.inl ⟨by decide, by decide⟩) (Or.inl (by decide)) (by decide) (by decide)).trans a, fun k3 x3 hk3 hx3 => ?_⟩
            obtain ⟨a, b⟩ := b k3 x3 hk3 hx3
            exact ⟨(S3.2.2.1 81 _ (Or.inr (by omega)) (Or.inl (by decide)) (by decide) (by decide)).trans a, (S3.2.2.1 82 _ (Or.inr (by omega)) (Or.inl (by decide)) (by decide) (by decide)).trans b⟩
          have T3 : RKt h3 f fl i pt (k2 + 1) := fun k3 x3 hk3 hx3 => by
            by_cases y : k3 = k2
            · subst y
              rw [hx] at hx3
              cases hx3
              exact M3
            · obtain ⟨a, b⟩ := T2 k3 x3 (by omega) hx3
              exact ⟨(S3.2.2.1 81 _ (Or.inr (by omega)) (Or.inl (by decide)) (by decide) (by decide)).trans a, (S3.2.2.1 82 _ (Or.inr (by omega)) (Or.inl (by decide)) (by decide) (by decide)).trans b⟩
          refine v_M_reckon_118 K3.1.1 ?_
          rw [M3.1]
          refine ⟨⟨by omega, by omega⟩, ⟨by omega, by omega⟩, ⟨by omega, by omega⟩, ⟨by omega, by omega⟩, by omega, by omega, fun y => ⟨⟨by omega, by omega⟩, ?_⟩, fun y => ⟨⟨by omega, by omega⟩, ⟨by omega, by omega⟩, ?_⟩⟩
          · rw [if_neg (by omega)] at hc
            have go := ih2 (k2 + 1) h3 (c + 0) (by omega) K3 D3 T3 (by omega) (by omega) (by omega)
            rw [show ((k2 + 1 : Nat) : Int) = (k2 : Int) + 1 by omega] at go
            exact go
          · rw [if_pos (by omega)] at hc
            have go := ih2 (k2 + 1) h3 (c + 1) (by omega) K3 D3 T3 (by omega) (by omega) (by omega)
            rw [show ((k2 + 1 : Nat) : Int) = (k2 : Int) + 1 by omega] at go
            exact go
      refine v_M_reckon_85 K1.1.1 ?_
      rw [e19, np]
      refine ⟨C.2.1, fun y => by omega, fun _ => ?_⟩
      exact texts f.length 0 h1 0 (by omega) K1 D1 (fun k3 x3 hk3 _ => absurd hk3 (Nat.not_lt_zero k3)) (Int.le_refl _) (Int.le_refl _) (by rw [List.drop_zero, Int.zero_add])
  -- the lengths
  have sums : ∀ (n k2 : Nat) (s : Int), k2 + n = f.length → 0 ≤ s → s ≤ 200 * k2 → s + sumL fl (f.drop k2) = sumL fl f → xwp G m_M_reckon (d + 4) 30 [xR 53, xI (f.length : Nat), xI fl, xI s, xI (k2 : Nat), xZ, xZ] [] h Q X := by
    intro n
    induction n with
    | zero =>
      intro k2 s e2 s0 s1 hs
      rw [List.drop_eq_nil_of_le (by omega)] at hs
      have hs : s + 0 = sumL fl f := hs
      have fin : ∀ v : Int, v = mlF f fl → xFix (xst h 84 fl v) → xwp G m_M_reckon (d + 4) 85 [xR 53, xI (f.length : Nat), xI fl, xZ, xI 0, xZ, xZ] [] (xst h 84 fl v) Q X := fun v hv F3 => by
        refine parts D.1.length 0 _ (by omega) ⟨⟨F3, (xsm.refl h).st (by omega) (Or.inl (Or.inr (by omega))), fun k _ _ => xpl_oa (by decide), rfl, rfl⟩, xpl_oa (by decide), fun a k w y => xpl_oa (by omega), fun k y => xpl_ok y⟩ ⟨?_, fun i pt hi _ => absurd hi (Nat.not_lt_zero i)⟩
        rw [xpl_hit]; exact hv
      refine v_M_reckon_30 F ⟨fun _ => ⟨fun y => ⟨by omega, by omega, fin 1 ?_⟩, fun y => ⟨by omega, by omega, by omega, fin _ ?_⟩⟩, fun y => absurd (by omega) y⟩
      · unfold mlF
        rw [if_pos (by omega)]
      · unfold mlF
        rw [if_neg (by omega), ← hs, Int.add_zero]
    | succ n ih =>
      intro k2 s e2 s0 s1 hs
      have hk2 : k2 < f.length := by omega
      have hx := List.getElem?_eq_getElem hk2
      obtain ⟨⟨r0, r1⟩, mt, tp⟩ := W.2 k2 _ hx
      have sz := (mt.wd hf).1
      have l3 := mt.2.1.2.2
      have wl : (rwT (f[k2]).1 fl).length ≤ 200 := by
        rcases hf with e | e
        · rw [e, show rwT (f[k2]).1 0 = (f[k2]).1.2.2.2.1 from rfl]; omega
        · rw [e, show rwT (f[k2]).1 1 = (f[k2]).1.2.2.2.2 from rfl]; omega
      rw [List.drop_eq_getElem_cons hk2] at hs
      have hs : s + (((rwT (f[k2]).1 fl).length : Int) + sumL fl (f.drop (k2 + 1))) = sumL fl f := hs
      refine v_M_reckon_30 F ⟨fun y => by omega, fun _ => ?_⟩
      rw [sz]
      refine ⟨by omega, by omega, ⟨by omega, by omega⟩, ⟨by omega, by omega⟩, by omega, by omega, ⟨by omega, by omega⟩, ?_⟩
      have go := ih (k2 + 1) (s + ((rwT (f[k2]).1 fl).length : Int)) (by omega) (by omega) (by omega) (by omega)
      rw [show ((k2 + 1 : Nat) : Int) = (k2 : Int) + 1 by omega] at go
      exact go
  refine v_M_reckon_20 F ⟨fun y => by omega, fun _ => ?_⟩
  exact sums f.length 0 0 (by omega) (Int.le_refl _) (Int.le_refl _) (by rw [List.drop_zero, Int.zero_add])
theorem s_M_reckon {G : XG} {d : Nat} {h : XH} {Q : XV → XH → Prop} {X : Nat → XH → Prop} {q m : Int} {D : DR} {T : List (Txt × Bool)} {z : List Int} (F : xFix h) (A : MQR h q D) (R : MSR h T z m) (P : ∀ x ∈ T, TxP x.1) (ok : ∀ (i : Nat) pt, D.1[i]? = some pt → PTok pt) (I : xpl h 53 26 ≠ 0 → RK h D (T.take z.sum.toNat))
    (hq : ∀ h', RW h h' → RK h' D (T.take z.sum.toNat) → xpl h' 53 26 ≠ 0 → Q xN h') : xwp G m_M_reckon (d + 4) 0 [xR 53, xZ, xZ, xZ, xZ, xZ, xZ] [] h Q X := by
  refine v_M_reckon_0 F ⟨fun _ F1 => ?_, fun y => hq h (RW.rfl F) (I y) y⟩
  have W1 : RW h (xst h 53 26 1) := ⟨F1, (xsm.refl h).st (by decide) (Or.inl (Or.inl rfl)), fun k k1 k2 => xpl_ok k1, rfl, rfl⟩
  obtain ⟨h1, hh1⟩ : ∃ h1, h1 = xst h 53 26 1 := ⟨_, rfl⟩
  have e26 : xpl h1 53 26 = 1 := by rw [hh1]; exact xpl_hit _ _ _ _
  rw [← hh1] at F1 W1 ⊢
  refine p_M_inSegments F1 (W1.msr R) ?_
  refine v_M_reckon_17 F1 ?_
  refine reckon_field (Or.inl rfl) F1 (W1.mqr A) (W1.msr R) P ok (fun h2 X2 D2 => ?_)
  refine reckon_field (Or.inr rfl) X2.1.1 ((W1.trans X2.1).mqr A) ((W1.trans X2.1).msr R) P ok (fun h3 X3 D3 => ?_)
  refine v_M_reckon_20 X3.1.1 ⟨fun _ => ?_, fun y => absurd (by decide) y⟩
  refine hq h3 ((W1.trans X2.1).trans X3.1) ⟨D2.of (X3.2.2.2 0 (by decide)) (fun a k w y => X3.2.2.1 a k w (by omega)) (Or.inl rfl), D3⟩ (by rw [X3.2.1, X2.2.1, e26]; decide)

end
