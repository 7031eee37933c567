/-! ===== ask ===== -/
section
/-! ask -/
theorem RDW.fx {h0 : XH} (F : xFix h0) {c : Int} (c0 : 0 ≤ c) (c1 : c < 93) (w : RDW h0 c) : (1 ≤ c ∧ c ≤ 4) ∨ (32 ≤ c ∧ c ≤ 34) := by
  have t := fxT F c0 c1
  unfold RDW TPC at w
  rcases w with w | w
  · omega
  · exact absurd w.1 t.1
theorem RDW.tg {h0 : XH} {c : Int} (hc : 93 ≤ c ∨ c < 0) (w : RDW h0 c) : xtg h0 c = 110 ∧ (xpl h0 c (-1) = 34 ∨ xnx h0 ≤ xpl h0 c (-1)) := by
  unfold RDW TPC at w
  rcases w with w | w
  · omega
  · exact w
theorem RDW.cow {h0 : XH} (F : xFix h0) {c : Int} (w : RDW h0 c) : COW h0 c := by
  unfold RDW TPC at w
  rcases w with w | w
  · exact Or.inl (by omega)
  · exact tgs.cow F (Or.inl w.1)
/-- a list in use is not written by the reader -/
theorem ALr.rdw {h h1 : XH} {l : Int} {es : List Int} (A : ALr h l es) (F : xFix h) (e : xsm (RDW h) h h1) (hl : l ≠ 34) (ht : 93 ≤ l ∨ ¬ ((1 ≤ l ∧ l ≤ 4) ∨ (32 ≤ l ∧ l ≤ 34))) : ALr h1 l es := by
  refine A.frame F e (fun c v y => ?_)
  have hlt := A.1.2.1
  have t13 := A.1.2.2.1
  have l0 := A.1.1
  rcases v with v | ⟨v1, v2⟩
  · rw [v] at y
    by_cases z : l < 93
    · have := RDW.fx F l0 z y; omega
    · have := RDW.tg (Or.inl (by omega)) y
      rw [t13] at this; exact absurd this.1 (by decide)
  · by_cases z : 93 ≤ c ∨ c < 0
    · have := (RDW.tg z y).2
      omega
    · have t := fxT F (c := c) (by omega) (by omega)
      exact t.1 v1
theorem DraR.rdw {h h' : XH} {a : Int} {qa pa : List Int} {D : DR} (R : DraR h a qa pa D) (F : xFix h) (e : xsm (RDW h) h h') : DraR h' a qa pa D := by
  obtain ⟨⟨r1, r2, r3, r4⟩, s, t, u⟩ := R
  have al : ∀ a es, 52 ≤ a → ALr h a es → ALr h' a es := fun a es ha r => r.rdw F e (by omega) (by omega)
  have keep : ∀ c, 93 ≤ c → c < xnx h → xtg h c ≠ 110 → ∀ k, xpl h' c k = xpl h c k := fun c c1 c2 c3 k => e.pl c2 (fun w => c3 (RDW.tg (Or.inl c1) w).1) k
  refine ⟨⟨al _ _ r2 r1, r2, r3, r4⟩, s, fun i q ns hq hn => ?_, fun n p pt hp ht => ?_⟩
  · obtain ⟨⟨q1, q2, q3⟩, q4, q5, q6⟩ := t i q ns hq hn
    have e0 := keep q q1 q2 (by rw [q3]; decide) 0
    refine ⟨⟨q1, by have := e.nx; omega, by rw [e.tg q2]; exact q3⟩, by rw [e0]; exact q4, ?_, q6⟩
    rw [e0]
    exact al _ _ (by omega) q5
  · obtain ⟨v1, v2⟩ := u n p pt hp ht
    exact ⟨v1.frame e (fun k _ _ => keep p v1.1.1 v1.1.2.1 (by rw [v1.1.2.2]; decide) k) (fun r x y z w => by
      have := (RDW.tg (Or.inl z) w).1
      rw [x] at this; cases this), v2⟩
/-- the state behind a reading, the question still the old one -/
theorem CIR.rdw {h h1 : XH} {s : CS} {ans : Int × RS} (R : CIR h s) (Q1 : RdQ h h1 (tC s) ans) : ∃ qa pa bp fp, CIX h1 s (fC s) (xpl h 0 6) qa pa ∧ StoreR h1 bp fp (bC s) (fC s) (zC s) (mC s) ∧ xsm (CLW h) h h1 ∧ vlen h1 = vlen h := by
  obtain ⟨⟨F, M⟩, T, ⟨bp, fp, S⟩, ⟨V, VR⟩, w, ⟨a, qa, pa, q1, q2, q3, q4⟩, -, -, W⟩ := R
  obtain ⟨⟨F1, e, T1, -, -⟩, ⟨es, A, hes⟩, z10, -⟩ := Q1
  have hnx := F.nx
  have lo : ∀ c k, 0 ≤ c → c < 93 → ¬ ((1 ≤ c ∧ c ≤ 4) ∨ (32 ≤ c ∧ c ≤ 34)) → xpl h1 c k = xpl h c k := fun c k c0 c1 c2 => e.pl (by omega) (fun y => c2 (RDW.fx F c0 c1 y)) k
  have hi : ∀ c k, 93 ≤ c → c < xnx h → xtg h c ≠ 110 → xpl h1 c k = xpl h c k := fun c k c1 c2 c3 => e.pl c2 (fun y => c3 (RDW.tg (Or.inl c1) y).1) k
  obtain ⟨VR', vl⟩ := VR.frame e (fun c v y => by
    have v0 := VOW.fx M v
    have t0 : xtg h c = 101 ∨ xtg h c = 100 ∨ c = 12 := by unfold VOW at v; omega
    by_cases z : 93 ≤ c ∨ c < 0
    · have := (RDW.tg z y).1; omega
    · have := RDW.fx F (by omega) (by omega) y; omega) F
  have txt : ∀ p t, TxtR h p t → TxtR h1 p t ∧ xpl h1 p 5 = xpl h p 5 := fun p t X => by
    have kk : ∀ j, xpl h1 p j = xpl h p j := fun j => hi p j X.1.1 X.1.2.1 (by rw [X.1.2.2]; decide)
    exact ⟨X.frame e (fun j _ _ => kk j) (fun r y1 _ y3 y4 => by
      have := (RDW.tg (Or.inl y3) y4).1
      rw [y1] at this; cases this), kk 5⟩
  have S1 : StoreR h1 bp fp (bC s) (fC s) (zC s) (mC s) := by
    obtain ⟨⟨a1, a2, a3, a4, a5, a6⟩, h1', h2', h3, ⟨z1, z2, z3, z4⟩, z5⟩ := S
    have e5 := fun k => lo 5 k (by decide) (by decide) (by decide)
    have e8 := fun k => lo 8 k (by decide) (by decide) (by decide)
    refine ⟨⟨a1.rdw F e (by decide) (by decide), a2.rdw F e (by decide) (by decide), a3, a4, a5, a6⟩, fun i p t w1 w2 => ?_, fun i p t w1 w2 => ?_, h3, ⟨by rw [e5]; exact z1, z2, fun i hi => by rw [e8]; exact z3 i hi, fun i i0 i1 => by rw [e8]; exact z4 i i0 i1⟩, by rw [e5]; exact z5⟩
    · obtain ⟨v1, v2⟩ := h1' i p t w1 w2
      obtain ⟨v3, v4⟩ := txt p t v1
      exact ⟨v3, v4.trans v2⟩
    · obtain ⟨v1, v2⟩ := h2' i p t w1 w2
      obtain ⟨v3, v4⟩ := txt p t.1 v1
      exact ⟨v3, v4.trans v2⟩
  have e4 : ∀ c k, 40 ≤ c → c ≤ 51 → xpl h1 c k = xpl h c k := fun c k c1 c2 => lo c k (by omega) (by omega) (by omega)
  refine ⟨qa, pa, bp, fp, ⟨⟨F1, M.frame F e⟩, T1, ⟨V, VR'⟩, (lo 0 5 (by decide) (by decide) (by decide)).trans w, ⟨lo 0 6 (by decide) (by decide) (by decide), by rw [q1]; exact q2.rdw F e, fun y => (e4 40 5 (by decide) (by decide)).trans (q3 y), fun y => ?_⟩, ⟨es, A, hes⟩, z10⟩, S1, CLW.of e (fun c hc => RDW.cow F hc), vl⟩
  obtain ⟨g1, g2, g3⟩ := q4 y
  refine ⟨g1.lo q2 (fun c k c1 c2 => e4 c k (by omega) (by omega)) (fun c k c1 c2 c3 => hi c k c1 c2 (by rw [c3]; decide)), g2.keep (e4 40 5 (by decide) (by decide)) (fun k => e4 51 k (by decide) (by decide)), fun i x hi hx hx2 => ?_⟩
  obtain ⟨b1, b2⟩ := g3 i x hi hx hx2
  exact ⟨(e4 50 i (by decide) (by decide)).trans b1, b2.keep (fun n _ => ⟨e4 48 _ (by decide) (by decide), e4 49 _ (by decide) (by decide)⟩)⟩
def rdA (s : CS) : Int × RS := rdF (tC s) 40 0 r00
def cAsk (s : CS) : (Int × Int) × CS := if (rdA s).1 = -1 then ((0, -1), (([], s.1.2), wC s, (rdA s).2.2.1)) else ((0, (rdA s).1), (([], s.1.2), s.2))
theorem s_B_ask {G : XG} {d : Nat} {h : XH} {Q : XV → XH → Prop} {X : Nat → XH → Prop} {s : CS} {n9 s9 : Int} (R : CIR h s) (M : Room h n9 s9) (hn : 500 ≤ n9) (hs : 6600 ≤ s9) (q : CAN Q X xI h (cAsk s) n9 s9) : xwp G m_B_ask (d + 13) 0 [xR 0, xZ] [] h Q X := by
  have hr := R.room M
  have F := R.fx
  have hnx := F.nx
  obtain ⟨es, A, -⟩ := R.2.2.2.2.2.2.1
  have z10 := R.2.2.2.2.2.2.2.1
  have W := R.wf
  unfold cAsk at q
  refine v_B_ask_0 F ?_
  refine s_QR_read F R.2.1 A z10 (by omega) (by omega) (fun h1 Q1 => ?_)
  have Q1 : RdQ h h1 (tC s) (rdA s) := Q1
  show xwp G m_B_ask (d + 13) 11 [xR 0, xZ] [xI (rdA s).1] h1 Q X
  obtain ⟨qa, pa, bp, fp, C1, S1, L1, v1⟩ := R.rdw Q1
  obtain ⟨⟨F1, e1, T1, n1, l1⟩, -, -, hok⟩ := Q1
  have T2 : TapeR (xst h1 1 3 0) [] := ⟨by rw [xpl_hit]; rfl, by show 0 ≤ 400; decide, fun i hi => absurd hi (Nat.not_lt_zero i), fun x hx => absurd hx List.not_mem_nil⟩
  have tpc : xsm TPC h1 (xst h1 1 3 0) := (xsm.refl h1).st (by decide) (Or.inl (Or.inl rfl))
  have R1 : CIR h1 s := C1.cir S1 W
  refine v_B_ask_11 F1 ?_
  refine ⟨fun q1 => ?_, fun q1 => ?_⟩
  · intro F9
    rw [if_pos q1] at q
    obtain ⟨a', qa', pa', d1, d2, d3, d4, d5, -, -⟩ := hok q1
    rw [d1] at F9 ⊢
    have F2 : xFix (xst h1 1 3 0) := F1.stT (t := 8) (by decide) (ft_1 F1) (by decide +kernel)
    obtain ⟨R2, L2, v2⟩ := R1.tape F2 tpc T2
    obtain ⟨h3, hh3⟩ : ∃ h3, h3 = xst (xst h1 1 3 0) 0 6 a' := ⟨_, rfl⟩
    rw [← hh3] at F9 ⊢
    have F3 : xFix h3 := F9
    have e3 : xsm (fun c => c = 0 ∨ c = 1) h1 h3 := by rw [hh3]; exact ((xsm.refl h1).st (by decide) (Or.inl (Or.inr rfl))).st (by decide) (Or.inl (Or.inl rfl))
    have n3 : xnx h3 = xnx h1 := by rw [hh3]; rfl
    have l3 : xsl h3 = xsl h1 := by rw [hh3]; rfl
    have lo : ∀ c k, c ≠ 0 → c ≠ 1 → xpl h3 c k = xpl h1 c k := fun c k c1 c2 => by rw [hh3, xpl_oa c1, xpl_oa c2]
    have t0 := ft_0 F1
    have t1 := ft_1 F1
    have hnx1 := F1.nx
    obtain ⟨⟨-, M1⟩, -, ⟨V, VR⟩, w1, -, ⟨es1, A1, hes1⟩, z101⟩ := C1
    obtain ⟨VR3, v3⟩ := VR.frame e3 (fun c v y => by have := VOW.fx M1 v; omega) F1
    have D3 : DraR h3 a' qa' pa' (rdA s).2.2.1 := d2.frame F1 e3 (fun c v y => by
      unfold DRC at v
      rcases y with y | y <;> rw [y] at v
      · rw [t0] at v; omega
      · rw [t1] at v; omega) (fun c c1 _ _ => lo c 0 (by omega) (by omega)) (fun c k c1 _ _ _ => lo c k (by omega) (by omega))
    have S3 : StoreR h3 bp fp (bC s) (fC s) (zC s) (mC s) := S1.frame F1 e3 (fun c v y => by
      unfold STF ALC at v
      rcases y with y | y <;> rw [y] at v
      · rw [t0] at v; omega
      · rw [t1] at v; omega)
    have A3 : ALr h3 34 es1 := A1.frame F1 e3 (fun c v y => by
      unfold ALC at v
      rcases y with y | y <;> rw [y] at v
      · rw [t0] at v; omega
      · rw [t1] at v; omega)
    have Y3 : CIY h3 (([], s.1.2), wC s, (rdA s).2.2.1) a' qa' pa' := ⟨⟨F3, M1.frame F1 e3⟩, ⟨by rw [hh3, xpl_oa (by decide), xpl_hit]; rfl, by show 0 ≤ 400; decide, fun i hi => absurd hi (Nat.not_lt_zero i), fun x hx => absurd hx List.not_mem_nil⟩, ⟨V, VR3⟩, by rw [hh3, xpl_ok (by decide), xpl_oa (by decide)]; exact w1, ⟨by rw [hh3, xpl_hit], D3⟩, ⟨es1, A3, hes1⟩, (lo 35 10 (by decide) (by decide)).trans z101⟩
    have L3 : xsm (CLW h1) h1 h3 := CLW.of e3 (fun c hc => Or.inl (by omega))
    refine s_Findings_refresh F3 S3.fil D3 d3 (fun h4 F4 B4 c0 c1 => ?_)
    obtain ⟨C4, S4, L4, v4, n4, l4⟩ := Y3.rf S3 F4 B4 c0 c1
    refine v_B_ask_54 F4 ?_
    rw [q1]
    refine q.1 rfl h4 (C4.cir S4 ⟨W.1, W.2.1, d3, W.2.2.2⟩) (CLW.trans (CLW.trans L1 L3) L4) ?_ ?_
    · unfold nxP; rw [v4, v3, v1]; omega
    · unfold slP; rw [v4, v3, v1]; omega
  · intro F9
    rw [if_neg q1] at q
    obtain ⟨R2, L2, v2⟩ := R1.tape F9 tpc T2
    refine v_B_ask_54 F9 ?_
    refine q.1 rfl _ R2 (CLW.trans L1 L2) ?_ ?_
    · unfold nxP; rw [v2, v1]; show xnx h1 - _ ≤ _; omega
    · unfold slP; rw [v2, v1]; show xsl h1 - _ ≤ _; omega

end
