/-! ===== prput ===== -/
section
/-! the model reads a question: runs and stars -/
/-- the words of a phrase that are kept, each with its place -/
def bgL : Nat → List Int → List (Int × Int)
  | _, [] => []
  | k, w :: r => if w = 0 then bgL (k + 1) r else (w, (k : Int)) :: bgL (k + 1) r
theorem bgL_app : ∀ (l : List Int) (k : Nat) (w : Int), bgL k (l ++ [w]) = bgL k l ++ (if w = 0 then [] else [(w, ((k + l.length : Nat) : Int))])
  | [], k, w => by
    show (if w = 0 then [] else [(w, (k : Int))]) = _
    rfl
  | a :: l, k, w => by
    have ih := bgL_app l (k + 1) w
    show (if a = 0 then bgL (k + 1) (l ++ [w]) else (a, (k : Int)) :: bgL (k + 1) (l ++ [w])) = (if a = 0 then bgL (k + 1) l else (a, (k : Int)) :: bgL (k + 1) l) ++ _
    rw [ih, show k + (a :: l).length = k + 1 + l.length by rw [List.length_cons]; omega]
    by_cases z : a = 0
    · rw [if_pos z, if_pos z]
    · rw [if_neg z, if_neg z]; rfl
theorem bgL_len : ∀ (l : List Int) (k : Nat), (bgL k l).length = bigF l
  | [], _ => rfl
  | a :: l, k => by
    have ih := bgL_len l (k + 1)
    show (if a = 0 then bgL (k + 1) l else (a, (k : Int)) :: bgL (k + 1) l).length = (if a = 0 then 0 else 1) + bigF l
    by_cases z : a = 0
    · rw [if_pos z, if_pos z, ih]; omega
    · rw [if_neg z, if_neg z, List.length_cons, ih]; omega
theorem GR.e20 {h0 h : XH} {q : Int} {bs : List Int} (g : GR h0 q bs) (P : PX h0 h q) : xpl h 53 20 = q := (P.2.2.1 20 (by decide) (by decide)).trans g.2.2.2.2
/-- the rows of the question -/
theorem QC.rows {h : XH} {q : Int} (C : QC h q) : (xtg h q = 12 ∧ xpl h q 1 = q + 1 ∧ xpl h q 2 = q + 2 ∧ xpl h q 3 = q + 3 ∧ xpl h q 4 = q + 4 ∧ xpl h q 5 = q + 5 ∧ xpl h q 6 = q + 6 ∧ xpl h q 7 = q + 7 ∧ xpl h q 8 = q + 8 ∧ xpl h q 9 = q + 9 ∧ xpl h q 11 = q + 10 ∧ xpl h q 12 = q + 11) ∧ ∀ k : Int, 1 ≤ k → k ≤ 9 → xtg h (q + k) = 100 ∧ xln h (q + k) = 41 := by
  obtain ⟨a, b, c, e, f, g⟩ := C
  exact ⟨⟨b, (c 1 (by decide) (by decide)).1, (c 2 (by decide) (by decide)).1, (c 3 (by decide) (by decide)).1, (c 4 (by decide) (by decide)).1, (c 5 (by decide) (by decide)).1, (c 6 (by decide) (by decide)).1, (c 7 (by decide) (by decide)).1, (c 8 (by decide) (by decide)).1, (c 9 (by decide) (by decide)).1, e.1, f⟩, fun k k1 k9 => (c k k1 k9).2⟩
/-- the frame without the ground -/
def PY (h0 h : XH) (q : Int) : Prop := xsm (fun c => c = 53 ∨ c = 63 ∨ (q ≤ c ∧ c ≤ q + 11)) h0 h ∧ (∀ k, k ≠ 24 → k ≠ 25 → xpl h 53 k = xpl h0 53 k) ∧ (∀ k, k ≠ 0 → k ≠ 10 → xpl h q k = xpl h0 q k) ∧ xnx h = xnx h0 ∧ xsl h = xsl h0
theorem PY.row {h0 h : XH} {q c k v : Int} (P : PY h0 h q) (C : QC h0 q) (hc : (q + 1 ≤ c ∧ c ≤ q + 11) ∨ (c = q ∧ (k = 0 ∨ k = 10))) (k0 : 0 ≤ k) : PY h0 (xst h c k v) q := by
  obtain ⟨⟨a1, -, -⟩, -⟩ := C
  exact ⟨P.1.st k0 (Or.inl (Or.inr (Or.inr (by omega)))), fun j x y => (xpl_oa (by omega)).trans (P.2.1 j x y), fun j x y => by
    rw [xpl_st, if_neg (by omega)]; exact P.2.2.1 j x y, P.2.2.2.1, P.2.2.2.2⟩
theorem PY.s53 {h0 h : XH} {q k v : Int} (P : PY h0 h q) (C : QC h0 q) (hk : k = 24 ∨ k = 25) : PY h0 (xst h 53 k v) q := by
  obtain ⟨⟨a1, -, -⟩, -⟩ := C
  exact ⟨P.1.st (by omega) (Or.inl (Or.inl rfl)), fun j x y => (xpl_ok (by omega)).trans (P.2.1 j x y), fun j x y => (xpl_oa (by omega)).trans (P.2.2.1 j x y), P.2.2.2.1, P.2.2.2.2⟩
theorem s_M_put {G : XG} {d : Nat} {h : XH} {Q : XV → XH → Prop} {X : Nat → XH → Prop} {h0 : XH} {q its n w : Int} {bs : List Int} (g : GR h0 q bs) (P : PX h0 h q) (hw : xpl h q 10 = w) (w0 : 0 ≤ w) (w1 : w < 42)
    (hq : PX h0 (xst (xst (xst h (q + 10) w its) (q + 11) w n) q 10 (w + 1)) q → Q xN (xst (xst (xst h (q + 10) w its) (q + 11) w n) q 10 (w + 1))) : xwp G m_M_put (d + 1) 0 [xR 53, xL its, xZ, xI n] [] h Q X := by
  have e20 := g.e20 P
  have C := P.qc g.2.1
  obtain ⟨⟨c12, -, -, -, -, -, -, -, -, -, c11, c13⟩, -⟩ := C.rows
  obtain ⟨⟨b0, b1, b2⟩, -, -, ⟨-, b4, b5⟩, -, b6, b7⟩ := C
  have C0 := g.2.1
  have Y : PY h0 h q := P.2
  refine v_M_put_0 P.1 ?_
  rw [e20, c11, c13, hw]
  exact ⟨c12, b4, by omega, w0, by omega, b6, by omega, by omega, ⟨by omega, by omega⟩, by omega, fun F9 => hq ⟨F9, ((Y.row C0 (Or.inl ⟨by omega, by omega⟩) w0).row C0 (Or.inl ⟨by omega, by omega⟩) w0).row C0 (Or.inr ⟨rfl, Or.inr rfl⟩) (by decide)⟩⟩
/-- a phrase as far as it is read -/
def PhR (h : XH) (q p fr : Int) (ws : List Int) : Prop := xpl h (q + 7) p = (bgL 0 ws).length ∧ xpl h (q + 8) p = ws.length ∧ xpl h q 10 = fr + (bgL 0 ws).length ∧ ∀ (j : Nat) (v : Int × Int), (bgL 0 ws)[j]? = some v → xpl h (q + 10) (fr + j) = v.1 ∧ xpl h (q + 11) (fr + j) = v.2
/-- what the reading of a core leaves: the rows of all other parts, their words, the number of parts, the brackets -/
def KP (h h' : XH) (q p fr : Int) : Prop := (∀ c k, q + 1 ≤ c → c ≤ q + 9 → k ≠ p → xpl h' c k = xpl h c k) ∧ (∀ c k, c = q + 10 ∨ c = q + 11 → k < fr → xpl h' c k = xpl h c k) ∧ xpl h' q 0 = xpl h q 0 ∧ xpl h' 53 25 = xpl h 53 25
theorem KP.refl (h : XH) (q p fr : Int) : KP h h q p fr := ⟨fun _ _ _ _ _ => rfl, fun _ _ _ _ => rfl, rfl, rfl⟩
theorem KP.trans {h h1 h2 : XH} {q p fr : Int} (a : KP h h1 q p fr) (b : KP h1 h2 q p fr) : KP h h2 q p fr := ⟨fun c k x y z => (b.1 c k x y z).trans (a.1 c k x y z), fun c k x y => (b.2.1 c k x y).trans (a.2.1 c k x y), b.2.2.1.trans a.2.2.1, b.2.2.2.trans a.2.2.2⟩
theorem KP.let {h h' : XH} {q p fr : Int} (F : xFix h) (C : QC h q) (S : xsm (fun c => c = 63) h h') : KP h h' q p fr := by
  have h9 := F.nx
  obtain ⟨⟨a1, a2, -⟩, -⟩ := C
  exact ⟨fun c k x y _ => S.pl (by omega) (by omega) k, fun c k x _ => S.pl (by omega) (by omega) k, S.pl (by omega) (by omega) 0, S.pl (by omega) (by decide) 25⟩
/-- the word that a run is -/
def wdT (bs : List Int) (t : Nat) : Int := ntW bs (tP bs t) 0
theorem run_at {bs : List Int} {t : Nat} (k : tK bs t = 300) : (0 ≤ tP bs t ∧ 0 < tA bs (t + 1) - tP bs t ∧ tP bs t + (tA bs (t + 1) - tP bs t) ≤ bs.length) ∧ (∀ k, 0 ≤ k → k < tA bs (t + 1) - tP bs t → sgn (lat bs (tP bs t + k)) ≠ 0) ∧ tP bs t + (tA bs (t + 1) - tP bs t) = tA bs (t + 1) ∧ wdT bs t = if smallL (runL bs (tP bs t) (tA bs (t + 1))) = true then 0 else rwL (runL bs (tP bs t) (tA bs (t + 1))) := by
  obtain ⟨z1, z2⟩ := tK_300 k
  obtain ⟨u1, u2, u3, u4, u5, u6, u7⟩ := tT_run z1
  refine ⟨⟨u6, by omega, by omega⟩, fun k k0 k1 => re_all bs (i := tP bs t) (lim := bs.length) (k := k) k0 (by omega), by omega, ?_⟩
  unfold wdT ntW
  rw [if_neg u1, if_neg u2, u3]
theorem s_M_run {G : XG} {d : Nat} {h : XH} {Q : XV → XH → Prop} {X : Nat → XH → Prop} {h0 : XH} {q p fr : Int} {bs ws : List Int} {t : Nat} (g : GR h0 q bs) (P : PX h0 h q) (T : TK h bs t) (k : tK bs t = 300) (p0 : 0 ≤ p) (p1 : p ≤ 40) (R : PhR h q p fr ws) (f0 : 0 ≤ fr) (f1 : fr + ws.length ≤ 40)
    (hq : ∀ h', PX h0 h' q → TK h' bs (t + 1) → PhR h' q p fr (ws ++ [wdT bs t]) → KP h h' q p fr → (∀ c, q + 1 ≤ c → c ≤ q + 9 → c ≠ q + 7 → c ≠ q + 8 → xpl h' c p = xpl h c p) → Q xN h') : xwp G m_M_run (d + 8) 0 [xR 53, xI p] [] h Q X := by
  obtain ⟨r79, r78, r80⟩ := T.rows g P
  have r80 := r80 (by omega)
  have e := T.2.2
  have t4 := T.1
  have t5 := (tK_300 k).2
  have M := P.mtr g.2.1 g.2.2.1
  have C0 := g.2.1
  obtain ⟨⟨a0, a1, a2⟩, ar, ae, aw⟩ := run_at k
  obtain ⟨p7, p8, p10, pw⟩ := R
  have bl := bgL_len ws 0
  have bl2 := bigF_le ws
  obtain ⟨⟨qb0, qb1, -⟩, -⟩ := C0
  have C0 := g.2.1
  have nT : ∀ h', xpl h' 53 24 = ((t : Int) + 1) → TK h' bs (t + 1) := fun h' e => ⟨by omega, fun j hj => by
    by_cases z : j = t
    · rw [z]; omega
    · exact T.2.1 j (by omega), by rw [e]; omega⟩
  -- behind the word
  have at73 : ∀ h1, PX h0 h1 q → xpl h1 53 24 = t → xpl h1 (q + 7) p = (bgL 0 (ws ++ [wdT bs t])).length → xpl h1 (q + 8) p = ws.length → xpl h1 q 10 = fr + (bgL 0 (ws ++ [wdT bs t])).length → (∀ (j : Nat) (v : Int × Int), (bgL 0 (ws ++ [wdT bs t]))[j]? = some v → xpl h1 (q + 10) (fr + j) = v.1 ∧ xpl h1 (q + 11) (fr + j) = v.2) → KP h h1 q p fr → (∀ c, q + 1 ≤ c → c ≤ q + 9 → c ≠ q + 7 → c ≠ q + 8 → xpl h1 c p = xpl h c p) → xwp G m_M_run (d + 8) 73 [xR 53, xI p] [] h1 Q X := fun h1 P1 e1 w7 w8 w10 ww K1 o1 => by
    have e20 := g.e20 P1
    obtain ⟨⟨c12, -, -, -, -, -, -, -, c8, -, -, -⟩, cr⟩ := (P1.qc C0).rows
    have c8t := cr 8 (by decide) (by decide)
    have Y : PY h0 h1 q := P1.2
    refine v_M_run_73 P1.1 ?_
    rw [e20, c8, e1, w8]
    refine ⟨c12, c8t.1, p0, by omega, ⟨by omega, by omega⟩, by omega, ⟨by omega, by omega⟩, fun F9 => ?_⟩
    refine hq _ ⟨F9, (Y.row C0 (Or.inl ⟨by omega, by omega⟩) p0).s53 C0 (Or.inl rfl)⟩ (nT _ (xpl_hit _ _ _ _)) ⟨?_, ?_, ?_, fun j v hv => ?_⟩ ⟨fun c k x y z => ?_, fun c k x y => ?_, ?_, ?_⟩ (fun c x y z z2 => ?_)
    · rw [xpl_oa (by omega), xpl_oa (by omega)]; exact w7
    · rw [xpl_oa (by omega), xpl_hit, List.length_append]
      show (ws.length : Int) + 1 = ((ws.length + 1 : Nat) : Int)
      omega
    · rw [xpl_oa (by omega), xpl_oa (by omega)]; exact w10
    · rw [xpl_oa (by omega), xpl_oa (by omega), xpl_oa (by omega), xpl_oa (by omega)]; exact ww j v hv
    · rw [xpl_oa (by omega), xpl_ok z]; exact K1.1 c k x y z
    · rw [xpl_oa (by omega), xpl_oa (by omega)]; exact K1.2.1 c k x y
    · rw [xpl_oa (by omega), xpl_oa (by omega)]; exact K1.2.2.1
    · rw [xpl_ok (by decide), xpl_oa (by omega)]; exact K1.2.2.2
    · rw [xpl_oa (by omega), xpl_oa z2]; exact o1 c x y z z2
  refine v_M_run_0 P.1 ?_
  rw [e, r79, r80]
  refine ⟨by omega, by omega, ?_⟩
  refine p_M_isSmall P.1 M a0 (by omega) a2 ar ?_
  rw [ae]
  refine v_M_run_22 P.1 ?_
  refine ⟨fun q1 => ?_, fun q1 => ?_⟩
  · have sm := bz0 q1
    have wd : wdT bs t = rwL (runL bs (tP bs t) (tA bs (t + 1))) := by rw [aw, sm]; rfl
    have wp := rwL_run (bs := bs) (s := tP bs t) (e := tA bs (t + 1)) (by omega) (by have := ar 0 (by omega) (by omega); rwa [show tP bs t + 0 = tP bs t by omega] at this)
    rw [← wd] at wp
    have ba : bgL 0 (ws ++ [wdT bs t]) = bgL 0 ws ++ [(wdT bs t, (ws.length : Int))] := by
      rw [bgL_app, if_neg (by omega), show 0 + ws.length = ws.length by omega]
    rw [e, r79, r80]
    refine ⟨by omega, by omega, ?_⟩
    refine s_M_wordAt P.1 M a0 a1 a2 ar (fun h1 F1 S1 n1 l1 => ?_)
    rw [ae, ← wd]
    have P1 := P.let C0 S1 n1 l1 F1
    have K1 : KP h h1 q p fr := KP.let P.1 (P.qc C0) S1
    have nx := P.1.nx
    have nx0 := P.2.2.2.2.1
    have pl1 : ∀ c k, c ≠ 63 → c < xnx h → xpl h1 c k = xpl h c k := fun c k x y => S1.pl y x k
    have e20 := g.e20 P1
    obtain ⟨⟨c12, -, -, -, -, -, -, c7, c8, -, -, -⟩, cr⟩ := (P1.qc C0).rows
    have c8t := cr 8 (by decide) (by decide)
    have v8 : xpl h1 (q + 8) p = ws.length := by rw [pl1 _ _ (by omega) (by omega)]; exact p8
    refine v_M_run_48 P1.1 ?_
    rw [e20, c8, v8]
    refine ⟨c12, c8t.1, p0, by omega, ?_⟩
    refine s_M_put g P1 (w := fr + (bgL 0 ws).length) (by rw [pl1 _ _ (by omega) (by omega)]; exact p10) (by omega) (by omega) (fun P2 => ?_)
    obtain ⟨h2, e2⟩ : ∃ h2, h2 = xst (xst (xst h1 (q + 10) (fr + (bgL 0 ws).length) (wdT bs t)) (q + 11) (fr + (bgL 0 ws).length) ws.length) q 10 (fr + (bgL 0 ws).length + 1) := ⟨_, rfl⟩
    rw [← e2] at P2 ⊢
    have e20 := g.e20 P2
    obtain ⟨⟨c12, -, -, -, -, -, -, c7, -, -, -, -⟩, cr⟩ := (P2.qc C0).rows
    have c7t := cr 7 (by decide) (by decide)
    have v7 : xpl h2 (q + 7) p = (bgL 0 ws).length := by rw [e2, xpl_oa (by omega), xpl_oa (by omega), xpl_oa (by omega), pl1 _ _ (by omega) (by omega)]; exact p7
    have Y2 : PY h0 h2 q := P2.2
    refine v_M_run_60 P2.1 ?_
    rw [e20, c7, v7]
    refine ⟨c12, c7t.1, p0, by omega, ⟨by omega, by omega⟩, by omega, fun F9 => ?_⟩
    refine at73 _ ⟨F9, Y2.row C0 (Or.inl ⟨by omega, by omega⟩) p0⟩ ?_ ?_ ?_ ?_ (fun j v hv => ?_) ⟨fun c k x y z => ?_, fun c k x y => ?_, ?_, ?_⟩ (fun c x y z z2 => ?_)
    · rw [xpl_oa (by omega), e2, xpl_oa (by omega), xpl_oa (by omega), xpl_oa (by omega), pl1 _ _ (by decide) (by omega)]; exact e
    · rw [xpl_hit, ba, List.length_append]
      show ((bgL 0 ws).length : Int) + 1 = (((bgL 0 ws).length + 1 : Nat) : Int)
      omega
    · rw [xpl_oa (by omega), e2, xpl_oa (by omega), xpl_oa (by omega), xpl_oa (by omega)]; exact v8
    · rw [xpl_oa (by omega), e2, xpl_hit, ba, List.length_append]
      show fr + ((bgL 0 ws).length : Int) + 1 = fr + (((bgL 0 ws).length + 1 : Nat) : Int)
      omega
    · rw [xpl_oa (by omega), xpl_oa (by omega), e2]
      rw [ba] at hv
      by_cases z : j < (bgL 0 ws).length
      · rw [List.getElem?_append_left z] at hv
        rw [xpl_oa (by omega), xpl_oa (by omega), xpl_ok (by omega), xpl_oa (by omega), xpl_ok (by omega), xpl_oa (by omega), pl1 _ _ (by omega) (by omega), pl1 _ _ (by omega) (by omega)]
        exact pw j v hv
      · have hl := (List.getElem?_eq_some_iff.mp hv).1
        rw [List.length_append] at hl
        have hl : j < (bgL 0 ws).length + 1 := hl
        have ej : j = (bgL 0 ws).length := by omega
        subst ej
        rw [List.getElem?_append_right (Nat.le_refl _), Nat.sub_self] at hv
        have hv : (wdT bs t, (ws.length : Int)) = v := Option.some.inj hv
        rw [← hv]
        rw [xpl_oa (by omega), xpl_oa (by omega), xpl_hit, xpl_oa (by omega), xpl_hit]
        exact ⟨rfl, rfl⟩
    · rw [xpl_ok z, e2, xpl_oa (by omega), xpl_oa (by omega), xpl_oa (by omega)]; exact K1.1 c k x y z
    · rw [xpl_oa (by omega), e2, xpl_oa (by omega), xpl_ok (by omega), xpl_ok (by omega)]; exact K1.2.1 c k x y
    · rw [xpl_oa (by omega), e2, xpl_ok (by decide), xpl_oa (by omega), xpl_oa (by omega)]; exact K1.2.2.1
    · rw [xpl_oa (by omega), e2, xpl_oa (by omega), xpl_oa (by omega), xpl_oa (by omega)]; exact K1.2.2.2
    · rw [xpl_oa z, e2, xpl_oa (by omega), xpl_oa (by omega), xpl_oa (by omega)]; exact pl1 _ _ (by omega) (by omega)
  · have sm := bz1 q1
    have wd : wdT bs t = 0 := by rw [aw, if_pos sm]
    have ba : bgL 0 (ws ++ [wdT bs t]) = bgL 0 ws := by rw [bgL_app, if_pos wd, List.append_nil]
    exact at73 h P e (by rw [ba]; exact p7) p8 (by rw [ba]; exact p10) (fun j v hv => pw j v (by rwa [ba] at hv)) (KP.refl _ _ _ _) (fun _ _ _ _ _ => rfl)

end
