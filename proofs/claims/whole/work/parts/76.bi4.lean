/-! ===== bi4 ===== -/
section
/-! the calls that change the store -/
theorem STW.fx {h : XH} (F : xFix h) {c : Int} (c0 : 0 ≤ c) (c1 : c < 93) (w : STW h c) : 5 ≤ c ∧ c ≤ 9 := by
  have t := fxT F c0 c1
  unfold STW ALC at w
  rcases w with w | w | (w | w) | (w | w) | w
  · omega
  · omega
  · omega
  · exact absurd w.1 t.1
  · omega
  · exact absurd w.1 t.1
  · have := t.2.1 w; omega
theorem STW.tg {h : XH} {c : Int} (hc : 93 ≤ c) (w : STW h c) : (xtg h c = 110 ∧ (xpl h c (-1) = 6 ∨ xpl h c (-1) = 7)) ∨ xtg h c = 9 := by
  unfold STW ALC at w
  rcases w with w | w | (w | w) | (w | w) | w
  · omega
  · omega
  · omega
  · exact Or.inl ⟨w.1, Or.inl w.2⟩
  · omega
  · exact Or.inl ⟨w.1, Or.inr w.2⟩
  · exact Or.inr w
theorem STW.cow {h : XH} (F : xFix h) {c : Int} (w : STW h c) : COW h c := by
  unfold STW ALC at w
  rcases w with w | w | (w | w) | (w | w) | w
  · exact Or.inl (by omega)
  · exact Or.inl (by omega)
  · exact Or.inl (by omega)
  · exact tgs.cow F (Or.inl w.1)
  · exact Or.inl (by omega)
  · exact tgs.cow F (Or.inl w.1)
  · exact tgs.cow F (Or.inr (Or.inl w))
/-- what a writing of the store leaves -/
def CIX (h : XH) (s : CS) (f : List (Txt × Bool)) (a : Int) (qa pa : List Int) : Prop :=
  (xFix h ∧ MKA h) ∧ TapeR h (tC s) ∧ (∃ V, VocR h V) ∧ xpl h 0 5 = wC s ∧ QuR h a qa pa (dC s) f ∧ (∃ es, ALr h 34 es ∧ es.length ≤ 5) ∧ xpl h 35 10 = 0
theorem CIR.cix {h : XH} {s : CS} (R : CIR h s) : ∃ a qa pa, CIX h s (fC s) a qa pa := by
  obtain ⟨FM, T, -, V, w, ⟨a, qa, pa, QR⟩, A, z10, W⟩ := R
  exact ⟨a, qa, pa, FM, T, V, w, QR, A, z10⟩
theorem CIX.str {h h1 : XH} {s : CS} {f : List (Txt × Bool)} {a : Int} {qa pa : List Int} (R : CIX h s f a qa pa) (F1 : xFix h1) (e : xsm (STW h) h h1) : CIX h1 s f a qa pa ∧ xsm (CLW h) h h1 ∧ vlen h1 = vlen h := by
  obtain ⟨⟨F, M⟩, T, ⟨V, VR⟩, w, QR, ⟨es, A, hes⟩, z10⟩ := R
  have hnx := F.nx
  have lo : ∀ c k, 0 ≤ c → c < 93 → ¬ (5 ≤ c ∧ c ≤ 9) → xpl h1 c k = xpl h c k := fun c k c0 c1 c2 => e.pl (by omega) (fun y => c2 (STW.fx F c0 c1 y)) k
  obtain ⟨VR', vl⟩ := VR.frame e (fun c v y => by
    have v0 := VOW.fx M v
    have t0 : xtg h c = 101 ∨ xtg h c = 100 ∨ c = 12 := by unfold VOW at v; omega
    by_cases z : 93 ≤ c
    · have := STW.tg z y; omega
    · by_cases z0 : 0 ≤ c
      · have := STW.fx F z0 (by omega) y; omega
      · unfold STW ALC at y
        omega) F
  refine ⟨⟨⟨F1, M.frame F e⟩, T.keep (lo 1 3 (by decide) (by decide) (by decide)) (fun k => lo 2 k (by decide) (by decide) (by decide)), ⟨V, VR'⟩, (lo 0 5 (by decide) (by decide) (by decide)).trans w, QR.frame F e (fun y => by have := STW.fx F (by decide) (by decide) y; omega) (fun c c1 c2 y => by have := STW.fx F (by omega) (by omega) y; omega) (fun c c1 c2 y => by have := STW.tg c1 y; omega) (fun c v y => ?_), ⟨es, A.frame F e (fun c v y => ?_), hes⟩, (lo 35 10 (by decide) (by decide) (by decide)).trans z10⟩, CLW.of e (fun c hc => STW.cow F hc), vl⟩
  · unfold DRC at v
    by_cases z : 93 ≤ c
    · have := STW.tg z y; omega
    · by_cases z0 : 0 ≤ c
      · have := STW.fx F z0 (by omega) y
        have t := fxT F z0 (by omega)
        rcases v with v | v | v
        · omega
        · exact t.1 v.1
        · omega
      · unfold STW ALC at y
        omega
  · rcases v with v | v
    · have := STW.fx F (c := c) (by omega) (by omega) y; omega
    · unfold STW ALC at y
      have t34 := ft_34 F
      rcases y with y | y | (y | y) | (y | y) | y
      · rw [y, ft_5 F] at v; exact absurd v.1 (by decide)
      · rw [y, ft_8 F] at v; exact absurd v.1 (by decide)
      · rw [y, ft_6 F] at v; exact absurd v.1 (by decide)
      · omega
      · rw [y, ft_7 F] at v; exact absurd v.1 (by decide)
      · omega
      · rw [y] at v; exact absurd v.1 (by decide)
/-- with a store, and with tables that are the store's -/
theorem CIX.cir {h : XH} {s : CS} {a : Int} {qa pa bp fp : List Int} {b : List Txt} {f : List (Txt × Bool)} {z : List Int} {m : Int} (R : CIX h s f a qa pa) (S : StoreR h bp fp b f z m) (W : CWF ((tC s, b, f, z, m), s.2)) : CIR h ((tC s, b, f, z, m), s.2) := by
  obtain ⟨FM, T, V, w, QR, A, z10⟩ := R
  exact ⟨FM, T, ⟨bp, fp, S⟩, V, w, ⟨a, qa, pa, QR⟩, A, z10, W⟩
theorem RFW.fx {h : XH} {c : Int} (w : RFW h c) : (40 ≤ c ∧ c ≤ 51) ∨ (93 ≤ c ∧ (xtg h c = 4 ∨ xtg h c = 5)) := w
/-- the same without the questions' tables -/
def CIY (h : XH) (s : CS) (a : Int) (qa pa : List Int) : Prop :=
  (xFix h ∧ MKA h) ∧ TapeR h (tC s) ∧ (∃ V, VocR h V) ∧ xpl h 0 5 = wC s ∧ (xpl h 0 6 = a ∧ DraR h a qa pa (dC s)) ∧ (∃ es, ALr h 34 es ∧ es.length ≤ 5) ∧ xpl h 35 10 = 0
theorem CIX.y {h : XH} {s : CS} {f : List (Txt × Bool)} {a : Int} {qa pa : List Int} (R : CIX h s f a qa pa) : CIY h s a qa pa := ⟨R.1, R.2.1, R.2.2.1, R.2.2.2.1, ⟨R.2.2.2.2.1.1, R.2.2.2.2.1.2.1⟩, R.2.2.2.2.2.1, R.2.2.2.2.2.2⟩
/-- filled in anew -/
theorem CIY.rf {h h1 : XH} {s : CS} {a : Int} {qa pa bp fp : List Int} {b : List Txt} {f : List (Txt × Bool)} {z : List Int} {m : Int} (R : CIY h s a qa pa) (S : StoreR h bp fp b f z m) (F1 : xFix h1) (B : RB h h1) (c0 : (dC s).2.length = 0 → xpl h1 40 5 = 0) (c1 : 0 < (dC s).2.length → FitsR h1 pa (dC s) f ∧ FndT h1 (dC s) f f.length) :
    CIX h1 s f a qa pa ∧ StoreR h1 bp fp b f z m ∧ xsm (CLW h) h h1 ∧ vlen h1 = vlen h ∧ xnx h1 = xnx h ∧ xsl h1 = xsl h := by
  obtain ⟨⟨F, M⟩, T, ⟨V, VR⟩, w, ⟨q1, q2⟩, ⟨es, A, hes⟩, z10⟩ := R
  have hnx := F.nx
  have e := B.1
  have lo : ∀ c k, 0 ≤ c → c < 93 → ¬ (40 ≤ c ∧ c ≤ 51) → xpl h1 c k = xpl h c k := fun c k _ c1 c2 => e.pl (by omega) (fun y => by have := RFW.fx y; omega) k
  have n9 : ∀ c, RFW h c → xtg h c ≠ 110 ∧ xtg h c ≠ 9 ∧ (xtg h c = 13 → 93 ≤ c ∨ c < 53) := fun c y => by
    rcases RFW.fx y with y | y
    · have t := fxT F (c := c) (by omega) (by omega)
      exact ⟨t.1, fun v => by have := t.2.1 v; omega, fun v => Or.inr (t.2.2.1 v)⟩
    · exact ⟨by omega, by omega, fun v => Or.inl y.1⟩
  have nal : ∀ l c, l < 40 → ALC h l c → ¬ RFW h c := fun l c hl v y => by
    rcases v with v | v
    · have := RFW.fx y; omega
    · exact (n9 c y).1 v.1
  obtain ⟨VR', vl⟩ := VR.frame e (fun c v y => by
    have v0 := VOW.fx M v
    have t0 : xtg h c = 101 ∨ xtg h c = 100 ∨ c = 12 := by unfold VOW at v; omega
    have := RFW.fx y
    omega) F
  have D1 := q2.rf F B
  refine ⟨⟨⟨F1, M.frame F e⟩, T.keep (lo 1 3 (by decide) (by decide) (by decide)) (fun k => lo 2 k (by decide) (by decide) (by decide)), ⟨V, VR'⟩, (lo 0 5 (by decide) (by decide) (by decide)).trans w, ⟨(lo 0 6 (by decide) (by decide) (by decide)).trans q1, D1, c0, c1⟩, ⟨es, A.frame F e (fun c v y => nal 34 c (by decide) v y), hes⟩, (lo 35 10 (by decide) (by decide) (by decide)).trans z10⟩, S.frame F e (fun c v y => ?_), CLW.of e (fun c hc => ?_), vl, B.2.2.2.1, B.2.2.2.2⟩
  · unfold STF at v
    rcases v with v | v | v | v | v | v
    · have := RFW.fx y; omega
    · have := RFW.fx y; omega
    · exact nal 6 c (by decide) v y
    · exact nal 7 c (by decide) v y
    · exact (n9 c y).2.1 v
    · have := RFW.fx y; omega
  · rcases RFW.fx hc with y | y
    · exact Or.inl (by omega)
    · exact tgs.cow F (by omega)
theorem CIX.rf {h h1 : XH} {s : CS} {f0 : List (Txt × Bool)} {a : Int} {qa pa bp fp : List Int} {b : List Txt} {f : List (Txt × Bool)} {z : List Int} {m : Int} (R : CIX h s f0 a qa pa) (S : StoreR h bp fp b f z m) (F1 : xFix h1) (B : RB h h1) (c0 : (dC s).2.length = 0 → xpl h1 40 5 = 0) (c1 : 0 < (dC s).2.length → FitsR h1 pa (dC s) f ∧ FndT h1 (dC s) f f.length) :
    CIX h1 s f a qa pa ∧ StoreR h1 bp fp b f z m ∧ xsm (CLW h) h h1 ∧ vlen h1 = vlen h ∧ xnx h1 = xnx h ∧ xsl h1 = xsl h := R.y.rf S F1 B c0 c1
theorem dropF_len (f : List (Txt × Bool)) (k : Int) : (dropF f k).length = f.length := by
  unfold dropF
  split
  · rfl
  · unfold markI; rw [List.length_modify]
theorem dropF_mem {f : List (Txt × Bool)} {k : Int} (P : Txt → Prop) (h : ∀ t ∈ f, P t.1) : ∀ t ∈ dropF f k, P t.1 := by
  intro t ht
  unfold dropF at ht
  split at ht
  · exact h t ht
  · unfold markI at ht
    obtain ⟨i, hi⟩ := List.mem_iff_getElem?.mp ht
    rw [List.getElem?_modify] at hi
    cases z : f[i]? with
    | none => rw [z] at hi; cases hi
    | some x =>
      rw [z] at hi
      have hi : (if _ = i then ((x.1, true) : Txt × Bool) else x) = t := Option.some.inj hi
      have := h x (List.mem_of_getElem? z)
      split at hi <;> rw [← hi] <;> exact this
theorem dropB_mem {b : List Txt} {k : Int} {t : Txt} (h : t ∈ dropB b k) : t ∈ b := by
  unfold dropB at h
  split at h
  · exact h
  · exact List.mem_of_mem_eraseIdx h
theorem dropB_len (b : List Txt) (k : Int) : (dropB b k).length = if kidx b k = -1 then b.length else b.length - 1 := by
  unfold dropB
  have := kidx_rng b k
  split
  · rfl
  · rw [List.length_eraseIdx, if_pos (by omega)]
theorem CWF.drop {s : CS} (W : CWF s) (k : Int) : CWF ((tC s, dropB (bC s) k, dropF (fC s) k, zC s, mC s), s.2) := by
  obtain ⟨⟨w1, w2⟩, w3, w4, w5, w6, w7⟩ := W
  have h1 := dropF_len (fC s) k
  have h2 := dropB_len (bC s) k
  refine ⟨⟨⟨?_, w1.2⟩, ?_⟩, w3, w4, w5, fun t ht => w6 t (dropB_mem ht), dropF_mem TxW w7⟩
  · show (zC s).sum = ((dropF (fC s) k).length : Int)
    rw [h1]; exact w1.1
  · show (dropB (bC s) k).length + (dropF (fC s) k).length ≤ 60
    rw [h1, h2]
    split <;> omega
def cTakeOut (s : CS) (k : Int) : (Int × Int) × CS := if 0 ≤ k ∧ k < 100 then (if kidx (bC s) k = -1 ∧ sidx (fC s) k = -1 then ((2, 0), s) else ((0, if kidx (bC s) k = -1 then 0 else 1), ((tC s, dropB (bC s) k, dropF (fC s) k, zC s, mC s), s.2))) else ((1, 0), s)
theorem s_B_takeOut {G : XG} {d : Nat} {h : XH} {Q : XV → XH → Prop} {X : Nat → XH → Prop} {s : CS} {k n9 s9 : Int} (R : CIR h s) (M : Room h n9 s9) (hn : 0 ≤ n9) (hs : 0 ≤ s9) (q : CAN Q X xI h (cTakeOut s k) n9 s9) : xwp G m_B_takeOut (d + 8) 0 [xR 0, xI k, xZ] [] h Q X := by
  obtain ⟨e1, e2, e3, -⟩ := R.eqs
  have hr := R.room M
  have kr := kidx_rng (bC s) k
  have sr := sidx_rng (fC s) k
  obtain ⟨a, qa, pa, C⟩ := R.cix
  have W := R.wf
  have R0 := R
  obtain ⟨bp, fp, S⟩ := R.2.2.1
  unfold cTakeOut at q
  have big : 0 ≤ k → k < 100 → ¬ (kidx (bC s) k = -1 ∧ sidx (fC s) k = -1) → ∀ g : Int, g = (if kidx (bC s) k = -1 then 0 else 1) → xwp G m_Store_drop (d + 7) 0 [xR 5, xI k, xZ] [] h (fun v9 h9 => xwp G m_B_takeOut (d + 8) 54 [xR 0, xZ, xI g] (xpush v9 []) h9 Q X) X := by
    intro k0 k1 hne g hg
    rw [if_pos ⟨k0, k1⟩, if_neg hne, ← hg] at q
    have g01 : 0 ≤ g ∧ g ≤ 1 := by rw [hg]; split <;> exact ⟨by decide, by decide⟩
    refine s_Store_drop R.fx S (fun h1 bp1 F1 S1 n1 l1 St1 _ _ => ?_)
    obtain ⟨C1, L1, v1⟩ := C.str F1 S1
    have fin : ∀ h2, CIR h2 ((tC s, dropB (bC s) k, dropF (fC s) k, zC s, mC s), s.2) → xsm (CLW h) h h2 → xnx h2 = xnx h → xsl h2 = xsl h → vlen h2 = vlen h → xwp G m_B_takeOut (d + 8) 75 [xZ, xZ, xI g] [] h2 Q X := by
      intro h2 R2 L2 n2 l2 v2
      refine v_B_takeOut_75 R2.fx ?_
      refine ⟨?_, ?_⟩
      · exact g01
      · refine q.1 rfl h2 R2 L2 ?_ ?_
        · unfold nxP; rw [v2]; omega
        · unfold slP; rw [v2]; omega
    refine v_B_takeOut_54 F1 ?_
    refine ⟨fun q1 => ?_, fun q1 => ?_⟩
    · have z := of_decide_eq_false (bz0 q1)
      have ed : dropF (fC s) k = fC s := by unfold dropF; rw [if_pos (by omega)]
      refine fin h1 ?_ L1 n1 l1 v1
      have W' := W.drop k
      rw [ed] at St1 W' ⊢
      exact C1.cir St1 W'
    · rw [C1.2.2.2.2.1.1]
      refine s_Findings_refresh F1 St1.fil C1.2.2.2.2.1.2.1 W.2.2.1 (fun h2 F2 B2 c0 c1 => ?_)
      obtain ⟨C2, St2, L2, v2, n2, l2⟩ := C1.rf St1 F2 B2 c0 c1
      exact fin h2 (C2.cir St2 (W.drop k)) (CLW.trans L1 L2) (n2.trans n1) (l2.trans l1) (v2.trans v1)
  refine v_B_takeOut_0 R.fx ?_
  refine ⟨fun q1 => ?_, fun q1 => ?_⟩
  · refine ⟨?_, ?_⟩
    · first | exact R.ok | omega
    · refine ⟨?_, ?_⟩
      · first | exact R.ok | omega
      · intro F9
        rw [if_neg (by omega)] at q
        exact CAN.thr (k := 0) q R hn hs F9
  · refine ⟨fun q2 => ?_, fun q2 => ?_⟩
    · refine ⟨?_, ?_⟩
      · first | exact R.ok | omega
      · refine ⟨fun q3 => ?_, fun q3 => ?_⟩
        · rw [e1] at q3
          refine v_B_takeOut_21 R.fx ?_
          refine ⟨fun q1 => ?_, fun q1 => ?_⟩
          · refine ⟨?_, ?_⟩
            · first | exact R.ok | omega
            · refine ⟨fun q2 => ?_, fun q2 => ?_⟩
              · refine ⟨?_, ?_⟩
                · first | exact R.ok | omega
                · refine ⟨?_, ?_⟩
                  · first | exact R.ok | omega
                  · intro F9
                    rw [e2] at q2
                    rw [if_pos ⟨by omega, by omega⟩, if_pos ⟨q3, q2⟩] at q
                    exact CAN.thr (k := 1) q R hn hs F9
              · rw [e2] at q2
                exact big (by omega) (by omega) (fun y => q2 y.2) 0 (by rw [if_pos q3])
          · exact absurd rfl q1
        · rw [e1] at q3
          refine v_B_takeOut_21 R.fx ?_
          refine ⟨fun q1 => ?_, fun q1 => ?_⟩
          · refine ⟨?_, ?_⟩
            · first | exact R.ok | omega
            · refine ⟨fun q2 => ?_, fun q2 => ?_⟩
              · refine ⟨?_, ?_⟩
                · first | exact R.ok | omega
                · refine ⟨?_, ?_⟩
                  · first | exact R.ok | omega
                  · intro F9
                    exact absurd q1 (by decide)
              · exact absurd q1 (by decide)
          · exact big (by omega) (by omega) (fun y => q3 y.1) 1 (by rw [if_neg q3])
    · refine ⟨?_, ?_⟩
      · first | exact R.ok | omega
      · refine ⟨?_, ?_⟩
        · first | exact R.ok | omega
        · intro F9
          rw [if_neg (by omega)] at q
          exact CAN.thr (k := 0) q R hn hs F9
theorem mgF_mem {f : List (Txt × Bool)} {s n : Nat} {t : Txt × Bool} (h : t ∈ mgF f s n) : t ∈ f := by
  unfold mgF segF at h
  rcases List.mem_append.mp h with y | y
  · exact List.mem_of_mem_take y
  · rcases List.mem_append.mp y with y | y
    · exact List.mem_of_mem_drop (List.mem_of_mem_take (List.mem_filter.mp y).1)
    · exact List.mem_of_mem_drop y
theorem mgF_len (f : List (Txt × Bool)) (s n : Nat) : (mgF f s n).length ≤ f.length := by
  unfold mgF segF
  have := List.length_filter_le (fun t : Txt × Bool => !t.2) ((f.drop s).take n)
  simp only [List.length_append, List.length_take, List.length_drop] at *
  omega
theorem mwF_all : ∀ (n : Nat) (z : List Int) (f : List (Txt × Bool)) (m : Int), (∀ t ∈ (mwF n z f m).2.1, t ∈ f) ∧ (mwF n z f m).2.1.length ≤ f.length ∧ m ≤ (mwF n z f m).2.2 ∧ (mwF n z f m).2.2 ≤ m + n
  | 0, z, f, m => ⟨fun _ y => y, Nat.le_refl _, Int.le_refl _, by show m ≤ m + ((0 : Nat) : Int); omega⟩
  | n + 1, z, f, m => by
    have e : mwF (n + 1) z f m = if f3 z = -1 then (z, f, m) else mwF n (mgZ z (f3 z).toNat 3 f) (mgT z (f3 z).toNat 3 f) (m + 1) := rfl
    rw [e]
    by_cases y : f3 z = -1
    · rw [if_pos y]; exact ⟨fun _ y => y, Nat.le_refl _, Int.le_refl _, by show m ≤ m + ((n + 1 : Nat) : Int); omega⟩
    · rw [if_neg y]
      obtain ⟨a, b, c, d⟩ := mwF_all n (mgZ z (f3 z).toNat 3 f) (mgT z (f3 z).toNat 3 f) (m + 1)
      refine ⟨fun t ht => mgF_mem (a t ht), Nat.le_trans b (mgF_len _ _ _), by omega, by omega⟩
def cmR (s : CS) : List Int × List (Txt × Bool) × Int := mwF 60 (fbZ (zC s) (bC s)) (fbF (fC s) (bC s)) (mC s)
def cCommit (s : CS) : (Int × Int) × CS := ((0, (cmR s).1.length), ((tC s, [], (cmR s).2.1, (cmR s).1, (cmR s).2.2), s.2))
theorem s_B_commit {G : XG} {d : Nat} {h : XH} {Q : XV → XH → Prop} {X : Nat → XH → Prop} {s : CS} {n9 s9 : Int} (R : CIR h s) (M : Room h n9 s9) (hn : (bC s).length ≤ n9) (hs : 130 * (bC s).length ≤ s9) (hm : mC s ≤ 800000) (q : CAN Q X xI h (cCommit s) n9 s9) : xwp G m_B_commit (d + 9) 0 [xR 0] [] h Q X := by
  have hr := R.room M
  obtain ⟨a, qa, pa, C⟩ := R.cix
  have W := R.wf
  obtain ⟨bp, fp, S⟩ := R.2.2.1
  have al := mwF_all 60 (fbZ (zC s) (bC s)) (fbF (fC s) (bC s)) (mC s)
  have fl : (fbF (fC s) (bC s)).length = (fC s).length + (bC s).length := by unfold fbF; rw [List.length_append, List.length_map]
  refine v_B_commit_0 R.fx ?_
  refine s_Store_fileBuffer R.fx S W.1.1 W.1.2 (by omega) (by omega) (fun h1 F1 S1 n1 l1 St1 => ?_)
  obtain ⟨C1, L1, v1⟩ := C.str F1 S1
  refine v_B_commit_7 F1 ?_
  refine s_Store_mergeWhereDue F1 St1 W.1.1.file W.2.1 (by omega) (fun h2 fp2 F2 S2 n2 l2 St2 W2 => ?_)
  obtain ⟨C2, L2, v2⟩ := C1.str F2 S2
  refine v_B_commit_14 F2 ?_
  rw [C2.2.2.2.2.1.1]
  refine s_Findings_refresh F2 St2.fil C2.2.2.2.2.1.2.1 W.2.2.1 (fun h3 F3 B3 c0 c1 => ?_)
  obtain ⟨C3, St3, L3, v3, n3, l3⟩ := C2.rf St2 F3 B3 c0 c1
  have e4 := St3.2.2.2.2.1.1
  refine v_B_commit_32 F3 ?_
  rw [e4]
  refine q.1 rfl h3 (C3.cir St3 ⟨⟨W2, ?_⟩, ?_, W.2.2.1, W.2.2.2.1, fun t ht => absurd ht List.not_mem_nil, fun t ht => ?_⟩) (CLW.trans (CLW.trans L1 L2) L3) ?_ ?_
  · show 0 + (mwF 60 (fbZ (zC s) (bC s)) (fbF (fC s) (bC s)) (mC s)).2.1.length ≤ 60
    have := W.1.2
    omega
  · have := W.2.1
    show 0 ≤ (mwF 60 (fbZ (zC s) (bC s)) (fbF (fC s) (bC s)) (mC s)).2.2
    omega
  · have h1 := al.1 t ht
    unfold fbF at h1
    rcases List.mem_append.mp h1 with y | y
    · exact W.2.2.2.2.2 t y
    · obtain ⟨x, x1, x2⟩ := List.mem_map.mp y
      rw [← x2]
      exact W.2.2.2.2.1 x x1
  · unfold nxP; rw [v3, v2, v1]; omega
  · unfold slP; rw [v3, v2, v1]; omega
def cMergeAll (s : CS) : (Int × Int) × CS := ((0, maG (zC s) (fC s)), ((tC s, bC s, maT (zC s) (fC s), maZ (zC s) (fC s), maM (zC s) (fC s) (mC s)), s.2))
theorem s_B_mergeAll {G : XG} {d : Nat} {h : XH} {Q : XV → XH → Prop} {X : Nat → XH → Prop} {s : CS} {n9 s9 : Int} (R : CIR h s) (hn : 0 ≤ n9) (hs : 0 ≤ s9) (hm : mC s ≤ 800000) (q : CAN Q X xI h (cMergeAll s) n9 s9) : xwp G m_B_mergeAll (d + 8) 0 [xR 0, xZ] [] h Q X := by
  obtain ⟨a, qa, pa, C⟩ := R.cix
  have W := R.wf
  obtain ⟨bp, fp, S⟩ := R.2.2.1
  refine v_B_mergeAll_0 R.fx ?_
  refine s_Store_mergeEverything R.fx S W.1.1 W.2.1 (by omega) (fun h2 fp2 F2 S2 n2 l2 St2 W2 => ?_)
  obtain ⟨C2, L2, v2⟩ := C.str F2 S2
  refine v_B_mergeAll_7 F2 ?_
  rw [C2.2.2.2.2.1.1]
  refine s_Findings_refresh F2 St2.fil C2.2.2.2.2.1.2.1 W.2.2.1 (fun h3 F3 B3 c0 c1 => ?_)
  obtain ⟨C3, St3, L3, v3, n3, l3⟩ := C2.rf St2 F3 B3 c0 c1
  refine v_B_mergeAll_26 F3 ?_
  refine q.1 rfl h3 (C3.cir St3 ⟨⟨W2, ?_⟩, ?_, W.2.2.1, W.2.2.2.1, W.2.2.2.2.1, fun t ht => ?_⟩) (CLW.trans L2 L3) ?_ ?_
  · show (bC s).length + (maT (zC s) (fC s)).length ≤ 60
    have := W.1.2
    have := mgF_len (fC s) (stA (zC s) (0 : Nat)).toNat (stA (zC s) ((0 : Nat) + (zC s).length) - stA (zC s) (0 : Nat)).toNat
    unfold maT mgT
    split <;> omega
  · have := W.2.1
    show 0 ≤ maM (zC s) (fC s) (mC s)
    unfold maM
    split <;> omega
  · have ht : t ∈ maT (zC s) (fC s) := ht
    unfold maT at ht
    split at ht
    · exact W.2.2.2.2.2 t ht
    · exact W.2.2.2.2.2 t (mgF_mem ht)
  · unfold nxP; rw [v3, v2]; omega
  · unfold slP; rw [v3, v2]; omega

end
