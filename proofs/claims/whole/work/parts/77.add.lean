/-! ===== add ===== -/
section
theorem fplF_ok (bs : List Int) (w : Int) : ∀ (n : Nat) (p : Int), 0 ≤ p → fplF bs w n p = 0 ∨ (p ≤ fplF bs w n p ∧ fplF bs w n p < p + n ∧ lat bs (fplF bs w n p) = w)
  | 0, p, _ => Or.inl rfl
  | n + 1, p, h => by
    have e : fplF bs w (n + 1) p = if lat bs p = w then p else fplF bs w n (p + 1) := rfl
    rw [e]
    by_cases z : lat bs p = w
    · rw [if_pos z]; exact Or.inr ⟨Int.le_refl _, by omega, z⟩
    · rw [if_neg z]
      rcases fplF_ok bs w n (p + 1) (by omega) with y | ⟨y1, y2, y3⟩
      · exact Or.inl y
      · exact Or.inr ⟨by omega, by omega, y3⟩
theorem fpl_ok (bs : List Int) (w : Int) : (0 ≤ fpl bs w ∧ fpl bs w ≤ bs.length) ∧ (fpl bs w = 0 ∨ (fpl bs w < bs.length ∧ lat bs (fpl bs w) = w)) := by
  unfold fpl
  rcases fplF_ok bs w bs.length 0 (Int.le_refl _) with y | ⟨y1, y2, y3⟩
  · rw [y]; exact ⟨⟨by decide, by omega⟩, Or.inl rfl⟩
  · exact ⟨⟨by omega, by omega⟩, Or.inr ⟨by omega, y3⟩⟩
def adT (bs : List Int) (k sh rk : Int) : Txt := (k, sh, rk, rowS bs 0 (fpl bs 124), rowS bs (fpl bs 124) bs.length)
def wcT (t : Txt) : Int := ((t.2.2.2.1.length + t.2.2.2.2.length : Nat) : Int) - (cntW t.2.2.2.1 (-1) + cntW t.2.2.2.2 (-1))
theorem adT_ok {bs : List Int} {k sh rk : Int} (hb : bs.length ≤ 400) (hk : 0 ≤ k ∧ k < 100) (hs : 0 ≤ sh ∧ sh < 8) (hr : 0 ≤ rk ∧ rk < 1000) : TxW (adT bs k sh rk) := by
  obtain ⟨⟨f0, f1⟩, f2⟩ := fpl_ok bs 124
  refine ⟨hk, hs, hr, ?_, rowS_ok _ _ _, rowS_ok _ _ _⟩
  show (rowS bs 0 (fpl bs 124)).length + (rowS bs (fpl bs 124) bs.length).length ≤ 200
  have a := rowF_len bs (fpl bs 124) ((fpl bs 124) - 0).toNat 0 f0
  have a : 2 * ((rowS bs 0 (fpl bs 124)).length : Int) ≤ fpl bs 124 - 0 + 1 := a
  have b := rowF_len bs bs.length ((bs.length : Int) - fpl bs 124).toNat (fpl bs 124) f1
  have b : 2 * ((rowS bs (fpl bs 124) bs.length).length : Int) ≤ bs.length - fpl bs 124 + 1 := b
  rcases f2 with z | ⟨z1, z2⟩
  · omega
  · have e : rowS bs (fpl bs 124) bs.length = rowF bs bs.length ((bs.length : Int) - fpl bs 124).toNat (fpl bs 124 + 1) := by
      unfold rowS
      rw [show ((bs.length : Int) - fpl bs 124).toNat = ((bs.length : Int) - fpl bs 124).toNat - 1 + 1 by omega, rowF_succ, rowF_succ, rs_step bs z1 (by rw [z2]; decide)]
    have c := rowF_len bs bs.length ((bs.length : Int) - fpl bs 124).toNat (fpl bs 124 + 1) (by omega)
    rw [← e] at c
    omega
def cAdd (s : CS) (k sh rk : Int) : (Int × Int) × CS := if (0 ≤ k ∧ k < 100) ∧ (0 ≤ sh ∧ sh < 8) ∧ 0 ≤ rk ∧ rk < 1000 then (if kidx (bC s) k = -1 ∧ 60 ≤ (bC s).length + (fC s).length then ((2, 0), s) else ((0, wcT (adT (tC s) k sh rk)), (([], dropB (bC s) k ++ [adT (tC s) k sh rk], dropF (fC s) k, zC s, mC s), s.2))) else ((1, 0), s)
theorem StoreR.tp {h h' : XH} {bp fp : List Int} {b : List Txt} {f : List (Txt × Bool)} {z : List Int} {m : Int} (S : StoreR h bp fp b f z m) (F : xFix h) (e : xsm TPC h h') : StoreR h' bp fp b f z m := by
  refine S.frame F e (fun c v y => ?_)
  have hc : 1 ≤ c ∧ c ≤ 4 := by unfold TPC at y; omega
  have t := fxT F (c := c) (by omega) (by omega)
  unfold STF ALC at v
  rcases v with v | v | (v | v) | (v | v) | v | v
  · omega
  · omega
  · omega
  · exact t.1 v.1
  · omega
  · exact t.1 v.1
  · have := t.2.1 v; omega
  · omega
/-- a text at the end of the buffer -/
theorem StoreR.push {h h' : XH} {bp fp : List Int} {b : List Txt} {f : List (Txt × Bool)} {z : List Int} {m p : Int} {t : Txt} (S : StoreR h bp fp b f z m) (F : xFix h) (e : xsm (ALC h 6) h h') (A : ALr h' 6 (bp ++ [p])) (T : TxtR h p t) (h5 : xpl h p 5 = 0) (hp : p ∉ bp ++ fp) (hl : b.length + 1 ≤ 60) : StoreR h' (bp ++ [p]) fp (b ++ [t]) f z m := by
  obtain ⟨⟨a1, a2, a3, a4, a5, a6⟩, h1, h2, h3, ⟨z1, z2, z3, z4⟩, z5⟩ := S
  have hnx := F.nx
  have n6 : ∀ c, c < 93 → c = 5 ∨ c = 8 → ∀ j, xpl h' c j = xpl h c j := fun c c0 c1 => e.pl (by omega) (fun w => by
    rcases w with w | ⟨w, -⟩
    · omega
    · rcases c1 with y | y <;> rw [y] at w
      · rw [ft_5 F] at w; cases w
      · rw [ft_8 F] at w; cases w)
  refine ⟨⟨A, a2.frame F e (fun c v w => ALC_ne (ft_7 F) (ft_6 F) (by decide) v w), by rw [List.length_append, List.length_append, a3]; rfl, a4, by rw [List.length_append]; exact hl, a6⟩, fun i p' t' w1 w2 => ?_, fun i p' t' w1 w2 => ?_, ?_, ⟨by rw [n6 5 (by decide) (Or.inl rfl)]; exact z1, z2, fun i hi => by rw [n6 8 (by decide) (Or.inr rfl)]; exact z3 i hi, fun i i0 i1 => by rw [n6 8 (by decide) (Or.inr rfl)]; exact z4 i i0 i1⟩, by rw [n6 5 (by decide) (Or.inl rfl)]; exact z5⟩
  · by_cases y : i < bp.length
    · rw [List.getElem?_append_left y] at w1
      rw [List.getElem?_append_left (by omega)] at w2
      obtain ⟨v1, v2⟩ := h1 i p' t' w1 w2
      obtain ⟨v3, v4⟩ := e.al_txt v1 (ft_6 F)
      exact ⟨v3, v4.trans v2⟩
    · have hb := (List.getElem?_eq_some_iff.mp w1).1
      rw [List.length_append] at hb
      have hb : i < bp.length + 1 := hb
      rw [List.getElem?_append_right (by omega), show i - bp.length = 0 by omega] at w1
      rw [List.getElem?_append_right (by omega), show i - b.length = 0 by omega] at w2
      have w1 : p = p' := Option.some.inj w1
      have w2 : t = t' := Option.some.inj w2
      subst w1
      subst w2
      obtain ⟨v3, v4⟩ := e.al_txt T (ft_6 F)
      exact ⟨v3, v4.trans h5⟩
  · obtain ⟨v1, v2⟩ := h2 i p' t' w1 w2
    obtain ⟨v3, v4⟩ := e.al_txt v1 (ft_6 F)
    exact ⟨v3, v4.trans v2⟩
  · rw [List.append_assoc]
    have q : (bp ++ ([p] ++ fp)).Perm ([p] ++ (bp ++ fp)) := by
      have := (List.perm_append_comm (l₁ := bp) (l₂ := [p])).append_right fp
      rw [List.append_assoc, List.append_assoc] at this
      exact this
    rw [q.nodup_iff]
    exact List.nodup_cons.mpr ⟨hp, h3⟩
theorem CWF.add {s : CS} (W : CWF s) {k : Int} {t : Txt} (ht : TxW t) (h : ¬ (kidx (bC s) k = -1 ∧ 60 ≤ (bC s).length + (fC s).length)) : CWF (([], dropB (bC s) k ++ [t], dropF (fC s) k, zC s, mC s), s.2) := by
  have D := W.drop k
  have kr := kidx_rng (bC s) k
  have h2 := dropB_len (bC s) k
  have h1 := dropF_len (fC s) k
  have w2 := W.1.2
  refine ⟨⟨D.1.1, ?_⟩, D.2.1, D.2.2.1, D.2.2.2.1, fun x hx => ?_, D.2.2.2.2.2⟩
  · show (dropB (bC s) k ++ [t]).length + (dropF (fC s) k).length ≤ 60
    rw [List.length_append, h1, h2]
    show _ + 1 + _ ≤ 60
    split <;> omega
  · rcases List.mem_append.mp hx with y | y
    · exact D.2.2.2.2.1 x y
    · rw [List.mem_singleton] at y; rw [y]; exact ht
theorem s_B_add {G : XG} {d : Nat} {h : XH} {Q : XV → XH → Prop} {X : Nat → XH → Prop} {s : CS} {k sh rk n9 s9 : Int} (R : CIR h s) (M : Room h n9 s9) (hn : 5 ≤ n9) (hs : 600 ≤ s9) (q : CAN Q X xI h (cAdd s k sh rk) n9 s9) : xwp G m_B_add (d + 10) 0 [xR 0, xI k, xI sh, xI rk, xZ, xZ, xZ] [] h Q X := by
  obtain ⟨e1, e2, e3, -, -, e6, e7⟩ := R.eqs
  have hr := R.room M
  have W := R.wf
  have hnx := R.fx.nx
  have T := R.2.1
  have hb := T.2.1
  obtain ⟨bp, fp, S⟩ := R.2.2.1
  unfold cAdd at q
  obtain ⟨bar, hbar⟩ : ∃ bar, bar = fpl (tC s) 124 := ⟨_, rfl⟩
  obtain ⟨⟨b0, b1⟩, -⟩ := fpl_ok (tC s) 124
  rw [← hbar] at b0 b1
  have main : (0 ≤ k ∧ k < 100) ∧ (0 ≤ sh ∧ sh < 8) ∧ 0 ≤ rk ∧ rk < 1000 → ¬ (kidx (bC s) k = -1 ∧ 60 ≤ (bC s).length + (fC s).length) → xwp G m_B_add (d + 10) 86 [xR 0, xI k, xI sh, xI rk, xZ, xZ, xZ] [xI bar] h Q X := by
    intro hrg hne
    rw [if_pos hrg, if_neg hne] at q
    obtain ⟨t, ht⟩ : ∃ t, t = adT (tC s) k sh rk := ⟨_, rfl⟩
    have tok : TxW t := by rw [ht]; exact adT_ok hb hrg.1 hrg.2.1 hrg.2.2
    have WA := W.add (k := k) tok hne
    rw [← ht] at q
    have t4 : t.2.2.2.1 = rowS (tC s) 0 bar := by rw [ht, hbar]; rfl
    have t5 : t.2.2.2.2 = rowS (tC s) bar (tC s).length := by rw [ht, hbar]; rfl
    have tk : t.1 = k ∧ t.2.1 = sh ∧ t.2.2.1 = rk := by rw [ht]; exact ⟨rfl, rfl, rfl⟩
    obtain ⟨p, hp⟩ : ∃ p, p = xnx h := ⟨_, rfl⟩
    refine v_B_add_86 R.fx ?_
    refine ⟨?_, ?_⟩
    · omega
    · refine ⟨?_, ?_⟩
      · omega
      · intro F9
        obtain ⟨H1, hH1⟩ : ∃ H1, H1 = xmk h 9 6 (xdef 9) := ⟨_, rfl⟩
        rw [← hH1] at F9 ⊢
        have s1 : xsm TPC h H1 := by rw [hH1]; exact (xsm.refl h).mk (by decide)
        have n1 : xnx H1 = xnx h + 1 := by rw [hH1]; exact xnx_mk h 9 6 (xdef 9)
        have l1 : xsl H1 = xsl h + 6 := by rw [hH1]; exact xsl_mk h 9 6 (xdef 9)
        have tp1 : xtg H1 p = 9 := by rw [hH1, hp]; exact xtg_new rfl
        have T1 : TapeR H1 (tC s) := T.keep (by rw [hH1]; exact xpl_old (by omega)) (fun j => by rw [hH1]; exact xpl_old (by omega))
        refine s_Tape_rowOf F9 T1 (Int.le_refl _) b0 b1 (by omega) (by omega) (fun h2 F2 S2 n2 l2 T2 W2 g2 => ?_)
        obtain ⟨r1, hr1⟩ : ∃ r1, r1 = xnx H1 := ⟨_, rfl⟩
        rw [← hr1] at W2 ⊢
        refine xwp_gh (r := r1) (v := 0) (by omega) ?_
        obtain ⟨h2', hh2⟩ : ∃ h2', h2' = xst h2 r1 (-1) 0 := ⟨_, rfl⟩
        rw [← hh2]
        have F2' : xFix h2' := by rw [hh2]; exact F2.gh
        have s2 : xsm TPC h h2' := by rw [hh2]; exact (s1.trans S2).gh (by omega)
        have n2' : xnx h2' = xnx h2 := by rw [hh2]; rfl
        have l2' : xsl h2' = xsl h2 := by rw [hh2]; rfl
        have tp2 : xtg h2' p = 9 := by rw [hh2]; exact (S2.tg (by omega)).trans tp1
        have T2' : TapeR h2' (tC s) := T2.keep (by rw [hh2, xpl_ok (by decide)]) (fun j => by rw [hh2, xpl_oa (by omega)])
        have O2 : RowOK h2' r1 t.2.2.2.1 := by
          rw [t4]
          refine ⟨by omega, by omega, by rw [hh2, xpl_hit], ⟨by rw [hh2]; exact W2.1, by rw [hh2]; exact W2.2.1, fun i hi => by rw [hh2, xpl_ok (by omega)]; exact W2.2.2 i hi⟩, g2⟩
        have e13 : xpl h2' 1 3 = (tC s).length := T2'.1
        refine v_B_add_105 F2' ?_
        rw [e13]
        refine s_Tape_rowOf F2' T2' b0 b1 (Int.le_refl _) (by omega) (by omega) (fun h3 F3 S3 n3 l3 T3 W3 g3 => ?_)
        obtain ⟨r2, hr2⟩ : ∃ r2, r2 = xnx h2' := ⟨_, rfl⟩
        rw [← hr2] at W3 ⊢
        refine xwp_gh (r := r2) (v := 0) (by omega) ?_
        obtain ⟨h3', hh3⟩ : ∃ h3', h3' = xst h3 r2 (-1) 0 := ⟨_, rfl⟩
        rw [← hh3]
        have F3' : xFix h3' := by rw [hh3]; exact F3.gh
        have s3a : xsm TPC h2' h3' := by rw [hh3]; exact S3.gh (by omega)
        have s3 : xsm TPC h h3' := s2.trans s3a
        have n3' : xnx h3' = xnx h3 := by rw [hh3]; rfl
        have l3' : xsl h3' = xsl h3 := by rw [hh3]; rfl
        have tp3 : xtg h3' p = 9 := (s3a.tg (by omega)).trans tp2
        have O31 : RowOK h3' r1 t.2.2.2.1 := O2.frame s3a (fun _ _ y w => by unfold TPC at w; omega)
        have O32 : RowOK h3' r2 t.2.2.2.2 := by
          rw [t5]
          refine ⟨by omega, by omega, by rw [hh3, xpl_hit], ⟨by rw [hh3]; exact W3.1, by rw [hh3]; exact W3.2.1, fun i hi => by rw [hh3, xpl_ok (by omega)]; exact W3.2.2 i hi⟩, g3⟩
        show xwp G m_B_add (d + 10) 121 [xR 0, xI k, xZ, xZ, xZ, xZ, xZ] [xR r2, xR r1, xI rk, xI sh, xI k, xR (xnx h), xR (xnx h)] h3' Q X
        rw [← hp]
        refine v_B_add_121 F3' (by omega) ?_
        refine ⟨?_, ?_⟩
        · exact tp3
        · intro F9
          obtain ⟨H4, hH4⟩ : ∃ H4, H4 = xst (xst (xst (xst (xst (xst (xst h3' p 5 0) p 0 k) p 1 sh) p 2 rk) p 3 r1) p 4 r2) 1 3 0 := ⟨_, rfl⟩
          rw [← hH4] at F9 ⊢
          have F4 : xFix H4 := F9
          have s4p : xsm (fun c => c = p ∨ c = 1) h3' H4 := by
            rw [hH4]
            exact ((((((xsm.st (xsm.refl h3') (by decide) (Or.inl (Or.inl rfl))).st (by decide) (Or.inl (Or.inl rfl))).st (by decide) (Or.inl (Or.inl rfl))).st (by decide) (Or.inl (Or.inl rfl))).st (by decide) (Or.inl (Or.inl rfl))).st (by decide) (Or.inl (Or.inl rfl))).st (by decide) (Or.inl (Or.inr rfl))
          have s4 : xsm TPC h H4 := by
            rw [hH4]
            exact ((((((s3.st (by decide) (Or.inr (by omega))).st (by decide) (Or.inr (by omega))).st (by decide) (Or.inr (by omega))).st (by decide) (Or.inr (by omega))).st (by decide) (Or.inr (by omega))).st (by decide) (Or.inr (by omega))).st (by decide) (Or.inl (Or.inl rfl))
          have n4 : xnx H4 = xnx h3' := by rw [hH4]; rfl
          have l4 : xsl H4 = xsl h3' := by rw [hH4]; rfl
          have p1 : ¬ p = 1 := by omega
          have T4 : TapeR H4 [] := ⟨by rw [hH4, xpl_hit]; rfl, by show 0 ≤ 400; decide, fun i hi => absurd hi (Nat.not_lt_zero i), fun x hx => absurd hx List.not_mem_nil⟩
          have TX4 : TxtR H4 p t ∧ xpl H4 p 5 = 0 := by
            have rk9 : ∀ r ws, RowOK h3' r ws → r ≠ p → RowOK H4 r ws := fun r ws O hne' => O.frame s4p (fun _ _ y w => by omega)
            refine ⟨⟨⟨by omega, by omega, by rw [hH4]; exact tp3⟩, ⟨?_, ?_, ?_⟩, ?_, ?_⟩, ?_⟩
            · rw [hH4, xpl_oa p1, xpl_ok (by decide), xpl_ok (by decide), xpl_ok (by decide), xpl_ok (by decide), xpl_hit]; exact tk.1.symm
            · rw [hH4, xpl_oa p1, xpl_ok (by decide), xpl_ok (by decide), xpl_ok (by decide), xpl_hit]; exact tk.2.1.symm
            · rw [hH4, xpl_oa p1, xpl_ok (by decide), xpl_ok (by decide), xpl_hit]; exact tk.2.2.symm
            · have e : xpl H4 p 3 = r1 := by rw [hH4, xpl_oa p1, xpl_ok (by decide), xpl_hit]
              rw [e]; exact rk9 r1 _ O31 (by omega)
            · have e : xpl H4 p 4 = r2 := by rw [hH4, xpl_oa p1, xpl_hit]
              rw [e]; exact rk9 r2 _ O32 (by omega)
            · rw [hH4, xpl_oa p1, xpl_ok (by decide), xpl_ok (by decide), xpl_ok (by decide), xpl_ok (by decide), xpl_ok (by decide), xpl_hit]
          obtain ⟨R4, L4, v4⟩ := R.tape F4 s4 T4
          obtain ⟨a, qa, pa, C4⟩ := R4.cix
          have S4 := S.tp R.fx s4
          have fpl9 : ∀ x ∈ bp ++ fp, x < xnx h := fun x hx => by
            rcases List.mem_append.mp hx with y | y
            · exact (S.1.1.2.2.2.2 x y).1
            · exact (S.1.2.1.2.2.2.2 x y).1
          refine s_Store_drop F4 S4 (fun h5 bp5 F5 S5 n5 l5 St5 kp5 sub5 => ?_)
          obtain ⟨C5, L5, v5⟩ := C4.str F5 S5
          have pfp : p ∉ fp := fun y => by have := fpl9 p (List.mem_append.mpr (Or.inr y)); omega
          have pall : p ∉ bp5 ++ fp := fun y => by
            rcases List.mem_append.mp y with z | z
            · have := fpl9 p (List.mem_append.mpr (Or.inl (sub5 p z))); omega
            · exact pfp z
          have TX5 : TxtR h5 p t ∧ xpl h5 p 5 = 0 := by
            have kk : ∀ j, xpl h5 p j = xpl H4 p j := fun j => kp5 p j TX4.1.1.2.2 (by omega) pfp
            refine ⟨TX4.1.frame S5 (fun j _ _ => kk j) (fun r y1 _ y3 w => ?_), (kk 5).trans TX4.2⟩
            have := STW.tg y3 w
            omega
          have fin : ∀ (h6 : XH) (f6 : List (Txt × Bool)), f6 = dropF (fC s) k → CIX h6 ((([], s.1.2), s.2)) f6 a qa pa → StoreR h6 bp5 fp (dropB (bC s) k) f6 (zC s) (mC s) → TxtR h6 p t ∧ xpl h6 p 5 = 0 → xsm (CLW h) h h6 → vlen h6 = vlen h → xnx h6 = xnx h5 → xsl h6 = xsl h5 → xwp G m_B_add (d + 10) 163 [xR 0, xZ, xZ, xZ, xZ, xZ, xR p] [] h6 Q X := by
            intro h6 f6 hf6 C6 St6 TX6 L6 v6 n6 l6
            have F6 := C6.1.1
            have hl6 : (dropB (bC s) k).length + 1 ≤ 60 := by
              have := WA.1.2
              have : (dropB (bC s) k ++ [t]).length + (dropF (fC s) k).length ≤ 60 := this
              rw [List.length_append] at this
              have : (dropB (bC s) k).length + 1 + (dropF (fC s) k).length ≤ 60 := this
              omega
            refine v_B_add_163 F6 ?_
            have hbl : bp5.length ≤ 60 := by have := St6.1.2.2.1; omega
            refine s_AL_add F6 St6.1.1 (by omega) TX6.1.1.2.1 (by rw [TX6.1.1.2.2]; rfl) (by omega) (by omega) (fun h7 F7 S7 n7 l7 A7 => ?_)
            have St7 := St6.push F6 S7 A7 TX6.1 TX6.2 pall hl6
            obtain ⟨C7, L7, v7⟩ := C6.str F7 (S7.mono (fun c _ w => Or.inr (Or.inr (Or.inl w))))
            have TX7 := S7.al_txt TX6.1 (ft_6 F6)
            subst hf6
            have R7 := C7.cir St7 WA
            refine v_B_add_175 F7 ?_
            refine ⟨?_, ?_⟩
            · exact TX7.1.1.2.2
            · refine s_Text_wordCount F7 TX7.1.ok ?_
              refine v_B_add_181 F7 ?_
              have c4 := TX7.1.2.2.1.2.2.2.1
              have c5 := TX7.1.2.2.2.2.2.2.1
              rw [c4.cnt, c5.cnt, c4.2.1, c5.2.1]
              have ew : ((t.2.2.2.1.length : Int) + t.2.2.2.2.length - (cntW t.2.2.2.1 (-1) + cntW t.2.2.2.2 (-1))) = wcT t := by unfold wcT; omega
              rw [ew]
              refine q.1 rfl h7 R7 (CLW.trans L6 L7) ?_ ?_
              · unfold nxP; rw [v7, v6]; omega
              · unfold slP; rw [v7, v6]; omega
          refine v_B_add_142 F5 ?_
          refine ⟨fun q1 => ?_, fun q1 => ?_⟩
          · have z := of_decide_eq_false (bz0 q1)
            have ed : dropF (fC s) k = fC s := by unfold dropF; rw [if_pos (by omega)]
            exact fin h5 (fC s) ed.symm C5 (by rw [ed] at St5; exact St5) TX5 (CLW.trans L4 L5) (v5.trans v4) rfl rfl
          · rw [C5.2.2.2.2.1.1]
            refine s_Findings_refresh F5 St5.fil C5.2.2.2.2.1.2.1 W.2.2.1 (fun h6 F6 B6 c0 c1 => ?_)
            obtain ⟨C6, St6, L6, v6, n6, l6⟩ := C5.rf St5 F6 B6 c0 c1
            have TX6 : TxtR h6 p t ∧ xpl h6 p 5 = 0 := by
              have kk : ∀ j, xpl h6 p j = xpl h5 p j := fun j => B6.1.pl TX5.1.1.2.1 (fun w => by
                have := RFW.fx w
                have := TX5.1.1.2.2
                omega) j
              refine ⟨TX5.1.frame B6.1 (fun j _ _ => kk j) (fun r y1 _ y3 w => ?_), (kk 5).trans TX5.2⟩
              have := RFW.fx w
              omega
            exact fin h6 (dropF (fC s) k) rfl C6 St6 TX6 (CLW.trans (CLW.trans L4 L5) L6) (v6.trans (v5.trans v4)) n6 l6
  have fst : ∀ g : Int, (0 ≤ k ∧ k < 100) ∧ (0 ≤ sh ∧ sh < 8) ∧ 0 ≤ rk ∧ rk < 1000 → g = (if kidx (bC s) k = -1 then 0 else 1) → xwp G m_B_add (d + 10) 50 [xR 0, xI k, xI sh, xI rk, xZ, xZ, xZ] [xI g] h Q X := by
    intro g hrg hg
    refine v_B_add_50 R.fx ?_
    refine ⟨?_, ?_⟩
    · first | exact R.ok | omega
    · refine ⟨fun q1 => ?_, fun q1 => ?_⟩
      · rw [e6, e7] at q1
        refine s_Tape_firstPlaceOf R.fx T ?_
        rw [← hbar]
        exact main hrg (fun y => by omega)
      · refine ⟨fun q2 => ?_, fun q2 => ?_⟩
        · refine ⟨?_, ?_⟩
          · first | exact R.ok | omega
          · refine ⟨?_, ?_⟩
            · first | exact R.ok | omega
            · intro F9
              rw [e6, e7] at q1
              rw [q2] at hg
              have z : kidx (bC s) k = -1 := by
                by_cases y : kidx (bC s) k = -1
                · exact y
                · rw [if_neg y] at hg; omega
              rw [if_pos hrg, if_pos ⟨z, by omega⟩] at q
              exact CAN.thr (k := 1) q R (by omega) (by omega) F9
        · refine s_Tape_firstPlaceOf R.fx T ?_
          rw [← hbar]
          refine main hrg (fun y => q2 ?_)
          rw [if_pos y.1] at hg
          exact hg
  refine v_B_add_0 R.fx ?_
  refine ⟨fun q1 => ?_, fun q1 => ?_⟩
  · refine ⟨?_, ?_⟩
    · first | exact R.ok | omega
    · refine ⟨?_, ?_⟩
      · first | exact R.ok | omega
      · intro F9
        rw [if_neg (by omega)] at q
        exact CAN.thr (k := 0) q R (by omega) (by omega) F9
  · refine ⟨fun q2 => ?_, fun q2 => ?_⟩
    · refine ⟨fun q3 => ?_, fun q3 => ?_⟩
      · refine ⟨?_, ?_⟩
        · first | exact R.ok | omega
        · refine ⟨?_, ?_⟩
          · first | exact R.ok | omega
          · intro F9
            rw [if_neg (by omega)] at q
            exact CAN.thr (k := 0) q R (by omega) (by omega) F9
      · refine ⟨fun q4 => ?_, fun q4 => ?_⟩
        · refine ⟨?_, ?_⟩
          · first | exact R.ok | omega
          · refine ⟨?_, ?_⟩
            · first | exact R.ok | omega
            · intro F9
              rw [if_neg (by omega)] at q
              exact CAN.thr (k := 0) q R (by omega) (by omega) F9
        · refine ⟨fun q5 => ?_, fun q5 => ?_⟩
          · refine ⟨?_, ?_⟩
            · first | exact R.ok | omega
            · refine ⟨?_, ?_⟩
              · first | exact R.ok | omega
              · intro F9
                rw [if_neg (by omega)] at q
                exact CAN.thr (k := 0) q R (by omega) (by omega) F9
          · refine ⟨fun q6 => ?_, fun q6 => ?_⟩
            · refine ⟨?_, ?_⟩
              · first | exact R.ok | omega
              · refine ⟨fun q7 => ?_, fun q7 => ?_⟩
                · rw [e1] at q7
                  exact fst 0 ⟨⟨by omega, by omega⟩, ⟨by omega, by omega⟩, by omega, by omega⟩ (by rw [if_pos q7])
                · rw [e1] at q7
                  exact fst 1 ⟨⟨by omega, by omega⟩, ⟨by omega, by omega⟩, by omega, by omega⟩ (by rw [if_neg q7])
            · refine ⟨?_, ?_⟩
              · first | exact R.ok | omega
              · refine ⟨?_, ?_⟩
                · first | exact R.ok | omega
                · intro F9
                  rw [if_neg (by omega)] at q
                  exact CAN.thr (k := 0) q R (by omega) (by omega) F9
    · refine ⟨?_, ?_⟩
      · first | exact R.ok | omega
      · refine ⟨?_, ?_⟩
        · first | exact R.ok | omega
        · intro F9
          rw [if_neg (by omega)] at q
          exact CAN.thr (k := 0) q R (by omega) (by omega) F9

end
