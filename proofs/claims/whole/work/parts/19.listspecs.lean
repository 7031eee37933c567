/-! ===== listspecs ===== -/
section
/-- a mark set at the end -/
theorem xwp_ghQ {G : XG} {M : XM} {d pc : Nat} {L S : List XV} {h : XH} {Q : XV → XH → Prop} {X : Nat → XH → Prop} (w : xwp G M d pc L S h (fun v h9 => ∃ r w, 0 ≤ r ∧ Q v (xst h9 r (-1) w)) X) : xwp G M d pc L S h Q X :=
  xwp_post w (fun v h9 H q hH => by obtain ⟨r, w, h0, q⟩ := q; exact ⟨_, hH.gh h0, q⟩) (fun _ _ q => q)
theorem xFix.gh {h : XH} (F : xFix h) {a v : Int} : xFix (xst h a (-1) v) := F.st fun q hq e1 e2 => by
  have key : ∀ q ∈ xfP, 0 ≤ q.2.1 := by decide +kernel
  have := key q hq
  omega
theorem s_copyOfJ {G : XG} {d : Nat} {h : XH} {Q : XV → XH → Prop} {X : Nat → XH → Prop} {a n : Int} (F : xFix h) (ht : xtg h a = 101) (ha : a < xnx h) (ha0 : 0 ≤ a) (h0 : 0 ≤ n) (hn : n ≤ 60000000) (hl : 0 ≤ xln h a) (hc : xnx h + 1 ≤ xKC) (hs : xsl h + n ≤ xKS)
    (hq : ∀ h', xFix h' → xsm (fun _ => False) h h' → xnx h' = xnx h + 1 → xsl h' = xsl h + n → xtg h' (xnx h) = 101 → xln h' (xnx h) = n → xpl h' (xnx h) (-1) = 0 → (∀ j, 0 ≤ j → j < n → j < xln h a → xpl h' (xnx h) j = xpl h a j) → Q (xR (xnx h)) h') : xwp G m_Arrays_copyOf_aJI (d + 2) 0 [xR a, xI n, xZ] [] h Q X := by
  refine v_Arrays_copyOf_aJI_0 F ?_
  refine ⟨?_, ?_⟩
  · first | omega | assumption | exact (xtg_old (by omega)).trans ht
  · refine ⟨fun q1 => ?_, fun q1 => ?_⟩
    · refine ⟨?_, ?_⟩
      · first | omega | assumption | exact (xtg_old (by omega)).trans ht
      · refine ⟨?_, ?_⟩
        · first | omega | assumption | exact (xtg_old (by omega)).trans ht
        · refine ⟨?_, ?_⟩
          · first | omega | assumption | exact (xtg_old (by omega)).trans ht
          · intro F9
            refine hq _ F9 ((xsm.refl h).mk (by omega)) (by rw [xnx_mk]) (by rw [xsl_mk]; omega) (by rw [xtg_new rfl]) (by rw [xln_new rfl]; omega) ?_ (fun j j0 j1 j2 => ?_)
            · rw [xpl_new rfl]; rfl
            · rw [xpl_new rfl, if_pos ⟨j0, j2⟩]
    · refine ⟨?_, ?_⟩
      · first | omega | assumption | exact (xtg_old (by omega)).trans ht
      · refine ⟨?_, ?_⟩
        · first | omega | assumption | exact (xtg_old (by omega)).trans ht
        · refine ⟨?_, ?_⟩
          · first | omega | assumption | exact (xtg_old (by omega)).trans ht
          · refine ⟨?_, ?_⟩
            · first | omega | assumption | exact (xtg_old (by omega)).trans ht
            · refine ⟨?_, ?_⟩
              · first | omega | assumption | exact (xtg_old (by omega)).trans ht
              · intro F9
                have e8 : xln (xmk h 101 n (fun _ => 0)) a = xln h a := xln_old (by omega)
                refine hq _ F9 (((xsm.refl h).mk h0).up ?_ (Or.inr (by omega))) (by rw [xnx_up, xnx_mk]) (by rw [xsl_up, xsl_mk]) (by rw [xtg_up, xtg_new rfl]) (by rw [xln_up, xln_new rfl]) ?_ (fun j j0 j1 j2 => ?_)
                · unfold xcpf; rw [if_neg (by omega)]
                · rw [xpl_up1]; unfold xcpf; rw [if_neg (by omega), xpl_new rfl]
                · rw [xpl_up1]; unfold xcpf; rw [e8, if_pos (by omega), xpl_old (by omega)]
                  exact congrArg (xpl h a) (by omega)
theorem s_copyOfI {G : XG} {d : Nat} {h : XH} {Q : XV → XH → Prop} {X : Nat → XH → Prop} {a n : Int} (F : xFix h) (ht : xtg h a = 100) (ha : a < xnx h) (ha0 : 0 ≤ a) (h0 : 0 ≤ n) (hn : n ≤ 60000000) (hl : 0 ≤ xln h a) (hc : xnx h + 1 ≤ xKC) (hs : xsl h + n ≤ xKS)
    (hq : ∀ h', xFix h' → xsm (fun _ => False) h h' → xnx h' = xnx h + 1 → xsl h' = xsl h + n → xtg h' (xnx h) = 100 → xln h' (xnx h) = n → xpl h' (xnx h) (-1) = 0 → (∀ j, 0 ≤ j → j < n → j < xln h a → xpl h' (xnx h) j = xpl h a j) → Q (xR (xnx h)) h') : xwp G m_Arrays_copyOf_aII (d + 2) 0 [xR a, xI n, xZ] [] h Q X := by
  refine v_Arrays_copyOf_aII_0 F ?_
  refine ⟨?_, ?_⟩
  · first | omega | assumption | exact (xtg_old (by omega)).trans ht
  · refine ⟨fun q1 => ?_, fun q1 => ?_⟩
    · refine ⟨?_, ?_⟩
      · first | omega | assumption | exact (xtg_old (by omega)).trans ht
      · refine ⟨?_, ?_⟩
        · first | omega | assumption | exact (xtg_old (by omega)).trans ht
        · refine ⟨?_, ?_⟩
          · first | omega | assumption | exact (xtg_old (by omega)).trans ht
          · intro F9
            refine hq _ F9 ((xsm.refl h).mk (by omega)) (by rw [xnx_mk]) (by rw [xsl_mk]; omega) (by rw [xtg_new rfl]) (by rw [xln_new rfl]; omega) ?_ (fun j j0 j1 j2 => ?_)
            · rw [xpl_new rfl]; rfl
            · rw [xpl_new rfl, if_pos ⟨j0, j2⟩]
    · refine ⟨?_, ?_⟩
      · first | omega | assumption | exact (xtg_old (by omega)).trans ht
      · refine ⟨?_, ?_⟩
        · first | omega | assumption | exact (xtg_old (by omega)).trans ht
        · refine ⟨?_, ?_⟩
          · first | omega | assumption | exact (xtg_old (by omega)).trans ht
          · refine ⟨?_, ?_⟩
            · first | omega | assumption | exact (xtg_old (by omega)).trans ht
            · refine ⟨?_, ?_⟩
              · first | omega | assumption | exact (xtg_old (by omega)).trans ht
              · intro F9
                have e8 : xln (xmk h 100 n (fun _ => 0)) a = xln h a := xln_old (by omega)
                refine hq _ F9 (((xsm.refl h).mk h0).up ?_ (Or.inr (by omega))) (by rw [xnx_up, xnx_mk]) (by rw [xsl_up, xsl_mk]) (by rw [xtg_up, xtg_new rfl]) (by rw [xln_up, xln_new rfl]) ?_ (fun j j0 j1 j2 => ?_)
                · unfold xcpf; rw [if_neg (by omega)]
                · rw [xpl_up1]; unfold xcpf; rw [if_neg (by omega), xpl_new rfl]
                · rw [xpl_up1]; unfold xcpf; rw [e8, if_pos (by omega), xpl_old (by omega)]
                  exact congrArg (xpl h a) (by omega)
/-- the list at a holds es -/
def ALr (h : XH) (a : Int) (es : List Int) : Prop :=
  (0 ≤ a ∧ a < xnx h ∧ xtg h a = 13 ∧ xpl h a 1 = es.length ∧ es.length ≤ 1000) ∧
  (xtg h (xpl h a 0) = 110 ∧ (es.length : Int) ≤ xln h (xpl h a 0) ∧ xln h (xpl h a 0) ≤ 5000) ∧
  (xpl h a 0 = -103 ∨ (93 ≤ xpl h a 0 ∧ xpl h a 0 < xnx h ∧ xpl h (xpl h a 0) (-1) = a)) ∧
  (∀ i : Nat, i < es.length → es[i]? = some (xpl h (xpl h a 0) i)) ∧ ∀ e ∈ es, e < xnx h ∧ xaos (xtg h e) = true
/-- what a list's writing may change -/
def ALC (h : XH) (a : Int) : Int → Prop := fun c => c = a ∨ (xtg h c = 110 ∧ xpl h c (-1) = a)
theorem ALr.ok {h : XH} {a : Int} {es : List Int} (R : ALr h a es) : alok h a := by
  obtain ⟨⟨h1, h2, h3, h4, h5⟩, ⟨h6, h7, h8⟩, -⟩ := R
  refine ⟨h3, h6, ?_, ?_, ?_⟩ <;> unfold als <;> omega
theorem ALr.sz {h : XH} {a : Int} {es : List Int} (R : ALr h a es) : als h a = es.length := R.1.2.2.2.1
theorem ALr.at {h : XH} {a : Int} {es : List Int} (R : ALr h a es) {i : Nat} (hi : i < es.length) : es[i]? = some (alg h a i) := R.2.2.2.1 i hi
theorem ALr.get {h : XH} {a : Int} {es : List Int} (R : ALr h a es) {i : Int} (h0 : 0 ≤ i) (hi : i < es.length) : es[i.toNat]? = some (alg h a i) := by
  have := R.at (i := i.toNat) (by omega)
  rwa [show ((i.toNat : Nat) : Int) = i by omega] at this
theorem ALr.mem {h : XH} {a : Int} {es : List Int} (R : ALr h a es) {i : Int} (h0 : 0 ≤ i) (hi : i < es.length) : alg h a i ∈ es := List.mem_of_getElem? (R.get h0 hi)
theorem ALr.frame {C : Int → Prop} {h h' : XH} {a : Int} {es : List Int} (R : ALr h a es) (F : xFix h) (e : xsm C h h') (hC : ∀ c, ALC h a c → ¬ C c) : ALr h' a es := by
  obtain ⟨⟨h1, h2, h3, h4, h5⟩, ⟨h6, h7, h8⟩, h9, h10, h11⟩ := R
  have hnx := F.nx
  have e1 : ∀ k, xpl h' a k = xpl h a k := e.pl h2 (hC a (Or.inl rfl))
  have hn := e.1
  have hd : xpl h a 0 < xnx h := by rcases h9 with z | z <;> omega
  have e2 : es.length ≠ 0 → ∀ k, xpl h' (xpl h a 0) k = xpl h (xpl h a 0) k := by
    intro hne
    rcases h9 with z | z
    · rw [z, fl_m103 F] at h7
      omega
    · exact e.pl hd (hC _ (Or.inr ⟨h6, z.2.2⟩))
  refine ⟨⟨h1, by omega, by rw [e.tg h2]; exact h3, by rw [e1]; exact h4, h5⟩, ⟨by rw [e1, e.tg hd]; exact h6, by rw [e1, e.ln hd]; exact h7, by rw [e1, e.ln hd]; exact h8⟩, ?_, fun i hi => ?_, fun x hx => ?_⟩
  · rw [e1]
    rcases h9 with z | ⟨z1, z2, z3⟩
    · exact Or.inl z
    · exact Or.inr ⟨z1, by omega, by rw [e.mkd z2]; exact z3⟩
  · rw [e1, e2 (by omega)]
    exact h10 i hi
  · obtain ⟨x1, x2⟩ := h11 x hx
    exact ⟨by omega, by rw [e.tg x1]; exact x2⟩
theorem xshr_1 {v : Int} (h0 : 0 ≤ v) (h1 : v ≤ 2147483647) : xshr v 1 = v / 2 := by
  unfold xshr
  obtain ⟨n, rfl⟩ : ∃ n : Nat, v = n := ⟨v.toNat, by omega⟩
  have e : Int32.ofInt (n : Int) = nI n := Int32.ofInt_eq_ofNat
  rw [e, show (Int32.ofInt 1 &&& 31 : Int32) = 1 from rfl, pk_shrN (n := n) (by omega) 1 1 (by decide), nI_toInt (by omega)]
  omega
theorem p_newLength {G : XG} {d : Nat} {h : XH} {Q : XV → XH → Prop} {X : Nat → XH → Prop} {a b c : Int} (F : xFix h) (h0 : 0 ≤ a) (h1 : a ≤ 5000) (h2 : 1 ≤ b) (h3 : b ≤ 5000) (h4 : 0 ≤ c) (h5 : c ≤ 5000) (hq : Q (xI (a + max b c)) h) : xwp G m_ArraysSupport_newLength (d + 2) 0 [xI a, xI b, xI c, xZ] [] h Q X := by
  refine v_ArraysSupport_newLength_0 F ?_
  refine ⟨?_, ?_⟩
  · exact ⟨by omega, by omega⟩
  · refine ⟨fun q1 => ?_, fun q1 => ?_⟩
    · omega
    · refine ⟨fun q2 => ?_, fun q2 => ?_⟩
      · omega
      · exact hq
theorem s_copyOfO {G : XG} {d : Nat} {h : XH} {Q : XV → XH → Prop} {X : Nat → XH → Prop} {a n : Int} (F : xFix h) (ht : xtg h a = 110) (ha : a < xnx h) (h0 : 0 ≤ n) (hn : n ≤ 60000000) (hl : 0 ≤ xln h a) (hc : xnx h + 1 ≤ xKC) (hs : xsl h + n ≤ xKS) (hln : xln h a ≤ n) (hel : ∀ i : Int, 0 ≤ i → i < xln h a → xpl h a i < xnx h ∧ xaos (xtg h (xpl h a i)) = true)
    (hq : ∀ h', xFix h' → xsm (fun _ => False) h h' → xnx h' = xnx h + 1 → xsl h' = xsl h + n → xtg h' (xnx h) = 110 → xln h' (xnx h) = n → (∀ j, 0 ≤ j → j < n → j < xln h a → xpl h' (xnx h) j = xpl h a j) → Q (xR (xnx h)) h') : xwp G m_Arrays_copyOf_aLI (d + 3) 0 [xR a, xI n] [] h Q X := by
  have hnx := F.nx
  have e8 : xln (xmk h 110 n (fun _ => -1)) a = xln h a := xln_old (by omega)
  refine v_Arrays_copyOf_aLI_0 F ?_
  refine ⟨?_, ?_⟩
  · first | omega | assumption | exact ⟨by omega, by omega⟩ | (simp only [*]; done) | grind
  · refine v_Arrays_copyOf_aLIClass_0 F ?_
    refine ⟨?_, ?_⟩
    · exact Or.inl rfl
    · refine ⟨fun q1 => ?_, fun q1 => ?_⟩
      · refine ⟨?_, ?_⟩
        · first | omega | assumption | exact (xtg_old (by omega)).trans ht
        · refine ⟨?_, ?_⟩
          · first | omega | assumption | exact (xtg_old (by omega)).trans ht
          · refine ⟨?_, ?_⟩
            · first | omega | assumption | exact (xtg_old (by omega)).trans ht
            · refine ⟨?_, ?_⟩
              · first | omega | assumption | exact (xtg_old (by omega)).trans ht
              · refine ⟨?_, ?_⟩
                · first | omega | assumption | exact (xtg_old (by omega)).trans ht
                · refine ⟨?_, ?_⟩
                  · intro i i0 i1
                    rw [e8] at i1
                    obtain ⟨z1, z2⟩ := hel i i0 (by omega)
                    rw [xpl_old (by omega), xtg_old (by omega)]
                    exact Or.inr z2
                  · intro F9
                    refine v_Arrays_copyOf_aLI_9 F9 ?_
                    refine hq _ F9 (((xsm.refl h).mk h0).up ?_ (Or.inr (by omega))) (by rw [xnx_up, xnx_mk]) (by rw [xsl_up, xsl_mk]) (by rw [xtg_up, xtg_new rfl]) (by rw [xln_up, xln_new rfl]) (fun j j0 j1 j2 => ?_)
                    · unfold xcpf; rw [if_neg (by omega)]
                    · rw [xpl_up1]; unfold xcpf; rw [e8, if_pos (by omega), xpl_old (by omega)]
                      exact congrArg (xpl h a) (by omega)
      · exact q1 rfl
theorem ALr.dlt {h : XH} {a : Int} {es : List Int} (R : ALr h a es) (F : xFix h) : xpl h a 0 < xnx h := by
  have hnx := F.nx
  rcases R.2.2.1 with z | z <;> omega
/-- room is made for one more -/
theorem s_growI {G : XG} {d : Nat} {h : XH} {Q : XV → XH → Prop} {X : Nat → XH → Prop} {a : Int} {es : List Int} (F : xFix h) (R : ALr h a es) (hfull : xln h (xpl h a 0) = es.length) (hl : es.length < 1000) (hc : xnx h + 1 ≤ xKC) (hs : xsl h + 2 * es.length + 10 ≤ xKS)
    (hq : ∀ h' r, xFix h' → xsm (ALC h a) h h' → xnx h' = xnx h + 1 → xsl h' ≤ xsl h + 2 * es.length + 10 → ALr h' a es → (es.length : Int) < xln h' r → r = xpl h' a 0 → xnx h ≤ r → Q (xR r) h') : xwp G m_ArrayList_grow_I (d + 4) 0 [xR a, xI (es.length + 1), xZ, xZ] [] h Q X := by
  have hnx := F.nx
  obtain ⟨⟨h1, h2, h3, h4, h5⟩, ⟨h6, h7, h8⟩, h9, h10, h11⟩ := R
  have hd : xpl h a 0 < xnx h := by rcases h9 with z | z <;> omega
  refine xwp_ghQ ?_
  have fin : ∀ h' r, xFix h' → xsm (ALC h a) h h' → xnx h' = xnx h + 1 → xsl h' ≤ xsl h + 2 * es.length + 10 → xpl h' a 0 = r → (∀ k, k ≠ 0 → xpl h' a k = xpl h a k) → r = xnx h → xtg h' r = 110 → (es.length : Int) < xln h' r → xln h' r ≤ 5000 → (∀ j, 0 ≤ j → j < (es.length : Int) → xpl h' r j = xpl h (xpl h a 0) j) → ∃ r9 w, 0 ≤ r9 ∧ Q (xR r) (xst h' r9 (-1) w) := by
    intro h' r F' e n1 n2 p0 p1 r1 t1 l1 l2 el
    refine ⟨r, a, by omega, ?_⟩
    have ga : xpl (xst h' r (-1) a) a 0 = r := by rw [xpl_ok (by decide)]; exact p0
    refine hq _ _ F'.gh (e.gh (by omega)) n1 n2 ?_ l1 ga.symm (by omega)
    refine ⟨⟨h1, by show a < xnx h'; omega, ?_, ?_, h5⟩, ⟨?_, ?_, ?_⟩, Or.inr ⟨?_, ?_, ?_⟩, fun i hi => ?_, fun x hx => ?_⟩
    · show xtg h' a = 13
      rw [e.tg h2]; exact h3
    · rw [xpl_oa (by omega), p1 1 (by decide)]; exact h4
    · rw [ga]; exact t1
    · rw [ga]; show _ ≤ xln h' r; omega
    · rw [ga]; exact l2
    · rw [ga]; omega
    · rw [ga]; show r < xnx h'; omega
    · rw [ga]; exact xpl_hit _ _ _ _
    · rw [ga, xpl_ok (by omega), el i (by omega) (by omega)]
      exact h10 i hi
    · obtain ⟨x1, x2⟩ := h11 x hx
      exact ⟨by show x < xnx h'; omega, by show xaos (xtg h' x) = true; rw [e.tg x1]; exact x2⟩
  have big : xwp G m_ArrayList_grow_I (d + 4) 20 [xR a, xI (es.length + 1), xI (xln h (xpl h a 0)), xZ] [] h (fun v h9 => ∃ r w, 0 ≤ r ∧ Q v (xst h9 r (-1) w)) X := by
    have e2 := xshr_1 (v := xln h (xpl h a 0)) (by omega) (by omega)
    refine v_ArrayList_grow_I_20 F ?_
    refine ⟨?_, ?_⟩
    · exact ⟨by omega, by omega⟩
    · rw [e2]
      refine p_newLength F (by omega) (by omega) (by omega) (by omega) (by omega) (by omega) ?_
      refine v_ArrayList_grow_I_30 F ?_
      refine ⟨?_, ?_⟩
      · exact h3
      · refine s_copyOfO F h6 hd (by omega) (by omega) (by omega) hc (by omega) (by omega) (fun i i0 i1 => ?_) (fun h' F' e n1 n2 t1 l1 el => ?_)
        · have := h10 i.toNat (by omega)
          rw [show ((i.toNat : Nat) : Int) = i by omega] at this
          exact h11 _ (List.mem_of_getElem? this)
        · have e9 : xsm (ALC h a) h (xst h' a 0 (xnx h)) := (e.mono (fun c _ z => z.elim)).st (by decide) (Or.inl (Or.inl rfl))
          refine v_ArrayList_grow_I_40 F' ?_
          refine ⟨?_, ?_⟩
          · first | exact (e.tg h2).trans h3 | exact h1
          · refine ⟨?_, ?_⟩
            · first | exact (e.tg h2).trans h3 | exact h1
            · intro F9
              refine fin _ _ F9 e9 n1 (by show xsl h' ≤ _; omega) (xpl_hit _ _ _ _) (fun k hk => ?_) rfl t1 (by show _ < xln h' _; omega) (by show xln h' _ ≤ _; omega) (fun j j0 j1 => ?_)
              · rw [xpl_ok hk]; exact e.pl h2 (fun z => z.elim) k
              · rw [xpl_oa (by omega)]; exact el j j0 (by omega) (by omega)
  refine v_ArrayList_grow_I_0 F ?_
  refine ⟨?_, ?_⟩
  · first | assumption | omega | exact (xtg_old (by omega)).trans h3
  · refine ⟨?_, ?_⟩
    · first | assumption | omega | exact (xtg_old (by omega)).trans h3
    · refine ⟨fun q1 => ?_, fun q1 => ?_⟩
      · exact big
      · refine ⟨?_, ?_⟩
        · rcases h9 with z | z
          · exact Or.inl z
          · exact Or.inr ⟨Or.inl (by omega), Or.inl (by omega), Or.inr (by rw [ft_m103 F]; decide)⟩
        · refine ⟨fun q2 => ?_, fun q2 => ?_⟩
          · refine ⟨?_, ?_⟩
            · first | assumption | omega | exact (xtg_old (by omega)).trans h3
            · refine ⟨?_, ?_⟩
              · first | assumption | omega | exact (xtg_old (by omega)).trans h3
              · refine ⟨?_, ?_⟩
                · first | assumption | omega | exact (xtg_old (by omega)).trans h3
                · refine ⟨?_, ?_⟩
                  · first | assumption | omega | exact (xtg_old (by omega)).trans h3
                  · refine ⟨?_, ?_⟩
                    · first | assumption | omega | exact (xtg_old (by omega)).trans h3
                    · intro F9
                      have e9 : xsm (ALC h a) h (xst (xmk h 110 (max 10 (es.length + 1)) (fun _ => -1)) a 0 (xnx h)) := ((xsm.refl h).mk (by omega)).st (by decide) (Or.inl (Or.inl rfl))
                      rw [q2, fl_m103 F] at hfull
                      refine fin _ _ F9 e9 (by rw [xnx_st, xnx_mk]) (by rw [xsl_st, xsl_mk]; omega) (xpl_hit _ _ _ _) (fun k hk => ?_) rfl (by rw [xtg_st, xtg_new rfl]) (by rw [xln_st, xln_new rfl]; omega) (by rw [xln_st, xln_new rfl]; omega) (fun j j0 j1 => by omega)
                      rw [xpl_ok hk, xpl_old (by omega)]
          · exact big

theorem s_grow0 {G : XG} {d : Nat} {h : XH} {Q : XV → XH → Prop} {X : Nat → XH → Prop} {a : Int} {es : List Int} (F : xFix h) (R : ALr h a es) (hfull : xln h (xpl h a 0) = es.length) (hl : es.length < 1000) (hc : xnx h + 1 ≤ xKC) (hs : xsl h + 2 * es.length + 10 ≤ xKS)
    (hq : ∀ h' r, xFix h' → xsm (ALC h a) h h' → xnx h' = xnx h + 1 → xsl h' ≤ xsl h + 2 * es.length + 10 → ALr h' a es → (es.length : Int) < xln h' r → r = xpl h' a 0 → xnx h ≤ r → Q (xR r) h') : xwp G m_ArrayList_grow_ (d + 5) 0 [xR a] [] h Q X := by
  refine v_ArrayList_grow__0 F ?_
  refine ⟨?_, ?_⟩
  · exact R.1.2.2.1
  · refine ⟨?_, ?_⟩
    · have := R.1.2.2.2; exact ⟨by omega, by omega⟩
    · rw [R.1.2.2.2.1]
      refine s_growI F R hfull hl hc hs (fun h' r F' e n1 n2 R' l1 r1 r2 => ?_)
      refine v_ArrayList_grow__10 F' ?_
      exact hq h' r F' e n1 n2 R' l1 r1 r2
/-- one more element -/
theorem s_AL_add {G : XG} {d : Nat} {h : XH} {Q : XV → XH → Prop} {X : Nat → XH → Prop} {a v : Int} {es : List Int} (F : xFix h) (R : ALr h a es) (hl : es.length < 1000) (hv : v < xnx h) (hv2 : xaos (xtg h v) = true) (hc : xnx h + 1 ≤ xKC) (hs : xsl h + 2 * es.length + 10 ≤ xKS)
    (hq : ∀ h', xFix h' → xsm (ALC h a) h h' → xnx h' ≤ xnx h + 1 → xsl h' ≤ xsl h + 2 * es.length + 10 → ALr h' a (es ++ [v]) → Q (xI 1) h') : xwp G m_ArrayList_add_Object (d + 7) 0 [xR a, xR v] [] h Q X := by
  have hnx := F.nx
  have ha := R.1
  have R0 := R
  refine v_ArrayList_add_Object_0 F ?_
  refine ⟨?_, ?_⟩
  · first | exact R.1.2.2.1 | exact R.1.1
  · refine ⟨?_, ?_⟩
    · first | exact R.1.2.2.1 | exact R.1.1
    · intro F9
      have e0 : xsm (ALC h a) h (xst h a 2 (xw32 ((xpl h a 2) + 1))) := (xsm.refl h).st (by decide) (Or.inl (Or.inl rfl))
      have R1 : ALr (xst h a 2 (xw32 ((xpl h a 2) + 1))) a es := by
        obtain ⟨⟨h1, h2, h3, h4, h5⟩, ⟨h6, h7, h8⟩, h9, h10, h11⟩ := R
        have g0 : ∀ k, k ≠ 2 → xpl (xst h a 2 (xw32 ((xpl h a 2) + 1))) a k = xpl h a k := fun k hk => xpl_ok hk
        have g1 : ∀ k, xpl (xst h a 2 (xw32 ((xpl h a 2) + 1))) (xpl h a 0) k = xpl h (xpl h a 0) k := fun k => xpl_oa (fun z => by rw [z, h3] at h6; cases h6)
        refine ⟨⟨h1, h2, h3, by rw [g0 1 (by decide)]; exact h4, h5⟩, ?_, ?_, ?_, h11⟩
        · rw [g0 0 (by decide)]; exact ⟨h6, h7, h8⟩
        · rw [g0 0 (by decide), g1]; exact h9
        · rw [g0 0 (by decide)]; intro i hi; rw [g1]; exact h10 i hi
      -- the element is stored in a heap where there is room
      have last : ∀ h2 r, xFix h2 → xsm (ALC h a) h h2 → xnx h2 ≤ xnx h + 1 → xsl h2 ≤ xsl h + 2 * es.length + 10 → ALr h2 a es → (es.length : Int) < xln h2 r → r = xpl h2 a 0 → (0 ≤ r) → xwp G m_ArrayList_add_ObjectaLI (d + 6) 11 [xR a, xR v, xR r, xI (xpl h a 1)] [] h2 (fun v9 h9 => xwp G m_ArrayList_add_Object (d + 7) 23 [xZ, xZ] (xpush v9 []) h9 Q X) X := by
        intro h2 r F2 e2 n1 n2 R2 l1 r1 r2
        have ha2 := R2.1
        have hlen : xpl h a 1 = es.length := R.1.2.2.2.1
        have hd : xtg h2 r = 110 := by rw [r1]; exact R2.2.1.1
        have hne : r ≠ a := fun z => by rw [z, ha2.2.2.1] at hd; cases hd
        have hrlt : r < xnx h2 := by rw [r1]; exact R2.dlt F2
        have hown : ALC h a r ∨ xnx h ≤ r := by
          by_cases z : xnx h ≤ r
          · exact Or.inr z
          · rcases R2.2.2.1 with w | ⟨w1, w2, w3⟩
            · omega
            · refine Or.inl (Or.inr ⟨?_, ?_⟩)
              · rw [← e2.tg (by omega)]; exact hd
              · rw [← e2.mkd (by omega), r1]; exact w3
        refine v_ArrayList_add_ObjectaLI_11 F2 ?_
        refine ⟨?_, ?_⟩
        · first | exact hd | exact r2 | omega | exact ha2.2.2.1 | exact ⟨by omega, by omega⟩ | (rw [e2.tg hv]; exact hv2)
        · refine ⟨?_, ?_⟩
          · first | exact hd | exact r2 | omega | exact ha2.2.2.1 | exact ⟨by omega, by omega⟩ | (rw [e2.tg hv]; exact hv2)
          · refine ⟨?_, ?_⟩
            · first | exact hd | exact r2 | omega | exact ha2.2.2.1 | exact ⟨by omega, by omega⟩ | (rw [e2.tg hv]; exact hv2)
            · refine ⟨?_, ?_⟩
              · first | exact hd | exact r2 | omega | exact ha2.2.2.1 | exact ⟨by omega, by omega⟩ | (rw [e2.tg hv]; exact hv2)
              · refine ⟨?_, ?_⟩
                · first | exact hd | exact r2 | omega | exact ha2.2.2.1 | exact ⟨by omega, by omega⟩ | (rw [e2.tg hv]; exact hv2)
                · refine ⟨?_, ?_⟩
                  · first | exact hd | exact r2 | omega | exact ha2.2.2.1 | exact ⟨by omega, by omega⟩ | (rw [e2.tg hv]; exact hv2)
                  · refine ⟨?_, ?_⟩
                    · first | exact hd | exact r2 | omega | exact ha2.2.2.1 | exact ⟨by omega, by omega⟩ | (rw [e2.tg hv]; exact hv2)
                    · refine ⟨?_, ?_⟩
                      · first | exact hd | exact r2 | omega | exact ha2.2.2.1 | exact ⟨by omega, by omega⟩ | (rw [e2.tg hv]; exact hv2)
                      · intro F9
                        refine v_ArrayList_add_Object_23 F9 ?_
                        rw [hlen] at F9 ⊢
                        refine hq _ F9 ((e2.st (by omega) hown).st (by decide) (Or.inl (Or.inl rfl))) n1 n2 ?_
                        obtain ⟨⟨h1, h2', h3, h4, h5⟩, ⟨h6, h7, h8⟩, h9, h10, h11⟩ := R2
                        have g0 : xpl (xst (xst h2 r es.length v) a 1 (es.length + 1)) a 0 = r := by rw [xpl_ok (by decide), xpl_oa (fun z => hne z.symm)]; exact r1.symm
                        have g1 : ∀ k, xpl (xst (xst h2 r es.length v) a 1 (es.length + 1)) r k = if k = es.length then v else xpl h2 r k := by
                          intro k
                          rw [xpl_oa hne, xpl_st]
                          by_cases hk : k = es.length
                          · rw [if_pos ⟨rfl, hk⟩, if_pos hk]
                          · rw [if_neg (fun z => hk z.2), if_neg hk]
                        rw [← r1] at h6 h7 h8 h10
                        refine ⟨⟨h1, h2', h3, ?_, ?_⟩, ?_, ?_, fun i hi => ?_, fun x hx => ?_⟩
                        · rw [xpl_hit, List.length_append]; rfl
                        · rw [List.length_append]; show es.length + 1 ≤ 1000; omega
                        · rw [g0, List.length_append]; exact ⟨h6, by show ((es.length + 1 : Nat) : Int) ≤ xln h2 r; omega, h8⟩
                        · rw [g0, g1, if_neg (by omega)]
                          rcases h9 with w | w
                          · omega
                          · rw [← r1] at w; exact Or.inr w
                        · rw [g0, g1]
                          rw [List.length_append] at hi
                          have hi2 : i < es.length + 1 := hi
                          by_cases hk : i = es.length
                          · subst hk
                            rw [if_pos rfl, List.getElem?_append_right (Nat.le_refl _), Nat.sub_self]; rfl
                          · rw [if_neg (by omega), List.getElem?_append_left (by omega)]
                            exact h10 i (by omega)
                        · rcases List.mem_append.mp hx with w | w
                          · exact h11 x w
                          · rw [List.mem_singleton] at w
                            subst w
                            exact ⟨by show _ < xnx h2; have := e2.1; omega, by show xaos (xtg h2 _) = true; rw [e2.tg hv]; exact hv2⟩
      have hdd : xpl (xst h a 2 (xw32 ((xpl h a 2) + 1))) a 0 = xpl h a 0 := xpl_ok (by decide)
      refine v_ArrayList_add_ObjectaLI_0 F9 ?_
      refine ⟨?_, ?_⟩
      · first | exact R.1.2.2.1 | exact R.2.1.1
      · refine ⟨fun q1 => ?_, fun q1 => ?_⟩
        · refine ⟨?_, ?_⟩
          · first | exact R.1.2.2.1 | exact R.2.1.1
          · refine s_grow0 F9 R1 ?_ hl hc hs (fun h2 r F2 e2 n1 n2 R2 l1 r1 r2 => ?_)
            · rw [hdd]; have q1' : xpl h a 1 = xln h (xpl h a 0) := q1
              show xln h _ = _; rw [← q1']; exact R.1.2.2.2.1
            · refine v_ArrayList_add_ObjectaLI_10 F2 ?_
              refine last h2 r F2 (e0.trans (e2.mono fun c hc1 hc2 => ?_)) (by rw [n1]; show xnx h + 1 ≤ _; omega) n2 R2 l1 r1 (by show 0 ≤ r; have : xnx h ≤ r := r2; omega)
              rcases hc2 with w | ⟨w1, w2⟩
              · exact Or.inl w
              · refine Or.inr ⟨w1, ?_⟩
                rw [xpl_ok (by decide)] at w2
                exact w2
        · refine last _ _ F9 e0 (by show xnx h ≤ _; omega) (by show xsl h ≤ _; omega) R1 ?_ hdd.symm ?_
          · show _ < xln h (xpl h a 0)
            have h7 := R.2.1.2.1
            have h4 := R.1.2.2.2.1
            have q1' : ¬ xpl h a 1 = xln h (xpl h a 0) := q1
            omega
          · rcases R.2.2.1 with w | w
            · have q1' : ¬ xpl h a 1 = xln h (xpl h a 0) := q1
              rw [w, fl_m103 F] at q1'
              have h7 := R.2.1.2.1
              have h4 := R.1.2.2.2.1
              rw [w, fl_m103 F] at h7
              omega
            · omega

end
