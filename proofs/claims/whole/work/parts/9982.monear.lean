/-! ===== monear ===== -/
section
/-! the model's nearest word -/
theorem cnR_zero {g : Int → Int} {w lo hi : Int} (h : ∀ i, lo ≤ i → i < hi → g i ≠ w) : cnR g w lo hi = 0 := by
  have a := cnR_nn g w lo hi
  by_cases z : 1 ≤ cnR g w lo hi
  · obtain ⟨i, i0, i1, i2⟩ := cnR_mem z
    exact absurd i2 (h i i0 i1)
  · omega
theorem cnR_full {g : Int → Int} {w : Int} : ∀ (n : Nat) (lo : Int), (∀ i, lo ≤ i → i < lo + n → g i = w) → cnF g w n lo = n
  | 0, lo, _ => rfl
  | n + 1, lo, h => by
    show cw (g lo) w + cnF g w n (lo + 1) = _
    rw [h lo (Int.le_refl _) (by omega), cnR_full n (lo + 1) (fun i i0 i1 => h i (by omega) (by omega)), cw_self]
    omega
theorem cn_strict {g : Int → Int} {a b : Int} (hg : ∀ i j, a ≤ i → i < j → j < b → g i < g j) (w : Int) {P : Prop} [Decidable P] (hP : P ↔ ∃ i, a ≤ i ∧ i < b ∧ g i = w) : cnR g w a b = if P then 1 else 0 := by
  by_cases z : P
  · rw [if_pos z]
    obtain ⟨i, i0, i1, i2⟩ := hP.mp z
    rw [cnR_split g w (lo := a) (m := i) (hi := b) i0 (by omega), cnR_split g w (lo := i) (m := i + 1) (hi := b) (by omega) (by omega), cnR_one, i2, cw_self, cnR_zero (fun x x0 x1 => by have := hg x i x0 x1 i1; omega), cnR_zero (fun x x0 x1 => by have := hg i x i0 (by omega) x1; omega)]
    rfl
  · rw [if_neg z]
    exact cnR_zero (fun i i0 i1 i2 => z (hP.mpr ⟨i, i0, i1, i2⟩))
theorem kS_four {p : Int} (h0 : 0 ≤ p) (h1 : p ≤ 200) : kS 64 p 0 ≤ 4 * p ∧ kN 64 p 0 ≤ 2 := by
  unfold kS kN
  rw [if_pos rfl, if_pos rfl]
  by_cases z : p < 44
  · rw [if_pos z, if_pos z]; omega
  · have y : p ≤ 4096 := by omega
    rw [if_neg z, if_neg z, if_pos y, if_pos y]; omega
/-- the rows of a text, one behind the other -/
theorem tw_all {t : Txt} : twT t = nz (t.2.2.2.1 ++ t.2.2.2.2) := (nz_app _ _).symm
theorem s_M_nearest {G : XG} {d : Nat} {h : XH} {Q : XV → XH → Prop} {X : Nat → XH → Prop} {s : CS} {n9 s9 : Int} (F : xFix h) (R : MTS h s) (W : CWF s) {T : Int} (hT : twS (fC s) (fC s).length ≤ T) (T8 : T ≤ 8192) (rn : xnx h + 120 + kN 64 T 0 ≤ xKC) (rs : xsl h + 4 * T + kS 64 T 0 ≤ xKS) (hn : 120 + kN 64 T 0 ≤ n9) (hs : 4 * T + kS 64 T 0 ≤ s9) (hq : MAT Q xI h (fC s) [] (cNearest s) n9 s9) : xwp G m_M_nearest (d + 217) 0 [xR 53, xZ, xZ, xZ, xZ, xZ, xZ, xZ, xZ] [] h Q X := by
  have WS : Swf (zC s) (fC s) := W.1.1
  have T0 : 0 ≤ T := by omega
  have nn := kS_nn 64 (s := T) (b := 0) T0
  have tl := R.2.1.2.1.2.1
  rw [fb_len] at tl
  have w1 := WS.1
  have w0 := W.2.2.2.1.1
  have NVA : NV (nvA s) (fun w => nuT (fC s) w (fC s).length) [] (fC s).length := nvs_NV s (fC s).length
  have wok : ∀ e ∈ nvA s, 0 < e.1 ∧ e.1 < 6582952005840035281 := nvs_ok W (fC s).length (Nat.le_refl _)
  refine v_M_nearest_0 F (fun FH => ?_)
  obtain ⟨H, hH⟩ : ∃ H, H = xst h 53 0 0 := ⟨_, rfl⟩
  rw [← hH] at FH ⊢
  have RH : MTS H s := by rw [hH]; exact R.th
  have SH : xsm MWW h H := by rw [hH]; exact (xsm.refl h).st (by decide) (Or.inl ⟨by decide, by decide⟩)
  have k53 : ∀ k, k ≠ 0 → xpl H 53 k = xpl h 53 k := fun k hk => by rw [hH]; exact xpl_ok hk
  have h0 : xpl H 53 0 = 0 := by rw [hH]; exact xpl_hit _ _ _ _
  have nH : xnx H = xnx h := by rw [hH]; rfl
  have lH : xsl H = xsl h := by rw [hH]; rfl
  have hnx := FH.nx
  -- the end: a word is chosen
  have fin : ∀ (h3 : XH) (v b : Int), xFix h3 → xsm (fun c => c = 64 ∨ c = 65) H h3 → xnx h3 ≤ xnx h + 120 + kN 64 T 0 → xsl h3 ≤ xsl h + 4 * T + kS 64 T 0 → cNearest s = ((0, v), (s.1, b, s.2.2)) → xFix (xst h3 53 14 b) → Q (xI v) (xst h3 53 14 b) := fun h3 v b F3 S3 n3 l3 e F4 => by
    rw [e] at hq
    have o53 : ∀ k, k ≠ 14 → xpl (xst h3 53 14 b) 53 k = xpl H 53 k := fun k hk => (xpl_ok hk).trans (S3.pl (by omega) (by decide) k)
    exact hq _ F4 ⟨RH.1.keep (o53 2 (by decide)) (fun k => (xpl_oa (by decide)).trans (S3.pl (by omega) (by decide) k)), RH.2.1.keep (fun k hk => o53 k (by omega)) (fun c k c1 c2 => (xpl_oa (by omega)).trans (S3.pl (by omega) (by omega) k)), xpl_hit _ _ _ _⟩ ((SH.then S3 (fun c _ w => ⟨by omega, by omega⟩)).st (by decide) (Or.inl ⟨by decide, by decide⟩)) (fun k k0 _ _ _ _ k14 _ => (o53 k k14).trans (k53 k k0)) (Or.inr ⟨(o53 26 (by decide)).trans (k53 26 (by decide)), rfl⟩) ((o53 0 (by decide)).trans h0) (by show xnx h3 ≤ _; omega) (by show xsl h3 ≤ _; omega)
  -- the words in order are looked through
  have scan : ∀ (n : Int) (hS : XH), 0 ≤ n → n ≤ 12000 → (xFix hS ∧ xsm (fun c => c = 64 ∨ c = 65) H hS ∧ xnx hS ≤ xnx h + 120 + kN 64 T 0 ∧ xsl hS ≤ xsl h + 4 * T + kS 64 T 0) → Srt hS 0 n → (∀ w, cnR (xpl hS 64) w 0 n = nuT (fC s) w (fC s).length) → xwp G m_M_nearest (d + 217) 75 [xR 53, xI n, xZ, xZ, xZ, xZ, xZ, xZ, xZ] [] hS Q X := by
    intro n hS n0 n1 BS TS CS'
    obtain ⟨V, hV⟩ : ∃ V, V = nvA s := ⟨_, rfl⟩
    rw [← hV] at NVA wok
    obtain ⟨SV, c0, mV, vV⟩ := NVA
    have mem : ∀ p, 0 ≤ p → p < n → ∃ (j : Nat) (e : VE), V[j]? = some e ∧ e.1 = xpl hS 64 p := fun p p0 p1 => by
      have a := cnR_has (xpl hS 64) p0 p1
      rw [CS'] at a
      obtain ⟨e, he, e1⟩ := (mV _).mpr (Or.inl (by show 0 < nuT (fC s) (xpl hS 64 p) (fC s).length; omega))
      obtain ⟨j, hj⟩ := List.mem_iff_getElem?.mp he
      exact ⟨j, e, hj, e1⟩
    have cnt : ∀ e ∈ V, e.2.1 = cnR (xpl hS 64) e.1 0 n ∧ 1 ≤ cnR (xpl hS 64) e.1 0 n := fun e he => by
      have a := (vV e he).1
      rw [if_neg List.not_mem_nil] at a
      have b := (mV e.1).mp ⟨e, he, rfl⟩
      have b : 0 < nuT (fC s) e.1 (fC s).length := b.elim (fun q => q) (fun q => absurd q List.not_mem_nil)
      rw [CS']
      have a : e.2.1 = nuT (fC s) e.1 (fC s).length + 0 := a
      omega
    have word : ∀ h3, xsm (fun c => c = 65) hS h3 → xpl h3 53 14 = wC s := fun h3 S3 => (S3.pl (by have := BS.1.nx; omega) (by decide) 14).trans ((BS.2.1.pl (by omega) (by decide) 14).trans RH.2.2)
    have main : ∀ (m i : Nat) (k f mo be : Int) (h3 : XH), i + m = V.length → (xFix h3 ∧ xsm (fun c => c = 65) hS h3 ∧ xnx h3 = xnx hS ∧ xsl h3 = xsl hS) → (0 ≤ k ∧ k ≤ n) → (i = V.length → k = n) → (∀ e, V[i]? = some e → (∀ p, 0 ≤ p → p < k → xpl hS 64 p < e.1) ∧ ∀ p, k ≤ p → p < n → e.1 ≤ xpl hS 64 p) → ((i = 0 ∧ f = -1 ∧ mo = 0 ∧ be = wC s) ∨ (0 < i ∧ ∃ b : Nat, b < V.length ∧ f = dst (wC s) (wdV V b) ∧ mo = cnV V b ∧ be = wdV V b ∧ nrF V (wC s) (V.length - i) i b = nrV V (wC s))) → xwp G m_M_nearest (d + 217) 91 [xR 53, xI n, xI f, xI mo, xL be, xZ, xZ, xI k, xZ] [] h3 Q X := by
      intro m
      induction m with
      | zero =>
        intro i k f mo be h3 ei B3 kr kn lo st
        have ek := kn (by omega)
        have n3 := B3.2.2.1
        have l3 := B3.2.2.2
        refine v_M_nearest_91 B3.1 ?_
        refine ⟨fun q1 => ?_, fun q1 => ?_⟩
        · intro F9
          refine fin h3 f be B3.1 (BS.2.1.trans (B3.2.1.mono (fun c _ w => Or.inr w))) (by omega) (by omega) ?_ F9
          unfold cNearest
          rw [← hV]
          rcases st with ⟨i0, f0, mo0, be0⟩ | ⟨i0, b, b0, f0, mo0, be0, nr⟩
          · rw [if_pos (by omega), f0, be0]
          · rw [if_neg (by omega)]
            have e9 : nvW s = wdV V b := by
              unfold nvW
              rw [← hV, ← nr, show V.length - i = 0 by omega]; rfl
            rw [e9, f0, be0]
        · omega
      | succ m ih =>
        intro i k f mo be h3 ei B3 kr kn lo st
        have hS9 := BS.1.nx
        have v64 : ∀ p, xpl h3 64 p = xpl hS 64 p := fun p => B3.2.1.pl (by omega) (by decide) p
        have il : i < V.length := by omega
        obtain ⟨e, he⟩ : ∃ e, V[i]? = some e := ⟨_, List.getElem?_eq_getElem il⟩
        have em : e ∈ V := List.mem_of_getElem? he
        obtain ⟨lo1, lo2⟩ := lo e he
        obtain ⟨ct1, ct2⟩ := cnt e em
        obtain ⟨p, p0, p1, p2⟩ := cnR_mem ct2
        have pk : k ≤ p := by
          by_cases z : k ≤ p
          · exact z
          · have := lo1 p p0 (by omega); omega
        have vk : xpl hS 64 k = e.1 := by
          have a := lo2 k (Int.le_refl _) (by omega)
          by_cases z : k = p
          · rw [z]; exact p2
          · have := TS k p (by omega) (by omega) p1; omega
        have wi : wdV V i = e.1 := by unfold wdV; rw [he]; rfl
        have ci : cnV V i = e.2.1 := by unfold cnV; rw [he]; rfl
        -- where the next word begins
        have run : ∀ (q : Nat) (nx : Int), n - nx ≤ q → k ≤ nx → nx ≤ n → (∀ p, k ≤ p → p < nx → xpl hS 64 p = e.1) → (nx = k ∨ k < nx) → xwp G m_M_nearest (d + 217) 101 [xR 53, xI n, xI f, xI mo, xL be, xZ, xI nx, xI k, xZ] [] h3 Q X := by
          intro q
          have found : ∀ nx : Int, k < nx → nx ≤ n → (∀ p, k ≤ p → p < nx → xpl hS 64 p = e.1) → (nx < n → xpl hS 64 nx ≠ e.1) → xwp G m_M_nearest (d + 217) 131 [xR 53, xI n, xI f, xI mo, xL be, xZ, xI nx, xI k, xZ] [] h3 Q X := fun nx k1 k2 eq ne => by
            have big : ∀ p, nx ≤ p → p < n → e.1 < xpl hS 64 p := fun p p0 p1 => by
              have a := lo2 nx (by omega) (by omega)
              have b := ne (by omega)
              by_cases z : p = nx
              · rw [z]; omega
              · have := TS nx p (by omega) (by omega) p1; omega
            have cnx : nx - k = e.2.1 := by
              rw [ct1, cnR_split (xpl hS 64) e.1 (lo := 0) (m := k) (hi := n) kr.1 kr.2, cnR_split (xpl hS 64) e.1 (lo := k) (m := nx) (hi := n) (by omega) k2, cnR_zero (fun i i0 i1 => by have := lo1 i i0 i1; omega), cnR_zero (lo := nx) (fun i i0 i1 => by have := big i i0 i1; omega)]
              have := cnR_full (g := xpl hS 64) (w := e.1) (nx - k).toNat k (fun i i0 i1 => eq i i0 (by omega))
              unfold cnR
              omega
            -- the next step
            have go : ∀ (f2 mo2 be2 : Int) (h4 : XH), (xFix h4 ∧ xsm (fun c => c = 65) hS h4 ∧ xnx h4 = xnx hS ∧ xsl h4 = xsl hS) → (∃ b : Nat, b < V.length ∧ f2 = dst (wC s) (wdV V b) ∧ mo2 = cnV V b ∧ be2 = wdV V b ∧ nrF V (wC s) (V.length - (i + 1)) (i + 1) b = nrV V (wC s)) → xwp G m_M_nearest (d + 217) 91 [xR 53, xI n, xI f2, xI mo2, xL be2, xZ, xZ, xI nx, xZ] [] h4 Q X := fun f2 mo2 be2 h4 B4 hb => by
              refine ih (i + 1) nx f2 mo2 be2 h4 (by omega) B4 ⟨by omega, k2⟩ (fun z => ?_) (fun e2 he2 => ⟨fun p p0 p1 => ?_, fun p p0 p1 => ?_⟩) (Or.inr ⟨by omega, hb⟩)
              · by_cases y : nx = n
                · exact y
                · obtain ⟨j, e3, hj, e31⟩ := mem nx (by omega) (by omega)
                  have b := big nx (Int.le_refl _) (by omega)
                  have jl := (List.getElem?_eq_some_iff.mp hj).1
                  by_cases x : j < i
                  · have := SV j i e3 e x hj he; omega
                  · have : j = i := by omega
                    rw [this, he] at hj
                    rw [← Option.some.inj hj] at e31
                    omega
              · have a := SV i (i + 1) e e2 (by omega) he he2
                by_cases y : p < k
                · have := lo1 p p0 y; omega
                · have := eq p (by omega) p1; omega
              · have b := big p p0 p1
                obtain ⟨j, e3, hj, e31⟩ := mem p (by omega) p1
                by_cases x : j ≤ i
                · by_cases y : j = i
                  · rw [y, he] at hj
                    rw [← Option.some.inj hj] at e31
                    omega
                  · have := SV j i e3 e (by omega) hj he; omega
                · by_cases y : j = i + 1
                  · rw [y, he2] at hj
                    rw [← Option.some.inj hj] at e31
                    omega
                  · have := SV (i + 1) j e2 e3 (by omega) he2 hj; omega
            have w65 := word h3 B3.2.1
            have wp := wok e em
            refine v_M_nearest_131 B3.1 ?_
            refine ⟨?_, ?_⟩
            · omega
            · refine ⟨?_, ?_⟩
              · omega
              · rw [w65, v64 k, vk]
                refine s_M_changes B3.1 w0 (by omega) (fun h4 F4 S4 n4 l4 => ?_)
                have B4 : xFix h4 ∧ xsm (fun c => c = 65) hS h4 ∧ xnx h4 = xnx hS ∧ xsl h4 = xsl hS := ⟨F4, B3.2.1.trans S4, n4.trans B3.2.2.1, l4.trans B3.2.2.2⟩
                have d0 := dst_rng (wC s) e.1
                have v644 : xpl h4 64 k = e.1 := (S4.pl (by have := B3.1.nx; omega) (by decide) k).trans ((v64 k).trans vk)
                -- it is the best so far
                have take_ : (∃ _ : True, nrF V (wC s) (V.length - (i + 1)) (i + 1) i = nrV V (wC s)) → xwp G m_M_nearest (d + 217) 177 [xR 53, xI n, xZ, xZ, xZ, xZ, xI nx, xI k, xI (dst (wC s) e.1)] [] h4 Q X := fun ⟨_, nr⟩ => by
                  refine v_M_nearest_177 F4 ?_
                  refine ⟨?_, ?_⟩
                  · first | exact ⟨by omega, by omega⟩ | omega
                  · refine ⟨?_, ?_⟩
                    · first | exact ⟨by omega, by omega⟩ | omega
                    · refine ⟨?_, ?_⟩
                      · first | exact ⟨by omega, by omega⟩ | omega
                      · rw [v644]
                        exact go _ _ _ h4 B4 ⟨i, il, by rw [wi], by rw [ci]; exact cnx, wi.symm, nr⟩
                rcases st with ⟨i0, f0, mo0, be0⟩ | ⟨i0, b, b0, f0, mo0, be0, nr⟩
                · refine v_M_nearest_146 F4 ?_
                  refine ⟨fun q1 => ?_, fun q1 => ?_⟩
                  · refine take_ ⟨trivial, ?_⟩
                    rw [i0]; rfl
                  · refine ⟨fun q2 => ?_, fun q2 => ?_⟩
                    · exact absurd f0 q1
                    · refine ⟨fun q3 => ?_, fun q3 => ?_⟩
                      · refine ⟨?_, ?_⟩
                        · exact ⟨by omega, by omega⟩
                        · refine ⟨fun q4 => ?_, fun q4 => ?_⟩
                          · exact absurd f0 q1
                          · exact absurd f0 q1
                      · exact absurd f0 q1
                · have db := dst_rng (wC s) (wdV V b)
                  have step : nrF V (wC s) (V.length - i) i b = nrF V (wC s) (V.length - (i + 1)) (i + 1) (if dst (wC s) (wdV V i) < dst (wC s) (wdV V b) ∨ dst (wC s) (wdV V i) = dst (wC s) (wdV V b) ∧ cnV V b < cnV V i then i else b) := by
                    rw [show V.length - i = (V.length - (i + 1)) + 1 by omega]; rfl
                  rw [wi, ci] at step
                  rw [nr] at step
                  have keep : ¬ (dst (wC s) e.1 < dst (wC s) (wdV V b) ∨ dst (wC s) e.1 = dst (wC s) (wdV V b) ∧ cnV V b < e.2.1) → xwp G m_M_nearest (d + 217) 91 [xR 53, xI n, xI f, xI mo, xL be, xZ, xZ, xI nx, xZ] [] h4 Q X := fun z => by
                    rw [if_neg z] at step
                    exact go f mo be h4 B4 ⟨b, b0, f0, mo0, be0, step.symm⟩
                  have upd_ : (dst (wC s) e.1 < dst (wC s) (wdV V b) ∨ dst (wC s) e.1 = dst (wC s) (wdV V b) ∧ cnV V b < e.2.1) → xwp G m_M_nearest (d + 217) 177 [xR 53, xI n, xZ, xZ, xZ, xZ, xI nx, xI k, xI (dst (wC s) e.1)] [] h4 Q X := fun z => by
                    rw [if_pos z] at step
                    exact take_ ⟨trivial, step.symm⟩
                  refine v_M_nearest_146 F4 ?_
                  refine ⟨fun q1 => ?_, fun q1 => ?_⟩
                  · omega
                  · refine ⟨fun q2 => ?_, fun q2 => ?_⟩
                    · exact keep (by omega)
                    · refine ⟨fun q3 => ?_, fun q3 => ?_⟩
                      · refine ⟨?_, ?_⟩
                        · exact ⟨by omega, by omega⟩
                        · refine ⟨fun q4 => ?_, fun q4 => ?_⟩
                          · exact upd_ (Or.inr ⟨by omega, by omega⟩)
                          · exact keep (by omega)
                      · exact upd_ (Or.inl (by omega))
          induction q with
          | zero =>
            intro nx e2 k1 k2 eq o
            refine v_M_nearest_101 B3.1 ?_
            refine ⟨fun q1 => ?_, fun q1 => ?_⟩
            · exact found nx (by omega) k2 eq (fun y => by omega)
            · refine ⟨?_, ?_⟩
              · first | omega | (exfalso; omega)
              · refine ⟨?_, ?_⟩
                · first | omega | (exfalso; omega)
                · refine ⟨?_, ?_⟩
                  · first | omega | (exfalso; omega)
                  · refine ⟨?_, ?_⟩
                    · first | omega | (exfalso; omega)
                    · refine ⟨fun q2 => ?_, fun q2 => ?_⟩
                      · omega
                      · omega
          | succ q ihq =>
            intro nx e2 k1 k2 eq o
            refine v_M_nearest_101 B3.1 ?_
            refine ⟨fun q1 => ?_, fun q1 => ?_⟩
            · exact found nx (by omega) k2 eq (fun y => by omega)
            · refine ⟨?_, ?_⟩
              · omega
              · refine ⟨?_, ?_⟩
                · omega
                · refine ⟨?_, ?_⟩
                  · omega
                  · refine ⟨?_, ?_⟩
                    · omega
                    · refine ⟨fun q2 => ?_, fun q2 => ?_⟩
                      · rw [v64, v64, vk] at q2
                        refine ihq (nx + 1) (by omega) (by omega) (by omega) (fun p p0 p1 => ?_) (Or.inr (by omega))
                        by_cases z : p = nx
                        · rw [z]; exact q2
                        · exact eq p p0 (by omega)
                      · rw [v64, v64, vk] at q2
                        have kx : k < nx := by
                          rcases o with y | y
                          · rw [y, vk] at q2; exact absurd rfl q2
                          · exact y
                        exact found nx kx k2 eq (fun _ => q2)
        refine v_M_nearest_91 B3.1 ?_
        refine ⟨fun q1 => ?_, fun q1 => ?_⟩
        · intro F9
          omega
        · exact run (n - k).toNat k (by omega) (Int.le_refl _) kr.2 (fun p p0 p1 => by omega) (Or.inl rfl)
    refine v_M_nearest_75 BS.1 ?_
    rw [word hS (xsm.refl hS)]
    refine main V.length 0 0 (-1) 0 (wC s) hS (by omega) ⟨BS.1, xsm.refl hS, rfl, rfl⟩ ⟨Int.le_refl _, n0⟩ (fun z => ?_) (fun e he => ⟨fun p p0 p1 => by omega, fun p p0 p1 => ?_⟩) (Or.inl ⟨rfl, rfl, rfl, rfl⟩)
    · by_cases y : n = 0
      · exact y.symm
      · obtain ⟨j, e3, hj, -⟩ := mem 0 (Int.le_refl _) (by omega)
        have := (List.getElem?_eq_some_iff.mp hj).1
        omega
    · obtain ⟨j, e3, hj, e31⟩ := mem p p0 p1
      by_cases y : j = 0
      · rw [y, he] at hj
        rw [← Option.some.inj hj] at e31
        omega
      · have := SV 0 j e e3 (by omega) he hj; omega
  -- text by text
  have loop : ∀ (m k : Nat) (n : Int) (h2 : XH), k + m = (fC s).length → (xFix h2 ∧ xsm (fun c => c = 64) H h2 ∧ xnx h2 ≤ xnx h + 2 * k ∧ xsl h2 ≤ xsl h + 4 * (twS (fC s) k : Int)) → 0 ≤ n → n ≤ twS (fC s) k → (∀ w, cnR (xpl h2 64) w 0 n = nuT (fC s) w k) → xwp G m_M_nearest (d + 217) 9 [xR 53, xI n, xI k, xZ, xZ, xZ, xZ, xZ, xZ] [] h2 Q X := by
    intro m
    induction m with
    | zero =>
      intro k n h2 ek B n0 n1 cc
      have R2 : MSR h2 (fbF (fC s) (bC s)) (zC s) (mC s) := RH.2.1.keep (fun k _ => B.2.1.pl (by omega) (by decide) k) (fun c k c1 c2 => B.2.1.pl (by omega) (by omega) k)
      have ek2 : k = (fC s).length := by omega
      rw [ek2] at n1 cc B
      have km := kS_mono 64 (a := n) (b := T) (by omega) n0
      refine v_M_nearest_9 B.1 ?_
      refine p_M_inSegments B.1 R2 ?_
      refine v_M_nearest_14 B.1 ?_
      refine ⟨fun q1 => ?_, fun q1 => ?_⟩
      · refine s_sort3 B.1 (Int.le_refl _) n0 (by omega) (by omega) (by rw [show n - 0 = n by omega]; omega) (by rw [show n - 0 = n by omega]; omega) (fun hS SS TS nS lS => ?_)
        rw [show n - 0 = n by omega] at nS lS
        exact scan n hS n0 (by omega) ⟨SS.1.1, (B.2.1.mono (fun c _ w => Or.inl w)).trans (SS.1.2.mono (fun c _ w => Or.inl w)), by omega, by omega⟩ TS (fun w => (SS.2.1 w).trans (cc w))
      · refine ⟨?_, ?_⟩
        · exfalso; omega
        · refine ⟨?_, ?_⟩
          · exfalso; omega
          · omega
    | succ m ih =>
      intro k n h2 ek B n0 n1 cc
      have R2 : MSR h2 (fbF (fC s) (bC s)) (zC s) (mC s) := RH.2.1.keep (fun k _ => B.2.1.pl (by omega) (by decide) k) (fun c k c1 c2 => B.2.1.pl (by omega) (by omega) k)
      have tx := fb_at R2 (i := (k : Int)) (by omega) (by omega)
      have r9 := R2.1.1 k (by omega) (by omega)
      obtain ⟨t, ht⟩ : ∃ t, t = fA s k := ⟨_, rfl⟩
      have ht2 : t = ((fC s)[k]?).getD ((0, 0, 0, [], []), false) := by rw [ht]; unfold fA; rw [Int.toNat_natCast]
      rw [← ht] at tx
      obtain ⟨b1, b2, b3⟩ := tx.2.1
      have w62 : ∀ j : Nat, j < (t.1.2.2.2.1 ++ t.1.2.2.2.2).length → (t.1.2.2.2.1 ++ t.1.2.2.2.2)[j]? = some (xpl h2 62 (200 * xpl h2 55 k + j)) := fun j hj => by
        rw [List.length_append] at hj
        by_cases z : j < t.1.2.2.2.1.length
        · rw [List.getElem?_append_left z]; exact tx.2.2.1 j z
        · rw [List.getElem?_append_right (by omega), tx.2.2.2 (j - t.1.2.2.2.1.length) (by omega)]
          exact congrArg some (congrArg (xpl h2 62) (by omega))
      have la : (t.1.2.2.2.1 ++ t.1.2.2.2.2).length = t.1.2.2.2.1.length + t.1.2.2.2.2.length := List.length_append
      have tk : twS (fC s) (k + 1) = twS (fC s) k + (t.1.2.2.2.1.length + t.1.2.2.2.2.length) := by rw [ht2]; rfl
      have nk : ∀ w, nuT (fC s) w (k + 1) = nuT (fC s) w k + (if w ∈ twT t.1 then 1 else 0) := fun w => by rw [ht2]; rfl
      have tot : (twS (fC s) (k + 1) : Int) ≤ T := by
        have := twS_mono (fC s) ((fC s).length - (k + 1)) (k + 1)
        rw [show k + 1 + ((fC s).length - (k + 1)) = (fC s).length by omega] at this
        omega
      have zl := nz_len (t.1.2.2.2.1 ++ t.1.2.2.2.2)
      refine v_M_nearest_9 B.1 ?_
      refine p_M_inSegments B.1 R2 ?_
      refine v_M_nearest_14 B.1 ?_
      refine ⟨fun q1 => ?_, fun q1 => ?_⟩
      · omega
      · refine ⟨?_, ?_⟩
        · omega
        · refine ⟨?_, ?_⟩
          · omega
          · refine p_M_base B.1 tx r9.1 r9.2 ?_
            have eb : bsT t 0 (xpl h2 55 k) = 200 * xpl h2 55 k := by unfold bsT; rw [if_neg (by decide)]; omega
            rw [eb]
            refine v_M_nearest_34 B.1 ?_
            refine ⟨?_, ?_⟩
            · first | exact ⟨by omega, by omega⟩ | omega
            · refine ⟨?_, ?_⟩
              · first | exact ⟨by omega, by omega⟩ | omega
              · refine ⟨?_, ?_⟩
                · first | exact ⟨by omega, by omega⟩ | omega
                · refine ⟨?_, ?_⟩
                  · first | exact ⟨by omega, by omega⟩ | omega
                  · rw [b1, b2, show ((t.1.2.2.2.1.length : Int) + t.1.2.2.2.2.length) = ((t.1.2.2.2.1 ++ t.1.2.2.2.2).length : Int) by rw [la]; omega]
                    refine s_M_gather B.1 n0 (by omega) (by omega) (by omega) w62 (fun h3 F3 S3 n3 l3 lo3 at3 => ?_)
                    rw [← tw_all] at zl at3 ⊢
                    have k4 := kS_four (p := (twT t.1).length) (by omega) (by omega)
                    have e9 : n + ((twT t.1).length : Int) - n = (twT t.1).length := by omega
                    refine v_M_nearest_56 F3 ?_
                    refine s_M_different F3 n0 (by omega) (by omega) (by omega) (by rw [e9]; omega) (by rw [e9]; omega) (fun h4 to F4 S4 n4 l4 t0 t1 lo4 st4 mem4 => ?_)
                    rw [e9] at n4 l4
                    refine v_M_nearest_59 F4 ?_
                    refine ⟨?_, ?_⟩
                    · exact ⟨by omega, by omega⟩
                    · have hP : ∀ w, w ∈ twT t.1 ↔ ∃ i, n ≤ i ∧ i < to ∧ xpl h4 64 i = w := fun w => by
                        rw [mem4 w]
                        constructor
                        · intro hw
                          obtain ⟨j, hj⟩ := List.mem_iff_getElem?.mp hw
                          have jl := (List.getElem?_eq_some_iff.mp hj).1
                          have q := at3 j jl
                          rw [hj] at q
                          exact ⟨n + j, by omega, by omega, (Option.some.inj q).symm⟩
                        · rintro ⟨i, i0, i1, i2⟩
                          have q := at3 (i - n).toNat (by omega)
                          rw [show n + (((i - n).toNat : Nat) : Int) = i by omega, i2] at q
                          exact List.mem_of_getElem? q
                      have g := ih (k + 1) to h4 (by omega) ⟨F4, (B.2.1.trans S3).trans S4, by omega, by rw [tk]; omega⟩ (by omega) (by rw [tk]; omega) (fun w => by
                        rw [nk w, cnR_split (xpl h4 64) w (lo := 0) (m := n) (hi := to) n0 t0, cn_strict st4 w (hP w), cnR_congr (fun i _ i1 => (lo4 i i1).trans (lo3 i i1)), cc w])
                      exact g
  have g := loop (fC s).length 0 0 H (by omega) ⟨FH, xsm.refl H, by omega, by show xsl H ≤ xsl h + 4 * ((0 : Nat) : Int); omega⟩ (Int.le_refl _) (by omega) (fun w => cnR_nil _ _ _)
  exact g

end
