/-! ===== mowr3 ===== -/
section
theorem shr_byte (x : Int) {k : Int} (hk : k = 24 ∨ k = 16 ∨ k = 8 ∨ k = 0) : xand (xshr x k) 255 = byb x k := by
  have b8 : ∀ j : Fin 32, 8 ≤ j.val → (255#32).getLsbD j.val = false := by decide
  have key : ∀ (V : BitVec 32) (n : Nat), n ≤ 24 → V.sshiftRight n &&& 255#32 = V >>> n &&& 255#32 := fun V n hn => by
    refine BitVec.eq_of_getLsbD_eq (fun i hi => ?_)
    rw [BitVec.getLsbD_and, BitVec.getLsbD_and]
    by_cases z : i < 8
    · rw [BitVec.getLsbD_sshiftRight, BitVec.getLsbD_ushiftRight, if_pos (show n + i < 32 by omega), decide_eq_false (show ¬ 32 ≤ i by omega)]
      rfl
    · rw [b8 ⟨i, hi⟩ (by show 8 ≤ i; omega), Bool.and_false, Bool.and_false]
  have e1 : ∀ (V : Int32) (k n : Nat), n ≤ 24 → (V >>> (Int32.ofInt (k : Int) &&& 31)).toBitVec = V.toBitVec.sshiftRight n → (V.toUInt32 >>> ((Int32.ofInt (k : Int)).toUInt32 &&& Int32.toUInt32 31)).toInt32.toBitVec = V.toBitVec >>> n → xand ((V >>> (Int32.ofInt (k : Int) &&& 31)).toInt) 255 = xand ((V.toUInt32 >>> ((Int32.ofInt (k : Int)).toUInt32 &&& Int32.toUInt32 31)).toInt32.toInt) 255 := fun V k n hn h1 h2 => by
    unfold xand
    rw [Int32.ofInt_toInt, Int32.ofInt_toInt]
    congr 1
    rw [← Int32.toBitVec_inj, Int32.toBitVec_and, Int32.toBitVec_and, h1, h2]
    exact key _ n hn
  unfold byb xshr xushr
  rcases hk with rfl | rfl | rfl | rfl
  · exact e1 (Int32.ofInt x) 24 24 (by decide) rfl rfl
  · exact e1 (Int32.ofInt x) 16 16 (by decide) rfl rfl
  · exact e1 (Int32.ofInt x) 8 8 (by decide) rfl rfl
  · exact e1 (Int32.ofInt x) 0 0 (by decide) rfl rfl
/-- the twenty bytes of five numbers -/
def b20 (a b c d e : Int) : List Int := by4 a ++ (by4 b ++ (by4 c ++ (by4 d ++ by4 e)))
theorem b20_at (a b c d e : Int) (g : Int → Int) (h0 : g 0 = a) (h1 : g 1 = b) (h2 : g 2 = c) (h3 : g 3 = d) (h4 : g 4 = e) (k : Nat) (hk : k < 20) : (b20 a b c d e)[k]? = some (xand (xshr (g (Int.tdiv k 4)) (24 - (8 * (Int.tmod k 4)))) 255) := by
  have t : ∀ (k : Nat) (x s : Int) (j : Int), g (Int.tdiv (k : Int) 4) = x → (24 - (8 * (Int.tmod (k : Int) 4))) = s → (s = 24 ∨ s = 16 ∨ s = 8 ∨ s = 0) → (b20 a b c d e)[k]? = some (byb x s) → (b20 a b c d e)[k]? = some (xand (xshr (g (Int.tdiv k 4)) (24 - (8 * (Int.tmod k 4)))) 255) := fun k x s j e1 e2 e3 e4 => by
    rw [e1, e2, shr_byte x e3]; exact e4
  match k, hk with
  | 0, _ => exact t 0 a 24 0 (h0) rfl (by decide) rfl
  | 1, _ => exact t 1 a 16 0 (h0) rfl (by decide) rfl
  | 2, _ => exact t 2 a 8 0 (h0) rfl (by decide) rfl
  | 3, _ => exact t 3 a 0 0 (h0) rfl (by decide) rfl
  | 4, _ => exact t 4 b 24 0 (h1) rfl (by decide) rfl
  | 5, _ => exact t 5 b 16 0 (h1) rfl (by decide) rfl
  | 6, _ => exact t 6 b 8 0 (h1) rfl (by decide) rfl
  | 7, _ => exact t 7 b 0 0 (h1) rfl (by decide) rfl
  | 8, _ => exact t 8 c 24 0 (h2) rfl (by decide) rfl
  | 9, _ => exact t 9 c 16 0 (h2) rfl (by decide) rfl
  | 10, _ => exact t 10 c 8 0 (h2) rfl (by decide) rfl
  | 11, _ => exact t 11 c 0 0 (h2) rfl (by decide) rfl
  | 12, _ => exact t 12 d 24 0 (h3) rfl (by decide) rfl
  | 13, _ => exact t 13 d 16 0 (h3) rfl (by decide) rfl
  | 14, _ => exact t 14 d 8 0 (h3) rfl (by decide) rfl
  | 15, _ => exact t 15 d 0 0 (h3) rfl (by decide) rfl
  | 16, _ => exact t 16 e 24 0 (h4) rfl (by decide) rfl
  | 17, _ => exact t 17 e 16 0 (h4) rfl (by decide) rfl
  | 18, _ => exact t 18 e 8 0 (h4) rfl (by decide) rfl
  | 19, _ => exact t 19 e 0 0 (h4) rfl (by decide) rfl
  | k + 20, hk => exact absurd hk (by omega)
theorem b20_len (a b c d e : Int) : (b20 a b c d e).length = 20 := rfl
theorem b20_rng {a b c d e x : Int} (h : x ∈ b20 a b c d e) : 0 ≤ x ∧ x ≤ 255 := by
  have k4 : ∀ y, ∀ z ∈ by4 y, 0 ≤ z ∧ z ≤ 255 := fun y z hz => by
    unfold by4 at hz
    simp only [List.mem_cons, List.not_mem_nil, or_false] at hz
    rcases hz with r | r | r | r <;> rw [r] <;> exact xand_rng255 _
  unfold b20 at h
  simp only [List.mem_append] at h
  rcases h with h | h | h | h | h <;> exact k4 _ x h
theorem s_M_feed {G : XG} {d : Nat} {h : XH} {Q : XV → XH → Prop} {X : Nat → XH → Prop} {s : CS} {a b c i j n9 s9 : Int} (F : xFix h) (R : MTS h s) (hc : xnx h + 1 ≤ xKC) (hl : xsl h + 5 ≤ xKS) (hn : 1 ≤ n9) (hs : 5 ≤ s9) (hq : MAT Q xI h (fC s) [2] (cFeed s a b c i j) n9 s9) : xwp G m_M_feed (d + 2) 0 [xR 53, xI a, xI b, xI c, xI i, xI j, xZ, xZ] [] h Q X := by
  obtain ⟨t1, t2, t3, t4⟩ := R.1
  have hnx := F.nx
  unfold cFeed at hq
  refine v_M_feed_0 F ?_
  refine ⟨fun q1 => ?_, fun q1 => ?_⟩
  · refine ⟨?_, ?_⟩
    · first | exact hc | exact hl
    · refine ⟨?_, ?_⟩
      · first | exact hc | exact hl
      · intro F9
        rw [if_pos (by omega)] at hq
        obtain ⟨N, hN⟩ : ∃ N, N = xnx (xst h 53 0 0) := ⟨_, rfl⟩
        have hN2 : N = xnx h := hN
        rw [← hN] at F9 ⊢
        obtain ⟨H, hH⟩ : ∃ H, H = xst (xst (xst (xst (xst (xmk (xst h 53 0 0) 100 5 (fun _ => 0)) N 0 a) N 1 b) N 2 c) N 3 i) N 4 j := ⟨_, rfl⟩
        rw [← hH] at F9 ⊢
        have g0 : xpl H N 0 = a := by rw [hH, xpl_ok (by decide), xpl_ok (by decide), xpl_ok (by decide), xpl_ok (by decide), xpl_hit]
        have g1 : xpl H N 1 = b := by rw [hH, xpl_ok (by decide), xpl_ok (by decide), xpl_ok (by decide), xpl_hit]
        have g2 : xpl H N 2 = c := by rw [hH, xpl_ok (by decide), xpl_ok (by decide), xpl_hit]
        have g3 : xpl H N 3 = i := by rw [hH, xpl_ok (by decide), xpl_hit]
        have g4 : xpl H N 4 = j := by rw [hH, xpl_hit]
        have oo : ∀ c k, c ≠ N → c ≠ 53 → xpl H c k = xpl h c k := fun c k c1 c2 => by
          rw [hH, xpl_oa c1, xpl_oa c1, xpl_oa c1, xpl_oa c1, xpl_oa c1, xpl_mk, if_neg (by show c ≠ xnx (xst h 53 0 0); rw [← hN]; exact c1), xpl_oa c2]
        have o53 : ∀ k, k ≠ 0 → xpl H 53 k = xpl h 53 k := fun k k0 => by
          rw [hH, xpl_oa (by omega), xpl_oa (by omega), xpl_oa (by omega), xpl_oa (by omega), xpl_oa (by omega), xpl_mk, if_neg (by show (53 : Int) ≠ xnx (xst h 53 0 0); rw [← hN]; omega), xpl_ok k0]
        have h0 : xpl H 53 0 = 0 := by
          rw [hH, xpl_oa (by omega), xpl_oa (by omega), xpl_oa (by omega), xpl_oa (by omega), xpl_oa (by omega), xpl_mk, if_neg (by show (53 : Int) ≠ xnx (xst h 53 0 0); rw [← hN]; omega), xpl_hit]
        have tN : xtg H N = 100 := by rw [hH]; show xtg (xmk (xst h 53 0 0) 100 5 (fun _ => 0)) N = 100; rw [xtg_mk, if_pos hN]
        have lN : xln H N = 5 := by rw [hH]; show xln (xmk (xst h 53 0 0) 100 5 (fun _ => 0)) N = 5; rw [xln_mk, if_pos hN]
        have nH : xnx H = xnx h + 1 := by rw [hH]; rfl
        have lH : xsl H = xsl h + 5 := by rw [hH]; rfl
        have SH : xsm MWW h H := by
          rw [hH]
          have s1 : xsm MWW h (xmk (xst h 53 0 0) 100 5 (fun _ => 0)) := ((xsm.refl h).st (by decide) (Or.inl ⟨by decide, by decide⟩)).mk (by decide)
          exact ((((s1.st (by decide) (Or.inr (by omega))).st (by decide) (Or.inr (by omega))).st (by decide) (Or.inr (by omega))).st (by decide) (Or.inr (by omega))).st (by decide) (Or.inr (by omega))
        have MH : MSR H (fbF (fC s) (bC s)) (zC s) (mC s) := by
          have A : MSA H (fbF (fC s) (bC s)) := by
            obtain ⟨⟨p1, p2⟩, ⟨n1, n2⟩, tx⟩ := R.2.1.a
            exact ⟨⟨fun i i0 i1 => by rw [oo 55 _ (by omega) (by decide)]; exact p1 i i0 i1, fun i j i0 i1 j0 j1 e => by rw [oo 55 _ (by omega) (by decide), oo 55 _ (by omega) (by decide)] at e; exact p2 i j i0 i1 j0 j1 e⟩, ⟨(o53 4 (by decide)).trans n1, n2⟩, fun i t ht => by rw [oo 55 _ (by omega) (by decide)]; exact (tx i t ht).keep (fun c k c1 c2 => oo c k (by omega) (by omega))⟩
          exact A.msr R.2.1 (o53 5 (by decide)) (o53 6 (by decide)) (fun k => oo 56 k (by omega) (by decide)) R.2.1.2.2.2.2.1
        obtain ⟨E, hE⟩ : ∃ E, E = b20 a b c i j := ⟨_, rfl⟩
        have E20 : E.length = 20 := by rw [hE]; rfl
        have loop : ∀ (n k : Nat) (h2 : XH), k + n = 20 → xFix h2 → xsm (fun c => c = 54) H h2 → xnx h2 = xnx H → xsl h2 = xsl H → (∀ q : Int, q < (tC s).length → xpl h2 54 q = xpl h 54 q) → (∀ q : Nat, q < k → E[q]? = some (xpl h2 54 ((tC s).length + q))) → xwp G m_M_feed (d + 2) 51 [xR 53, xZ, xZ, xZ, xZ, xZ, xR N, xI k] [] h2 Q X := by
          intro n
          induction n with
          | zero =>
            intro k h2 e F2 S2 n2 l2 lo hi
            have z2 : xpl h2 53 2 = (tC s).length := (S2.pl (by omega) (by decide) 2).trans ((o53 2 (by decide)).trans t1)
            refine v_M_feed_51 F2 ?_
            refine ⟨fun q1 => ?_, fun q1 => ?_⟩
            · refine ⟨?_, ?_⟩
              · first | (exfalso; omega) | (rw [z2]; exact ⟨by omega, by omega⟩)
              · intro F9
                rw [z2] at F9 ⊢
                have k53 : ∀ k, k ≠ 0 → k ≠ 2 → xpl (xst h2 53 2 ((tC s).length + 20)) 53 k = xpl h 53 k := fun k k0 k2 => (xpl_ok k2).trans ((S2.pl (by omega) (by decide) k).trans (o53 k k0))
                refine hq _ F9 ⟨⟨?_, ?_, fun q hq2 => ?_, fun x hx => ?_⟩, ?_, ?_⟩ ((SH.then S2 (fun c _ w => ⟨by omega, by omega⟩)).st (by decide) (Or.inl ⟨by decide, by decide⟩)) (fun k k0 k2 _ _ _ _ _ => k53 k k0 k2) (Or.inr ⟨k53 26 (by decide) (by decide), rfl⟩) ((xpl_ok (by decide)).trans ((S2.pl (by omega) (by decide) 0).trans h0)) (by show xnx h2 ≤ _; omega) (by show xsl h2 ≤ _; omega)
                · rw [xpl_hit]
                  show _ = (((tC s ++ by4 a ++ by4 b ++ by4 c ++ by4 i ++ by4 j).length : Nat) : Int)
                  simp only [List.length_append, show ∀ x, (by4 x).length = 4 from fun _ => rfl]
                  omega
                · show (tC s ++ by4 a ++ by4 b ++ by4 c ++ by4 i ++ by4 j).length ≤ 400
                  simp only [List.length_append, show ∀ x, (by4 x).length = 4 from fun _ => rfl]
                  omega
                · have e9 : tC s ++ by4 a ++ by4 b ++ by4 c ++ by4 i ++ by4 j = tC s ++ E := by rw [hE]; unfold b20; simp only [List.append_assoc]
                  have hq2 : q < (tC s ++ by4 a ++ by4 b ++ by4 c ++ by4 i ++ by4 j).length := hq2
                  show (tC s ++ by4 a ++ by4 b ++ by4 c ++ by4 i ++ by4 j)[q]? = _
                  rw [e9] at hq2 ⊢
                  rw [List.length_append, E20] at hq2
                  rw [xpl_oa (by decide)]
                  by_cases w : q < (tC s).length
                  · rw [List.getElem?_append_left w, lo q (by omega)]; exact t3 q w
                  · rw [List.getElem?_append_right (by omega), hi (q - (tC s).length) (by omega)]
                    exact congrArg some (congrArg (xpl h2 54) (by omega))
                · have e9 : tC s ++ by4 a ++ by4 b ++ by4 c ++ by4 i ++ by4 j = tC s ++ E := by rw [hE]; unfold b20; simp only [List.append_assoc]
                  have hx : x ∈ tC s ++ by4 a ++ by4 b ++ by4 c ++ by4 i ++ by4 j := hx
                  rw [e9] at hx
                  rcases List.mem_append.mp hx with w | w
                  · exact t4 x w
                  · rw [hE] at w; exact b20_rng w
                · have oH : ∀ c k, c ≠ 53 → c ≠ 54 → c < xnx H → xpl (xst h2 53 2 ((tC s).length + 20)) c k = xpl H c k := fun c k c1 c2 c3 => (xpl_oa c1).trans (S2.pl c3 c2 k)
                  have o5 : ∀ k, k ≠ 2 → xpl (xst h2 53 2 ((tC s).length + 20)) 53 k = xpl H 53 k := fun k k2 => (xpl_ok k2).trans (S2.pl (by omega) (by decide) k)
                  have A : MSA (xst h2 53 2 ((tC s).length + 20)) (fbF (fC s) (bC s)) := by
                    obtain ⟨⟨p1, p2⟩, ⟨n1, n2'⟩, tx⟩ := MH.a
                    exact ⟨⟨fun i i0 i1 => by rw [oH 55 _ (by decide) (by decide) (by omega)]; exact p1 i i0 i1, fun i j i0 i1 j0 j1 e => by rw [oH 55 _ (by decide) (by decide) (by omega), oH 55 _ (by decide) (by decide) (by omega)] at e; exact p2 i j i0 i1 j0 j1 e⟩, ⟨(o5 4 (by decide)).trans n1, n2'⟩, fun i t ht => by rw [oH 55 _ (by decide) (by decide) (by omega)]; exact (tx i t ht).keep (fun c k c1 c2 => oH c k (by omega) (by omega) (by omega))⟩
                  exact A.msr MH (o5 5 (by decide)) (o5 6 (by decide)) (fun k => oH 56 k (by decide) (by decide) (by omega)) MH.2.2.2.2.1
                · exact (k53 14 (by decide) (by decide)).trans R.2.2
            · refine ⟨?_, ?_⟩
              · first | (exfalso; omega) | (rw [z2]; exact ⟨by omega, by omega⟩)
              · refine ⟨?_, ?_⟩
                · first | (exfalso; omega) | (rw [z2]; exact ⟨by omega, by omega⟩)
                · refine ⟨?_, ?_⟩
                  · first | (exfalso; omega) | (rw [z2]; exact ⟨by omega, by omega⟩)
                  · refine ⟨?_, ?_⟩
                    · first | (exfalso; omega) | (rw [z2]; exact ⟨by omega, by omega⟩)
                    · refine ⟨?_, ?_⟩
                      · first | (exfalso; omega) | (rw [z2]; exact ⟨by omega, by omega⟩)
                      · refine ⟨?_, ?_⟩
                        · first | (exfalso; omega) | (rw [z2]; exact ⟨by omega, by omega⟩)
                        · refine ⟨?_, ?_⟩
                          · first | (exfalso; omega) | (rw [z2]; exact ⟨by omega, by omega⟩)
                          · refine ⟨?_, ?_⟩
                            · first | (exfalso; omega) | (rw [z2]; exact ⟨by omega, by omega⟩)
                            · intro F9
                              omega
          | succ n ih =>
            intro k h2 e F2 S2 n2 l2 lo hi
            have z2 : xpl h2 53 2 = (tC s).length := (S2.pl (by omega) (by decide) 2).trans ((o53 2 (by decide)).trans t1)
            have tN2 : xtg h2 N = 100 := (S2.tg (by omega)).trans tN
            have lN2 : xln h2 N = 5 := (S2.ln (by omega)).trans lN
            have gN : ∀ q, xpl h2 N q = xpl H N q := fun q => S2.pl (by omega) (by omega) q
            have bt := b20_at a b c i j (xpl h2 N) ((gN 0).trans g0) ((gN 1).trans g1) ((gN 2).trans g2) ((gN 3).trans g3) ((gN 4).trans g4) k (by omega)
            rw [← hE] at bt
            have dv : 0 ≤ Int.tdiv (k : Int) 4 ∧ Int.tdiv (k : Int) 4 < 5 := by rw [Int.tdiv_eq_ediv_of_nonneg (by omega)]; omega
            have md : 0 ≤ Int.tmod (k : Int) 4 ∧ Int.tmod (k : Int) 4 < 4 := by rw [Int.tmod_eq_emod_of_nonneg (by omega)]; omega
            refine v_M_feed_51 F2 ?_
            refine ⟨fun q1 => ?_, fun q1 => ?_⟩
            · refine ⟨?_, ?_⟩
              · first | exact tN2 | (rw [lN2]; exact dv.2) | exact dv.1 | (rw [z2]; exact ⟨by omega, by omega⟩) | (rw [z2]; omega) | exact ⟨by omega, by omega⟩
              · intro F9
                omega
            · refine ⟨?_, ?_⟩
              · first | exact tN2 | (rw [lN2]; exact dv.2) | exact dv.1 | (rw [z2]; exact ⟨by omega, by omega⟩) | (rw [z2]; omega) | exact ⟨by omega, by omega⟩
              · refine ⟨?_, ?_⟩
                · first | exact tN2 | (rw [lN2]; exact dv.2) | exact dv.1 | (rw [z2]; exact ⟨by omega, by omega⟩) | (rw [z2]; omega) | exact ⟨by omega, by omega⟩
                · refine ⟨?_, ?_⟩
                  · first | exact tN2 | (rw [lN2]; exact dv.2) | exact dv.1 | (rw [z2]; exact ⟨by omega, by omega⟩) | (rw [z2]; omega) | exact ⟨by omega, by omega⟩
                  · refine ⟨?_, ?_⟩
                    · first | exact tN2 | (rw [lN2]; exact dv.2) | exact dv.1 | (rw [z2]; exact ⟨by omega, by omega⟩) | (rw [z2]; omega) | exact ⟨by omega, by omega⟩
                    · refine ⟨?_, ?_⟩
                      · first | exact tN2 | (rw [lN2]; exact dv.2) | exact dv.1 | (rw [z2]; exact ⟨by omega, by omega⟩) | (rw [z2]; omega) | exact ⟨by omega, by omega⟩
                      · refine ⟨?_, ?_⟩
                        · first | exact tN2 | (rw [lN2]; exact dv.2) | exact dv.1 | (rw [z2]; exact ⟨by omega, by omega⟩) | (rw [z2]; omega) | exact ⟨by omega, by omega⟩
                        · refine ⟨?_, ?_⟩
                          · first | exact tN2 | (rw [lN2]; exact dv.2) | exact dv.1 | (rw [z2]; exact ⟨by omega, by omega⟩) | (rw [z2]; omega) | exact ⟨by omega, by omega⟩
                          · refine ⟨?_, ?_⟩
                            · first | exact tN2 | (rw [lN2]; exact dv.2) | exact dv.1 | (rw [z2]; exact ⟨by omega, by omega⟩) | (rw [z2]; omega) | exact ⟨by omega, by omega⟩
                            · intro F9
                              rw [z2] at F9 ⊢
                              refine ih (k + 1) _ (by omega) F9 (S2.st (k := ((tC s).length : Int) + k) (by omega) (Or.inl rfl)) n2 l2 (fun q hq2 => ?_) (fun q hq2 => ?_)
                              · rw [xpl_ok (by omega)]; exact lo q hq2
                              · by_cases w : q = k
                                · rw [w, xpl_hit]; exact bt
                                · rw [xpl_ok (by omega)]; exact hi q (by omega)
        exact loop 20 0 H (by decide) F9 (xsm.refl H) rfl rfl (fun q _ => oo 54 q (by omega) (by decide)) (fun q hq2 => absurd hq2 (Nat.not_lt_zero _))
  · intro F9
    rw [if_neg (by omega)] at hq
    rw [xst_xst] at F9 ⊢
    exact hq.rd R (by omega) (by omega) F9
theorem s_M_trim {G : XG} {d : Nat} {h : XH} {Q : XV → XH → Prop} {X : Nat → XH → Prop} {s : CS} {x n9 s9 : Int} (F : xFix h) (R : MTS h s) (hn : 0 ≤ n9) (hs : 0 ≤ s9) (hq : MAT Q xI h (fC s) [1] (cTrim s x) n9 s9) : xwp G m_M_trim (d + 2) 0 [xR 53, xI x] [] h Q X := by
  obtain ⟨t1, t2, t3, t4⟩ := R.1
  have hnx := F.nx
  unfold cTrim at hq
  refine v_M_trim_0 F ?_
  refine ⟨fun q1 => ?_, fun q1 => ?_⟩
  · intro F9
    rw [if_neg (by omega)] at hq
    rw [xst_xst] at F9 ⊢
    exact hq.rd R hn hs F9
  · refine ⟨fun q2 => ?_, fun q2 => ?_⟩
    · intro F9
      rw [if_neg (by omega)] at hq
      rw [xst_xst] at F9 ⊢
      exact hq.rd R hn hs F9
    · intro F9
      rw [if_pos ⟨by omega, by omega⟩] at hq
      have R2 := R.th (v := 0)
      have o53 : ∀ k, k ≠ 2 → xpl (xst (xst h 53 0 0) 53 2 x) 53 k = xpl (xst h 53 0 0) 53 k := fun k hk => xpl_ok hk
      have oo : ∀ c k, c ≠ 53 → xpl (xst (xst h 53 0 0) 53 2 x) c k = xpl (xst h 53 0 0) c k := fun c k hc => xpl_oa hc
      have A : MSA (xst (xst h 53 0 0) 53 2 x) (fbF (fC s) (bC s)) := by
        obtain ⟨⟨p1, p2⟩, ⟨n1, n2⟩, tx⟩ := R2.2.1.a
        exact ⟨⟨fun i i0 i1 => by rw [oo 55 _ (by decide)]; exact p1 i i0 i1, fun i j i0 i1 j0 j1 e => by rw [oo 55 _ (by decide), oo 55 _ (by decide)] at e; exact p2 i j i0 i1 j0 j1 e⟩, ⟨(o53 4 (by decide)).trans n1, n2⟩, fun i t ht => by rw [oo 55 _ (by decide)]; exact (tx i t ht).keep (fun c k c1 c2 => oo c k (by omega))⟩
      have tl : ((tC s).take x.toNat).length = x.toNat := by rw [List.length_take]; omega
      refine hq _ F9 ⟨⟨?_, ?_, fun i hi => ?_, fun b hb => t4 b (List.mem_of_mem_take hb)⟩, A.msr R2.2.1 (o53 5 (by decide)) (o53 6 (by decide)) (fun k => oo 56 k (by decide)) R2.2.1.2.2.2.2.1, (o53 14 (by decide)).trans R2.2.2⟩ (((xsm.refl h).st (by decide) (Or.inl ⟨by decide, by decide⟩)).st (by decide) (Or.inl ⟨by decide, by decide⟩)) (fun k k0 k2 _ _ _ _ _ => (o53 k k2).trans (xpl_ok k0)) (Or.inr ⟨(o53 26 (by decide)).trans (xpl_ok (by decide)), rfl⟩) ((o53 0 (by decide)).trans (xpl_hit _ _ _ _)) (by show xnx h ≤ _; omega) (by show xsl h ≤ _; omega)
      · rw [xpl_hit]
        show x = (((tC s).take x.toNat).length : Int)
        rw [tl]; omega
      · show ((tC s).take x.toNat).length ≤ 400
        rw [tl]; omega
      · have hi : i < ((tC s).take x.toNat).length := hi
        show ((tC s).take x.toNat)[i]? = _
        rw [tl] at hi
        rw [List.getElem?_take, if_pos hi, oo 54 _ (by decide), xpl_oa (by decide)]
        exact t3 i (by omega)

end
