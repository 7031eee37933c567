/-! ===== rowvc ===== -/
section
/-! the constructors on the first heap: rows -/
abbrev m_M_init : XM := (⟨"BeaconIndexModel", "<init>", "()V"⟩, prog_14_method_1_code, 2, none, [])
theorem d_M_init_230 : decode prog_14_method_1_code 230 = .ok (.iload_n 1, 1) := by decide +kernel
theorem d_M_init_231 : decode prog_14_method_1_code 231 = .ok (.bipush 60, 2) := by decide +kernel
theorem d_M_init_233 : decode prog_14_method_1_code 233 = .ok (.if_icmp .ge 16, 3) := by decide +kernel
theorem d_M_init_249 : decode prog_14_method_1_code 249 = .ok (.return_, 1) := by decide +kernel
theorem d_M_init_236 : decode prog_14_method_1_code 236 = .ok (.aload_n 0, 1) := by decide +kernel
theorem d_M_init_237 : decode prog_14_method_1_code 237 = .ok (.getfield 13, 3) := by decide +kernel
theorem d_M_init_240 : decode prog_14_method_1_code 240 = .ok (.iload_n 1, 1) := by decide +kernel
theorem d_M_init_241 : decode prog_14_method_1_code 241 = .ok (.iload_n 1, 1) := by decide +kernel
theorem d_M_init_242 : decode prog_14_method_1_code 242 = .ok (.iastore, 1) := by decide +kernel
theorem d_M_init_243 : decode prog_14_method_1_code 243 = .ok (.iinc 1 1, 3) := by decide +kernel
theorem d_M_init_246 : decode prog_14_method_1_code 246 = .ok (.goto (-16), 3) := by decide +kernel
theorem v_M_init_230 {G : XG} {d : Nat} {h : XH} {Q : XV → XH → Prop} {X : Nat → XH → Prop} {x0 x1 : Int} (hyp : (((60 : Int) ≤ x1 → (Q xN h)) ∧ (¬ (60 : Int) ≤ x1 → xtg h x0 = 11 ∧ xtg h (xpl h x0 3) = 100 ∧ 0 ≤ (xpl h x0 3) ∧ 0 ≤ x1 ∧ x1 < (xln h (xpl h x0 3)) ∧ (xwp G m_M_init (d + 3) 230 [xR x0, xI (x1 + 1)] [] (xst h (xpl h x0 3) x1 x1) Q X)))) : xwp G m_M_init (d + 3) 230 [xR x0, xI x1] [] h Q X := by
  refine xr_okL (fun hl9 => ?_)
  have r_x1 : -2147483648 ≤ x1 ∧ x1 ≤ 2147483647 := hl9 (xI x1) (.tail _ (.head _)) (Nat.le_of_ble_eq_true rfl)
  refine xr_iload_n (pc := 230) (i := 1) (hI := d_M_init_230) (hi := rfl) (hl := rfl) ?_
  refine xr_bipush (pc := 231) (hI := d_M_init_231) (hr := by decide) (hv := by decide) ?_
  refine xr_icmp_ge (pc := 233) (tgt := 249) (hI := d_M_init_233) (ht := by decide) (fun q9 => ?_) (fun q9 => ?_)
  · replace hyp := hyp.1 q9
    have q1_ := q9
    clear q9
    refine xr_return (S := []) (pc := 249) (hI := d_M_init_249) (hr := rfl) ?_
    exact hyp
  · replace hyp := hyp.2 q9
    have q1_ := q9
    clear q9
    refine xr_aload_n (pc := 236) (i := 0) (hI := d_M_init_236) (hi := rfl) (hl := rfl) ?_
    obtain ⟨c9, hyp⟩ := hyp
    have t2_ := c9
    clear c9
    refine xg_getf (pc := 237) (ci := 11) (k := 3) (N := 38) (v9 := 2) (v := (xpl h x0 3)) (T := xF11) (hI := d_M_init_237) (hw := w_1590) rfl xi11 (Or.inl rfl) (Nat.le_of_ble_eq_true rfl) (Nat.le_of_ble_eq_true rfl) rfl t2_ rfl (fun f3_ => ?_)
    clear f3_
    refine xr_iload_n (pc := 240) (i := 1) (hI := d_M_init_240) (hi := rfl) (hl := rfl) ?_
    refine xr_iload_n (pc := 241) (i := 1) (hI := d_M_init_241) (hi := rfl) (hl := rfl) ?_
    obtain ⟨c9, hyp⟩ := hyp
    have t4_ := c9
    clear c9
    obtain ⟨c5_, hyp⟩ := hyp
    obtain ⟨c6_, hyp⟩ := hyp
    obtain ⟨c7_, hyp⟩ := hyp
    refine xr_iastore (pc := 242) (hI := d_M_init_242) t4_ c5_ c6_ (xlt_of rfl c7_) ?_
    refine xr_iinc (pc := 243) (i := 1) (L9 := [xR x0, xI (x1 + 1)]) (hI := d_M_init_243) (hl := rfl) (hn := Nat.le_of_ble_eq_true rfl) (hr := ⟨by clear hyp; omega, by clear hyp; omega⟩) (hL9 := rfl) ?_
    refine xr_goto (pc := 246) (tgt := 230) (hI := d_M_init_246) (ht := by decide) ?_
    exact hyp
/-- the model's row of places -/
def xRow (h : XH) : Nat → XH
  | 0 => h
  | n + 1 => xst (xRow h n) 55 (n : Int) (n : Int)
theorem xRow_tg (h : XH) : ∀ (n : Nat) (a : Int), xtg (xRow h n) a = xtg h a
  | 0, _ => rfl
  | n + 1, a => xRow_tg h n a
theorem xRow_ln (h : XH) : ∀ (n : Nat) (a : Int), xln (xRow h n) a = xln h a
  | 0, _ => rfl
  | n + 1, a => xRow_ln h n a
theorem xRow_pl (h : XH) : ∀ (n : Nat) (a k : Int), a ≠ 55 → xpl (xRow h n) a k = xpl h a k
  | 0, _, _, _ => rfl
  | n + 1, a, k, ha => by
    show xpl (xst (xRow h n) 55 (n : Int) (n : Int)) a k = _
    rw [xpl_oa ha]; exact xRow_pl h n a k ha
theorem xRow_at (h : XH) : ∀ (n : Nat) (k : Nat), k < n → xpl (xRow h n) 55 k = k
  | 0, _, hk => absurd hk (Nat.not_lt_zero _)
  | n + 1, k, hk => by
    show xpl (xst (xRow h n) 55 (n : Int) (n : Int)) 55 k = k
    by_cases z : k = n
    · rw [z, xpl_hit]
    · rw [xpl_ok (by omega)]; exact xRow_at h n k (by omega)
theorem xRow_nx (h : XH) : ∀ n : Nat, xnx (xRow h n) = xnx h
  | 0 => rfl
  | n + 1 => xRow_nx h n
theorem xRow_sl (h : XH) : ∀ n : Nat, xsl (xRow h n) = xsl h
  | 0 => rfl
  | n + 1 => xRow_sl h n
theorem row_loop {G : XG} {d : Nat} {h : XH} {Q : XV → XH → Prop} {X : Nat → XH → Prop} {k9 : Int} (t53 : xtg h 53 = 11) (f : xpl h 53 3 = 55) (t55 : xtg h 55 = 100) (l55 : xln h 55 = 60) (hk : k9 = 0) (hq : Q xN (xRow h 60)) : xwp G m_M_init (d + 3) 230 [xR 53, xI 0] [] h Q X := by
  have loop : ∀ (m n : Nat), n + m = 60 → xwp G m_M_init (d + 3) 230 [xR 53, xI (n : Nat)] [] (xRow h n) Q X := by
    intro m
    induction m with
    | zero =>
      intro n e
      have : n = 60 := by omega
      subst this
      exact v_M_init_230 ⟨fun _ => hq, fun y => absurd (by decide) y⟩
    | succ m ih =>
      intro n e
      refine v_M_init_230 ⟨fun y => absurd y (by omega), fun _ => ?_⟩
      rw [xRow_pl h n 53 3 (by decide), f, xRow_tg, xRow_tg, xRow_ln]
      refine ⟨t53, t55, by decide, by omega, by rw [l55]; omega, ?_⟩
      have go := ih (n + 1) (by omega)
      rw [show ((n + 1 : Nat) : Int) = (n : Int) + 1 by omega] at go
      exact go
  exact loop 60 0 (by omega)
/-- new cells at a known place -/
def xmkn (h : XH) (A : Int) (t : Nat) (n : Int) (c : Int → Int) : XH := (fun b => if b = A then t else h.1 b, fun b => if b = A then n else h.2.1 b, fun b => if b = A then c else h.2.2.1 b, A + 1, h.2.2.2.2 + n)
theorem xn_new {G : XG} {M : XM} {d pc : Nat} {L S : List XV} {h : XH} {Q : XV → XH → Prop} {X : Nat → XH → Prop} {ci index N : Nat} {C : String} {T : u_T} {tF : Nat → FieldType} {A : Int} (hI : decode M.2.1 pc = .ok (.new index, 3)) (hw : Cond.classLink M.1.cls index C ∈ lw_tbl) (hins : Cond.instantiable C N ∈ lw_tbl) (hini : Cond.initialized C ∈ lw_tbl) (hc : xCL[ci]? = some (C, T, N)) (hin : ∀ w ∈ u_ws C T N, w ∈ lw_tbl) (htF : ∀ k, k < N → parseFieldDescriptor (T k).2.2.1 = some (tF k)) (hci : ci < 100) (hf7 : ∀ k, k < N → xfty ci k < 7)
    (hdf : ∀ (G : XG) (k : Nat), k < N → defaultValue (tF k) = xcv G (xfty ci k, xdef ci (k : Int))) (hA : xnx h = A) (hn : xnx h + 1 ≤ xKC) (hs : xsl h + N ≤ xKS) (k9 : xwp G M d (pc + 3) L (xR A :: S) (xmkn h A ci N (xdef ci)) Q X) : xwp G M d pc L S h Q X := by
  subst hA
  exact xr_new hI hw hins hini hc hin htF hci hf7 hdf hn hs k9
theorem xn_newarray {G : XG} {M : XM} {d pc : Nat} {L S : List XV} {h : XH} {Q : XV → XH → Prop} {X : Nat → XH → Prop} {n A : Int} {t : Nat} {at9 : ArrayType} (hI : decode M.2.1 pc = .ok (.newarray at9, 2)) (hty : newarray.typeOf at9 = xaft t) (hw : Cond.arrayClass (xaft t) ∈ lw_tbl) (ht : xaok t = true) (h1 : 100 ≤ t) (h2 : t < 200) (hcb : componentBytes (xaft t) ≤ 8) (hdf : ∀ G : XG, defaultValue (xaft t) = xcv G (xaty t, 0)) (hd0 : xok (xaty t, 0)) (h0 : 0 ≤ n) (hnb : n ≤ 60000000) (hA : xnx h = A) (hn : xnx h + 1 ≤ xKC) (hs : xsl h + n ≤ xKS)
    (k9 : xwp G M d (pc + 2) L (xR A :: S) (xmkn h A t n (fun _ => 0)) Q X) : xwp G M d pc L (xI n :: S) h Q X := by
  subst hA
  exact xr_newarray hI hty hw ht h1 h2 hcb hdf hd0 h0 hnb hn hs k9

end
