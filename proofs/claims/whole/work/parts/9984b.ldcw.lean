/-! ===== ldcw ===== -/
section
/-! a text of a wide index -/
theorem va_ldcS3 {p : Program} {l : Launch} {e : Env} {R : _root_.Jvm.Room} {s : State} {m : MethodId} {args : Array Value} {below : List Frame} {meth : Method} {c : Code} {H : Heap} {locs : List Loc} {cells slots : Nat} {Q : State → Prop} {cc : ByteArray} {pc : Nat} {ls : Array Slot} {rest : List Value} (hexec : p.tables.exec = Jvm.exec) (hb : c.code = cc) {own tx : String} {index q : Nat} (hown : s.vm.findClass own = some m.cls) (hZ : vk_R own index tx q s) (hdg : decode cc pc = .ok (.ldc_w index, 3))
    (k : W p l e R s m args below meth c H locs cells slots Q (F0 m (pc + 3) ls (.ref q :: rest))) : W p l e R s m args below meth c H locs cells slots Q (F0 m pc ls rest) := by
  intro T hT X
  obtain ⟨t, a1, b1⟩ := k T hT X
  exact ⟨t, X.ldcStringW hexec (own := own) (text := tx) (index := index) (a := q) hown hZ.1 hZ.2 (g := F0 m pc ls rest) rfl (by rw [hb]; exact hdg) t a1, b1⟩
theorem xr_ldcSw {G : XG} {M : XM} {d pc : Nat} {L S : List XV} {h : XH} {Q : XV → XH → Prop} {X : Nat → XH → Prop} {index k0 : Nat} {tx : String} {z : Int} (hI : decode M.2.1 pc = .ok (.ldc_w index, 3)) (hm : (M.1.cls, index, tx, k0) ∈ xSR) (hz0 : z = -2 - (k0 : Int)) (k9 : xwp G M d (pc + 3) L (xR z :: S) h Q X) : xwp G M d pc L S h Q X := by
  intro p e R s m args below meth c H locs ls F hH hL hS hz hy hlo
  obtain ⟨-, -, -, -, -, hst, -⟩ := F.base
  have hZ := vk_R.warm F.2.2.2.2.2.2.1 (hst _ hm)
  have k2 := k9 p e R s m args below meth c H locs ls F hH hL (xac (show True from trivial) hS) hz hy hlo
  change W p (gl G) e R s m args below meth c H locs _ _ _ (F0 m (pc + 3) ls (xadr G z :: S.map (xcv G))) at k2
  have e9 : xadr G z = .ref (gd G k0) := by
    subst hz0
    unfold xadr
    rw [if_neg (by omega), if_neg (by omega)]
    congr 2
    omega
  rw [e9] at k2
  exact va_ldcS3 F.1 F.2.1 F.2.2.2.2.2.1 hZ hI k2

end
