/-! THE PLAIN STEPS, instruction by instruction: written by wip/whole/mk09.py -/
section XP2
variable {l : Launch} {b L B : Nat} {xs : Nat → Int32} {D : va_G} {cI cZ cJ : ClassId} {p : Program} {e : Env} {R : Room} {s : State} {m : MethodId} {args : Array Value} {below : List Frame} {meth : Method} {c : Code} {H : Heap} {locs : List Loc} {cells slots : Nat} {Q : State → Prop} {A : Array Slot} {y pc pc' : Nat} {ls ls' : List (Option Value)} {st st' : List Value} {σ σ' : XS}
theorem xo_make {kd : Nat × Nat} (h : xmake kd σ = some σ') : σ.1 < 57 ∧ xkind σ.1 = kd ∧ σ.2.2.1 = 0 ∧ σ'.1 = σ.1 + 1 ∧ σ'.2.2.1 = 0 ∧ (∀ j, σ'.2.2.2.1 σ.1 j = 0) ∧ (∀ j, σ'.2.2.2.2 σ.1 j = 0) ∧ (∀ j, Nat.blt (xref σ.1 j).1 σ'.2.1 = false ∨ (xref σ.1 j).1 = 1000) ∧ (∀ j, j < σ.1 → xwe B cI cZ cJ σ' j = xwe B cI cZ cJ σ j) := by
  unfold xmake at h
  cases hc : (Nat.blt σ.1 xk.length && (xkind σ.1 == kd) && Nat.beq σ.2.2.1 0 && (xrf.getD σ.1 []).all (fun q => Nat.ble σ.2.1 q.1)) with
  | false => rw [hc] at h; cases h
  | true =>
    rw [hc] at h
    cases h
    obtain ⟨g1, g4⟩ := xand hc
    obtain ⟨g1, g3⟩ := xand g1
    obtain ⟨g1, g2⟩ := xand g1
    refine ⟨by rw [← xk_len]; exact Nat.blt_eq.mp g1, eq_of_beq g2, Nat.eq_of_beq_eq_true g3, rfl, rfl, fun j => ?_, fun j => ?_, fun j => ?_, fun j hj => ?_⟩
    · show (va_up σ.2.2.2.1 σ.1 (fun _ => (0 : Int32))) σ.1 j = 0
      rw [va_up_self]
    · show (va_up σ.2.2.2.2 σ.1 (fun _ => (0 : Int64))) σ.1 j = 0
      rw [va_up_self]
    · unfold xref
      rw [List.getD_eq_getElem?_getD]
      cases hz : (xrf.getD σ.1 [])[j]? with
      | none => exact Or.inr rfl
      | some q =>
        left
        have := List.all_eq_true.mp g4 q (List.mem_of_getElem? hz)
        have h2 := Nat.le_of_ble_eq_true this
        rw [← Bool.not_eq_true, Nat.blt_eq]
        exact Nat.not_lt.mpr h2
    · exact xwe_same (va_up_ne _ _ (Nat.ne_of_lt hj)) (va_up_ne _ _ (Nat.ne_of_lt hj)) (fun _ => rfl)
theorem xfk3a : ∀ a, a < 8 → ∀ j, j < 60 → j < (xfk.getD a []).length → xfkind a j < 4 := by decide +kernel
theorem xfk3 (a : Nat) (ha : a < 8) (j : Nat) (hj : j < (xfk.getD a []).length) (h0 : xfkind a j = 0 → False) (h1 : xfkind a j = 1 → False) (h2 : xfkind a j = 2 → False) : xfkind a j = 3 := by
  have h4 := xfk3a a ha j (Nat.lt_of_lt_of_le hj (xfk_len a ha)) hj
  have n0 : xfkind a j ≠ 0 := h0
  have n1 : xfkind a j ≠ 1 := h1
  have n2 : xfkind a j ≠ 2 := h2
  omega
theorem xtyd (t : FieldType) (h : xtyk t = 3) : defaultValue t = .null := by
  cases t <;> first | rfl | (simp [xtyk] at h)
theorem xc_new : ∀ a, a < 8 → Cond.instantiable (xcC a).1 (xcC a).2.2 ∈ lw_tbl ∧ Cond.initialized (xcC a).1 ∈ lw_tbl := by decide +kernel
theorem xsize_lo (hZ : xZ b L xs B s s.heap) (hS : xSt b B cI cZ cJ D s σ ls H locs A y cells) : B + σ.1 ≤ H.size := by
  cases hn : σ.1 with
  | zero => exact Nat.le_trans hZ.2.2.2.2 hS.2.1.1
  | succ n =>
    have := vx_lt hS.1 (xw_at (B := B) (cI := cI) (cZ := cZ) (cJ := cJ) (show n < σ.1 by omega))
    have h2 : B + n < H.size := this
    omega
theorem xP_push (hP : va_P D vwCl (xw B cI cZ cJ σ) H) (hn : σ'.1 = σ.1 + 1) (ho : ∀ j, j < σ.1 → xwe B cI cZ cJ σ' j = xwe B cI cZ cJ σ j) {H1 : Heap} (hk : ∀ q, q < H.size → H1[q]? = H[q]?) (ha : va_at D vwCl (B + σ.1, xwe B cI cZ cJ σ' σ.1) H1) : va_P D vwCl (xw B cI cZ cJ σ') H1 := by
  rw [← xw_push hn ho]
  refine (hP.kept fun k q h => hk q.1 (vx_lt hP h)).app fun k q h => ?_
  match k, h with
  | 0, h => cases h; exact ha
  | k + 1, h => simp at h
theorem xS_push {H1 : Heap} (hS : va_S (fun q => B ≤ q) s.heap H locs) (hz : H.size ≤ H1.size) (hk : ∀ q, q < H.size → H1[q]? = H[q]?) : va_S (fun q => B ≤ q) s.heap H1 locs :=
  ⟨Nat.le_trans hS.1 hz, fun q h1 h2 => (hk q (Nat.lt_of_lt_of_le h1 hS.1)).trans (hS.2.1 q h1 h2), hS.2.2⟩
theorem xo_newa {t : ArrayType} {a : Nat} {n : Int32} {r : List Value} (hx : p.tables.exec = Jvm.exec) (hb : c.code = xmB y) (harr : (Cond.arrayClass (newarray.typeOf t)).before args s = true) (ht : t = xaty a) (ha : 1 ≤ a ∧ a ≤ 3) (hK : va_K D vwCl (xtys cI cZ cJ) s) (hZ : xZ b L xs B s s.heap) (hS : xSt b B cI cZ cJ D s σ ls H locs A y cells)
    (hm : xmake (a, n.toNatClampNeg) σ = some σ') (hn : ¬ n < 0) (hn2 : n.toNatClampNeg ≤ 100000) (hdg : decode (xmB y) pc = .ok (.newarray t, 2)) (hr1 : cells + xnt σ' ≤ R.cells + xnt σ) (hr2 : slots + xsl σ' ≤ R.slots + xsl σ)
    (kk : ∀ (H' : Heap) (locs' : List Loc) (A' : Array Slot) (cells' slots' : Nat), cells' + xnt σ = cells + xnt σ' → slots' + xsl σ = slots + xsl σ' → xSt b B cI cZ cJ D s σ' ls H' locs' A' y cells' → W p l e R s m args below meth c H' locs' cells' slots' Q (F0 m (pc + 2) A' ((.ref σ.1 :: r).map (xtr b B)))) :
    W p l e R s m args below meth c H locs cells slots Q (F0 m pc A ((.int n :: r).map (xtr b B))) := by
  obtain ⟨g1, g2, g3, g4, g5, g6, g7, g8, g9⟩ := xo_make (B := B) (cI := cI) (cZ := cZ) (cJ := cJ) hm
  refine xsize fun hsz => ?_
  have hlo := xsize_lo hZ hS
  have e1 : xnt σ = σ.1 := by unfold xnt; rw [g3]; rfl
  have e2 : xnt σ' = σ.1 + 1 := by unfold xnt; rw [g4, g5]
  have hcs : xcs σ.1 = n.toNatClampNeg := by
    unfold xcs; rw [g2]
    rcases (show a = 1 ∨ a = 2 ∨ a = 3 by omega) with rfl | rfl | rfl <;> rfl
  have e3 : xsl σ' = xsl σ + n.toNatClampNeg := by
    unfold xsl; rw [g4, g5, g3]
    show xsn σ.1 + xcs σ.1 + 6 * 0 = xsn σ.1 + 6 * 0 + _
    rw [hcs]; omega
  have hsum := hS.2.2.2
  rw [e1] at hsum
  rw [e1, e2] at hr1
  rw [e3] at hr2
  have hH : H.size = B + σ.1 := by omega
  have had : xad b B σ.1 = B + σ.1 := xad_lt g1
  have hcb : n.toNatClampNeg * componentBytes (newarray.typeOf t) ≤ 536870912 := by
    subst ht
    rcases (show a = 1 ∨ a = 2 ∨ a = 3 by omega) with rfl | rfl | rfl
    · show n.toNatClampNeg * 4 ≤ _
      omega
    · show n.toNatClampNeg * 1 ≤ _
      omega
    · show n.toNatClampNeg * 8 ≤ _
      omega
  refine va_newaK hx hb harr rfl hdg rfl hn rfl hcb (by omega) (by omega) hH fun H1 cA q1 z1 o1 hAr hNm => ?_
  have hk : ∀ q, q < H.size → H1[q]? = H[q]? := fun q hq => o1 q (by omega)
  have hat : va_at D vwCl (B + σ.1, xwe B cI cZ cJ σ' σ.1) H1 := by
    have z6 : σ'.2.2.2.1 σ.1 = fun _ => 0 := funext g6
    have z7 : σ'.2.2.2.2 σ.1 = fun _ => 0 := funext g7
    subst ht
    rcases (show a = 1 ∨ a = 2 ∨ a = 3 by omega) with rfl | rfl | rfl
    · rw [xwe_int g2, z6]
      have hc : cA = cI := by
        have := (hK.2 0 (cI, .int) rfl).2
        exact Option.some.inj (hNm.symm.trans this)
      subst hc
      exact q1
    · rw [xwe_boo g2, z6]
      have hc : cA = cZ := by
        have := (hK.2 1 (cZ, .boolean) rfl).2
        exact Option.some.inj (hNm.symm.trans this)
      subst hc
      exact q1
    · rw [xwe_lon g2, z7]
      have hc : cA = cJ := by
        have := (hK.2 2 (cJ, .long) rfl).2
        exact Option.some.inj (hNm.symm.trans this)
      subst hc
      exact q1
  have k9 := kk H1 locs A (cells + 1) (slots + n.toNatClampNeg) (by omega) (by omega) ⟨xP_push hS.1 g4 g9 hk hat, xS_push hS.2.1 (by omega) hk, hS.2.2.1, by rw [e2]; omega⟩
  have k8 : W p l e R s m args below meth c H1 locs (cells + 1) (slots + n.toNatClampNeg) Q (F0 m (pc + 2) A (.ref (xad b B σ.1) :: r.map (xtr b B))) := k9
  rw [had] at k8
  exact k8
theorem xo_new {a k9 : Nat} (hx : p.tables.exec = Jvm.exec) (hb : c.code = xmB y) (hown : s.vm.findClass (xmN y).cls = some m.cls) (hT : xT D cI cZ cJ s) (hZ : xZ b L xs B s s.heap) (hS : xSt b B cI cZ cJ D s σ ls H locs A y cells)
    (hm : xmake (0, a) σ = some σ') (ha : a < 8) (hcl : (Cond.classLink (xmN y).cls k9 (xcC a).1).before args s = true) (hdg : decode (xmB y) pc = .ok (.new k9, 3)) (hr1 : cells + xnt σ' ≤ R.cells + xnt σ) (hr2 : slots + xsl σ' ≤ R.slots + xsl σ)
    (kk : ∀ (H' : Heap) (locs' : List Loc) (A' : Array Slot) (cells' slots' : Nat), cells' + xnt σ = cells + xnt σ' → slots' + xsl σ = slots + xsl σ' → xSt b B cI cZ cJ D s σ' ls H' locs' A' y cells' → W p l e R s m args below meth c H' locs' cells' slots' Q (F0 m (pc + 3) A' ((.ref σ.1 :: st).map (xtr b B)))) :
    W p l e R s m args below meth c H locs cells slots Q (F0 m pc A (st.map (xtr b B))) := by
  obtain ⟨g1, g2, g3, g4, g5, g6, g7, g8, g9⟩ := xo_make (B := B) (cI := cI) (cZ := cZ) (cJ := cJ) hm
  have K := xc_ok a ha
  have hlenN : (xcC a).2.2 = (xfk.getD a []).length := K.2.2.2.2.1
  refine xsize fun hsz => ?_
  have hlo := xsize_lo hZ hS
  have e1 : xnt σ = σ.1 := by unfold xnt; rw [g3]; rfl
  have e2 : xnt σ' = σ.1 + 1 := by unfold xnt; rw [g4, g5]
  have hcs : xcs σ.1 = (xcC a).2.2 := by
    unfold xcs; rw [g2, hlenN]; rfl
  have e3 : xsl σ' = xsl σ + (xcC a).2.2 := by
    unfold xsl; rw [g4, g5, g3]
    show xsn σ.1 + xcs σ.1 + 6 * 0 = xsn σ.1 + 6 * 0 + _
    rw [hcs]; omega
  have hsum := hS.2.2.2
  rw [e1] at hsum
  rw [e1, e2] at hr1
  rw [e3] at hr2
  have hH : H.size = B + σ.1 := by omega
  have had : xad b B σ.1 = B + σ.1 := xad_lt g1
  have hKn := hT.2.1.1 a _ K.1
  refine W.newcK hx hb hown hcl (hT.hts args _ (xmem' (xc_new a ha).1 rfl)) (hT.hts args _ (xmem' (xc_new a ha).2 rfl)) rfl hdg (by omega) (by omega) hKn.2.1 hH fun H1 kC hkC q1 z1 o1 => ?_
  have hk : ∀ q, q < H.size → H1[q]? = H[q]? := fun q hq => o1 q (by omega)
  have hat : va_at D vwCl (B + σ.1, xwe B cI cZ cJ σ' σ.1) H1 := by
    rw [xwe_obj g2]
    refine ⟨xcC a, K.1, (u_born (xcTy a) (hT.hts args) (xws_in K) hKn hkC q1 K.2.2.1).to fun j hj => ?_⟩
    have hj2 : j < (xfk.getD a []).length := by rw [← hlenN]; exact hj
    have hv : vp_V ((List.range (xfk.getD a []).length).map (xwf B σ' σ.1 a)) j = xwf B σ' σ.1 a j := by
      unfold vp_V
      rw [List.getD_eq_getElem?_getD, xwf_get hj2]; rfl
    rw [hv]
    have ht := K.2.2.2.2.2 j hj
    unfold xwf
    split
    · next q => rw [xtyk0 (ht.trans q), g6]; rfl
    · next q => rw [xtyk1 (ht.trans q), g6]; rfl
    · next q => rw [xtyk2 (ht.trans q), g7]; rfl
    · next q0 q1 q2 =>
      have h60 : j < 60 := Nat.lt_of_lt_of_le hj2 (xfk_len a ha)
      have hb9 : Nat.blt (xref σ.1 j).1 σ'.2.1 = false := by
        rcases g8 j with z | z
        · exact z
        · exfalso
          have hf := xfk_ref σ.1 g1 (by rw [g2]) j h60
          rw [g2] at hf
          exact hf (xfk3 a ha j hj2 q0 q1 q2) z
      rw [hb9]
      have := xtyd (xcTy a j) (by rw [ht]; exact xfk3 a ha j hj2 q0 q1 q2)
      rw [this]; rfl
  have k9 := kk H1 locs A (cells + 1) (slots + (xcC a).2.2) (by omega) (by omega) ⟨xP_push hS.1 g4 g9 hk hat, xS_push hS.2.1 (by omega) hk, hS.2.2.1, by rw [e2]; omega⟩
  have k8 : W p l e R s m args below meth c H1 locs (cells + 1) (slots + (xcC a).2.2) Q (F0 m (pc + 3) A (.ref (xad b B σ.1) :: st.map (xtr b B))) := k9
  rw [had] at k8
  exact k8

theorem xdecT {pc y : Nat} {q : XI} (h : xokB y (pc, q) = true) : decode (xmB y) pc = .ok (q.1, q.2.1) := by
  unfold xokB at h
  rw [Bool.and_eq_true, Bool.and_eq_true] at h
  exact of_decide_eq_true h.1.1
set_option maxHeartbeats 4000000 in
set_option maxRecDepth 100000 in
theorem xs1_W {q : XI} (C : xCx l b L B xs D cI cZ cJ p s m meth c y) (hq : xokB y (pc, q) = true) (hd1 : Nat.beq q.2.2.1.2.2.1 1 = false) (hs : xs1 L xs q pc ls st σ = some (pc', ls', st', σ')) (hS : xSt b B cI cZ cJ D s σ ls H locs A y cells) (hr1 : cells + xnt σ' ≤ R.cells + xnt σ) (hr2 : slots + xsl σ' ≤ R.slots + xsl σ)
    (kk : ∀ (H' : Heap) (locs' : List Loc) (A' : Array Slot) (cells' slots' : Nat), cells' + xnt σ = cells + xnt σ' → slots' + xsl σ = slots + xsl σ' → xSt b B cI cZ cJ D s σ' ls' H' locs' A' y cells' → W p l e R s m args below meth c H' locs' cells' slots' Q (F0 m pc' A' (st'.map (xtr b B)))) :
    W p l e R s m args below meth c H locs cells slots Q (F0 m pc A (st.map (xtr b B))) := by
  obtain ⟨i, len, ⟨a, bb, d, ix⟩, v, lv⟩ := q
  have hI := xdecI hq
  obtain ⟨hx, hb, hrt, hml, hown, hnm, hlk, htr, hT, hZ, htb⟩ := C
  unfold xs1 at hs
  dsimp only at hs
  split at hs
  · next k =>
    obtain ⟨x, h1, rfl, rfl, rfl, rfl⟩ := xo_ldi hS.2.2.1 hs
    exact lv_iload_n hx hb (xdec hq rfl) rfl h1 (kk _ _ _ _ _ rfl rfl hS)
  · next k =>
    obtain ⟨x, h1, rfl, rfl, rfl, rfl⟩ := xo_ldi hS.2.2.1 hs
    exact lv_iload hx hb (xdec hq rfl) h1 (kk _ _ _ _ _ rfl rfl hS)
  · next k =>
    obtain ⟨x, h1, rfl, rfl, rfl, rfl⟩ := xo_lda hS.2.2.1 hs
    exact lv_aload_n hx hb (xdec hq rfl) rfl h1 (kk _ _ _ _ _ rfl rfl hS)
  · next k =>
    obtain ⟨x, h1, rfl, rfl, rfl, rfl⟩ := xo_lda hS.2.2.1 hs
    exact lv_aload hx hb (xdec hq rfl) h1 (kk _ _ _ _ _ rfl rfl hS)
  · next k =>
    obtain ⟨x, h1, rfl, rfl, rfl, rfl⟩ := xo_ldl hS.2.2.1 hs
    exact lv_lload_n hx hb (xdec hq rfl) rfl h1 (kk _ _ _ _ _ rfl rfl hS)
  · next k =>
    split at hs
    · next x r =>
      obtain ⟨h1, rfl, rfl, rfl⟩ := xo_sto hs
      obtain ⟨lv9, g1, g2, g3⟩ := hS.2.2.1
      exact lv_istore_n hx hb (xdec hq rfl) rfl g1 (by rw [← g2]; exact xset_lt h1) rfl (fun A' hl => kk _ _ _ _ _ rfl rfl (hS.sto g2 g3 h1 hl))
    · cases hs
  · next k =>
    split at hs
    · next x r =>
      obtain ⟨h1, rfl, rfl, rfl⟩ := xo_sto hs
      obtain ⟨lv9, g1, g2, g3⟩ := hS.2.2.1
      exact lv_istore hx hb (xdec hq rfl) g1 (by rw [← g2]; exact xset_lt h1) rfl (fun A' hl => kk _ _ _ _ _ rfl rfl (hS.sto g2 g3 h1 hl))
    · cases hs
  · next k =>
    split at hs
    · next x r =>
      obtain ⟨h1, rfl, rfl, rfl⟩ := xo_sto hs
      obtain ⟨lv9, g1, g2, g3⟩ := hS.2.2.1
      exact lv_astore_n hx hb (xdec hq rfl) rfl g1 (by rw [← g2]; exact xset_lt h1) rfl (fun A' hl => kk _ _ _ _ _ rfl rfl (hS.sto g2 g3 h1 hl))
    · cases hs
  · next k =>
    split at hs
    · next x r =>
      obtain ⟨h1, rfl, rfl, rfl⟩ := xo_sto hs
      obtain ⟨lv9, g1, g2, g3⟩ := hS.2.2.1
      exact lv_astore hx hb (xdec hq rfl) g1 (by rw [← g2]; exact xset_lt h1) rfl (fun A' hl => kk _ _ _ _ _ rfl rfl (hS.sto g2 g3 h1 hl))
    · cases hs
  · next k n =>
    split at hs
    · next x hk =>
      obtain ⟨h1, rfl, rfl, rfl⟩ := xo_sto hs
      obtain ⟨lv9, g1, g2, g3⟩ := hS.2.2.1
      obtain ⟨i9, hi9⟩ := List.getElem?_of_mem (g3 k _ hk)
      have hv : x + Int32.ofInt n = x + v := by rw [show Int32.ofInt n = v from of_decide_eq_true hI]
      exact lv_iinc hx hb (xdec hq rfl) g1 hi9 hv (by rw [← g2]; exact xset_lt h1) rfl (fun A' hl => kk _ _ _ _ _ rfl rfl (hS.sto g2 g3 h1 hl))
    · cases hs
  · cases hs
    exact lv_iconst hx hb (xdec hq rfl) (of_decide_eq_true hI) (kk _ _ _ _ _ rfl rfl hS)
  · cases hs
    exact lv_bipush hx hb (xdec hq rfl) (of_decide_eq_true hI) (kk _ _ _ _ _ rfl rfl hS)
  · cases hs
    exact lv_sipush hx hb (xdec hq rfl) (of_decide_eq_true hI) (kk _ _ _ _ _ rfl rfl hS)
  · cases hs
    exact lv_ldc hx hb hown (hT.hts args _ (xmem (xlk hI) rfl)) (xdec hq rfl) (kk _ _ _ _ _ rfl rfl hS)
  · cases hs
    exact lv_ldcw hx hb hown (hT.hts args _ (xmem (xlk hI) rfl)) (xdec hq rfl) (kk _ _ _ _ _ rfl rfl hS)
  · cases hs
    exact lv_lconst hx hb (xdec hq rfl) (of_decide_eq_true hI) (kk _ _ _ _ _ rfl rfl hS)
  · cases hs
    exact lv_ldc2 hx hb hown (hT.hts args _ (xmem (xlk hI) rfl)) (xdec hq rfl) (kk _ _ _ _ _ rfl rfl hS)
  · split at hs
    · cases hs
      exact lv_iadd hx hb (xdec hq rfl) (kk _ _ _ _ _ rfl rfl hS)
    · cases hs
  · split at hs
    · cases hs
      exact lv_isub hx hb (xdec hq rfl) (kk _ _ _ _ _ rfl rfl hS)
    · cases hs
  · split at hs
    · cases hs
      exact lv_imul hx hb (xdec hq rfl) (kk _ _ _ _ _ rfl rfl hS)
    · cases hs
  · split at hs
    · cases hs
      exact lv_iand hx hb (xdec hq rfl) (kk _ _ _ _ _ rfl rfl hS)
    · cases hs
  · split at hs
    · cases hs
      exact lv_ior hx hb (xdec hq rfl) (kk _ _ _ _ _ rfl rfl hS)
    · cases hs
  · split at hs
    · cases hs
      exact lv_ixor hx hb (xdec hq rfl) (kk _ _ _ _ _ rfl rfl hS)
    · cases hs
  · split at hs
    · cases hs
      exact lv_ishl hx hb (xdec hq rfl) (kk _ _ _ _ _ rfl rfl hS)
    · cases hs
  · split at hs
    · cases hs
      exact lv_ishr hx hb (xdec hq rfl) (kk _ _ _ _ _ rfl rfl hS)
    · cases hs
  · split at hs
    · cases hs
      exact lv_iushr hx hb (xdec hq rfl) rfl (kk _ _ _ _ _ rfl rfl hS)
    · cases hs
  · split at hs
    · next y1 x1 r1 =>
      cases hy : decide (y1 = 0) with
      | true => rw [hy] at hs; cases hs
      | false =>
        rw [hy] at hs
        cases hs
        exact lv_irem hx hb (xdec hq rfl) (of_decide_eq_false hy) (kk _ _ _ _ _ rfl rfl hS)
    · cases hs
  · split at hs
    · cases hs
      exact lv_ladd hx hb (xdec hq rfl) (kk _ _ _ _ _ rfl rfl hS)
    · cases hs
  · split at hs
    · cases hs
      exact lv_lmul hx hb (xdec hq rfl) (kk _ _ _ _ _ rfl rfl hS)
    · cases hs
  · split at hs
    · next y1 x1 r1 =>
      cases hy : decide (y1 = 0) with
      | true => rw [hy] at hs; cases hs
      | false =>
        rw [hy] at hs
        cases hs
        exact lv_lrem hx hb (xdec hq rfl) (of_decide_eq_false hy) (kk _ _ _ _ _ rfl rfl hS)
    · cases hs
  · split at hs
    · cases hs
      exact lv_lushr hx hb (xdec hq rfl) rfl (kk _ _ _ _ _ rfl rfl hS)
    · cases hs
  · split at hs
    · cases hs
      exact lv_l2i hx hb (xdec hq rfl) rfl (kk _ _ _ _ _ rfl rfl hS)
    · cases hs
  · split at hs
    · cases hs
      exact lv_i2l hx hb (xdec hq rfl) rfl (kk _ _ _ _ _ rfl rfl hS)
    · cases hs
  · split at hs
    · cases hs
      exact W.lcmp hx hb (xdec hq rfl) (kk _ _ _ _ _ rfl rfl hS)
    · cases hs
  · split at hs
    · cases hs
      exact lv_dup hx hb (xdec hq rfl) rfl (kk _ _ _ _ _ rfl rfl hS)
    · cases hs
      exact lv_dup hx hb (xdec hq rfl) rfl (kk _ _ _ _ _ rfl rfl hS)
    · cases hs
  · split at hs
    · cases hs
      exact lv_dup2_11 hx hb (xdec hq rfl) rfl rfl (kk _ _ _ _ _ rfl rfl hS)
    · cases hs
  · cases hs
    exact lv_goto hx hb (xdec hq rfl) (of_decide_eq_true hI) (kk _ _ _ _ _ rfl rfl hS)
  · next d9 lo hi offs =>
    split at hs
    · next x r =>
      cases hs
      obtain ⟨hI1, hI3⟩ := xand hI
      obtain ⟨hI1, hI2⟩ := xand hI1
      have hdg : decode (xmB y) pc = .ok (.tableswitch d9 lo hi offs, len) := xdecT hq
      have k9 := kk _ _ _ _ _ rfl rfl hS
      have e1 : (0 : Int) ≤ (pc : Int) + d9 := of_decide_eq_true hI1
      by_cases hz : x.toInt < lo ∨ hi < x.toInt
      · refine lv_tableOut (tgt := ((pc : Int) + d9).toNat) hx hb hdg hz (by omega) ?_
        have : xtab pc d9 lo hi offs x = ((pc : Int) + d9).toNat := by
          unfold xtab
          rw [show (decide (x.toInt < lo) || decide (hi < x.toInt)) = true by rw [Bool.or_eq_true, decide_eq_true_iff, decide_eq_true_iff]; exact hz]
          rfl
        rw [this] at k9
        exact k9
      · have h1 : ¬ x.toInt < lo := fun q => hz (Or.inl q)
        have h2 : ¬ hi < x.toInt := fun q => hz (Or.inr q)
        have h3 : (hi - lo).toNat < offs.size := of_decide_eq_true hI3
        have h4 : (x.toInt - lo).toNat < offs.size := by omega
        have ho : offs[(x.toInt - lo).toNat]? = some offs[(x.toInt - lo).toNat] := Array.getElem?_eq_getElem h4
        have h5 : (0 : Int) ≤ (pc : Int) + offs[(x.toInt - lo).toNat] := of_decide_eq_true (List.all_eq_true.mp hI2 _ (by simp))
        refine lv_tableIn (tgt := ((pc : Int) + offs[(x.toInt - lo).toNat]).toNat) hx hb hdg h1 h2 ho (by omega) ?_
        have : xtab pc d9 lo hi offs x = ((pc : Int) + offs[(x.toInt - lo).toNat]).toNat := by
          unfold xtab
          rw [show (decide (x.toInt < lo) || decide (hi < x.toInt)) = false by rw [Bool.or_eq_false_iff, decide_eq_false_iff_not, decide_eq_false_iff_not]; exact ⟨h1, h2⟩]
          simp only [cond_false, ho]
          rfl
        rw [this] at k9
        exact k9
    · cases hs
  · next k9 =>
    split at hs
    · next k r =>
      split at hs
      · next v9 hv =>
        cases hs
        obtain ⟨g1, g2, g3, g4⟩ := xo_get (b := b) (B := B) hv
        obtain ⟨hI1, hI4⟩ := xand hI
        obtain ⟨hI2, hI3⟩ := xand hI1
        obtain ⟨hI1, hI2⟩ := xand hI2
        have ha : a < 8 := of_decide_eq_true hI1
        have hbb : bb < (xcC a).2.2 := of_decide_eq_true hI2
        have hcl : ((xcC a).2.1 bb).1 = (xcC a).1 := of_decide_eq_true hI3
        have K := xc_ok a ha
        have hw : (xw B cI cZ cJ σ)[k]? = some (B + k, .inr (a, (List.range (xfk.getD a []).length).map (xwf B σ k a))) := by rw [xw_at g1, xwe_obj g2]
        have had : xad b B k = B + k := xad_lt (xkind_lt (by rw [g2]; exact Nat.zero_lt_succ 8))
        have hval := xwf_get (B := B) (σ := σ) (k := k) g3
        rw [← g4] at hval
        show W p l e R s m args below meth c H locs cells slots Q (F0 m pc A (.ref (xad b B k) :: List.map (xtr b B) r))
        rw [had]
        have k8 := kk _ _ _ _ _ rfl rfl hS
        rw [Bool.or_eq_true] at hI4
        rcases hI4 with hI4 | hI4
        · exact va_get (D := D) (C := (xcC a).1) (T := (xcC a).2.1) (N := (xcC a).2.2) hx hb (hT.hts args) (xws_in K) hown hT.2.1 hS.1 k hw K.1 bb hbb (hT.hts args _ (xmem (xlk hI4) rfl)) (fun x h => by rw [← hcl]; exact h) hval (xdec hq rfl) k8
        · exact va_getN (D := D) (C := (xcC a).1) (T := (xcC a).2.1) (N := (xcC a).2.2) hx hb (hT.hts args) (xws_in K) hown hT.2.1 hS.1 k hw K.1 bb hbb (hT.hts args _ (xmem (xlk hI4) rfl)) (fun x h => by rw [← hcl]; exact h) hval (xdec hq rfl) k8
      · cases hs
    · cases hs
  · next k9 =>
    split at hs
    · next v9 k r =>
      split at hs
      · next σ9 hv =>
        cases hs
        obtain ⟨g1, g2, g3, g4, g5, g6, g7⟩ := xo_put (b := b) (B := B) (cI := cI) (cZ := cZ) (cJ := cJ) hv
        obtain ⟨hI0, hI5⟩ := xand hI
        obtain ⟨hI1, hI4⟩ := xand hI0
        obtain ⟨hI2, hI3⟩ := xand hI1
        obtain ⟨hI1, hI2⟩ := xand hI2
        have ha : a < 8 := of_decide_eq_true hI1
        have hbb : bb < (xcC a).2.2 := of_decide_eq_true hI2
        have hcl : ((xcC a).2.1 bb).1 = (xcC a).1 := of_decide_eq_true hI3
        have K := xc_ok a ha
        have hw : (xw B cI cZ cJ σ)[k]? = some (B + k, .inr (a, (List.range (xfk.getD a []).length).map (xwf B σ k a))) := by rw [xw_at g1, xwe_obj g2]
        have had : xad b B k = B + k := xad_lt (xkind_lt (by rw [g2]; exact Nat.zero_lt_succ 8))
        obtain ⟨t1, t2⟩ := g7 (xcTy a bb) (K.2.2.2.2.2 bb hbb)
        show W p l e R s m args below meth c H locs cells slots Q (F0 m pc A (xtr b B v9 :: .ref (xad b B k) :: List.map (xtr b B) st'))
        rw [had]
        have e1 : xnt σ' = xnt σ := by unfold xnt; rw [g4, g5]
        have e2 : xsl σ' = xsl σ := by unfold xsl; rw [g4, g5]
        have k8 : ∀ (H1 : Heap) (locs1 : List Loc), va_P D vwCl ((xw B cI cZ cJ σ).set k (B + k, .inr (a, ((List.range (xfk.getD a []).length).map (xwf B σ k a)).set bb (xtr b B v9)))) H1 → va_D (fun q => B ≤ q) ((xw B cI cZ cJ σ).set k (B + k, .inr (a, ((List.range (xfk.getD a []).length).map (xwf B σ k a)).set bb (xtr b B v9)))) → va_S (fun q => B ≤ q) s.heap H1 locs1 → W p l e R s m args below meth c H1 locs1 cells slots Q (F0 m (pc + 3) A (List.map (xtr b B) st')) := by
          intro H1 locs1 q1 _ q3
          rw [g6] at q1
          exact kk H1 locs1 A cells slots (by rw [e1]) (by rw [e2]) ⟨q1, q3, hS.2.2.1, by rw [e1]; exact hS.2.2.2⟩
        have hlen : bb < ((List.range (xfk.getD a []).length).map (xwf B σ k a)).length := by simpa using g3
        cases hf : ((xcC a).2.1 bb).2.2.2 with
        | false =>
          rw [Bool.or_eq_true] at hI4
          rcases hI4 with hI4 | hI4
          · exact va_put (D := D) (C := (xcC a).1) (T := (xcC a).2.1) (N := (xcC a).2.2) hx hb (hT.hts args) (xws_in K) (xcTy a) K.2.2.1 K.2.2.2.1 hown hT.2.1 hS.1 (xw_D σ) hS.2.1 k hw K.1 bb hbb (hT.hts args _ (xmem (xlk hI4) rfl)) (fun x h => by rw [← hcl]; exact h) hf (K.2.2.1 bb hbb) t1 t2 hlen (xdec hq rfl) k8
          · exact va_putN (D := D) (C := (xcC a).1) (T := (xcC a).2.1) (N := (xcC a).2.2) hx hb (hT.hts args) (xws_in K) (xcTy a) K.2.2.1 K.2.2.2.1 hown hT.2.1 hS.1 (xw_D σ) hS.2.1 k hw K.1 bb hbb (hT.hts args _ (xmem (xlk hI4) rfl)) (fun x h => by rw [← hcl]; exact h) hf (K.2.2.1 bb hbb) t1 t2 hlen (xdec hq rfl) k8
        | true =>
          have hI5' : (decide ((xmN y).name = "<init>") && decide ((xmN y).cls = (xcC a).1) && xlkB ix (.fieldLink (xmN y).cls k9 (xcC a).1 ((xcC a).2.1 bb).2.1 ((xcC a).2.1 bb).2.2.1)) = true := by
            have h9 : (bif ((xcC a).2.1 bb).2.2.2 then (decide ((xmN y).name = "<init>") && decide ((xmN y).cls = (xcC a).1) && xlkB ix (.fieldLink (xmN y).cls k9 (xcC a).1 ((xcC a).2.1 bb).2.1 ((xcC a).2.1 bb).2.2.1)) else true) = true := hI5
            rw [hf] at h9
            exact h9
          obtain ⟨hI6, hI7⟩ := xand hI5'
          obtain ⟨hI5, hI6⟩ := xand hI6
          exact va_putF (D := D) (C := (xcC a).1) (T := (xcC a).2.1) (N := (xcC a).2.2) hx hb (hT.hts args) (xws_in K) (xcTy a) K.2.2.1 K.2.2.2.1 hown hT.2.1 hS.1 (xw_D σ) hS.2.1 k hw K.1 bb hbb (hT.hts args _ (xmem (xlk hI7) rfl)) (fun x h => by rw [← hcl]; exact h) hf (hnm.trans (of_decide_eq_true hI5)) (hcl.trans (of_decide_eq_true hI6).symm) (K.2.2.1 bb hbb) t1 t2 hlen (xdec hq rfl) k8
      · cases hs
    · cases hs
  · split at hs
    · next i k r =>
      cases hk1 : Nat.beq k 1000 with
      | true =>
        rw [hk1] at hs
        cases hin : xin i L with
        | false => rw [hin] at hs; cases hs
        | true =>
          rw [hin] at hs
          cases hs
          have e9 : k = 1000 := Nat.eq_of_beq_eq_true hk1
          subst e9
          exact va_sld (A := fun q => B ≤ q) hx hb hZ.2.2.1 (Nat.lt_of_lt_of_le hZ.2.2.2.1 hZ.2.2.2.2) (Nat.not_le.mpr hZ.2.2.2.1) hS.2.1 (xvp hin) (xdec hq rfl) (kk _ _ _ _ _ rfl rfl hS)
      | false =>
        rw [hk1] at hs
        cases hc : (Nat.blt k σ.1 && Nat.beq (xkind k).1 1 && xin i (xkind k).2) with
        | false => simp only [hc, cond_false] at hs; cases hs
        | true =>
          simp only [hc, cond_true, cond_false] at hs
          cases hs
          obtain ⟨g1, g3⟩ := xand hc
          obtain ⟨g1, g2⟩ := xand g1
          have g1 := Nat.blt_eq.mp g1
          have g2 := Nat.eq_of_beq_eq_true g2
          have hkd : xkind k = (1, (xkind k).2) := by rw [← g2]
          have had : xad b B k = B + k := xad_lt (xkind_lt (by rw [g2]; decide))
          show W p l e R s m args below meth c H locs cells slots Q (F0 m pc A (.int i :: .ref (xad b B k) :: List.map (xtr b B) r))
          rw [had]
          exact va_iald hx hb hT.2.1 hS.1 k 0 (by rw [xw_at g1, xwe_int hkd]) rfl (xvp g3) (xdec hq rfl) (kk _ _ _ _ _ rfl rfl hS)
    · cases hs
  · split at hs
    · next i k r =>
      cases hc : (Nat.blt k σ.1 && Nat.beq (xkind k).1 2 && xin i (xkind k).2) with
      | false => simp only [hc, cond_false] at hs; cases hs
      | true =>
        simp only [hc, cond_true, cond_false] at hs
        cases hs
        obtain ⟨g1, g3⟩ := xand hc
        obtain ⟨g1, g2⟩ := xand g1
        have g1 := Nat.blt_eq.mp g1
        have g2 := Nat.eq_of_beq_eq_true g2
        have hkd : xkind k = (2, (xkind k).2) := by rw [← g2]
        have had : xad b B k = B + k := xad_lt (xkind_lt (by rw [g2]; decide))
        show W p l e R s m args below meth c H locs cells slots Q (F0 m pc A (.int i :: .ref (xad b B k) :: List.map (xtr b B) r))
        rw [had]
        exact va_zald hx hb hT.2.1 hS.1 k 1 (by rw [xw_at g1, xwe_boo hkd]) rfl (xvp g3) (xdec hq rfl) (kk _ _ _ _ _ rfl rfl hS)
    · cases hs
  · split at hs
    · next i k r =>
      cases hc : (Nat.blt k σ.1 && Nat.beq (xkind k).1 3 && xin i (xkind k).2) with
      | false => simp only [hc, cond_false] at hs; cases hs
      | true =>
        simp only [hc, cond_true, cond_false] at hs
        cases hs
        obtain ⟨g1, g3⟩ := xand hc
        obtain ⟨g1, g2⟩ := xand g1
        have g1 := Nat.blt_eq.mp g1
        have g2 := Nat.eq_of_beq_eq_true g2
        have hkd : xkind k = (3, (xkind k).2) := by rw [← g2]
        have had : xad b B k = B + k := xad_lt (xkind_lt (by rw [g2]; decide))
        show W p l e R s m args below meth c H locs cells slots Q (F0 m pc A (.int i :: .ref (xad b B k) :: List.map (xtr b B) r))
        rw [had]
        exact va_lald hx hb hT.2.1 hS.1 k 2 (by rw [xw_at g1, xwe_lon hkd]) rfl (xvp g3) (xdec hq rfl) (kk _ _ _ _ _ rfl rfl hS)
    · cases hs
  · split at hs
    · next x i k r =>
      cases hc : (Nat.blt k σ.1 && Nat.beq (xkind k).1 1 && xin i (xkind k).2) with
      | false => simp only [hc, cond_false] at hs; cases hs
      | true =>
        simp only [hc, cond_true] at hs
        cases hs
        obtain ⟨g1, g3⟩ := xand hc
        obtain ⟨g1, g2⟩ := xand g1
        have g1 := Nat.blt_eq.mp g1
        have g2 := Nat.eq_of_beq_eq_true g2
        have hkd : xkind k = (1, (xkind k).2) := by rw [← g2]
        have had : xad b B k = B + k := xad_lt (xkind_lt (by rw [g2]; decide))
        show W p l e R s m args below meth c H locs cells slots Q (F0 m pc A (.int x :: .int i :: .ref (xad b B k) :: List.map (xtr b B) st'))
        rw [had]
        refine va_iast hx hb hT.2.1 hS.1 (xw_D σ) hS.2.1 k 0 (by rw [xw_at g1, xwe_int hkd]) rfl (xvp g3) (xdec hq rfl) fun H1 locs1 q1 _ q3 => ?_
        have e9 : xwe B cI cZ cJ (σ.1, σ.2.1, σ.2.2.1, xuI σ.2.2.2.1 k i.toNatClampNeg x, σ.2.2.2.2) k = .inl (cI, (xkind k).2, .inl (upd (σ.2.2.2.1 k) i.toNatClampNeg x)) := by
          rw [xwe_int hkd]
          show _ = _
          simp only [xuI, va_up_self]
        rw [← e9, xw_set (σ := σ) (σ' := (σ.1, σ.2.1, σ.2.2.1, xuI σ.2.2.2.1 k i.toNatClampNeg x, σ.2.2.2.2)) rfl (fun i hi => xwe_same (va_up_ne _ _ hi) rfl (fun _ => rfl))] at q1
        exact kk H1 locs1 A cells slots rfl rfl ⟨q1, q3, hS.2.2.1, hS.2.2.2⟩
    · cases hs
  · split at hs
    · next x i k r =>
      cases hc : (Nat.blt k σ.1 && Nat.beq (xkind k).1 2 && xin i (xkind k).2 && x01 x) with
      | false => simp only [hc, cond_false] at hs; cases hs
      | true =>
        simp only [hc, cond_true] at hs
        cases hs
        obtain ⟨hc, g4⟩ := xand hc
        obtain ⟨g1, g3⟩ := xand hc
        obtain ⟨g1, g2⟩ := xand g1
        have g1 := Nat.blt_eq.mp g1
        have g2 := Nat.eq_of_beq_eq_true g2
        have hkd : xkind k = (2, (xkind k).2) := by rw [← g2]
        have had : xad b B k = B + k := xad_lt (xkind_lt (by rw [g2]; decide))
        show W p l e R s m args below meth c H locs cells slots Q (F0 m pc A (.int x :: .int i :: .ref (xad b B k) :: List.map (xtr b B) st'))
        rw [had]
        refine va_zast hx hb hT.2.1 hS.1 (xw_D σ) hS.2.1 k 1 (by rw [xw_at g1, xwe_boo hkd]) rfl (xvp g3) (xdec hq rfl) fun H1 locs1 q1 _ q3 => ?_
        have e9 : xwe B cI cZ cJ (σ.1, σ.2.1, σ.2.2.1, xuI σ.2.2.2.1 k i.toNatClampNeg x, σ.2.2.2.2) k = .inl (cZ, (xkind k).2, .inl (upd (σ.2.2.2.1 k) i.toNatClampNeg (vp_nar .boolean x))) := by
          rw [xwe_boo hkd]
          show _ = _
          simp only [xuI, va_up_self, (xnar01 g4).2.2]
        rw [← e9, xw_set (σ := σ) (σ' := (σ.1, σ.2.1, σ.2.2.1, xuI σ.2.2.2.1 k i.toNatClampNeg x, σ.2.2.2.2)) rfl (fun i hi => xwe_same (va_up_ne _ _ hi) rfl (fun _ => rfl))] at q1
        exact kk H1 locs1 A cells slots rfl rfl ⟨q1, q3, hS.2.2.1, hS.2.2.2⟩
    · cases hs
  · split at hs
    · next x i k r =>
      cases hc : (Nat.blt k σ.1 && Nat.beq (xkind k).1 3 && xin i (xkind k).2) with
      | false => simp only [hc, cond_false] at hs; cases hs
      | true =>
        simp only [hc, cond_true] at hs
        cases hs
        obtain ⟨g1, g3⟩ := xand hc
        obtain ⟨g1, g2⟩ := xand g1
        have g1 := Nat.blt_eq.mp g1
        have g2 := Nat.eq_of_beq_eq_true g2
        have hkd : xkind k = (3, (xkind k).2) := by rw [← g2]
        have had : xad b B k = B + k := xad_lt (xkind_lt (by rw [g2]; decide))
        show W p l e R s m args below meth c H locs cells slots Q (F0 m pc A (.long x :: .int i :: .ref (xad b B k) :: List.map (xtr b B) st'))
        rw [had]
        refine va_last hx hb hT.2.1 hS.1 (xw_D σ) hS.2.1 k 2 (by rw [xw_at g1, xwe_lon hkd]) rfl (xvp g3) (xdec hq rfl) fun H1 locs1 q1 _ q3 => ?_
        have e9 : xwe B cI cZ cJ (σ.1, σ.2.1, σ.2.2.1, σ.2.2.2.1, xuL σ.2.2.2.2 k i.toNatClampNeg x) k = .inl (cJ, (xkind k).2, .inr (.inl (vp_updL (σ.2.2.2.2 k) i.toNatClampNeg x))) := by
          rw [xwe_lon hkd]
          show _ = _
          simp only [xuL, va_up_self]
        rw [← e9, xw_set (σ := σ) (σ' := (σ.1, σ.2.1, σ.2.2.1, σ.2.2.2.1, xuL σ.2.2.2.2 k i.toNatClampNeg x)) rfl (fun i hi => xwe_same rfl (va_up_ne _ _ hi) (fun _ => rfl))] at q1
        exact kk H1 locs1 A cells slots rfl rfl ⟨q1, q3, hS.2.2.1, hS.2.2.2⟩
    · cases hs
  · split at hs
    · next k r =>
      cases hk1 : Nat.beq k 1000 with
      | false => rw [hk1] at hs; cases hs
      | true =>
        rw [hk1] at hs
        cases hs
        have e9 : k = 1000 := Nat.eq_of_beq_eq_true hk1
        subst e9
        exact va_slen (A := fun q => B ≤ q) hx hb hZ.2.2.1 (Nat.lt_of_lt_of_le hZ.2.2.2.1 hZ.2.2.2.2) (Nat.not_le.mpr hZ.2.2.2.1) hS.2.1 (xdec hq rfl) (kk _ _ _ _ _ rfl rfl hS)
    · cases hs
  · next ty =>
    split at hs
    · next n r =>
      cases hc : (decide (¬ n < 0) && Nat.ble n.toNatClampNeg 100000) with
      | false => simp only [hc, cond_false] at hs; cases hs
      | true =>
        simp only [hc, cond_true] at hs
        obtain ⟨g1, g2⟩ := xand hc
        split at hs
        · next σ9 hm =>
          cases hs
          obtain ⟨hI1, hI3⟩ := xand hI
          obtain ⟨hI1, hI2⟩ := xand hI1
          exact xo_newa hx hb (hT.hts args _ (xmem (xlk hI3) rfl)) (of_decide_eq_true hI2) (of_decide_eq_true hI1) hT.2.1 hZ hS hm (of_decide_eq_true g1) (Nat.le_of_ble_eq_true g2) (xdec hq rfl) hr1 hr2 kk
        · cases hs
    · cases hs
  · next k9 =>
    split at hs
    · next σ9 hm =>
      cases hs
      have hd9 : Nat.beq d 1 = false := hd1
      have hI' : (bif Nat.beq d 1 then true else decide (a < 8) && xlkB ix (.classLink (xmN y).cls k9 (xcC a).1)) = true := hI
      rw [hd9] at hI'
      obtain ⟨hI1, hI2⟩ := xand hI'
      exact xo_new hx hb hown hT hZ hS hm (of_decide_eq_true hI1) (hT.hts args _ (xmem (xlk hI2) rfl)) (xdec hq rfl) hr1 hr2 kk
    · cases hs
  · cases hs
end XP2
