/-! arraycopy, throws, catches; THE MAIN THEOREM -/
def xrow4 (h : ExceptionTableEntry) : Nat × Nat × Nat × Nat := (h.startPc, h.endPc, h.handlerPc, h.catchType)
theorem xhand_split {y pc k : Nat} {ans : Int32} : ∀ (hs : List (Nat × Nat × Nat × Int32)) (tb : List ExceptionTableEntry), xparT y hs (tb.map xrow4) = true → xhand hs pc k = some ans →
    ∃ pre x suf h, tb = pre ++ x :: suf ∧ covers x pc = true ∧ xrowB y h (xrow4 x) = true ∧ h.2.2.1 = k ∧ h.2.2.2 = ans ∧ ∀ z ∈ pre, covers z pc = false ∨ ∃ h', xrowB y h' (xrow4 z) = true ∧ h'.2.2.1 ≠ k := by
  intro hs
  induction hs with
  | nil => intro tb _ h; cases h
  | cons h t ih =>
    intro tb hp hx
    cases tb with
    | nil => cases hp
    | cons x tb =>
      obtain ⟨p1, p2⟩ := xand (show (xrowB y h (xrow4 x) && xparT y t (tb.map xrow4)) = true from hp)
      have hrow := p1
      unfold xrowB at p1
      obtain ⟨p1, -⟩ := xand p1
      obtain ⟨p1, -⟩ := xand p1
      obtain ⟨p1, -⟩ := xand p1
      obtain ⟨p1, -⟩ := xand p1
      obtain ⟨p1, -⟩ := xand p1
      obtain ⟨a1, a2⟩ := xand p1
      have b1 : h.1 = x.startPc := Nat.eq_of_beq_eq_true a1
      have b2 : h.2.1 = x.endPc := Nat.eq_of_beq_eq_true a2
      unfold xhand at hx
      cases hc : (Nat.ble h.1 pc && Nat.blt pc h.2.1 && Nat.beq h.2.2.1 k) with
      | true =>
        rw [hc] at hx
        obtain ⟨c1, c3⟩ := xand hc
        obtain ⟨c1, c2⟩ := xand c1
        refine ⟨[], x, tb, h, rfl, ?_, hrow, Nat.eq_of_beq_eq_true c3, Option.some.inj hx, fun z hz => by cases hz⟩
        have d1 := Nat.le_of_ble_eq_true c1
        have d2 := Nat.blt_eq.mp c2
        rw [b1] at d1; rw [b2] at d2
        show (decide (x.startPc ≤ pc) && decide (pc < x.endPc)) = true
        rw [decide_eq_true d1, decide_eq_true d2]; rfl
      | false =>
        rw [hc] at hx
        obtain ⟨pre, x9, suf, h9, g1, g2, g3, g4, g5, g6⟩ := ih tb p2 hx
        refine ⟨x :: pre, x9, suf, h9, by rw [g1]; rfl, g2, g3, g4, g5, fun z hz => ?_⟩
        rcases List.mem_cons.mp hz with rfl | hz
        · by_cases hk : h.2.2.1 = k
          · left
            rw [show Nat.beq h.2.2.1 k = true by rw [hk]; exact Nat.beq_refl k, Bool.and_true] at hc
            cases hcov : covers z pc with
            | false => rfl
            | true =>
              obtain ⟨d1, d2⟩ := xand (show (decide (z.startPc ≤ pc) && decide (pc < z.endPc)) = true from hcov)
              have d1 := of_decide_eq_true d1
              have d2 := of_decide_eq_true d2
              rw [← b1] at d1; rw [← b2] at d2
              rw [show Nat.ble h.1 pc = true from Nat.ble_eq.mpr d1, show Nat.blt pc h.2.1 = true from Nat.blt_eq.mpr d2] at hc
              cases hc
          · exact Or.inr ⟨h, hrow, hk⟩
        · exact g6 z hz
section XZ
variable {l : Launch} {b L B : Nat} {xs : Nat → Int32} {D : va_G} {cI cZ cJ : ClassId} {p : Program} {e : Env} {R : Room} {s : State} {m : MethodId} {args : Array Value} {below : List Frame} {meth : Method} {c : Code} {H : Heap} {locs : List Loc} {cells slots mc ms : Nat} {Q : State → Prop} {A : Array Slot} {y pc : Nat} {ls : List (Option Value)} {st : List Value} {σ : XS}
/-- a caught throw: the row's three instructions -/
theorem xcatch {h : Nat × Nat × Nat × Int32} {x : ExceptionTableEntry} {q9 : Nat} {r : XO × XS} (C : xCx l b L B xs D cI cZ cJ p s m meth c y) (hrow : xrowB y h (xrow4 x) = true) (hr : r.1 = .inl (some (.int h.2.2.2))) (hP : va_P D vwCl (xw B cI cZ cJ r.2) H) (hS : va_S (fun q => B ≤ q) s.heap H locs) (hl : xLv b B ls A (xmL y)) (h1 : cells ≤ mc) (h2 : slots ≤ ms) :
    W p l e R s m args below meth c H locs cells slots (vx_MQ below (xQc b B cI cZ cJ D r) (xXC B cI cZ cJ D r) args s mc ms (fun q => B ≤ q)) (F0 m x.handlerPc A [.ref q9]) := by
  obtain ⟨hx, hb, hrt, hml, hown, hnm, hlk, htr, hT, hZ, htb⟩ := C
  unfold xrowB at hrow
  obtain ⟨hrow, w7⟩ := xand hrow
  obtain ⟨hrow, w6⟩ := xand hrow
  have hR : meth.sig.returnType = some .int := hrt.trans (of_decide_eq_true w6)
  have fin : ∀ (pc9 : Nat) (A9 : Array Slot), decode (xmB y) pc9 = .ok (.ireturn, 1) → W p l e R s m args below meth c H locs cells slots (vx_MQ below (xQc b B cI cZ cJ D r) (xXC B cI cZ cJ D r) args s mc ms (fun q => B ≤ q)) (F0 m pc9 A9 [.int h.2.2.2]) := by
    intro pc9 A9 hd
    refine W.widen (k := mc) (n := ms) h1 h2 ?_
    refine vx_ret ?_
    exact W.iret hx hb hR (fun t ht hW => ⟨⟨_, hr, rfl⟩, by rw [ht]; exact hP, hS.F ht⟩) hS.2.2 hd hlk
  obtain ⟨lv9, g1, g2, g3⟩ := hl
  have w7' : (match decode (xmB y) x.handlerPc with
    | .ok (.astore_n j, 1) => decide (j.val < xmL y) && (match decode (xmB y) (x.handlerPc + 1) with
      | .ok (.iconst n, 1) => decide (Int32.ofInt n = h.2.2.2) && decide (decode (xmB y) (x.handlerPc + 2) = .ok (.ireturn, 1))
      | _ => false)
    | .ok (.astore j, 2) => decide (j < xmL y) && (match decode (xmB y) (x.handlerPc + 2) with
      | .ok (.iconst n, 1) => decide (Int32.ofInt n = h.2.2.2) && decide (decode (xmB y) (x.handlerPc + 3) = .ok (.ireturn, 1))
      | _ => false)
    | _ => false) = true := w7
  split at w7'
  · next j hd0 =>
    obtain ⟨z1, z2⟩ := xand w7'
    split at z2
    · next n hd1 =>
      obtain ⟨z2, z3⟩ := xand z2
      refine lv_astore_n hx hb hd0 rfl g1 (of_decide_eq_true z1) rfl fun A9 _ => ?_
      refine lv_iconst hx hb hd1 (of_decide_eq_true z2) ?_
      exact fin _ _ (of_decide_eq_true z3)
    · cases z2
  · next j hd0 =>
    obtain ⟨z1, z2⟩ := xand w7'
    split at z2
    · next n hd1 =>
      obtain ⟨z2, z3⟩ := xand z2
      refine lv_astore hx hb hd0 g1 (of_decide_eq_true z1) rfl fun A9 _ => ?_
      refine lv_iconst hx hb hd1 (of_decide_eq_true z2) ?_
      exact fin _ _ (of_decide_eq_true z3)
    · cases z2
  · cases w7'
/-- a throw at pc goes to the row that takes it -/
theorem xgo_catch {k q9 : Nat} {ce : Cell} {ans : Int32} {r : XO × XS} {rest : List Value} (K : xAll) (C : xCx l b L B xs D cI cZ cJ p s m meth c y) (hx : xhand (xmH y) pc k = some ans) (hr : r.1 = .inl (some (.int ans))) (hk : k < 3) (hP : va_P D vwCl (xw B cI cZ cJ r.2) H) (hS : va_S (fun q => B ≤ q) s.heap H locs) (hl : xLv b B ls A (xmL y)) (h1 : cells ≤ mc) (h2 : slots ≤ ms)
    (hce : H[q9]? = some ce) (hcv : ce.vm = .none) (hcl : s.vm.findClass (xnm k) = some ce.cls) :
    vx_W p l e R s m args below meth c H locs cells slots (vx_MQ below (xQc b B cI cZ cJ D r) (xXC B cI cZ cJ D r) args s mc ms (fun q => B ≤ q)) (F0 m pc A rest) q9 := by
  have C0 := C
  obtain ⟨hxx, hb, hrt, hml, hown, hnm, hlk, htr, hT, hZ, htb⟩ := C
  have hpar : xparT y (xmH y) (c.exceptionTable.toList.map xrow4) = true := by
    have := K.2.1 y
    rw [← htb] at this
    exact this
  obtain ⟨pre, x, suf, h, g1, g2, g3, g4, g5, g6⟩ := xhand_split (xmH y) c.exceptionTable.toList hpar hx
  have rowW : ∀ (h9 : Nat × Nat × Nat × Int32) (z : ExceptionTableEntry), xrowB y h9 (xrow4 z) = true → h9.2.2.1 < 3 ∧ z.catchType ≠ 0 ∧ (Cond.classLink (xmN y).cls z.catchType (xnm h9.2.2.1)).before args s = true := by
    intro h9 z hz
    unfold xrowB at hz
    obtain ⟨hz, -⟩ := xand hz
    obtain ⟨hz, -⟩ := xand hz
    obtain ⟨hz, w5⟩ := xand hz
    obtain ⟨hz, w4⟩ := xand hz
    obtain ⟨hz, w3⟩ := xand hz
    exact ⟨of_decide_eq_true w3, of_decide_eq_true w4, hT.hts args _ (xmem' (of_decide_eq_true w5) rfl)⟩
  intro T hTT X
  have hpl : e.platform.magicAccessors = ({} : Platform).magicAccessors := by rw [X.admits.platform]
  obtain ⟨-, h0, hlink⟩ := rowW h x g3
  rw [g4] at hlink
  obtain ⟨kx, hkx, -⟩ := Vm.findClass_spec hcl
  obtain ⟨c3, c4, hc3, hc4, hasg⟩ := Cond.castable_spec (hT.hts args _ (xmem' (K.2.2.1 k hk).2.2 rfl))
  cases Option.some.inj (hc3.symm.trans hcl)
  cases Option.some.inj (hc4.symm.trans hcl)
  obtain ⟨c5, hc5, hcl5⟩ := Cond.classLink_spec hown hlink e.platform hpl
  cases Option.some.inj (hc5.symm.trans hcl)
  obtain ⟨vm1, X', stp⟩ := xh_caught X q9 (g := F0 m pc A rest) rfl (by rw [hTT]; exact hce) (by rw [hcv]; rfl) hkx pre x suf g1 (fun z hz => by
    rcases g6 z hz with q | ⟨h9, q1, q2⟩
    · exact Or.inl q
    · obtain ⟨w3, w0, wl⟩ := rowW h9 z q1
      obtain ⟨c6, hc6, hcl6⟩ := Cond.classLink_spec hown wl e.platform hpl
      obtain ⟨a8, b8, n1, n2, n3⟩ := hT.2.2.2 k hk h9.2.2.1 w3 (fun q => q2 q.symm)
      cases Option.some.inj (n1.symm.trans hcl)
      cases Option.some.inj (n2.symm.trans hc6)
      exact Or.inr ⟨w0, _, hcl6, n3⟩) g2 h0 hcl5 hasg
  obtain ⟨t, a1, b1⟩ := xcatch (e := e) (R := R) (below := below) (q9 := q9) (cells := cells) (slots := slots) (locs := locs) C0 g3 (by rw [g5]; exact hr) hP hS hl h1 h2 (T.setVm vm1) hTT X'
  exact ⟨t, stp.trans a1, b1⟩
theorem xgo_out {k q9 : Nat} {ce : Cell} {r : XO × XS} {rest : List Value} (K : xAll) (C : xCx l b L B xs D cI cZ cJ p s m meth c y) (hm : xmH y = []) (hr : r.1 = .inr k) (hk : k < 3) (hP : va_P D vwCl (xw B cI cZ cJ r.2) H) (hS : va_S (fun q => B ≤ q) s.heap H locs) (h1 : cells ≤ mc) (h2 : slots ≤ ms)
    (hce : H[q9]? = some ce) (hcv : ce.vm = .none) (hcl : s.vm.findClass (xnm k) = some ce.cls) :
    vx_W p l e R s m args below meth c H locs cells slots (vx_MQ below (xQc b B cI cZ cJ D r) (xXC B cI cZ cJ D r) args s mc ms (fun q => B ≤ q)) (F0 m pc A rest) q9 := by
  obtain ⟨hxx, hb, hrt, hml, hown, hnm, hlk, htr, hT, hZ, htb⟩ := C
  have hX : xmX y = [] := by
    have := K.2.1 y
    rw [hm] at this
    cases hx : xmX y with
    | nil => rfl
    | cons a t => rw [hx] at this; cases this
  have hno : ∀ x ∈ c.exceptionTable.toList, covers x pc = false := by
    rw [hX] at htb
    rw [List.map_eq_nil_iff.mp htb]
    intro x hx; cases hx
  exact vx_out hno hlk hce hcv hcl (fun t ht _ => ⟨⟨k, hr, hk, rfl⟩, by rw [ht]; exact hP, hS.F ht⟩) hS.2.2 h1 h2
theorem xcopy_W {rst : List Value} {σ' : XS} (K : xAll) (C : xCx l b L B xs D cI cZ cJ p s m meth c y) {k ix : Nat} (hlk : xlkB ix (.methodLink (xmN y).cls k arraycopyName) = true) (hf1 : 1 ≤ R.frames) (hf2 : 60 ≤ R.locals) (hd : decode (xmB y) pc = .ok (.invokestatic k, 3)) (h : xcopy st σ = some (rst, σ')) (hS : xSt b B cI cZ cJ D s σ ls H locs A y cells)
    (kk : ∀ (H' : Heap) (locs' : List Loc), xSt b B cI cZ cJ D s σ' ls H' locs' A y cells → W p l e R s m args below meth c H' locs' cells slots Q (F0 m (pc + 3) A (rst.map (xtr b B)))) :
    W p l e R s m args below meth c H locs cells slots Q (F0 m pc A (st.map (xtr b B))) := by
  obtain ⟨hx, hb, hrt, hml, hown, hnm, hlks, htr, hT, hZ, htb⟩ := C
  unfold xcopy at h
  split at h
  · next n dp d sp s9 r =>
    cases hz : (decide (¬ sp < 0) && decide (¬ dp < 0) && decide (¬ n < 0) && Nat.blt d σ.1 && Nat.blt s9 σ.1 && Nat.beq (xkind d).1 1 && Nat.beq (xkind s9).1 1 && Nat.ble (sp.toNatClampNeg + n.toNatClampNeg) (xkind s9).2 && Nat.ble (dp.toNatClampNeg + n.toNatClampNeg) (xkind d).2 && Nat.ble (xwords r) 8) with
    | false => rw [hz] at h; cases h
    | true =>
      rw [hz] at h
      cases h
      obtain ⟨hz, z10⟩ := xand hz
      obtain ⟨hz, z9⟩ := xand hz
      obtain ⟨hz, z8⟩ := xand hz
      obtain ⟨hz, z7⟩ := xand hz
      obtain ⟨hz, z6⟩ := xand hz
      obtain ⟨hz, z5⟩ := xand hz
      obtain ⟨hz, z4⟩ := xand hz
      obtain ⟨hz, z3⟩ := xand hz
      obtain ⟨z1, z2⟩ := xand hz
      have g4 := Nat.blt_eq.mp z4
      have g5 := Nat.blt_eq.mp z5
      have g6 := Nat.eq_of_beq_eq_true z6
      have g7 := Nat.eq_of_beq_eq_true z7
      have hkd : xkind d = (1, (xkind d).2) := by rw [← g6]
      have hks : xkind s9 = (1, (xkind s9).2) := by rw [← g7]
      have had : xad b B d = B + d := xad_lt (xkind_lt (by rw [g6]; decide))
      have has : xad b B s9 = B + s9 := xad_lt (xkind_lt (by rw [g7]; decide))
      have hw := Nat.le_of_ble_eq_true z10
      show W p l e R s m args below meth c H locs cells slots Q (F0 m pc A (.int n :: .int dp :: .ref (xad b B d) :: .int sp :: .ref (xad b B s9) :: rst.map (xtr b B)))
      rw [had, has]
      refine va_copyi hx hb (hml.trans hS.2.2.1.size.symm) hown (hT.hts args _ (xmem (xlk hlk) rfl)) (hT.hts args _ (xmem' K.2.2.2.1.1 rfl)) (hT.hts args _ (xmem' K.2.2.2.1.2.1 rfl)) (hT.hts args _ (xmem' K.2.2.2.1.2.2.1 rfl)) hT.2.1 hS.1 (xw_D σ) hS.2.1 s9 d 0 0 (ty := .int) (by rw [xw_at g5, xwe_int hks]) (by rw [xw_at g4, xwe_int hkd]) rfl rfl rfl
        (of_decide_eq_true z1) (of_decide_eq_true z2) (of_decide_eq_true z3) (Nat.le_of_ble_eq_true z8) (Nat.le_of_ble_eq_true z9) (fun _ _ => rfl) hf1 ?_ hd fun H1 locs1 q1 _ q3 => ?_
      · rw [xwords_tr]
        have : nativeFrameWords "java/lang/System" "arraycopy" 5 = 7 := by decide
        rw [this]; omega
      · have e9 : xwe B cI cZ cJ (σ.1, σ.2.1, σ.2.2.1, va_up σ.2.2.2.1 d (va_cpy (σ.2.2.2.1 s9) (σ.2.2.2.1 d) sp.toNatClampNeg dp.toNatClampNeg n.toNatClampNeg), σ.2.2.2.2) d = .inl (cI, (xkind d).2, .inl (va_cpy (σ.2.2.2.1 s9) (σ.2.2.2.1 d) sp.toNatClampNeg dp.toNatClampNeg n.toNatClampNeg)) := by
          rw [xwe_int hkd]
          simp only [va_up_self]
        rw [← e9, xw_set (σ := σ) (σ' := (σ.1, σ.2.1, σ.2.2.1, va_up σ.2.2.2.1 d (va_cpy (σ.2.2.2.1 s9) (σ.2.2.2.1 d) sp.toNatClampNeg dp.toNatClampNeg n.toNatClampNeg), σ.2.2.2.2)) rfl (fun i hi => xwe_same (va_up_ne _ _ hi) rfl (fun _ => rfl))] at q1
        exact kk H1 locs1 ⟨q1, q3, hS.2.2.1, hS.2.2.2⟩
  · cases h
/-- a throw of one's own -/
theorem xthrow {k9 ix k is : Nat} {r : XO × XS} (K : xAll) (C : xCx l b L B xs D cI cZ cJ p s m meth c y) (hS : xSt b B cI cZ cJ D s σ ls H locs A y cells) (hd : decode (xmB y) pc = .ok (.new k9, 3)) (hl1 : xlkB ix (.classLink (xmN y).cls k9 (xnm k)) = true) (ht : xthrB y pc k is = true) (hw : xwords st ≤ 8)
    (hr : r = (.inr k, (σ.1, σ.2.1, σ.2.2.1 + 1, σ.2.2.2.1, σ.2.2.2.2))) (h1 : mc = cells + 1) (h2 : ms = slots + 6) (hc1 : mc ≤ R.cells) (hc2 : ms ≤ R.slots) (hF : xmF y ≤ R.frames) (hO : xmO y ≤ R.locals) :
    W p l e R s m args below meth c H locs cells slots (vx_MQ below (xQc b B cI cZ cJ D r) (xXC B cI cZ cJ D r) args s mc ms (fun q => B ≤ q)) (F0 m pc A (st.map (xtr b B))) := by
  obtain ⟨hx, hb, hrt, hml, hown, hnm, hlks, htr, hT, hZ, htb⟩ := C
  unfold xthrB at ht
  obtain ⟨ht, t8⟩ := xand ht
  obtain ⟨ht, t7⟩ := xand ht
  obtain ⟨ht, t6⟩ := xand ht
  obtain ⟨ht, t5⟩ := xand ht
  obtain ⟨ht, t4⟩ := xand ht
  obtain ⟨ht, t3⟩ := xand ht
  obtain ⟨t1, t2⟩ := xand ht
  have hk : k < 3 := of_decide_eq_true t1
  have hcn : (xmN y).cls = "LogServer" := of_decide_eq_true t2
  have f6 := Nat.le_of_ble_eq_true t4
  have f9 := Nat.le_of_ble_eq_true t5
  obtain ⟨K1, K2, K3⟩ := K.2.2.1 k hk
  have hX : xmX y = [] := List.isEmpty_iff.mp t6
  have hno : ∀ pc9, ∀ x ∈ c.exceptionTable.toList, covers x pc9 = false := by
    intro pc9
    rw [hX] at htb
    rw [List.map_eq_nil_iff.mp htb]
    intro x hx; cases hx
  obtain ⟨rs, hrs, hrq⟩ := List.any_eq_true.mp t3
  have his : rs.1 = is := Nat.eq_of_beq_eq_true hrq
  obtain ⟨sa, hsa⟩ := hT.2.2.1 rs hrs
  rw [his] at hsa
  rw [hcn] at hown hl1
  have hfit : Bundle.fit (xnm k) = true := by
    rcases (show k = 0 ∨ k = 1 ∨ k = 2 by omega) with rfl | rfl | rfl <;> decide +kernel
  have hnms : ∀ n ∈ xnms, Bundle.fit n = true := by decide +kernel
  have hXC : ∀ t : State, s.vm.Alike t.vm → H.size ≤ t.heap.size → (∀ q : Nat, q < H.size → t.heap[q]? = H[q]?) → xXC B cI cZ cJ D r (xnm k) s t := by
    intro t _ hz hq
    rw [hr]
    refine ⟨⟨k, rfl, hk, rfl⟩, ?_, ⟨Nat.le_trans hS.2.1.1 hz, fun q q1 q2 => (hq q (Nat.lt_of_lt_of_le q1 hS.2.1.1)).trans (hS.2.1.2.1 q q1 q2)⟩⟩
    have : va_P D vwCl (xw B cI cZ cJ σ) t.heap := hS.1.kept fun i q hi => hq q.1 (vx_lt hS.1 hi)
    exact this
  have hgd : ∀ w ∈ Cond.classLink "LogServer" k9 (xnm k) :: Cond.initialized (xnm k) :: vx_atS "LogServer" (xic k) (xnm k) xnms, vx_ot w = true := by
    intro w hw
    rcases List.mem_cons.mp hw with rfl | hw
    · rfl
    · rcases List.mem_cons.mp hw with rfl | hw
      · rfl
      · exact (K1 w hw).2
  cases hb9 : Nat.blt is 256 with
  | true =>
    rw [hb9] at t8
    obtain ⟨t8, t10⟩ := xand t8
    obtain ⟨t8, t9⟩ := xand t8
    exact vx_throwS (names := xnms) (ic := xic k) hx hb htr hown hfit hnms (hT.hts args _ (xmem (xlk hl1) rfl)) (hT.hts args _ (xmem' K2 rfl)) hsa (fun w hw => hT.hts args _ (K1 w hw).1) hgd hZ.1 hZ.2.1 hS.2.1 (hS.2.2.1.size.trans hml.symm) hd (of_decide_eq_true t7) (of_decide_eq_true t8) (of_decide_eq_true t9) (of_decide_eq_true t10) (hno _)
      (by show 2 + 3 < R.frames; omega) (by rw [xwords_tr]; show _ + (13 * (2 + 1) + 43) ≤ _; omega) (by omega) (by omega) hlks hXC hS.2.1.2.2 (by omega) (by omega)
  | false =>
    rw [hb9] at t8
    obtain ⟨t8, t10⟩ := xand t8
    obtain ⟨t8, t9⟩ := xand t8
    exact vx_throwSW (names := xnms) (ic := xic k) hx hb htr hown hfit hnms (hT.hts args _ (xmem (xlk hl1) rfl)) (hT.hts args _ (xmem' K2 rfl)) hsa (fun w hw => hT.hts args _ (K1 w hw).1) hgd hZ.1 hZ.2.1 hS.2.1 (hS.2.2.1.size.trans hml.symm) hd (of_decide_eq_true t7) (of_decide_eq_true t8) (of_decide_eq_true t9) (of_decide_eq_true t10) (hno _)
      (by show 2 + 3 < R.frames; omega) (by rw [xwords_tr]; show _ + (13 * (2 + 1) + 43) ≤ _; omega) (by omega) (by omega) hlks hXC hS.2.1.2.2 (by omega) (by omega)
end XZ
