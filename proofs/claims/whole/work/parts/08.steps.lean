/-! THE PLAIN STEPS ARE SOUND: what the machine does in one step, the JVM does -/
def xcs (k : Nat) : Nat := match xkind k with
  | (0, ci) => (xfk.getD ci []).length
  | (_, n) => n
def xsn : Nat → Nat
  | 0 => 0
  | n + 1 => xsn n + xcs n
def xnt (σ : XS) : Nat := σ.1 + σ.2.2.1
def xsl (σ : XS) : Nat := xsn σ.1 + 6 * σ.2.2.1
def xCx (l : Launch) (b L B : Nat) (xs : Nat → Int32) (D : va_G) (cI cZ cJ : ClassId) (p : Program) (s : State) (m : MethodId) (meth : Method) (c : Code) (y : Nat) : Prop :=
  p.tables.exec = Jvm.exec ∧ c.code = xmB y ∧ meth.sig.returnType = xmR y ∧ c.maxLocals = xmL y ∧ s.vm.findClass (xmN y).cls = some m.cls ∧ meth.name = (xmN y).name ∧ meth.locks = false ∧ l.stackTraces = false ∧ xT D cI cZ cJ s ∧ xZ b L xs B s s.heap ∧
  c.exceptionTable.toList.map (fun h => (h.startPc, h.endPc, h.handlerPc, h.catchType)) = xmX y
def xSt (b B : Nat) (cI cZ cJ : ClassId) (D : va_G) (s : State) (σ : XS) (ls : List (Option Value)) (H : Heap) (locs : List Loc) (A : Array Slot) (y cells : Nat) : Prop :=
  va_P D vwCl (xw B cI cZ cJ σ) H ∧ va_S (fun q => B ≤ q) s.heap H locs ∧ xLv b B ls A (xmL y) ∧ s.heap.size + cells ≤ B + xnt σ
section XP
variable {l : Launch} {b L B : Nat} {xs : Nat → Int32} {D : va_G} {cI cZ cJ : ClassId} {p : Program} {e : Env} {R : Room} {s : State} {m : MethodId} {args : Array Value} {below : List Frame} {meth : Method} {c : Code} {H : Heap} {locs : List Loc} {cells slots : Nat} {Q : State → Prop} {A : Array Slot} {y pc pc' : Nat} {ls ls' : List (Option Value)} {st st' : List Value} {σ σ' : XS}
theorem xdec {pc y : Nat} {q : XI} (h : xokB y (pc, q) = true) (hn : (match q.1 with
    | .tableswitch .. => true
    | i => Nat.beq q.2.1 (xlen i)) = Nat.beq q.2.1 (xlen q.1)) : decode (xmB y) pc = .ok (q.1, xlen q.1) := by
  unfold xokB at h
  rw [Bool.and_eq_true, Bool.and_eq_true] at h
  obtain ⟨⟨h1, h2⟩, -⟩ := h
  have h3 : Nat.beq q.2.1 (xlen q.1) = true := hn ▸ h2
  rw [← Nat.eq_of_beq_eq_true h3]
  exact of_decide_eq_true h1
theorem xdecI {pc y : Nat} {q : XI} (h : xokB y (pc, q) = true) : xokI y (pc, q) = true := by
  unfold xokB at h
  rw [Bool.and_eq_true] at h
  exact h.2
theorem xlk {ix : Nat} {w : Cond} (h : xlkB ix w = true) : lw_tbl[ix]? = some w := of_decide_eq_true h
/-- the world's size, seen from inside a walk -/
theorem xsize {g : JFrame} (k : H.size ≤ s.heap.size + cells → W p l e R s m args below meth c H locs cells slots Q g) : W p l e R s m args below meth c H locs cells slots Q g := by
  intro T hT X
  exact k (by rw [← hT]; exact X.heapSize) T hT X
theorem xvp {i : Int32} {n : Nat} (h : xin i n = true) : vp_in i n := by
  have h2 : ¬ (i < 0 ∨ n ≤ i.toNatClampNeg) := of_decide_eq_true h
  exact h2
theorem xand {a b : Bool} (h : (a && b) = true) : a = true ∧ b = true := by rw [Bool.and_eq_true] at h; exact h
/-- loads -/
theorem xo_ldi {k d : Nat} (hS : xLv b B ls A (xmL y)) (hs : xldi ls k st d σ = some (pc', ls', st', σ')) : ∃ x, A[k]? = some (.val (.int x)) ∧ pc' = d ∧ ls' = ls ∧ st' = .int x :: st ∧ σ' = σ := by
  unfold xldi at hs
  split at hs
  · next x hx => cases hs; exact ⟨x, hS.get hx, rfl, rfl, rfl, rfl⟩
  · cases hs
theorem xo_lda {k d : Nat} (hS : xLv b B ls A (xmL y)) (hs : xlda ls k st d σ = some (pc', ls', st', σ')) : ∃ x, A[k]? = some (.val (.ref (xad b B x))) ∧ pc' = d ∧ ls' = ls ∧ st' = .ref x :: st ∧ σ' = σ := by
  unfold xlda at hs
  split at hs
  · next x hx => cases hs; exact ⟨x, hS.get hx, rfl, rfl, rfl, rfl⟩
  · cases hs
theorem xo_ldl {k d : Nat} (hS : xLv b B ls A (xmL y)) (hs : xldl ls k st d σ = some (pc', ls', st', σ')) : ∃ x, A[k]? = some (.val (.long x)) ∧ pc' = d ∧ ls' = ls ∧ st' = .long x :: st ∧ σ' = σ := by
  unfold xldl at hs
  split at hs
  · next x hx => cases hs; exact ⟨x, hS.get hx, rfl, rfl, rfl, rfl⟩
  · cases hs
theorem xo_sto {k d : Nat} {v : Value} {r : List Value} (hs : xsto ls k v r d σ = some (pc', ls', st', σ')) : xset ls k v = some ls' ∧ pc' = d ∧ st' = r ∧ σ' = σ := by
  unfold xsto at hs
  split at hs
  · next ls2 hx => cases hs; exact ⟨hx, rfl, rfl, rfl⟩
  · cases hs
theorem xSt.sto {lv : List (Nat × Value)} {k : Nat} {v : Value} (h : xSt b B cI cZ cJ D s σ ls H locs A y cells) (h2 : ls.length = xmL y) (h3 : ∀ i v, ls[i]? = some (some v) → (i, xtr b B v) ∈ lv) (hs : xset ls k v = some ls') {A' : Array Slot}
    (hl : lv_has A' (xmL y) ((k, xtr b B v) :: lv.filter (fun q => !(q.1 == k) && !(q.1 + 1 == k && q.2.category == 2)))) : xSt b B cI cZ cJ D s σ ls' H locs A' y cells := ⟨h.1, h.2.1, xLv.put h2 h3 hs hl, h.2.2.2⟩
theorem xref_tgt0 : ∀ k, k < 57 → ∀ j, j < 60 → (xref k j).2 < 57 := by decide +kernel
theorem xref_tgt (k j : Nat) : (xref k j).2 < 57 := by
  by_cases h : (xref k j).1 = 1000
  · rcases Nat.lt_or_ge k 57 with q | q
    · rcases Nat.lt_or_ge j 60 with q2 | q2
      · exact xref_tgt0 k q j q2
      · unfold xref
        rw [xgetD_hi (Nat.le_trans (xrf_len k q) q2)]
        decide
    · unfold xref
      rw [xgetD_hi (l := xrf) (by rw [xrf_n]; exact q)]
      show 0 < 57
      decide
  · obtain ⟨a1, a2⟩ := xref_big h
    exact xref_tgt0 k a1 j a2
theorem xfk_ref : ∀ k, k < 57 → (xkind k).1 = 0 → ∀ j, j < 60 → xfkind (xkind k).2 j = 3 → (xref k j).1 ≠ 1000 := by decide +kernel
theorem xfk_len : ∀ ci, ci < 8 → (xfk.getD ci []).length ≤ 60 := by decide +kernel
theorem xad_lt {k : Nat} (h : k < 57) : xad b B k = B + k := by
  unfold xad; rw [if_neg (by omega)]
theorem xkind_lt {k : Nat} (h : (xkind k).1 < 9) : k < 57 := by
  rcases Nat.lt_or_ge k 57 with q | q
  · exact q
  · exfalso
    unfold xkind at h
    rw [xgetD_hi (by rw [xk_len]; exact q)] at h
    exact absurd h (by decide)
theorem xo_get {a j k : Nat} {v : Value} (h : xget a j σ k = some v) : k < σ.1 ∧ xkind k = (0, a) ∧ j < (xfk.getD a []).length ∧ xtr b B v = xwf B σ k a j := by
  unfold xget at h
  cases hc : (Nat.blt k σ.1 && (xkind k == (0, a)) && Nat.blt j (xfk.getD a []).length) with
  | false => rw [hc] at h; cases h
  | true =>
    rw [hc] at h
    obtain ⟨h12, h3⟩ := xand hc
    obtain ⟨h1, h2⟩ := xand h12
    refine ⟨Nat.blt_eq.mp h1, eq_of_beq h2, Nat.blt_eq.mp h3, ?_⟩
    simp only [cond_true] at h
    unfold xwf
    split at h
    · next e => cases h; rw [e]; rfl
    · next e => cases h; rw [e]; rfl
    · next e => cases h; rw [e]; rfl
    · next e0 e1 e2 =>
      cases hb : Nat.blt (xref k j).1 σ.2.1 with
      | false => rw [hb] at h; cases h
      | true =>
        rw [hb] at h
        cases h
        split
        · next e => exact absurd e e0
        · next e => exact absurd e e1
        · next e => exact absurd e e2
        · show Value.ref (xad b B (xref k j).2) = _
          rw [xad_lt (xref_tgt k j)]; rfl
/-- the fields behind a store -/
theorem xfs_set {a k j : Nat} {v : Value} (hk : xkind k = (0, a)) (hj : j < (xfk.getD a []).length) (h1 : xwf B σ' k a j = v) (h2 : ∀ i, i ≠ j → xwf B σ' k a i = xwf B σ k a i) : xwe B cI cZ cJ σ' k = .inr (a, ((List.range (xfk.getD a []).length).map (xwf B σ k a)).set j v) := by
  rw [xwe_obj hk]
  congr 2
  refine List.ext_getElem? fun i => ?_
  rw [List.getElem?_set]
  by_cases e : j = i
  · subst e
    rw [if_pos rfl, xwf_get hj, if_pos (by simpa using hj), h1]
  · rw [if_neg e, List.getElem?_map, List.getElem?_map]
    by_cases hi : i < (xfk.getD a []).length
    · rw [List.getElem?_range hi]
      show some _ = some _
      rw [h2 i (fun q => e q.symm)]
    · rw [List.getElem?_eq_none (by simpa using Nat.le_of_not_lt hi)]; rfl
theorem xnar01 {x : Int32} (h : x01 x = true) : narrow .boolean (.int x) = .int x ∧ fits .boolean (.int x) = true ∧ vp_nar .boolean x = x := by
  unfold x01 at h
  rw [Bool.or_eq_true] at h
  rcases h with h | h
  · rw [of_decide_eq_true h]; exact ⟨by decide +kernel, by decide +kernel, by decide +kernel⟩
  · rw [of_decide_eq_true h]; exact ⟨by decide +kernel, by decide +kernel, by decide +kernel⟩
theorem xtyk0 {t : FieldType} (h : xtyk t = 0) : t = .int := by
  cases t <;> first | rfl | (simp [xtyk] at h)
theorem xtyk1 {t : FieldType} (h : xtyk t = 1) : t = .boolean := by
  cases t <;> first | rfl | (simp [xtyk] at h)
theorem xtyk2 {t : FieldType} (h : xtyk t = 2) : t = .long := by
  cases t <;> first | rfl | (simp [xtyk] at h)
theorem xtyk3 {t : FieldType} (h : xtyk t = 3) (q : Nat) : narrow t (.ref q) = .ref q ∧ fits t (.ref q) = true := by
  cases t <;> first | exact ⟨rfl, rfl⟩ | (simp [xtyk] at h)
theorem xo_put {a j k : Nat} {v : Value} (h : xput a j σ k v = some σ') : k < σ.1 ∧ xkind k = (0, a) ∧ j < (xfk.getD a []).length ∧ σ'.1 = σ.1 ∧ σ'.2.2.1 = σ.2.2.1 ∧
    (xw B cI cZ cJ σ).set k (B + k, .inr (a, ((List.range (xfk.getD a []).length).map (xwf B σ k a)).set j (xtr b B v))) = xw B cI cZ cJ σ' ∧ (∀ t : FieldType, xtyk t = xfkind a j → narrow t (xtr b B v) = xtr b B v ∧ fits t (xtr b B v) = true) := by
  unfold xput at h
  cases hc : (Nat.blt k σ.1 && (xkind k == (0, a)) && Nat.blt j (xfk.getD a []).length) with
  | false => rw [hc] at h; cases h
  | true =>
    rw [hc] at h
    obtain ⟨h12, h3⟩ := xand hc
    obtain ⟨h1, h2⟩ := xand h12
    have hk : xkind k = (0, a) := eq_of_beq h2
    have hj := Nat.blt_eq.mp h3
    refine ⟨Nat.blt_eq.mp h1, hk, hj, ?_⟩
    simp only [cond_true] at h
    have go : ∀ (σ2 : XS) (w : Value), σ2.1 = σ.1 → (∀ i, i ≠ k → xwe B cI cZ cJ σ2 i = xwe B cI cZ cJ σ i) → xwf B σ2 k a j = w → (∀ i, i ≠ j → xwf B σ2 k a i = xwf B σ k a i) →
        (xw B cI cZ cJ σ).set k (B + k, .inr (a, ((List.range (xfk.getD a []).length).map (xwf B σ k a)).set j w)) = xw B cI cZ cJ σ2 := by
      intro σ2 w e1 e2 e3 e4
      rw [← xfs_set (cI := cI) (cZ := cZ) (cJ := cJ) hk hj e3 e4]
      exact xw_set e1 e2
    have oth : ∀ (f : Nat → Int32) (i : Nat), i ≠ k → (va_up σ.2.2.2.1 k f) i = σ.2.2.2.1 i := fun f i hi => va_up_ne _ _ hi
    have othL : ∀ (f : Nat → Int64) (i : Nat), i ≠ k → (va_up σ.2.2.2.2 k f) i = σ.2.2.2.2 i := fun f i hi => va_up_ne _ _ hi
    split at h
    · next x e =>
      cases h
      refine ⟨rfl, rfl, go _ _ rfl (fun i hi => xwe_same (oth _ i hi) rfl (fun _ => rfl)) ?_ ?_, fun t ht => ?_⟩
      · unfold xwf; rw [e]; show Value.int (xuI _ k j x k j) = _
        rw [xuI, va_up_self, pk_us]; rfl
      · intro i hi
        unfold xwf
        show (match xfkind a i with | 0 => Value.int (xuI _ k j x k i) | 1 => Value.int (xuI _ k j x k i) | 2 => _ | _ => _) = _
        rw [xuI, va_up_self, pk_un hi]; rfl
      · rw [xtyk0 (ht.trans e)]; exact ⟨rfl, rfl⟩
    · next x e =>
      cases hx : x01 x with
      | false => rw [hx] at h; cases h
      | true =>
        rw [hx] at h
        cases h
        refine ⟨rfl, rfl, go _ _ rfl (fun i hi => xwe_same (oth _ i hi) rfl (fun _ => rfl)) ?_ ?_, fun t ht => ?_⟩
        · unfold xwf; rw [e]; show Value.int (xuI _ k j x k j) = _
          rw [xuI, va_up_self, pk_us]; rfl
        · intro i hi
          unfold xwf
          show (match xfkind a i with | 0 => Value.int (xuI _ k j x k i) | 1 => Value.int (xuI _ k j x k i) | 2 => _ | _ => _) = _
          rw [xuI, va_up_self, pk_un hi]; rfl
        · rw [xtyk1 (ht.trans e)]; exact ⟨(xnar01 hx).1, (xnar01 hx).2.1⟩
    · next x e =>
      cases h
      refine ⟨rfl, rfl, go _ _ rfl (fun i hi => xwe_same rfl (othL _ i hi) (fun _ => rfl)) ?_ ?_, fun t ht => ?_⟩
      · unfold xwf; rw [e]; show Value.long (xuL _ k j x k j) = _
        rw [xuL, va_up_self, pk_uLs]; rfl
      · intro i hi
        unfold xwf
        show (match xfkind a i with | 0 => _ | 1 => _ | 2 => Value.long (xuL _ k j x k i) | _ => _) = _
        rw [xuL, va_up_self, pk_uLn hi]; rfl
      · rw [xtyk2 (ht.trans e)]; exact ⟨rfl, rfl⟩
    · next r e =>
      cases hx : ((xref k j == (σ.2.1, r)) && Nat.blt r σ.1) with
      | false => rw [hx] at h; cases h
      | true =>
        rw [hx] at h
        cases h
        obtain ⟨hx1, -⟩ := xand hx
        have hr : xref k j = (σ.2.1, r) := eq_of_beq hx1
        have hne : σ.2.1 ≠ 1000 := by
          intro q
          have hk2 : k < 57 := xkind_lt (by rw [hk]; exact Nat.zero_lt_succ 8)
          have h8 := xk_cls k hk2 (by rw [hk])
          have hf := xfk_ref k hk2 (by rw [hk]) j
          rw [hk] at hf h8
          exact hf (Nat.lt_of_lt_of_le hj (xfk_len a h8)) e (by rw [hr]; exact q)
        have bl : ∀ i i2, ¬ (i = k ∧ i2 = j) → Nat.blt (xref i i2).1 (σ.2.1 + 1) = Nat.blt (xref i i2).1 σ.2.1 := by
          intro i i2 hn
          have hd : (xref i i2).1 ≠ σ.2.1 := fun q => hn (by
            obtain ⟨z1, z2⟩ := xref_one q (show (xref k j).1 = σ.2.1 by rw [hr]) hne
            exact ⟨z1, z2⟩)
          rw [Bool.eq_iff_iff, Nat.blt_eq, Nat.blt_eq]
          omega
        refine ⟨rfl, rfl, go _ _ rfl (fun i hi => xwe_same rfl rfl (fun i2 => bl i i2 (fun q => hi q.1))) ?_ ?_, fun t ht => ?_⟩
        · unfold xwf; rw [e]
          show (bif Nat.blt (xref k j).1 (σ.2.1 + 1) then Value.ref (B + (xref k j).2) else .null) = Value.ref (xad b B r)
          rw [hr, show Nat.blt (σ.2.1, r).1 (σ.2.1 + 1) = true from Nat.blt_eq.mpr (Nat.lt_succ_self _)]
          have := xref_tgt k j
          rw [hr] at this
          rw [xad_lt this]; rfl
        · intro i hi
          unfold xwf
          show (match xfkind a i with | 0 => _ | 1 => _ | 2 => _ | _ => bif Nat.blt (xref k i).1 (σ.2.1 + 1) then _ else _) = _
          rw [bl k i (fun q => hi q.2)]; rfl
        · exact xtyk3 (ht.trans e) _
    · cases h
end XP
