/-! THE MACHINE IS SOUND: a run of a method gives the method's contract -/
section XC1
theorem xwords_tr (b B : Nat) (st : List Value) : ((st.map (xtr b B)).map fun v => v.category).sum = xwords st := by
  unfold xwords
  rw [List.map_map]
  congr 1
  exact List.map_congr_left fun v _ => xcat b B v
theorem xla_mem (b B : Nat) : ∀ (as : List Value) (k i : Nat) (v : Value), (xla as)[i]? = some (some v) → (k + i, xtr b B v) ∈ lv_args k (as.map (xtr b B)) := by
  intro as
  induction as with
  | nil => intro k i v h; simp [xla] at h
  | cons w t ih =>
    have one : ∀ (k i : Nat) (v : Value), w.category ≠ 2 → (some w :: xla t)[i]? = some (some v) → (k + i, xtr b B v) ∈ lv_args k ((w :: t).map (xtr b B)) := by
      intro k i v hc h
      show (k + i, xtr b B v) ∈ (k, xtr b B w) :: lv_args (if (xtr b B w).category = 2 then k + 2 else k + 1) (t.map (xtr b B))
      rw [xcat, if_neg hc]
      cases i with
      | zero => cases h; exact List.mem_cons_self
      | succ i =>
        have := ih (k + 1) i v h
        rw [show k + 1 + i = k + (i + 1) by omega] at this
        exact List.mem_cons_of_mem _ this
    have two : ∀ (k i : Nat) (v : Value), w.category = 2 → (some w :: none :: xla t)[i]? = some (some v) → (k + i, xtr b B v) ∈ lv_args k ((w :: t).map (xtr b B)) := by
      intro k i v hc h
      show (k + i, xtr b B v) ∈ (k, xtr b B w) :: lv_args (if (xtr b B w).category = 2 then k + 2 else k + 1) (t.map (xtr b B))
      rw [xcat, if_pos hc]
      match i, h with
      | 0, h => cases h; exact List.mem_cons_self
      | 1, h => cases h
      | i + 2, h =>
        have := ih (k + 2) i v h
        rw [show k + 2 + i = k + (i + 2) by omega] at this
        exact List.mem_cons_of_mem _ this
    intro k i v h
    cases w with
    | long x => exact two k i v rfl h
    | double x => exact two k i v rfl h
    | int x => exact one k i v (by simp [Value.category]) h
    | float x => exact one k i v (by simp [Value.category]) h
    | null => exact one k i v (by simp [Value.category]) h
    | ref x => exact one k i v (by simp [Value.category]) h
    | retAddr x => exact one k i v (by simp [Value.category]) h
theorem xla_len (b B : Nat) : ∀ as : List Value, (lg_sl (as.map (xtr b B))).length = (xla as).length := by
  intro as
  induction as with
  | nil => rfl
  | cons w t ih =>
    have e : lg_sl ((w :: t).map (xtr b B)) = (if (xtr b B w).category = 2 then [Slot.val (xtr b B w), .second] else [.val (xtr b B w)]) ++ lg_sl (t.map (xtr b B)) := by
      simp [lg_sl]
    rw [e, List.length_append, ih, xcat]
    cases w <;> simp [xla, Value.category] <;> omega
theorem xentry (b B : Nat) {as : List Value} {n : Nat} (h : (xla as).length ≤ n) : xLv b B (xini as n) ((lg_sl (as.map (xtr b B)) ++ List.replicate (n - (lg_sl (as.map (xtr b B))).length) Slot.unset).toArray) n := by
  refine ⟨_, lv_entry (as.map (xtr b B)) (by rw [xla_len]; exact h), ?_, fun i v hi => ?_⟩
  · unfold xini
    rw [List.length_append, List.length_replicate]; omega
  · unfold xini at hi
    by_cases hl : i < (xla as).length
    · rw [List.getElem?_append_left hl] at hi
      have := xla_mem b B as 0 i v hi
      rw [Nat.zero_add] at this
      exact this
    · rw [List.getElem?_append_right (Nat.le_of_not_lt hl), List.getElem?_replicate] at hi
      split at hi <;> cases hi
def xQc (b B : Nat) (cI cZ cJ : ClassId) (D : va_G) (r : XO × XS) : Array Value → State → Outcome → State → Prop := fun _ st oc t => (∃ v : Option Value, r.1 = .inl v ∧ oc = .returned (v.map (xtr b B))) ∧ va_P D vwCl (xw B cI cZ cJ r.2) t.heap ∧ va_F (fun q => B ≤ q) st t
def xXC (B : Nat) (cI cZ cJ : ClassId) (D : va_G) (r : XO × XS) : String → State → State → Prop := fun E st t => (∃ k, r.1 = .inr k ∧ k < 3 ∧ E = xnm k) ∧ va_P D vwCl (xw B cI cZ cJ r.2) t.heap ∧ va_F (fun q => B ≤ q) st t
def xPc (b L B : Nat) (xs : Nat → Int32) (cI cZ cJ : ClassId) (D : va_G) (as : List Value) (σ : XS) : Array Value → State → Prop := va_Pc (as.map (xtr b B)) (fun U => xT D cI cZ cJ U ∧ xZ b L xs B U U.heap ∧ va_P D vwCl (xw B cI cZ cJ σ) U.heap ∧ U.heap.size ≤ B + xnt σ)
theorem xPc_blind {b L B : Nat} {xs : Nat → Int32} {cI cZ cJ : ClassId} {D : va_G} {as : List Value} {σ : XS} : FrameBlind (xPc b L B xs cI cZ cJ D as σ) := by
  intro a U g mk h
  obtain ⟨h0, h1, h2, h3, h4⟩ := h
  exact ⟨h0, xT.warm (s := U) (U := U.calling g mk a) (State.WarmedH.refl U) h1, xZ.moved (u := U) (U := U.calling g mk a) (Vm.Alike.refl U.vm) h2, h3, h4⟩
theorem xPc_at {b L B : Nat} {xs : Nat → Int32} {cI cZ cJ : ClassId} {D : va_G} {as : List Value} {σ : XS} {s : State} {H : Heap} {locs : List Loc} (hT : xT D cI cZ cJ s) (hZ : xZ b L xs B s s.heap) (hP : va_P D vwCl (xw B cI cZ cJ σ) H) (hS : va_S (fun q => B ≤ q) s.heap H locs) (hz : H.size ≤ B + xnt σ) :
    ∀ U : State, U.heap = H → s.WarmedH U.vm → xPc b L B xs cI cZ cJ D as σ (as.map (xtr b B)).toArray U := by
  intro U hU hW
  refine ⟨rfl, hT.warm hW, ?_, by rw [hU]; exact hP, by rw [hU]; exact hz⟩
  rw [hU]
  exact (hZ.kept hS.1 hS.2.1).moved hW.alike
def xws (a : Nat) : List Cond := bif (xmX a).isEmpty then [.code (xmN a) (xmB a) (xmL a) (xmR a)] else [.codeWith (xmN a) (xmB a) (xmL a) (xmR a) (xmX a)]
def xrm (a : Nat) (σ σ' : XS) : Room := { frames := xmF a, cells := xnt σ' - xnt σ, slots := xsl σ' - xsl σ, locals := xmO a }
def xmOk (a : Nat) : Bool := plainName (xmN a).cls && decide ((xmN a).cls ≠ "java/lang/invoke/MethodHandle") && decide ((xmN a).cls ≠ "java/lang/invoke/VarHandle") && (bif (xmX a).isEmpty then xlkB (xmW a).1 (.code (xmN a) (xmB a) (xmL a) (xmR a)) else xlkB (xmW a).1 (.codeWith (xmN a) (xmB a) (xmL a) (xmR a) (xmX a))) && xlkB (xmW a).2.2.2 (.initialized (xmN a).cls)
end XC1
section XC2
variable {l : Launch} {b L B : Nat} {xs : Nat → Int32} {D : va_G} {cI cZ cJ : ClassId}
/-- the machine is sound for runs of this length -/
def xSound (l : Launch) (b L B : Nat) (xs : Nat → Int32) (D : va_G) (cI cZ cJ : ClassId) (f : Nat) : Prop := ∀ (y pc : Nat) (ls : List (Option Value)) (st : List Value) (σ : XS) (r : XO × XS), xr L xs f y pc ls st σ = some r →
  ∀ (p : Program) (e : Env) (R : Room) (s : State) (m : MethodId) (args : Array Value) (below : List Frame) (meth : Method) (c : Code) (H : Heap) (locs : List Loc) (cells slots : Nat) (A : Array Slot) (mc ms : Nat),
    xCx l b L B xs D cI cZ cJ p s m meth c y → xSt b B cI cZ cJ D s σ ls H locs A y cells → mc + xnt σ = cells + xnt r.2 → ms + xsl σ = slots + xsl r.2 → mc ≤ R.cells → ms ≤ R.slots → xmF y ≤ R.frames → xmO y ≤ R.locals →
    W p l e R s m args below meth c H locs cells slots (vx_MQ below (xQc b B cI cZ cJ D r) (xXC B cI cZ cJ D r) args s mc ms (fun q => B ≤ q)) (F0 m pc A (st.map (xtr b B)))
theorem xMet {f a : Nat} {as : List Value} {σ : XS} {r : XO × XS} (hl : l.stackTraces = false) (hok : xmOk a = true) (hf : xSound l b L B xs D cI cZ cJ f) (hla : (xla as).length ≤ xmL a) (h : xr L xs f a 0 (xini as (xmL a)) [] σ = some r) :
    vx_Met l (xmN a) (xws a) (xrm a σ r.2) (xPc b L B xs cI cZ cJ D as σ) (xQc b B cI cZ cJ D r) (xXC B cI cZ cJ D r) (xnt r.2 - xnt σ) (xsl r.2 - xsl σ) (fun q => B ≤ q) := by
  obtain ⟨hm1, hm2⟩ := xr_mono _ _ _ _ _ _ _ h
  obtain ⟨g1, -⟩ := xand hok
  obtain ⟨g1, -⟩ := xand g1
  obtain ⟨g1, -⟩ := xand g1
  obtain ⟨g1, -⟩ := xand g1
  have go : ∀ (ws : List Cond) (p : Program) (e : Env) (s : State) (m : MethodId) (args : Array Value) (below : List Frame) (meth : Method) (c : Code) (s₁ : State), BodyLoose p l (xmN a) (headSpec ws (xrm a σ r.2)) (xmB a) (xmL a) (xmR a) e s m args below meth c s₁ → c.maxLocals = xmL a → c.exceptionTable.toList.map (fun h => (h.startPc, h.endPc, h.handlerPc, h.catchType)) = xmX a → xPc b L B xs cI cZ cJ D as σ args s →
      W p l e (headSpec ws (xrm a σ r.2)).room s m args below meth c s.heap [] 0 0 (vx_MQ below (xQc b B cI cZ cJ D r) (xXC B cI cZ cJ D r) args s (xnt r.2 - xnt σ) (xsl r.2 - xsl σ) (fun q => B ≤ q)) (entryFrame m args (xmL a)) := by
    intro ws p e s m args below meth c s₁ Bd hml htb hv
    obtain ⟨rfl, v1, v2, v3, v4⟩ := hv
    rw [lg_entry_eq]
    exact hf a 0 _ [] σ r h p e _ s m _ below meth c s.heap [] 0 0 _ _ _ ⟨Bd.exec, Bd.bytes, Bd.returns, hml, findClass_of_methodNamed Bd.named, (name_of_methodNamed Bd.named Bd.method).1, Bd.notSynchronized, hl, v1, v2, htb⟩
      ⟨v3, va_S.rf, xentry b B hla, by omega⟩ (by omega) (by omega) (Nat.le_refl _) (Nat.le_refl _) (Nat.le_refl _) (Nat.le_refl _)
  cases hx : (xmX a).isEmpty with
  | true =>
    have hX : xmX a = [] := List.isEmpty_iff.mp hx
    refine vx_ofW (cc := xmB a) (maxL := xmL a) (ret := xmR a) (ws' := []) g1 (by unfold xws; rw [hx]; rfl) fun p e s m args below meth c s₁ Bd hml hno hv => ?_
    refine go _ p e s m args below meth c s₁ Bd hml ?_ hv
    rw [hX]
    cases ht : c.exceptionTable.toList with
    | nil => rfl
    | cons z t => exact absurd (hno z (by rw [ht]; exact List.mem_cons_self)) id
  | false =>
    refine vx_ofWH (cc := xmB a) (maxL := xmL a) (ret := xmR a) (hh := xmX a) (ws' := []) g1 (by unfold xws; rw [hx]; rfl) fun p e s m args below meth c s₁ Bd hml hv => ?_
    refine go _ p e s m args below meth c s₁ Bd hml ?_ hv
    have hw : (Cond.codeWith (xmN a) (xmB a) (xmL a) (xmR a) (xmX a)).before args s = true := atoms_spec (ws := xws a) Bd.pre _ (by unfold xws; rw [hx]; exact List.mem_cons_self)
    obtain ⟨m9, meth9, c9, hn9, h1, h2, -, -, h6, -⟩ := Cond.codeWith_spec hw
    cases Option.some.inj (hn9.symm.trans Bd.named)
    cases Option.some.inj (h1.symm.trans Bd.method)
    cases Option.some.inj (h2.symm.trans (Stand.of_body Bd).code)
    exact h6
section
variable {p : Program} {e : Env} {R : Room} {s : State} {m : MethodId} {args : Array Value} {below : List Frame} {meth : Method} {c : Code} {H : Heap} {locs : List Loc} {cells slots mc ms : Nat} {Q : State → Prop} {A : Array Slot} {y pc : Nat}
/-- behind a call: it has come back, or thrown -/
theorem xafter {r : XO × XS} {st0 rest : List Value} {a0 : Array Value} (hr : vx_Run p l e R s m args below meth c H locs cells slots mc ms (F0 m pc A st0) rest (xQc b B cI cZ cJ D r a0) (xXC B cI cZ cJ D r) (fun q => B ≤ q)) (hS : va_S (fun q => B ≤ q) s.heap H locs)
    (kk : ∀ (v : Option Value) (H' : Heap) (locs' : List Loc), r.1 = .inl v → va_P D vwCl (xw B cI cZ cJ r.2) H' → va_S (fun q => B ≤ q) s.heap H' locs' → W p l e R s m args below meth c H' locs' (cells + mc) (slots + ms) Q (F0 m (pc + 3) A ((v.map (xtr b B)).toList ++ rest)))
    (kx : ∀ (k : Nat) (q9 : Addr) (ce : Cell) (H' : Heap) (locs' : List Loc), r.1 = .inr k → k < 3 → va_P D vwCl (xw B cI cZ cJ r.2) H' → va_S (fun q => B ≤ q) s.heap H' locs' → H'[q9]? = some ce → ce.vm = .none → s.vm.findClass (xnm k) = some ce.cls → vx_W p l e R s m args below meth c H' locs' (cells + mc) (slots + ms) Q (F0 m pc A rest) q9) :
    W p l e R s m args below meth c H locs cells slots Q (F0 m pc A st0) := by
  intro T hT X
  rcases hr T hT X with ⟨v, st₀, t, T', L9, h0, X', hL, e1, e2, ⟨⟨v9, hv1, hv2⟩, hP9, hF⟩, st⟩ | ⟨q, st₀, t, T', L9, E, ce, h0, X', hL, e1, e2, ⟨⟨k, hk1, hk2, rfl⟩, hP9, hF⟩, hce, hcv, hcl, st⟩
  · obtain ⟨k1, k2, k3⟩ := vx_keep h0 e1 hS (fun _ _ h => h) (fun _ h => h) hL hF
    cases Outcome.returned.inj hv2
    obtain ⟨t2, a1, b1⟩ := kk v9 T'.heap (locs ++ L9) hv1 (by rw [e1]; exact hP9) k3 T' rfl X'
    exact ⟨t2, st t2 a1, b1⟩
  · obtain ⟨k1, k2, k3⟩ := vx_keep h0 e1 hS (fun _ _ h => h) (fun _ h => h) hL hF
    obtain ⟨t2, a1, b1⟩ := kx k q ce T'.heap (locs ++ L9) hk1 hk2 (by rw [e1]; exact hP9) k3 (by rw [e1]; exact hce) hcv hcl T' rfl X'
    exact ⟨t2, st.trans a1, b1⟩
theorem xMet_Met {y0 : MethodName} {ws : List Cond} {rm : Room} {Pc : Array Value → State → Prop} {r : XO × XS} {v : Option Value} (hr : r.1 = .inl v) (h : vx_Met l y0 ws rm Pc (xQc b B cI cZ cJ D r) (xXC B cI cZ cJ D r) mc ms (fun q => B ≤ q)) : Met l y0 ws rm Pc (xQc b B cI cZ cJ D r) mc ms (fun q => B ≤ q) := by
  intro p e ha hc hk s m args below hfr happ hP hK
  obtain ⟨n, o, h1, h2, h3, h4⟩ := h p e ha hc hk s m args below hfr happ hP hK
  refine ⟨n, o, h1, h2, h3, ?_⟩
  rcases h4 with h4 | ⟨q, -, E, ce, L9, ⟨⟨k, hk1, -⟩, -⟩, -⟩
  · exact h4
  · rw [hr] at hk1; cases hk1
end
end XC2
