/-! THE CLAIM OUT OF ONE WALK OF THE LAW'S BODY. Your part is whole_start (and what it stands on); all else here is the same for every law, but numbers. -/
def R_law : String := "LogServerLaw"
def lw_P (b : Addr) (xs : List Int32) (args : Array Value) (s : State) : Prop := args = #[.ref b] ∧ s.IntsAt b xs ∧ xs.length ≤ 3587 ∧ (Jvm.Cond.and given_1 narrow_1).before args s = true
def lw_Q (_ : Array Value) (s : State) (o : Outcome) (t : State) : Prop := o = .returned (some (.int 1)) ∧ Framed s o t [] 1098 27154
def lw_Z (below : List Frame) (a : Array Value) (s : State) : State → Prop := fun t => ∃ o, t.status = .running ∧ Ended t below o ∧ lw_Q a s o t
/-- the law's own end, with 1 on the stack, nothing written that was there before, its room as the claim has it -/
theorem lw_ret {p : Program} {l : Launch} {e : Env} {s : State} {m : MethodId} {below : List Frame} {meth : Method} {c : Code} {b : Nat} (hx : p.tables.exec = Jvm.exec) (hb : c.code = code) (hr : meth.sig.returnType = ret) (hlocks : meth.locks = false) {pc : Nat} {H : Heap} {ls : Array Slot} (hdg : decode code pc = .ok (.ireturn, 1)) : W p l e room_1 s m #[Value.ref b] below meth c H [] 1098 27154 (lw_Z below #[Value.ref b] s) (F0 m pc ls [.int 1]) := by
  intro T hT X
  obtain ⟨fs, hret, hrun, hended, hW, hframe⟩ := X.leave (v := some (.int 1)) (hlocks := hlocks) (fun h => by rw [hr] at h; cases h)
  have hmeth' : T.vm.method? m = some meth := X.method'
  refine ⟨T.setFrames fs, ?_, .returned (some (.int 1)), hrun, hended, rfl, ⟨_, rfl⟩, hW, hframe⟩
  jvm_step X.here [X.here.top, hx, hb, hdg, hmeth', hr, ret, narrow_b1]
  (try refine ⟨rfl, ?_⟩); (try refine ⟨rfl, ?_⟩)
  first | (intro acts; rw [hret _ acts rfl rfl rfl]) | rw [hret _ _ rfl rfl rfl]
  exact Steps.refl _
/-- what holds at the law's entry: the machine, the code, the tables' words (any of lw_tbl by 'hts w (by decide +kernel)'), the script of L ints xs at the cell b, what the Statement gives of the start (any of its parts by flat_of_before) -/
def lw_At (p : Program) (s : State) (m : MethodId) (meth : Method) (c : Code) (b L : Nat) (xs : Nat → Int32) : Prop :=
  p.tables.exec = Jvm.exec ∧ c.code = code ∧ meth.sig.returnType = ret ∧ c.maxLocals = 7 ∧ s.vm.findClass R_law = some m.cls ∧ (∀ w ∈ lw_tbl, w.before #[Value.ref b] s = true) ∧ va_X b L xs s s.heap ∧ b < s.heap.size ∧ meth.locks = false ∧ (Jvm.Cond.and given_1 narrow_1).before #[Value.ref b] s = true
/-! FROM A RUN OF THE LAW TO THE CLAIM -/
def x0 : XS := (0, 0, 0, fun _ _ => 0, fun _ _ => 0)
/-- what is left to be shown: on every script the machine's run of the law answers 1, within the claim's room -/
def xLaw : Prop := ∀ (L : Nat) (xs : Nat → Int32), L ≤ 3587 → ∃ (f : Nat) (σ : XS), xr L xs f 235 0 (xini [.ref 1000] 7) [] x0 = some (.inl (some (.int 1)), σ) ∧ xnt σ ≤ 1098 ∧ xsl σ ≤ 27154
section XE
theorem xT_start {s : State} {b : Nat} (hts : ∀ w ∈ lw_tbl, w.before #[Value.ref b] s = true) (hgv : (Jvm.Cond.and given_1 narrow_1).before #[Value.ref b] s = true) : ∃ (D : va_G) (cI cZ cJ : ClassId), xT D cI cZ cJ s := by
  have hs := flat_of_before _ hgv
  have hk : ∀ a, a < 8 → ∃ (cC : ClassId) (iS : Nat → Nat), u_Kn s (xcC a).1 (xcC a).2.1 (xcC a).2.2 cC iS := fun a ha =>
    u_known (N := (xcC a).2.2) (n := (xcC a).2.2) hts (xc_ok a ha).2.1 (hts _ (xc_new a ha).1)
  obtain ⟨c0, i0, k0⟩ := hk 0 (by decide)
  obtain ⟨c1, i1, k1⟩ := hk 1 (by decide)
  obtain ⟨c2, i2, k2⟩ := hk 2 (by decide)
  obtain ⟨c3, i3, k3⟩ := hk 3 (by decide)
  obtain ⟨c4, i4, k4⟩ := hk 4 (by decide)
  obtain ⟨c5, i5, k5⟩ := hk 5 (by decide)
  obtain ⟨c6, i6, k6⟩ := hk 6 (by decide)
  obtain ⟨c7, i7, k7⟩ := hk 7 (by decide)
  have arr : ∀ t : FieldType, (∀ C, t ≠ .object C) → Cond.arrayClass t ∈ lw_tbl → ∃ cA, ArrOfT s cA t ∧ va_RA s cA t := by
    intro t ht hm
    obtain ⟨cA, kA, comp, h1, h2, h3⟩ := Cond.arrayClass_spec (hts _ hm)
    refine ⟨cA, fun n z => ⟨fun k h => (by cases h), kA, h2, comp, h3⟩, ?_⟩
    cases t with
    | object C => exact absurd rfl (ht C)
    | _ => exact h1
  obtain ⟨cI, aI, rI⟩ := arr .int (fun C h => by cases h) (by decide +kernel)
  obtain ⟨cZ, aZ, rZ⟩ := arr .boolean (fun C h => by cases h) (by decide +kernel)
  obtain ⟨cJ, aJ, rJ⟩ := arr .long (fun C h => by cases h) (by decide +kernel)
  refine ⟨(fun k => match k with | 0 => c0 | 1 => c1 | 2 => c2 | 3 => c3 | 4 => c4 | 5 => c5 | 6 => c6 | _ => c7, fun k => match k with | 0 => i0 | 1 => i1 | 2 => i2 | 3 => i3 | 4 => i4 | 5 => i5 | 6 => i6 | _ => i7), cI, cZ, cJ, fun w hw => ?_, ⟨fun k q hq => ?_, fun k q hq => ?_⟩, fun r hr => ?_, fun i hi j hj hn => ?_⟩
  · obtain ⟨h1, hx⟩ := List.mem_filter.mp hw
    have h2 := hts w h1
    unfold xtw at hx
    rcases Bool.or_eq_true _ _ ▸ hx with g | g
    · exact word_at (State.WarmedH.refl s) (good_of_word g) h2
    · split at g
      · exact va_Nw.of rfl h2
      · exact va_Nw.of rfl h2
      · exact va_Nw.of rfl h2
      · exact va_Nw.of rfl h2
      · cases g
  · match k, hq with
    | 0, hq => cases hq; exact k0
    | 1, hq => cases hq; exact k1
    | 2, hq => cases hq; exact k2
    | 3, hq => cases hq; exact k3
    | 4, hq => cases hq; exact k4
    | 5, hq => cases hq; exact k5
    | 6, hq => cases hq; exact k6
    | 7, hq => cases hq; exact k7
    | k + 8, hq => simp [vwCl] at hq
  · match k, hq with
    | 0, hq => cases hq; exact ⟨aI, rI⟩
    | 1, hq => cases hq; exact ⟨aZ, rZ⟩
    | 2, hq => cases hq; exact ⟨aJ, rJ⟩
    | k + 3, hq => simp [xtys] at hq
  · have hm : Cond.stringRef "LogServer" r.1 r.2 ∈ lw_tbl := (show ∀ r ∈ xstrs, Cond.stringRef "LogServer" r.1 r.2 ∈ lw_tbl by decide +kernel) r hr
    have h1 := hts _ hm
    have hc : s.vm.findClass "LogServer" = some c6 := k6.2.1
    obtain ⟨-, -, -, a, -, -, -, -, -, hev⟩ := Cond.stringRef_spec hc h1
    exact ⟨a, vk_R.of h1 hev⟩
  · have hm : Cond.not (.castable (xnm i) (xnm j)) ∈ flatC (Jvm.Cond.and given_1 narrow_1) := (show ∀ i, i < 3 → ∀ j, j < 3 → i ≠ j → Cond.not (.castable (xnm i) (xnm j)) ∈ flatC (Jvm.Cond.and given_1 narrow_1) by decide +kernel) i hi j hj hn
    exact va_Nc.of (hs _ hm)
theorem xZ_start {s : State} {b L : Nat} {xs : Nat → Int32} (hts : ∀ w ∈ lw_tbl, w.before #[Value.ref b] s = true) (hgv : (Jvm.Cond.and given_1 narrow_1).before #[Value.ref b] s = true) (hX : va_X b L xs s s.heap) (hb : b < s.heap.size) : xZ b L xs s.heap.size s s.heap := by
  have hs := flat_of_before _ hgv
  refine ⟨vx_Zqof (hts _ (by decide +kernel)) (hts _ (by decide +kernel)) (hs _ (by decide +kernel)) (fun a ha => Nat.not_le.mpr ha), vx_Zqof (hts _ (by decide +kernel)) (hts _ (by decide +kernel)) (hs _ (by decide +kernel)) (fun a ha => Nat.not_le.mpr ha), hX, hb, Nat.le_refl _⟩
theorem whole_start {p : Program} {e : Env} {s : State} {m : MethodId} {below : List Frame} {meth : Method} {c : Code} (K : xAll) (P : xLaw) (l : Launch) (hl : l.stackTraces = false) (hnm : meth.name = "law") (htb : c.exceptionTable.toList = []) {b L : Nat} {xs : Nat → Int32} (hL : L ≤ 3587) (C0 : lw_At p s m meth c b L xs) : W p l e room_1 s m #[Value.ref b] below meth c s.heap [] 0 0 (lw_Z below #[Value.ref b] s) (entryFrame m ([Value.ref b] : List Value).toArray 7) := by
  obtain ⟨hx, hb, hr, hml, hown, hts, hX, hbl, hlocks, hgv⟩ := C0
  obtain ⟨D, cI, cZ, cJ, hT⟩ := xT_start hts hgv
  have hZ := xZ_start hts hgv hX hbl
  obtain ⟨f, σ, hrun, hn1, hn2⟩ := P L xs hL
  have hent := xentry b s.heap.size (as := [.ref 1000]) (n := 7) (by decide)
  have had : ([Value.ref 1000] : List Value).map (xtr b s.heap.size) = [Value.ref b] := rfl
  rw [had] at hent
  rw [lg_entry_eq]
  have hP0 : va_P D vwCl (xw s.heap.size cI cZ cJ x0) s.heap := fun k q h => by simp [xw, x0] at h
  have Wr := xsound (l := l) (b := b) (L := L) (B := s.heap.size) (xs := xs) (D := D) (cI := cI) (cZ := cZ) (cJ := cJ) K f 235 0 (xini [.ref 1000] 7) [] x0 _ hrun p e room_1 s m #[Value.ref b] below meth c s.heap [] 0 0 _ (xnt σ) (xsl σ)
    ⟨hx, hb, hr, hml, hown, hnm, hlocks, hl, hT, hZ, by rw [htb]; rfl⟩ ⟨hP0, va_S.rf, hent, by omega⟩ (by show xnt σ + 0 = 0 + xnt σ; omega) (by show xsl σ + 0 = 0 + xsl σ; omega) hn1 hn2 (by decide) (by decide)
  intro T hT9 X
  obtain ⟨t, a1, o, b1, b2, b3⟩ := Wr T hT9 X
  refine ⟨t, a1, o, b1, b2, ?_⟩
  rcases b3 with ⟨⟨⟨v, v1, v2⟩, -, -⟩, L9, ⟨⟨v9, w1⟩, w2, w3⟩, w4⟩ | ⟨q, -, E, ce, L9, ⟨⟨k, hk1, -⟩, -⟩, -⟩
  · cases v1
    refine ⟨v2, ⟨v9, w1⟩, w2, ?_⟩
    exact (w3.weaken (fun y hy hlt => absurd hlt (Nat.not_lt.mpr (w4 y hy))) (Nat.le_refl _) (Nat.le_refl _)).mono hn1 hn2
  · cases hk1
end XE
set_option maxHeartbeats 4000000 in
theorem lw_walk (K9 : xAll) (P9 : xLaw) (l : Launch) (hl9 : l.stackTraces = false) (b : Addr) (xs : List Int32) : MetFree l x (headSpec (Jvm.Cond.code x code maxLocals ret :: tables_1) room_1) (lw_P b xs) (fun _ _ _ _ _ => True) lw_Q := by
  refine MetFree.of_bodyS (code := code) (maxLocals := maxLocals) (ret := ret) (by decide) ?_ ?_
  · intro args s m h hn
    obtain ⟨meth, c, h1, h2, h3, h4, h5, h6, -, -⟩ := Cond.code_spec hn (atoms_spec (ws := Jvm.Cond.code x code maxLocals ret :: tables_1) h _ List.mem_cons_self)
    exact ⟨meth, c, h1, h2, h3, h4, h5, h6⟩
  · intro p e s m args below meth c s₁ B hml0 hP _
    obtain ⟨rfl, hx, hbd, hgv⟩ := hP
    obtain ⟨scr, harrAt, hlist, hof, hsmall⟩ := hx
    obtain ⟨hcb, hkn, -, -⟩ := State.arrayAt?_spec harrAt
    have hown : s.vm.findClass R_law = some m.cls := findClass_of_methodNamed B.named
    have hts0 : ∀ c ∈ (Jvm.Cond.code x code maxLocals ret :: tables_1), c.before #[Value.ref b] s = true := atoms_spec (ws := Jvm.Cond.code x code maxLocals ret :: tables_1) B.pre
    have hts : ∀ w ∈ lw_tbl, w.before #[Value.ref b] s = true := k2_hts_sels lw_privs (fun w hw => hts0 w (List.mem_cons_of_mem _ hw)) lw_privs_ok
    have hml : c.maxLocals = 7 := B.maxLocals_eq (hts0 _ List.mem_cons_self)
    have X₀ : Stand p l e room_1 s m #[Value.ref b] below meth c s₁ [] 0 0 := Stand.of_body B
    have hh0 : s₁.heap = s.heap := by rw [B.state]; rfl
    have hsz : scr.slots.size = xs.length := by rw [← Array.length_toList, hlist, List.length_map]
    have hval : ∀ j : Nat, j < xs.length → scr.slots[j]? = some (.int (xs.getD j 0)) := fun j hj => by
      rw [← Array.getElem?_toList, hlist]
      simp [hj]
    have hbl : b < s.heap.size := (Array.getElem?_eq_some_iff.mp hcb).1
    have hX : va_X b xs.length (fun j => xs.getD j 0) s s.heap := ⟨scr, hcb, hof, hkn, hsz, hval⟩
    have K : W p l e room_1 s m #[Value.ref b] below meth c s₁.heap [] 0 0 (lw_Z below #[Value.ref b] s) (entryFrame m ([Value.ref b] : List Value).toArray 7) := by
      rw [hh0]
      exact whole_start K9 P9 l hl9 (name_of_methodNamed B.named B.method).1 (by simpa using B.noHandlers (hts0 _ List.mem_cons_self)) hbd ⟨B.exec, B.bytes, B.returns, hml, hown, hts, hX, hbl, B.notSynchronized, hgv⟩
    obtain ⟨t, a1, o, b1, b2, b3⟩ := K s₁ rfl X₀
    exact ⟨t, o, a1, b1, b2, b3⟩
theorem lw_pre_spec {args : Array Value} {s : State} (h : (Jvm.Cond.and given_1 narrow_1).before args s = true) (hr : rest_1_c.before args s = true) : ∃ (b : Addr) (xs : List Int32), lw_P b xs args s := by
  have hs := flat_of_before _ h
  have hq := flat_of_before _ hr
  have hc : (Cond.count 1).before args s = true := hs _ (by decide +kernel)
  have harr : (Cond.arrayOf (.arg 0) .int).before args s = true := hs _ (by decide +kernel)
  have hle : (Cond.le (.length (.arg 0)) (.int 3587)).before args s = true := hs _ (by decide +kernel)
  have hlen : (Cond.isInt (.length (.arg 0))).before args s = true := hq _ (by decide +kernel)
  have hall : (Cond.all (.arg 0) (.isInt (.elem (.arg 0) (.index 0)))).before args s = true := hq _ (by decide +kernel)
  obtain ⟨b, xs, hb, hx⟩ := State.ints_of_pre rfl harr hlen hall
  have hsm : xs.length < 2 ^ 31 := hx.choose_spec.2.2.2
  have hev : (Term.length (.arg 0)).eval args s none [] s = some (.int xs.length.toInt32) := hx.length_eval hb
  have hv := Cond.le_ints hev (show (Term.int 3587).eval args s none [] s = some (.int 3587) from rfl)
  have hd : xs.length.toInt32 ≤ 3587 := by
    simpa [Cond.before, Cond.holds, hv] using hle
  have hN : xs.length ≤ 3587 := (Int32.ofNat_le_ofNat hsm (by decide)).mp (show Int32.ofNat xs.length ≤ Int32.ofNat 3587 from hd)
  exact ⟨b, xs, Cond.one_arg hc (show args[0]? = some (.ref b) from hb), hx, hN, h⟩
theorem lw_comes (K9 : xAll) (P9 : xLaw) (l : Launch) (hl9 : l.stackTraces = false) : Comes l x (Jvm.Cond.code x code maxLocals ret :: tables_1) room_1 (fun tb e args s => Calls_1 tb e args s ∧ rest_1 tb e args s ∧ Pre_1 tb e args s)
    (fun _ _ args s o t => lw_Q args s o t) := by
  intro p e ha hc hk s m args below hf hfit hheap happ hpre
  obtain ⟨b, xs, hP⟩ := lw_pre_spec hpre.2.2 hpre.2.1
  obtain ⟨k, o, h1, h2, h3, hQ⟩ := lw_walk K9 P9 l hl9 b xs p e ha hc hk s m args below hf ((Spec.applies_iff_loose hf).mp happ).1 hP trivial
  exact ⟨k, o, h1, h2, h3, hQ⟩
theorem lw_frame {s t : State} {o : Outcome} {args : Array Value} (h : Framed s o t [] 1098 27154) :
    Framed s o t (fieldLocs frame_1_writes args s ++ arrayLocs frame_1_arrays args s ++ staticLocs frame_1_statics s) 1098 27154 := h
theorem lw_limb (K9 : xAll) (P9 : xLaw) (L : Cond) (hL : ∀ (args : Array Value) (s t : State), L.after args s (.returned (some (.int 1))) t = true) :
    ArmFor flags0 classFile x code maxLocals ret World_1 tables_1 room_1 Calls_1 rest_1 Pre_1
      (fun tb e a s o t => postC L tb e a s o t ∧ Framed s o t (fieldLocs frame_1_writes a s ++ arrayLocs frame_1_arrays a s ++ staticLocs frame_1_statics s) 1098 27154) := by
  intro l hfl _ _ p e ha hc hk s m args below hf hfit hheap happ hpre
  obtain ⟨k, o, h1, h2, h3, rfl, hF⟩ := lw_comes K9 P9 l (by unfold Launch.stackTraces; rw [hfl]; decide) p e ha hc hk s m args below hf hfit hheap happ hpre
  exact ⟨k, _, h1, h2, h3, hL args s _, lw_frame hF⟩
theorem i_vc_open (K9 : xAll) (P9 : xLaw) : Claimed_1_1 ∧ Claimed_1_2 := ⟨lw_limb K9 P9 limb_1_1 (fun args s t => by simp [limb_1_1, Cond.after, Cond.holds, Cond.value]), lw_limb K9 P9 limb_1_2 (fun args s t => Cond.after_iff.mpr (by
  first | (rw [show limb_1_2 = Cond.eq .result (.int 1) from rfl, Cond.eq_ints (x := 1) (y := 1) rfl rfl]; simp; done) | (simp [limb_1_2, Cond.value, Term.eval]; done)))⟩

