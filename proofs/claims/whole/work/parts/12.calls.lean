/-! calls, throws, catches; the main theorem -/
def xroomB (y a : Nat) : Bool := Nat.ble (xmF a + 1) (xmF y) && Nat.ble (8 + (xmL a + 11) + xmO a) (xmO y)
def xparB (a n : Nat) : Bool := decide ((parseMethodDescriptor (xmN a).desc).map (fun d => d.parameters.length) = some n)
def xic (k : Nat) : Nat := match k with
  | 0 => 110
  | 1 => 227
  | _ => 481
def xnms : List String := ["java/lang/RuntimeException", "java/lang/Exception"]
/-- a throw's five instructions -/
def xthrB (y pc k is : Nat) : Bool := decide (k < 3) && decide ((xmN y).cls = "LogServer") && (xstrs.any (fun r => Nat.beq r.1 is)) && Nat.ble 6 (xmF y) && Nat.ble 90 (xmO y) && (xmX y).isEmpty && decide (decode (xmB y) (pc + 3) = .ok (.dup, 1)) &&
  (bif Nat.blt is 256 then decide (decode (xmB y) (pc + 4) = .ok (.ldc is, 2)) && decide (decode (xmB y) (pc + 6) = .ok (.invokespecial (xic k), 3)) && decide (decode (xmB y) (pc + 9) = .ok (.athrow, 1))
    else decide (decode (xmB y) (pc + 4) = .ok (.ldc_w is, 3)) && decide (decode (xmB y) (pc + 7) = .ok (.invokespecial (xic k), 3)) && decide (decode (xmB y) (pc + 10) = .ok (.athrow, 1)))
def xokC (y : Nat) (q : XE) : Bool := (match q.2.1 with
  | .invokevirtual k => Nat.beq q.2.2.2.1.2.2.1 0 && xmOk q.2.2.2.1.1 && (xmX q.2.2.2.1.1).isEmpty && xlkB q.2.2.2.1.2.2.2 (.methodLink (xmN y).cls k (xmN q.2.2.2.1.1)) && xlkB (xmW q.2.2.2.1.1).2.1 (.selects (xmN q.2.2.2.1.1).cls (xmN q.2.2.2.1.1) (xmN q.2.2.2.1.1)) && xlkB (xmW q.2.2.2.1.1).2.2.1 (.instanceMethod (xmN q.2.2.2.1.1)) &&
      decide (xmC q.2.2.2.1.1 < 8) && decide ((xcC (xmC q.2.2.2.1.1)).1 = (xmN q.2.2.2.1.1).cls) && Nat.ble 1 q.2.2.2.1.2.1 && xparB q.2.2.2.1.1 (q.2.2.2.1.2.1 - 1) && xroomB y q.2.2.2.1.1
  | .invokestatic k => (bif (Nat.beq q.2.2.2.1.2.2.1 5 || Nat.beq q.2.2.2.1.2.2.1 6 || Nat.beq q.2.2.2.1.2.2.1 7) then xlkB q.2.2.2.1.2.2.2 (.methodLink (xmN y).cls k (bif Nat.beq q.2.2.2.1.2.2.1 5 then arraycopyName else bif Nat.beq q.2.2.2.1.2.2.1 6 then Lib.Math.max.name else Lib.Math.min.name)) && Nat.ble 1 (xmF y) && Nat.ble 60 (xmO y) else
      Nat.beq q.2.2.2.1.2.2.1 1 && xmOk q.2.2.2.1.1 && xlkB q.2.2.2.1.2.2.2 (.methodLink (xmN y).cls k (xmN q.2.2.2.1.1)) && xlkB (xmW q.2.2.2.1.1).2.2.1 (.static (xmN q.2.2.2.1.1)) && xparB q.2.2.2.1.1 q.2.2.2.1.2.1 && xroomB y q.2.2.2.1.1)
  | .invokespecial k => (bif Nat.beq q.2.2.2.1.2.2.1 4 then xlkB q.2.2.2.1.2.2.2 (.methodLink (xmN y).cls k objectInit) && Nat.ble 1 (xmF y) && Nat.ble 20 (xmO y) else
      Nat.beq q.2.2.2.1.2.2.1 2 && xmOk q.2.2.2.1.1 && (xmX q.2.2.2.1.1).isEmpty && (xlkB q.2.2.2.1.2.2.2 (.methodLink (xmN y).cls k (xmN q.2.2.2.1.1)) || xlkB q.2.2.2.1.2.2.2 (.methodLinkNest (xmN y).cls k (xmN q.2.2.2.1.1) "LogServer")) && xlkB (xmW q.2.2.2.1.1).2.2.1 (.instanceMethod (xmN q.2.2.2.1.1)) && decide ((xmN q.2.2.2.1.1).name = "<init>") && decide (xmR q.2.2.2.1.1 = none) && Nat.ble 1 q.2.2.2.1.2.1 && xparB q.2.2.2.1.1 (q.2.2.2.1.2.1 - 1) && xroomB y q.2.2.2.1.1)
  | .new k => (bif Nat.beq q.2.2.2.1.2.2.1 1 then xlkB q.2.2.2.1.2.2.2 (.classLink (xmN y).cls k (xnm q.2.2.2.1.1)) && xthrB y q.1 q.2.2.2.1.1 q.2.2.2.1.2.1 else true)
  | _ => !(Nat.beq q.2.2.2.1.2.2.1 1))
/-- a row of a table of exceptions: the class; then astore, iconst, ireturn -/
def xrowB (y : Nat) (h : Nat × Nat × Nat × Int32) (t : Nat × Nat × Nat × Nat) : Bool := Nat.beq h.1 t.1 && Nat.beq h.2.1 t.2.1 && decide (h.2.2.1 < 3) && decide (t.2.2.2 ≠ 0) && decide (Cond.classLink (xmN y).cls t.2.2.2 (xnm h.2.2.1) ∈ lw_tbl) && decide (xmR y = some .int) &&
  (match decode (xmB y) t.2.2.1 with
    | .ok (.astore_n j, 1) => decide (j.val < xmL y) && (match decode (xmB y) (t.2.2.1 + 1) with
      | .ok (.iconst n, 1) => decide (Int32.ofInt n = h.2.2.2) && decide (decode (xmB y) (t.2.2.1 + 2) = .ok (.ireturn, 1))
      | _ => false)
    | .ok (.astore j, 2) => decide (j < xmL y) && (match decode (xmB y) (t.2.2.1 + 2) with
      | .ok (.iconst n, 1) => decide (Int32.ofInt n = h.2.2.2) && decide (decode (xmB y) (t.2.2.1 + 3) = .ok (.ireturn, 1))
      | _ => false)
    | _ => false)
def xparT (y : Nat) : List (Nat × Nat × Nat × Int32) → List (Nat × Nat × Nat × Nat) → Bool
  | [], [] => true
  | h :: t, h' :: t' => xrowB y h h' && xparT y t t'
  | _, _ => false
/-- THE PROGRAM TEXT IS CHECKED -/
def xAll : Prop := (∀ y pc q, xf (xcode y) pc = some q → xokB y (pc, q) = true ∧ xokC y (pc, q) = true) ∧ (∀ y, xparT y (xmH y) (xmX y) = true) ∧
  (∀ k, k < 3 → (∀ w ∈ vx_atS "LogServer" (xic k) (xnm k) xnms, w ∈ xTs ∧ vx_ot w = true) ∧ Cond.initialized (xnm k) ∈ lw_tbl ∧ Cond.castable (xnm k) (xnm k) ∈ lw_tbl) ∧
  (Cond.native arraycopyName ∈ lw_tbl ∧ Cond.static arraycopyName ∈ lw_tbl ∧ Cond.initialized "java/lang/System" ∈ lw_tbl ∧ Cond.static Lib.Math.max.name ∈ lw_tbl ∧ Cond.static Lib.Math.min.name ∈ lw_tbl ∧ Cond.initialized "java/lang/Math" ∈ lw_tbl ∧ Cond.code Lib.Math.max.name Lib.Math.max.code 2 (some .int) ∈ lw_tbl ∧ Cond.code Lib.Math.min.name Lib.Math.min.code 2 (some .int) ∈ lw_tbl) ∧ (Cond.instanceMethod objectInit ∈ lw_tbl ∧ Cond.code objectInit ⟨#[0xb1]⟩ 1 none ∈ lw_tbl)
section XD
variable {l : Launch} {b L B : Nat} {xs : Nat → Int32} {D : va_G} {cI cZ cJ : ClassId} {p : Program} {e : Env} {R : Room} {s : State} {m : MethodId} {args : Array Value} {below : List Frame} {meth : Method} {c : Code} {H : Heap} {locs : List Loc} {cells slots mc ms : Nat} {Q : State → Prop} {A : Array Slot} {y pc : Nat} {ls : List (Option Value)} {st : List Value} {σ : XS}
theorem xgood_ws {a : Nat} (hT : xT D cI cZ cJ s) (h : xmOk a = true) : ∀ w ∈ xws a, ∀ (a' : Array Value) (U : State), s.WarmedH U.vm → w.before a' U = true := by
  intro w hw a' U hW
  obtain ⟨g1, -⟩ := xand h
  obtain ⟨-, g2⟩ := xand g1
  unfold xws at hw
  cases hx : (xmX a).isEmpty with
  | true =>
    rw [hx] at hw g2
    rw [List.mem_singleton.mp hw]
    exact word_at hW (good_of_word rfl) (hT.1 _ (xmem (xlk g2) rfl))
  | false =>
    rw [hx] at hw g2
    rw [List.mem_singleton.mp hw]
    exact word_at hW (good_of_word rfl) (hT.1 _ (xmem (xlk g2) rfl))
theorem xhpar {a n : Nat} (h : xparB a n = true) : ∀ sig, parseMethodDescriptor (xmN a).desc = some sig → n = sig.parameters.length := by
  intro sig hs
  have h2 := of_decide_eq_true h
  rw [hs] at h2
  exact (Option.some.inj h2).symm
theorem xmOk.hy {a : Nat} (h : xmOk a = true) : (xmN a).cls ≠ "java/lang/invoke/MethodHandle" ∧ (xmN a).cls ≠ "java/lang/invoke/VarHandle" := by
  obtain ⟨g1, -⟩ := xand h
  obtain ⟨g1, -⟩ := xand g1
  obtain ⟨g1, g2⟩ := xand g1
  obtain ⟨-, g3⟩ := xand g1
  exact ⟨of_decide_eq_true g3, of_decide_eq_true g2⟩
theorem xmOk.ini {a : Nat} (h : xmOk a = true) : Cond.initialized (xmN a).cls ∈ xTs := xmem (xlk (xand h).2) rfl
theorem xcargs_spec {a n d : Nat} {as rst : List Value} (h : xcargs a n d st σ = some (as, rst)) : st = as.reverse ++ rst ∧ as.length = n ∧ xwords rst ≤ 8 ∧ (xla as).length ≤ xmL a ∧ (Nat.beq d 1 = true ∨ ∃ k t, as = .ref k :: t ∧ k < σ.1 ∧ xkind k = (0, xmC a)) := by
  unfold xcargs at h
  cases hc : (Nat.ble n st.length && Nat.ble (xwords (st.drop n)) 8 && Nat.ble (xla (st.take n).reverse).length (xmL a)) with
  | false => rw [hc] at h; cases h
  | true =>
    rw [hc] at h
    simp only [cond_true] at h
    obtain ⟨g1, g3⟩ := xand hc
    obtain ⟨g1, g2⟩ := xand g1
    have e1 : st = (st.take n).reverse.reverse ++ st.drop n := by rw [List.reverse_reverse, List.take_append_drop]
    have e2 : (st.take n).reverse.length = n := by rw [List.length_reverse, List.length_take]; have := Nat.le_of_ble_eq_true g1; omega
    cases hd : Nat.beq d 1 with
    | true =>
      rw [hd] at h
      cases h
      exact ⟨e1, e2, Nat.le_of_ble_eq_true g2, Nat.le_of_ble_eq_true g3, Or.inl rfl⟩
    | false =>
      rw [hd] at h
      simp only [cond_false] at h
      split at h
      · next k t hk =>
        cases hz : (Nat.blt k σ.1 && (xkind k == (0, xmC a))) with
        | false => rw [hz] at h; cases h
        | true =>
          rw [hz] at h
          cases h
          rw [hk] at e1 e2 g3
          obtain ⟨z1, z2⟩ := xand hz
          exact ⟨e1, e2, Nat.le_of_ble_eq_true g2, Nat.le_of_ble_eq_true g3, Or.inr ⟨k, t, rfl, Nat.blt_eq.mp z1, eq_of_beq z2⟩⟩
      · cases h
set_option maxHeartbeats 4000000 in
/-- a call of one of the program's own methods, by its contract -/
theorem xcall {q : XI} {f : Nat} {as rst : List Value} {r : XO × XS} (C : xCx l b L B xs D cI cZ cJ p s m meth c y) (hq : xokB y (pc, q) = true) (hqc : xokC y (pc, q) = true) (hi : xisc q.1 q.2.2.1.2.2.1 = true) (ha : xcargs q.2.2.1.1 q.2.2.1.2.1 q.2.2.1.2.2.1 st σ = some (as, rst)) (hf : xSound l b L B xs D cI cZ cJ f)
    (hr : xr L xs f q.2.2.1.1 0 (xini as (xmL q.2.2.1.1)) [] σ = some r) (hn : ∀ k, r.1 = .inr k → Nat.beq q.2.2.1.2.2.1 2 = false) (hS : xSt b B cI cZ cJ D s σ ls H locs A y cells) (hc1 : cells + (xnt r.2 - xnt σ) ≤ R.cells) (hc2 : slots + (xsl r.2 - xsl σ) ≤ R.slots) (hF : xmF y ≤ R.frames) (hO : xmO y ≤ R.locals) (hsz : H.size ≤ B + xnt σ) :
    ∃ a0, vx_Run p l e R s m args below meth c H locs cells slots (xnt r.2 - xnt σ) (xsl r.2 - xsl σ) (F0 m pc A (st.map (xtr b B))) (rst.map (xtr b B)) (xQc b B cI cZ cJ D r a0) (xXC B cI cZ cJ D r) (fun q => B ≤ q) := by
  obtain ⟨i, len, ⟨a, n, d, ix⟩, v, lv⟩ := q
  obtain ⟨hx, hb, hrt, hml, hown, hnm, hlk, htr, hT, hZ, htb⟩ := C
  obtain ⟨e1, e2, e3, e4, e5⟩ := xcargs_spec ha
  have hst : st.map (xtr b B) = (as.map (xtr b B)).reverse ++ rst.map (xtr b B) := by rw [e1, List.map_append, List.map_reverse]
  have hw8 : 2 * (F0 m pc A (st.map (xtr b B))).monitorRoom + ((rst.map (xtr b B)).map fun v => v.category).sum ≤ 8 := lv_room (by rw [xwords_tr]; exact e3)
  have hlen : (as.map (xtr b B)).length = n := by rw [List.length_map]; exact e2
  have hpre := xPc_at (as := as) hT hZ hS.1 hS.2.1 hsz
  have hfix : CallFix p m c (xmB y) (xmL y) s args xTs (xmN y).cls := ⟨hx, hb, hml, hown, hT.hts args⟩
  have hsA : (F0 m pc A (st.map (xtr b B))).locals.size = xmL y := hS.2.2.1.size
  have room : xroomB y a = true → (xrm a σ r.2).frames + 1 ≤ R.frames ∧ 8 + (xmL a + 11) + (xrm a σ r.2).locals ≤ R.locals := by
    intro h
    obtain ⟨z1, z2⟩ := xand h
    have y1 := Nat.le_of_ble_eq_true z1
    have y2 := Nat.le_of_ble_eq_true z2
    exact ⟨Nat.le_trans y1 hF, Nat.le_trans y2 hO⟩
  unfold xisc at hi
  dsimp only at hi hr ha hn
  unfold xokC at hqc
  dsimp only at hqc
  split at hi
  · -- virtual
    next k =>
    dsimp only at hqc
    obtain ⟨hqc, w11⟩ := xand hqc
    obtain ⟨hqc, w10⟩ := xand hqc
    obtain ⟨hqc, w9⟩ := xand hqc
    obtain ⟨hqc, w8⟩ := xand hqc
    obtain ⟨hqc, w7⟩ := xand hqc
    obtain ⟨hqc, w6⟩ := xand hqc
    obtain ⟨hqc, w5⟩ := xand hqc
    obtain ⟨hqc, w4⟩ := xand hqc
    obtain ⟨hqc, w3⟩ := xand hqc
    obtain ⟨w1, w2⟩ := xand hqc
    have hd0 := Nat.eq_of_beq_eq_true w1
    have hM := xMet htr w2 hf e4 hr
    rcases e5 with e5 | ⟨k0, t0, rfl, g1, g2⟩
    · rw [hd0] at e5; cases e5
    · have h8 := of_decide_eq_true w7
      have K := xc_ok (xmC a) h8
      have hwk : (xw B cI cZ cJ σ)[k0]? = some (B + k0, .inr (xmC a, (List.range (xfk.getD (xmC a) []).length).map (xwf B σ k0 (xmC a)))) := by rw [xw_at g1, xwe_obj g2]
      have had : xad b B k0 = B + k0 := xad_lt (xkind_lt (by rw [g2]; exact Nat.zero_lt_succ 8))
      have hrc := va_recv hT.2.1 hS.1 K.1 hwk
      rw [of_decide_eq_true w8, ← had] at hrc
      have hcb : xws a = [Cond.code (xmN a) (xmB a) (xmL a) (xmR a)] := by unfold xws; rw [w3]; rfl
      obtain ⟨z1, -⟩ := xand w2
      obtain ⟨-, z2⟩ := xand z1
      rw [w3] at z2
      have hcw : CallW R s args (xmN y).cls (xmN a).cls k (xmN a) (xmB a) (xmL a) (xmR a) (xws a) (xrm a σ r.2) (xnt r.2 - xnt σ) (xsl r.2 - xsl σ) (n - 1) :=
        ⟨⟨rfl, rfl, (room w11).1, (room w11).2, xgood_ws hT w2, by rw [hcb]; exact List.mem_singleton.mpr rfl, hT.hts args _ (xmem (xlk z2) rfl), hT.hts args _ (xmOk.ini w2), xmOk.hy w2, xhpar w10, hT.hts args _ (xmem (xlk w4) rfl)⟩, hT.hts args _ (xmem (xlk w6) rfl), hT.hts args _ (xmem (xlk w5) rfl)⟩
      have hl2 : (t0.map (xtr b B)).length = n - 1 := by
        rw [List.length_map]
        have : (Value.ref k0 :: t0).length = n := e2
        rw [List.length_cons] at this
        omega
      exact ⟨_, vx_runV hfix hM hcw ⟨xPc_blind, hrc, hpre⟩ rfl hl2 hsA (by rw [show (F0 m pc A (st.map (xtr b B))).stack = st.map (xtr b B) from rfl, hst]; simp [xtr]) hw8 (xdec hq rfl) ⟨hc1, hc2⟩⟩
  · -- static
    next k =>
    have hd5 : (Nat.beq d 5 || Nat.beq d 6 || Nat.beq d 7) = false := by simpa using hi
    dsimp only at hqc
    rw [hd5] at hqc
    simp only [cond_false] at hqc
    obtain ⟨hqc, w6⟩ := xand hqc
    obtain ⟨hqc, w5⟩ := xand hqc
    obtain ⟨hqc, w4⟩ := xand hqc
    obtain ⟨hqc, w3⟩ := xand hqc
    obtain ⟨w1, w2⟩ := xand hqc
    have hM := xMet htr w2 hf e4 hr
    obtain ⟨z1, -⟩ := xand w2
    obtain ⟨-, z2⟩ := xand z1
    cases hxx : (xmX a).isEmpty with
    | true =>
      have hcb : xws a = [Cond.code (xmN a) (xmB a) (xmL a) (xmR a)] := by unfold xws; rw [hxx]; rfl
      rw [hxx] at z2
      exact ⟨_, vx_runS hfix hM ⟨⟨rfl, rfl, (room w6).1, (room w6).2, xgood_ws hT w2, by rw [hcb]; exact List.mem_singleton.mpr rfl, hT.hts args _ (xmem (xlk z2) rfl), hT.hts args _ (xmOk.ini w2), xmOk.hy w2, xhpar w5, hT.hts args _ (xmem (xlk w3) rfl)⟩, hT.hts args _ (xmem (xlk w4) rfl)⟩ ⟨xPc_blind, hpre⟩ rfl hlen hsA hst hw8 (xdec hq rfl) ⟨hc1, hc2⟩⟩
    | false =>
      have hcb : xws a = [Cond.codeWith (xmN a) (xmB a) (xmL a) (xmR a) (xmX a)] := by unfold xws; rw [hxx]; rfl
      rw [hxx] at z2
      exact ⟨_, vx_runSX (hh := xmX a) hfix hM ⟨⟨rfl, rfl, (room w6).1, (room w6).2, xgood_ws hT w2, by rw [hcb]; exact List.mem_singleton.mpr rfl⟩, hT.hts args _ (xmem (xlk z2) rfl), hT.hts args _ (xmOk.ini w2), xmOk.hy w2, xhpar w5, hT.hts args _ (xmem (xlk w3) rfl), hT.hts args _ (xmem (xlk w4) rfl)⟩ ⟨xPc_blind, hpre⟩ rfl hlen hsA hst hw8 (xdec hq rfl) ⟨hc1, hc2⟩⟩
  · -- special
    next k =>
    have hd4 : Nat.beq d 4 = false := by simpa using hi
    dsimp only at hqc
    rw [hd4] at hqc
    simp only [cond_false] at hqc
    obtain ⟨hqc, w10⟩ := xand hqc
    obtain ⟨hqc, w9⟩ := xand hqc
    obtain ⟨hqc, w8⟩ := xand hqc
    obtain ⟨hqc, w7⟩ := xand hqc
    obtain ⟨hqc, w6⟩ := xand hqc
    obtain ⟨hqc, w5⟩ := xand hqc
    obtain ⟨hqc, w4⟩ := xand hqc
    obtain ⟨hqc, w3⟩ := xand hqc
    obtain ⟨w1, w2⟩ := xand hqc
    have hd2 := Nat.eq_of_beq_eq_true w1
    rcases e5 with e5 | ⟨k0, t0, rfl, g1, g2⟩
    · rw [hd2] at e5; cases e5
    · cases hr1 : r.1 with
      | inr k9 => exact absurd (hn k9 hr1) (by rw [hd2]; decide)
      | inl v9 =>
        have hM := xMet_Met hr1 (xMet htr w2 hf e4 hr)
        have hcb : xws a = [Cond.code (xmN a) (xmB a) (xmL a) (xmR a)] := by unfold xws; rw [w3]; rfl
        obtain ⟨z1, -⟩ := xand w2
        obtain ⟨-, z2⟩ := xand z1
        rw [w3] at z2
        have hR0 : xmR a = none := of_decide_eq_true w7
        rw [hR0] at hcb z2
        have hl2 : (t0.map (xtr b B)).length = n - 1 := by
          rw [List.length_map]
          have : (Value.ref k0 :: t0).length = n := e2
          rw [List.length_cons] at this
          omega
        have hstk : (F0 m pc A (st.map (xtr b B))).stack = (t0.map (xtr b B)).reverse ++ .ref (xad b B k0) :: rst.map (xtr b B) := by
          rw [show (F0 m pc A (st.map (xtr b B))).stack = st.map (xtr b B) from rfl, hst]; simp [xtr]
        rw [Bool.or_eq_true] at w4
        rcases w4 with w4 | w4
        · have hrun := va_runI (e := e) (R := R) (below := below) (meth := meth) (locs := locs) (cells := cells) (slots := slots) hfix hM ⟨⟨rfl, rfl, (room w10).1, (room w10).2, xgood_ws hT w2, by rw [hcb]; exact List.mem_singleton.mpr rfl, hT.hts args _ (xmem (xlk z2) rfl), hT.hts args _ (xmOk.ini w2), xmOk.hy w2, xhpar w9, hT.hts args _ (xmem (xlk w4) rfl)⟩, of_decide_eq_true w6, hT.hts args _ (xmem (xlk w5) rfl)⟩ ⟨xPc_blind, hpre⟩ rfl hl2 hsA hstk hw8 (xdec hq rfl) ⟨hc1, hc2⟩
          exact ⟨_, fun T hT X => Or.inl (hrun T hT X)⟩
        · have hrun := va_runIN (e := e) (R := R) (below := below) (meth := meth) (locs := locs) (cells := cells) (slots := slots) hfix hM ⟨⟨⟨rfl, rfl, (room w10).1, (room w10).2, xgood_ws hT w2, by rw [hcb]; exact List.mem_singleton.mpr rfl⟩, hT.hts args _ (xmem (xlk z2) rfl), hT.hts args _ (xmOk.ini w2), xmOk.hy w2, xhpar w9, hT.hts args _ (xmem (xlk w4) rfl)⟩, of_decide_eq_true w6, hT.hts args _ (xmem (xlk w5) rfl)⟩ ⟨xPc_blind, hpre⟩ rfl hl2 hsA hstk hw8 (xdec hq rfl) ⟨hc1, hc2⟩
          exact ⟨_, fun T hT X => Or.inl (hrun T hT X)⟩
  · cases hi
end XD
