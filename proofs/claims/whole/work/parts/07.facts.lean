/-! what holds of the tables and of the old heap at every method's entry; the checks of the program text; the plain steps -/
def xtw (w : Cond) : Bool := goodWord w || (match w with
  | .castable .. => true
  | .declares .. => true
  | .fieldLinkNest .. => true
  | .methodLinkNest .. => true
  | _ => false)
def xTs : List Cond := lw_tbl.filter xtw
def xnm (k : Nat) : String := match k with
  | 0 => "java/lang/IllegalArgumentException"
  | 1 => "java/lang/IllegalStateException"
  | _ => "java/lang/IndexOutOfBoundsException"
def xstrs : List (Nat × String) := [(108, "a tick is 1 .. 1000"), (515, "no other server"), (518, "a number is 0 .. 1000000"), (213, "a kind is 0 .. 2"), (218, "no code of members"), (225, "there are 6 entries"), (237, "an entry's term does not fit"), (289, "no such snapshot"), (301, "no snapshot that fits was described"), (306, "no such bytes"), (479, "no such state"), (485, "no such entry"), (487, "no such server"), (489, "nothing such of a server"), (494, "no such number of a letter"), (501, "no such command"), (521, "no such call")]
def xT (D : va_G) (cI cZ cJ : ClassId) (U : State) : Prop := (∀ w ∈ xTs, va_Nw w U) ∧ va_K D vwCl (xtys cI cZ cJ) U ∧ (∀ r ∈ xstrs, ∃ sa, vk_R "LogServer" r.1 r.2 sa U) ∧ (∀ i, i < 3 → ∀ j, j < 3 → i ≠ j → va_Nc (xnm i) (xnm j) U)
theorem xT.warm {D : va_G} {cI cZ cJ : ClassId} {s U : State} (hW : s.WarmedH U.vm) (h : xT D cI cZ cJ s) : xT D cI cZ cJ U := by
  refine ⟨fun w hw => ?_, va_K.moved hW.alike h.2.1, fun r hr => ?_, fun i hi j hj hn => va_Nc.moved hW.alike (h.2.2.2 i hi j hj hn)⟩
  · have hx := (List.mem_filter.mp hw).2
    have h1 := h.1 w hw
    unfold xtw at hx
    rcases Bool.or_eq_true _ _ ▸ hx with g | g
    · exact word_at hW (good_of_word g) h1
    · split at g
      · exact va_Nw.warmC hW h1
      · exact va_Nw.warmD hW h1
      · exact va_Nw.warmF hW h1
      · exact va_Nw.warmM hW h1
      · cases g
  · obtain ⟨sa, q⟩ := h.2.2.1 r hr
    exact ⟨sa, q.warm hW⟩
theorem xT.hts {D : va_G} {cI cZ cJ : ClassId} {s : State} (h : xT D cI cZ cJ s) (args : Array Value) : ∀ w ∈ xTs, w.before args s = true := by
  intro w hw
  have hx := (List.mem_filter.mp hw).2
  have h1 := h.1 w hw
  unfold xtw at hx
  rcases Bool.or_eq_true _ _ ▸ hx with g | g
  · exact word_at (State.WarmedH.refl s) (good_of_word g) h1
  · split at g
    · exact va_Nw.use rfl h1
    · exact va_Nw.use rfl h1
    · exact va_Nw.use rfl h1
    · exact va_Nw.use rfl h1
    · cases g
/-- a word by its place -/
theorem xmem {ix : Nat} {w : Cond} (h : lw_tbl[ix]? = some w) (hx : xtw w = true) : w ∈ xTs := List.mem_filter.mpr ⟨List.mem_of_getElem? h, hx⟩
theorem xmem' {w : Cond} (h : w ∈ lw_tbl) (hx : xtw w = true) : w ∈ xTs := List.mem_filter.mpr ⟨h, hx⟩
theorem xlay_good (C : String) (T : u_T) (k : Nat) : xtw (u_lay C T k) = true := by
  unfold u_lay
  split <;> rfl
theorem xws_in {ci : Nat} (h : xcOk ci) : ∀ w ∈ u_ws (xcC ci).1 (xcC ci).2.1 (xcC ci).2.2, w ∈ xTs := by
  intro w hw
  refine xmem' (h.2.1 w hw) ?_
  obtain ⟨k, -, rfl⟩ := List.mem_map.mp hw
  exact xlay_good _ _ _
def xZ (b L : Nat) (xs : Nat → Int32) (B : Nat) (U : State) (H : Heap) : Prop := vx_Zq Bundle.tN "UNASSIGNED_STACK" Bundle.steD (fun q => B ≤ q) U H ∧ vx_Zq Bundle.tN "SUPPRESSED_SENTINEL" Bundle.listD (fun q => B ≤ q) U H ∧ va_X b L xs U H ∧ b < B ∧ B ≤ H.size
theorem xZ.moved {b L : Nat} {xs : Nat → Int32} {B : Nat} {u U : State} {H : Heap} (hvm : u.vm.Alike U.vm) (h : xZ b L xs B u H) : xZ b L xs B U H := ⟨h.1.moved hvm, h.2.1.moved hvm, h.2.2.1.moved hvm, h.2.2.2⟩
theorem xZ.kept {b L : Nat} {xs : Nat → Int32} {B : Nat} {U : State} {H H1 : Heap} (h : xZ b L xs B U H) (hs : H.size ≤ H1.size) (hq : ∀ a : Nat, a < H.size → ¬ B ≤ a → H1[a]? = H[a]?) : xZ b L xs B U H1 :=
  ⟨h.1.kept hq, h.2.1.kept hq, h.2.2.1.kept (hq b (Nat.lt_of_lt_of_le h.2.2.2.1 h.2.2.2.2) (Nat.not_le.mpr h.2.2.2.1)), h.2.2.2.1, Nat.le_trans h.2.2.2.2 hs⟩
/-- the locals -/
def xLv (b B : Nat) (ls : List (Option Value)) (A : Array Slot) (n : Nat) : Prop := ∃ lv, lv_has A n lv ∧ ls.length = n ∧ ∀ i v, ls[i]? = some (some v) → (i, xtr b B v) ∈ lv
theorem xLv.get {b B : Nat} {ls : List (Option Value)} {A : Array Slot} {n i : Nat} {v : Value} (h : xLv b B ls A n) (hi : ls[i]? = some (some v)) : A[i]? = some (.val (xtr b B v)) := by
  obtain ⟨lv, h1, -, h2⟩ := h
  exact h1.2.2 _ (h2 i v hi)
theorem xLv.size {b B : Nat} {ls : List (Option Value)} {A : Array Slot} {n : Nat} (h : xLv b B ls A n) : A.size = n := by
  obtain ⟨lv, h1, -, -⟩ := h
  exact h1.1
theorem xcat (b B : Nat) (v : Value) : (xtr b B v).category = v.category := by cases v <;> rfl
theorem xLv.put {b B : Nat} {ls ls' : List (Option Value)} {n i : Nat} {v : Value} {lv : List (Nat × Value)} (h2 : ls.length = n) (h3 : ∀ i v, ls[i]? = some (some v) → (i, xtr b B v) ∈ lv) (hs : xset ls i v = some ls') {A' : Array Slot}
    (h : lv_has A' n ((i, xtr b B v) :: lv.filter (fun q => !(q.1 == i) && !(q.1 + 1 == i && q.2.category == 2)))) : xLv b B ls' A' n := by
  unfold xset at hs
  cases hc : (Nat.blt i ls.length && xnl ls i) with
  | false => rw [hc] at hs; cases hs
  | true =>
    rw [hc] at hs
    have hs' : ls.set i (some v) = ls' := Option.some.inj hs
    subst hs'
    rw [Bool.and_eq_true] at hc
    refine ⟨_, h, by rw [List.length_set]; exact h2, fun j w hj => ?_⟩
    rw [List.getElem?_set] at hj
    by_cases e : i = j
    · subst e
      rw [if_pos rfl] at hj
      split at hj
      · rw [← Option.some.inj (Option.some.inj hj)]; exact List.mem_cons_self
      · cases hj
    · rw [if_neg e] at hj
      refine List.mem_cons_of_mem _ (List.mem_filter.mpr ⟨h3 j w hj, ?_⟩)
      have e2 : (j == i) = false := by simpa using fun q : j = i => e q.symm
      have e3 : (j + 1 == i && (xtr b B w).category == 2) = false := by
        rw [xcat]
        by_cases e4 : j + 1 = i
        · subst e4
          have hn := hc.2
          unfold xnl at hn
          simp only [hj] at hn
          cases w <;> first | (simp [Value.category]; done) | (exact absurd hn (by simp))
        · simp [e4]
      simp only [e2, e3]; rfl
theorem xset_lt {ls ls' : List (Option Value)} {i : Nat} {v : Value} (hs : xset ls i v = some ls') : i < ls.length := by
  unfold xset at hs
  cases hc : (Nat.blt i ls.length && xnl ls i) with
  | false => rw [hc] at hs; cases hs
  | true =>
    rw [Bool.and_eq_true] at hc
    exact Nat.blt_eq.mp hc.1
def xlen (i : Instr) : Nat := match i with
  | .iload _ => 2
  | .aload _ => 2
  | .istore _ => 2
  | .astore _ => 2
  | .bipush _ => 2
  | .ldc _ => 2
  | .newarray _ => 2
  | .iinc _ _ => 3
  | .sipush _ => 3
  | .ldc_w _ => 3
  | .ldc2_w _ => 3
  | .goto _ => 3
  | .if_icmp _ _ => 3
  | .ifCond _ _ => 3
  | .getfield _ => 3
  | .putfield _ => 3
  | .new _ => 3
  | .invokevirtual _ => 3
  | .invokestatic _ => 3
  | .invokespecial _ => 3
  | _ => 1
def xlkB (ix : Nat) (w : Cond) : Bool := decide (lw_tbl[ix]? = some w)
def xfldB (y k a b ix : Nat) : Bool := decide (a < 8) && decide (b < (xcC a).2.2) && decide (((xcC a).2.1 b).1 = (xcC a).1) && (xlkB ix (.fieldLink (xmN y).cls k (xcC a).1 ((xcC a).2.1 b).2.1 ((xcC a).2.1 b).2.2.1) || xlkB ix (.fieldLinkNest (xmN y).cls k (xcC a).1 ((xcC a).2.1 b).2.1 ((xcC a).2.1 b).2.2.1 "LogServer"))
def xokI (y : Nat) (q : XE) : Bool := match q.2.1 with
  | .iinc _ n => decide (Int32.ofInt n = q.2.2.2.2.1)
  | .iconst n => decide (Int32.ofInt n = q.2.2.2.2.1)
  | .bipush n => decide ((Int8.ofInt n).toInt32 = q.2.2.2.2.1)
  | .sipush n => decide ((Int16.ofInt n).toInt32 = q.2.2.2.2.1)
  | .ldc k => xlkB q.2.2.2.1.2.2.2 (.constant (xmN y).cls k q.2.2.2.2.1)
  | .ldc_w k => xlkB q.2.2.2.1.2.2.2 (.constant (xmN y).cls k q.2.2.2.2.1)
  | .ldc2_w k => xlkB q.2.2.2.1.2.2.2 (.constantLong (xmN y).cls k q.2.2.2.2.2)
  | .lconst n => decide (Int64.ofNat n.val = q.2.2.2.2.2)
  | .goto off => decide ((q.1 : Int) + off = (q.2.2.2.1.1 : Int))
  | .if_icmp _ off => decide ((q.1 : Int) + off = (q.2.2.2.1.1 : Int))
  | .ifCond _ off => decide ((q.1 : Int) + off = (q.2.2.2.1.1 : Int))
  | .tableswitch d lo hi offs => decide (0 ≤ (q.1 : Int) + d) && offs.toList.all (fun o => decide (0 ≤ (q.1 : Int) + o)) && decide ((hi - lo).toNat < offs.size)
  | .getfield k => xfldB y k q.2.2.2.1.1 q.2.2.2.1.2.1 q.2.2.2.1.2.2.2
  | .putfield k => xfldB y k q.2.2.2.1.1 q.2.2.2.1.2.1 q.2.2.2.1.2.2.2 && (bif ((xcC q.2.2.2.1.1).2.1 q.2.2.2.1.2.1).2.2.2 then
      decide ((xmN y).name = "<init>") && decide ((xmN y).cls = (xcC q.2.2.2.1.1).1) && xlkB q.2.2.2.1.2.2.2 (.fieldLink (xmN y).cls k (xcC q.2.2.2.1.1).1 ((xcC q.2.2.2.1.1).2.1 q.2.2.2.1.2.1).2.1 ((xcC q.2.2.2.1.1).2.1 q.2.2.2.1.2.1).2.2.1) else true)
  | .new k => (bif Nat.beq q.2.2.2.1.2.2.1 1 then true else decide (q.2.2.2.1.1 < 8) && xlkB q.2.2.2.1.2.2.2 (.classLink (xmN y).cls k (xcC q.2.2.2.1.1).1))
  | .newarray t => decide (1 ≤ q.2.2.2.1.1 ∧ q.2.2.2.1.1 ≤ 3) && decide (t = xaty q.2.2.2.1.1) && xlkB q.2.2.2.1.2.2.2 (.arrayClass (newarray.typeOf t))
  | _ => true
def xokB (y : Nat) (q : XE) : Bool := decide (decode (xmB y) q.1 = .ok (q.2.1, q.2.2.1)) && (match q.2.1 with
  | .tableswitch .. => true
  | i => Nat.beq q.2.2.1 (xlen i)) && xokI y q
