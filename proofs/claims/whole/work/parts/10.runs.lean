/-! what a run's first step was; a run makes cells, never fewer -/
section XRC
variable {L : Nat} {xs : Nat → Int32}
/-- the first step was a call -/
def xcaC (L : Nat) (xs : Nat → Int32) (f y pc : Nat) (ls : List (Option Value)) (st : List Value) (σ : XS) (r : XO × XS) (q : XI) : Prop :=
  ∃ as rst r', xcargs q.2.2.1.1 q.2.2.1.2.1 q.2.2.1.2.2.1 st σ = some (as, rst) ∧ xr L xs f q.2.2.1.1 0 (xini as (xmL q.2.2.1.1)) [] σ = some r' ∧
    ((∃ v : Option Value, r'.1 = .inl v ∧ xr L xs f y (pc + 3) ls (v.toList ++ rst) r'.2 = some r) ∨ (∃ k, r'.1 = .inr k ∧ Nat.beq q.2.2.1.2.2.1 2 = false ∧ xmH y = [] ∧ r = (.inr k, r'.2)) ∨ (∃ k c, r'.1 = .inr k ∧ Nat.beq q.2.2.1.2.2.1 2 = false ∧ xhand (xmH y) pc k = some c ∧ r = (.inl (some (.int c)), r'.2)))
/-- .. or another -/
def xcaO (L : Nat) (xs : Nat → Int32) (f y pc : Nat) (ls : List (Option Value)) (st : List Value) (σ : XS) (r : XO × XS) (q : XI) : Prop :=
  (∃ c o y1 x1 rst, q.1 = .if_icmp c o ∧ st = .int y1 :: .int x1 :: rst ∧ (xcond c x1 y1 = true → xr L xs f y q.2.2.1.1 ls rst σ = some r) ∧ (xcond c x1 y1 = false → xr L xs f y (pc + 3) ls rst σ = some r)) ∨
  (∃ c o x1 rst, q.1 = .ifCond c o ∧ st = .int x1 :: rst ∧ (xcond c x1 0 = true → xr L xs f y q.2.2.1.1 ls rst σ = some r) ∧ (xcond c x1 0 = false → xr L xs f y (pc + 3) ls rst σ = some r)) ∨
  (∃ x, q.1 = .ireturn ∧ st = [.int x] ∧ (xmR y = some .int ∨ (xmR y = some .boolean ∧ x01 x = true)) ∧ r = (.inl (some (.int x)), σ)) ∨
  (q.1 = .return_ ∧ st = [] ∧ xmR y = none ∧ r = (.inl none, σ)) ∨
  (∃ k rst σ', q.1 = .invokestatic k ∧ (q.2.2.1.2.2.1 = 5 ∨ q.2.2.1.2.2.1 = 6 ∨ q.2.2.1.2.2.1 = 7) ∧ xnat q.2.2.1.2.2.1 st σ = some (rst, σ') ∧ xr L xs f y (pc + 3) ls rst σ' = some r) ∨
  (∃ k a0 rst, q.1 = .invokespecial k ∧ q.2.2.1.2.2.1 = 4 ∧ st = .ref a0 :: rst ∧ xwords rst ≤ 8 ∧ xr L xs f y (pc + 3) ls rst σ = some r) ∨
  (q.2.2.1.2.2.1 = 1 ∧ σ.1 = 57 ∧ σ.2.2.1 < 1024 ∧ xwords st ≤ 8 ∧ r = (.inr q.2.2.1.1, (σ.1, σ.2.1, σ.2.2.1 + 1, σ.2.2.2.1, σ.2.2.2.2))) ∨
  (Nat.beq q.2.2.1.2.2.1 1 = false ∧ ∃ pc' ls' st' σ', xs1 L xs q pc ls st σ = some (pc', ls', st', σ') ∧ xr L xs f y pc' ls' st' σ' = some r)
theorem xr_succ (f y pc : Nat) (ls : List (Option Value)) (st : List Value) (σ : XS) : xr L xs (f + 1) y pc ls st σ =
  (match xf (xcode y) pc with
    | none => none
    | some q => bif xisc q.1 q.2.2.1.2.2.1 then
        (match xcargs q.2.2.1.1 q.2.2.1.2.1 q.2.2.1.2.2.1 st σ with
          | none => none
          | some (as, r) => (match xr L xs f q.2.2.1.1 0 (xini as (xmL q.2.2.1.1)) [] σ with
            | none => none
            | some (.inl none, σ') => xr L xs f y (pc + 3) ls r σ'
            | some (.inl (some v), σ') => xr L xs f y (pc + 3) ls (v :: r) σ'
            | some (.inr k, σ') => (bif Nat.beq q.2.2.1.2.2.1 2 then none else (match xmH y with
              | [] => some (.inr k, σ')
              | h :: t => (match xhand (h :: t) pc k with
                | some c => some (.inl (some (.int c)), σ')
                | none => none)))))
      else (match q.1 with
      | .if_icmp c _ => (match st with | .int y1 :: .int x1 :: r => (bif xcond c x1 y1 then xr L xs f y q.2.2.1.1 ls r σ else xr L xs f y (pc + 3) ls r σ) | _ => none)
      | .ifCond c _ => (match st with | .int x1 :: r => (bif xcond c x1 0 then xr L xs f y q.2.2.1.1 ls r σ else xr L xs f y (pc + 3) ls r σ) | _ => none)
      | .ireturn => (match st with | [.int x] => (bif (xmR y == some .int) || ((xmR y == some .boolean) && x01 x) then some (.inl (some (.int x)), σ) else none) | _ => none)
      | .return_ => (match st with | [] => (bif xmR y == none then some (.inl none, σ) else none) | _ => none)
      | .invokestatic _ => (match xnat q.2.2.1.2.2.1 st σ with | some (r, σ') => xr L xs f y (pc + 3) ls r σ' | none => none)
      | .invokespecial _ => (match st with | .ref _ :: r => (bif Nat.ble (xwords r) 8 then xr L xs f y (pc + 3) ls r σ else none) | _ => none)
      | _ => (bif Nat.beq q.2.2.1.2.2.1 1 then (bif Nat.beq σ.1 xk.length && Nat.blt σ.2.2.1 1024 && Nat.ble (xwords st) 8 then some (.inr q.2.2.1.1, (σ.1, σ.2.1, σ.2.2.1 + 1, σ.2.2.2.1, σ.2.2.2.2)) else none) else
          (match xs1 L xs q pc ls st σ with | some (pc', ls', st', σ') => xr L xs f y pc' ls' st' σ' | none => none)))) := rfl
theorem xr_cases {f y pc : Nat} {ls : List (Option Value)} {st : List Value} {σ : XS} {r : XO × XS} (h : xr L xs (f + 1) y pc ls st σ = some r) :
    ∃ q, xf (xcode y) pc = some q ∧ ((xisc q.1 q.2.2.1.2.2.1 = true ∧ xcaC L xs f y pc ls st σ r q) ∨ (xisc q.1 q.2.2.1.2.2.1 = false ∧ xcaO L xs f y pc ls st σ r q)) := by
  rw [xr_succ] at h
  split at h
  · cases h
  · next q hq =>
    refine ⟨q, hq, ?_⟩
    cases hc : xisc q.1 q.2.2.1.2.2.1 with
    | true =>
      left
      refine ⟨rfl, ?_⟩
      rw [hc] at h
      simp only [cond_true] at h
      split at h
      · cases h
      · next as rst ha =>
        split at h
        · cases h
        · next σ' hr => exact ⟨as, rst, _, ha, hr, Or.inl ⟨none, rfl, h⟩⟩
        · next v σ' hr => exact ⟨as, rst, _, ha, hr, Or.inl ⟨some v, rfl, h⟩⟩
        · next k σ' hr =>
          cases hd2 : Nat.beq q.2.2.1.2.2.1 2 with
          | true => rw [hd2] at h; cases h
          | false =>
            rw [hd2] at h
            simp only [cond_false] at h
            split at h
            · next hm => cases h; exact ⟨as, rst, _, ha, hr, Or.inr (Or.inl ⟨k, rfl, hd2, hm, rfl⟩)⟩
            · next h0 t0 hm =>
              split at h
              · next c hx => cases h; exact ⟨as, rst, _, ha, hr, Or.inr (Or.inr ⟨k, c, rfl, hd2, by rw [hm]; exact hx, rfl⟩)⟩
              · cases h
    | false =>
      right
      refine ⟨rfl, ?_⟩
      rw [hc] at h
      simp only [cond_false] at h
      split at h
      · next c o e =>
        split at h
        · next y1 x1 rst =>
          refine Or.inl ⟨c, o, y1, x1, rst, e, rfl, fun z => ?_, fun z => ?_⟩
          · rw [z] at h; exact h
          · rw [z] at h; exact h
        · cases h
      · next c o e =>
        split at h
        · next x1 rst =>
          refine Or.inr (Or.inl ⟨c, o, x1, rst, e, rfl, fun z => ?_, fun z => ?_⟩)
          · rw [z] at h; exact h
          · rw [z] at h; exact h
        · cases h
      · next e =>
        split at h
        · next x =>
          cases hz : ((xmR y == some .int) || ((xmR y == some .boolean) && x01 x)) with
          | false => rw [hz] at h; cases h
          | true =>
            rw [hz] at h
            cases h
            refine Or.inr (Or.inr (Or.inl ⟨x, e, rfl, ?_, rfl⟩))
            rw [Bool.or_eq_true, Bool.and_eq_true] at hz
            rcases hz with hz | ⟨z1, z2⟩
            · exact Or.inl (eq_of_beq hz)
            · exact Or.inr ⟨eq_of_beq z1, z2⟩
        · cases h
      · next e =>
        split at h
        · cases hz : (xmR y == none) with
          | false => rw [hz] at h; cases h
          | true =>
            rw [hz] at h
            cases h
            exact Or.inr (Or.inr (Or.inr (Or.inl ⟨e, rfl, eq_of_beq hz, rfl⟩)))
        · cases h
      · next k e =>
        split at h
        · next rst σ' hx =>
          have hd : q.2.2.1.2.2.1 = 5 ∨ q.2.2.1.2.2.1 = 6 ∨ q.2.2.1.2.2.1 = 7 := by
            rw [e] at hc
            have : (!(Nat.beq q.2.2.1.2.2.1 5 || Nat.beq q.2.2.1.2.2.1 6 || Nat.beq q.2.2.1.2.2.1 7)) = false := hc
            have h9 : (Nat.beq q.2.2.1.2.2.1 5 || Nat.beq q.2.2.1.2.2.1 6 || Nat.beq q.2.2.1.2.2.1 7) = true := by
              cases hz : (Nat.beq q.2.2.1.2.2.1 5 || Nat.beq q.2.2.1.2.2.1 6 || Nat.beq q.2.2.1.2.2.1 7) with
              | true => rfl
              | false => rw [hz] at this; cases this
            rw [Bool.or_eq_true, Bool.or_eq_true] at h9
            rcases h9 with (h9 | h9) | h9
            · exact Or.inl (Nat.eq_of_beq_eq_true h9)
            · exact Or.inr (Or.inl (Nat.eq_of_beq_eq_true h9))
            · exact Or.inr (Or.inr (Nat.eq_of_beq_eq_true h9))
          exact Or.inr (Or.inr (Or.inr (Or.inr (Or.inl ⟨k, rst, σ', e, hd, hx, h⟩))))
        · cases h
      · next k e =>
        split at h
        · next a0 rst =>
          have hd : q.2.2.1.2.2.1 = 4 := by
            rw [e] at hc
            have : (!(Nat.beq q.2.2.1.2.2.1 4)) = false := hc
            exact Nat.eq_of_beq_eq_true (by simpa using this)
          cases hz : Nat.ble (xwords rst) 8 with
          | false => rw [hz] at h; cases h
          | true =>
            rw [hz] at h
            exact Or.inr (Or.inr (Or.inr (Or.inr (Or.inr (Or.inl ⟨k, a0, rst, e, hd, rfl, Nat.le_of_ble_eq_true hz, h⟩)))))
        · cases h
      · cases hd : Nat.beq q.2.2.1.2.2.1 1 with
        | true =>
          rw [hd] at h
          simp only [cond_true] at h
          cases hz : (Nat.beq σ.1 xk.length && Nat.blt σ.2.2.1 1024 && Nat.ble (xwords st) 8) with
          | false => rw [hz] at h; cases h
          | true =>
            rw [hz] at h
            cases h
            obtain ⟨z1, z3⟩ := xand hz
            obtain ⟨z1, z2⟩ := xand z1
            exact Or.inr (Or.inr (Or.inr (Or.inr (Or.inr (Or.inr (Or.inl ⟨Nat.eq_of_beq_eq_true hd, (Nat.eq_of_beq_eq_true z1).trans xk_len, Nat.blt_eq.mp z2, Nat.le_of_ble_eq_true z3, rfl⟩))))))
        | false =>
          rw [hd] at h
          simp only [cond_false] at h
          split at h
          · next pc' ls' st' σ' hx => exact Or.inr (Or.inr (Or.inr (Or.inr (Or.inr (Or.inr (Or.inr ⟨hd, pc', ls', st', σ', hx, h⟩))))))
          · cases h
/-- how a step changes the count of cells -/
def xgr (σ σ' : XS) : Prop := (σ'.1 = σ.1 ∨ σ'.1 = σ.1 + 1) ∧ σ'.2.2.1 = σ.2.2.1
theorem xgr.le {σ σ' : XS} (h : xgr σ σ') : xnt σ ≤ xnt σ' ∧ xsl σ ≤ xsl σ' := by
  obtain ⟨h1 | h1, h2⟩ := h
  · unfold xnt xsl; rw [h1, h2]; exact ⟨Nat.le_refl _, Nat.le_refl _⟩
  · unfold xnt xsl; rw [h1, h2]
    have : xsn (σ.1 + 1) = xsn σ.1 + xcs σ.1 := rfl
    omega
theorem xgr.rf (σ : XS) : xgr σ σ := ⟨Or.inl rfl, rfl⟩
theorem xgr_put {a j k : Nat} {v : Value} {σ σ' : XS} (h : xput a j σ k v = some σ') : xgr σ σ' := by
  obtain ⟨-, -, -, g4, g5, -⟩ := xo_put (b := 0) (B := 0) (cI := 0) (cZ := 0) (cJ := 0) h
  exact ⟨Or.inl g4, g5⟩
theorem xgr_make {kd : Nat × Nat} {σ σ' : XS} (h : xmake kd σ = some σ') : xgr σ σ' := by
  obtain ⟨-, -, g3, g4, g5, -⟩ := xo_make (B := 0) (cI := 0) (cZ := 0) (cJ := 0) h
  exact ⟨Or.inr g4, by rw [g5, g3]⟩
set_option maxHeartbeats 4000000 in
theorem xs1_grow {q : XI} {pc pc' : Nat} {ls ls' : List (Option Value)} {st st' : List Value} {σ σ' : XS} (hs : xs1 L xs q pc ls st σ = some (pc', ls', st', σ')) : xgr σ σ' := by
  obtain ⟨i, len, ⟨a, bb, d, ix⟩, v, lv⟩ := q
  unfold xs1 at hs
  dsimp only [xldi, xlda, xldl, xsto] at hs
  split at hs
  · (repeat' split at hs) <;> first | (cases hs; done) | (cases hs; exact xgr.rf _)
  · (repeat' split at hs) <;> first | (cases hs; done) | (cases hs; exact xgr.rf _)
  · (repeat' split at hs) <;> first | (cases hs; done) | (cases hs; exact xgr.rf _)
  · (repeat' split at hs) <;> first | (cases hs; done) | (cases hs; exact xgr.rf _)
  · (repeat' split at hs) <;> first | (cases hs; done) | (cases hs; exact xgr.rf _)
  · (repeat' split at hs) <;> first | (cases hs; done) | (cases hs; exact xgr.rf _)
  · (repeat' split at hs) <;> first | (cases hs; done) | (cases hs; exact xgr.rf _)
  · (repeat' split at hs) <;> first | (cases hs; done) | (cases hs; exact xgr.rf _)
  · (repeat' split at hs) <;> first | (cases hs; done) | (cases hs; exact xgr.rf _)
  · (repeat' split at hs) <;> first | (cases hs; done) | (cases hs; exact xgr.rf _)
  · cases hs; exact xgr.rf _
  · cases hs; exact xgr.rf _
  · cases hs; exact xgr.rf _
  · cases hs; exact xgr.rf _
  · cases hs; exact xgr.rf _
  · cases hs; exact xgr.rf _
  · cases hs; exact xgr.rf _
  · (repeat' split at hs) <;> first | (cases hs; done) | (cases hs; exact xgr.rf _)
  · (repeat' split at hs) <;> first | (cases hs; done) | (cases hs; exact xgr.rf _)
  · (repeat' split at hs) <;> first | (cases hs; done) | (cases hs; exact xgr.rf _)
  · (repeat' split at hs) <;> first | (cases hs; done) | (cases hs; exact xgr.rf _)
  · (repeat' split at hs) <;> first | (cases hs; done) | (cases hs; exact xgr.rf _)
  · (repeat' split at hs) <;> first | (cases hs; done) | (cases hs; exact xgr.rf _)
  · (repeat' split at hs) <;> first | (cases hs; done) | (cases hs; exact xgr.rf _)
  · (repeat' split at hs) <;> first | (cases hs; done) | (cases hs; exact xgr.rf _)
  · (repeat' split at hs) <;> first | (cases hs; done) | (cases hs; exact xgr.rf _)
  · split at hs
    · next y1 x1 r1 =>
      cases hy : decide (y1 = 0) with
      | true => rw [hy] at hs; cases hs
      | false => rw [hy] at hs; cases hs; exact xgr.rf _
    · cases hs
  · (repeat' split at hs) <;> first | (cases hs; done) | (cases hs; exact xgr.rf _)
  · (repeat' split at hs) <;> first | (cases hs; done) | (cases hs; exact xgr.rf _)
  · split at hs
    · next y1 x1 r1 =>
      cases hy : decide (y1 = 0) with
      | true => rw [hy] at hs; cases hs
      | false => rw [hy] at hs; cases hs; exact xgr.rf _
    · cases hs
  · (repeat' split at hs) <;> first | (cases hs; done) | (cases hs; exact xgr.rf _)
  · (repeat' split at hs) <;> first | (cases hs; done) | (cases hs; exact xgr.rf _)
  · (repeat' split at hs) <;> first | (cases hs; done) | (cases hs; exact xgr.rf _)
  · (repeat' split at hs) <;> first | (cases hs; done) | (cases hs; exact xgr.rf _)
  · (repeat' split at hs) <;> first | (cases hs; done) | (cases hs; exact xgr.rf _)
  · (repeat' split at hs) <;> first | (cases hs; done) | (cases hs; exact xgr.rf _)
  · cases hs; exact xgr.rf _
  · (repeat' split at hs) <;> first | (cases hs; done) | (cases hs; exact xgr.rf _)
  · (repeat' split at hs) <;> first | (cases hs; done) | (cases hs; exact xgr.rf _)
  · split at hs
    · split at hs
      · next σ9 hv => cases hs; exact xgr_put hv
      · cases hs
    · cases hs
  · split at hs
    · next i k r =>
      cases hk1 : Nat.beq k 1000 with
      | true =>
        rw [hk1] at hs
        cases hin : xin i L with
        | false => rw [hin] at hs; cases hs
        | true => rw [hin] at hs; cases hs; exact xgr.rf _
      | false =>
        rw [hk1] at hs
        cases hc : (Nat.blt k σ.1 && Nat.beq (xkind k).1 1 && xin i (xkind k).2) with
        | false => simp only [hc, cond_false] at hs; cases hs
        | true => simp only [hc, cond_true, cond_false] at hs; cases hs; exact xgr.rf _
    · cases hs
  · split at hs
    · next i k r =>
      cases hc : (Nat.blt k σ.1 && Nat.beq (xkind k).1 2 && xin i (xkind k).2) with
      | false => simp only [hc, cond_false] at hs; cases hs
      | true => simp only [hc, cond_true] at hs; cases hs; exact xgr.rf _
    · cases hs
  · split at hs
    · next i k r =>
      cases hc : (Nat.blt k σ.1 && Nat.beq (xkind k).1 3 && xin i (xkind k).2) with
      | false => simp only [hc, cond_false] at hs; cases hs
      | true => simp only [hc, cond_true] at hs; cases hs; exact xgr.rf _
    · cases hs
  · split at hs
    · next x i k r =>
      cases hc : (Nat.blt k σ.1 && Nat.beq (xkind k).1 1 && xin i (xkind k).2) with
      | false => simp only [hc, cond_false] at hs; cases hs
      | true => simp only [hc, cond_true] at hs; cases hs; exact ⟨Or.inl rfl, rfl⟩
    · cases hs
  · split at hs
    · next x i k r =>
      cases hc : (Nat.blt k σ.1 && Nat.beq (xkind k).1 2 && xin i (xkind k).2 && x01 x) with
      | false => simp only [hc, cond_false] at hs; cases hs
      | true => simp only [hc, cond_true] at hs; cases hs; exact ⟨Or.inl rfl, rfl⟩
    · cases hs
  · split at hs
    · next x i k r =>
      cases hc : (Nat.blt k σ.1 && Nat.beq (xkind k).1 3 && xin i (xkind k).2) with
      | false => simp only [hc, cond_false] at hs; cases hs
      | true => simp only [hc, cond_true] at hs; cases hs; exact ⟨Or.inl rfl, rfl⟩
    · cases hs
  · split at hs
    · next k r =>
      cases hk1 : Nat.beq k 1000 with
      | false => rw [hk1] at hs; cases hs
      | true => rw [hk1] at hs; cases hs; exact xgr.rf _
    · cases hs
  · split at hs
    · next n r =>
      cases hc : (decide (¬ n < 0) && Nat.ble n.toNatClampNeg 100000) with
      | false => simp only [hc, cond_false] at hs; cases hs
      | true =>
        simp only [hc, cond_true] at hs
        split at hs
        · next σ9 hm => cases hs; exact xgr_make hm
        · cases hs
    · cases hs
  · split at hs
    · next σ9 hm => cases hs; exact xgr_make hm
    · cases hs
  · cases hs
theorem xgr_copy {st rst : List Value} {σ σ' : XS} (h : xcopy st σ = some (rst, σ')) : xgr σ σ' := by
  unfold xcopy at h
  split at h
  · next n dp d sp s r =>
    cases hz : (decide (¬ sp < 0) && decide (¬ dp < 0) && decide (¬ n < 0) && Nat.blt d σ.1 && Nat.blt s σ.1 && Nat.beq (xkind d).1 1 && Nat.beq (xkind s).1 1 && Nat.ble (sp.toNatClampNeg + n.toNatClampNeg) (xkind s).2 && Nat.ble (dp.toNatClampNeg + n.toNatClampNeg) (xkind d).2 && Nat.ble (xwords r) 8) with
    | false => rw [hz] at h; cases h
    | true => rw [hz] at h; cases h; exact ⟨Or.inl rfl, rfl⟩
  · cases h
theorem xgr_nat {d : Nat} {st rst : List Value} {σ σ' : XS} (h : xnat d st σ = some (rst, σ')) : xgr σ σ' := by
  unfold xnat at h
  cases h5 : Nat.beq d 5 with
  | true => rw [h5] at h; exact xgr_copy h
  | false =>
    rw [h5] at h
    simp only [cond_false] at h
    split at h
    · next y1 x1 r =>
      cases h8 : Nat.ble (xwords r) 8 with
      | false => rw [h8] at h; cases h
      | true =>
        rw [h8] at h
        cases h6 : Nat.beq d 6 with
        | true => rw [h6] at h; cases h; exact xgr.rf _
        | false => rw [h6] at h; cases h; exact xgr.rf _
    · cases h
theorem xcopy_nt {st rst : List Value} {σ σ' : XS} (h : xcopy st σ = some (rst, σ')) : xnt σ' = xnt σ ∧ xsl σ' = xsl σ := by
  unfold xcopy at h
  split at h
  · next n dp d sp s r =>
    cases hz : (decide (¬ sp < 0) && decide (¬ dp < 0) && decide (¬ n < 0) && Nat.blt d σ.1 && Nat.blt s σ.1 && Nat.beq (xkind d).1 1 && Nat.beq (xkind s).1 1 && Nat.ble (sp.toNatClampNeg + n.toNatClampNeg) (xkind s).2 && Nat.ble (dp.toNatClampNeg + n.toNatClampNeg) (xkind d).2 && Nat.ble (xwords r) 8) with
    | false => rw [hz] at h; cases h
    | true => rw [hz] at h; cases h; exact ⟨rfl, rfl⟩
  · cases h
theorem xnat_6 {st rst : List Value} {σ σ' : XS} (h : xnat 6 st σ = some (rst, σ')) : ∃ y1 x1 r1, st = .int y1 :: .int x1 :: r1 ∧ xwords r1 ≤ 8 ∧ rst = .int (if x1 < y1 then y1 else x1) :: r1 ∧ σ' = σ := by
  unfold xnat at h
  simp only [show Nat.beq 6 5 = false from rfl, show Nat.beq 6 6 = true from rfl, cond_true, cond_false] at h
  split at h
  · next y1 x1 r =>
    cases h8 : Nat.ble (xwords r) 8 with
    | false => rw [h8] at h; cases h
    | true => rw [h8] at h; cases h; exact ⟨y1, x1, r, rfl, Nat.le_of_ble_eq_true h8, rfl, rfl⟩
  · cases h
theorem xnat_7 {st rst : List Value} {σ σ' : XS} (h : xnat 7 st σ = some (rst, σ')) : ∃ y1 x1 r1, st = .int y1 :: .int x1 :: r1 ∧ xwords r1 ≤ 8 ∧ rst = .int (if y1 < x1 then y1 else x1) :: r1 ∧ σ' = σ := by
  unfold xnat at h
  simp only [show Nat.beq 7 5 = false from rfl, show Nat.beq 7 6 = false from rfl, cond_false] at h
  split at h
  · next y1 x1 r =>
    cases h8 : Nat.ble (xwords r) 8 with
    | false => rw [h8] at h; cases h
    | true => rw [h8] at h; cases h; exact ⟨y1, x1, r, rfl, Nat.le_of_ble_eq_true h8, rfl, rfl⟩
  · cases h
theorem xr_mono : ∀ (f y pc : Nat) (ls : List (Option Value)) (st : List Value) (σ : XS) (r : XO × XS), xr L xs f y pc ls st σ = some r → xnt σ ≤ xnt r.2 ∧ xsl σ ≤ xsl r.2 := by
  intro f
  induction f with
  | zero => intro y pc ls st σ r h; cases h
  | succ f ih =>
    intro y pc ls st σ r h
    obtain ⟨q, -, ⟨-, as, rst, r', -, h2, h3⟩ | ⟨-, h3⟩⟩ := xr_cases h
    · have i1 := ih _ _ _ _ _ _ h2
      rcases h3 with ⟨v, -, h4⟩ | ⟨k, -, -, -, rfl⟩ | ⟨k, c, -, -, -, rfl⟩
      · have i2 := ih _ _ _ _ _ _ h4
        exact ⟨Nat.le_trans i1.1 i2.1, Nat.le_trans i1.2 i2.2⟩
      · exact i1
      · exact i1
    · rcases h3 with ⟨c, o, y1, x1, rst, -, -, h4, h5⟩ | ⟨c, o, x1, rst, -, -, h4, h5⟩ | ⟨x, -, -, -, rfl⟩ | ⟨-, -, -, rfl⟩ | ⟨k, rst, σ', -, -, h4, h5⟩ | ⟨k, a0, rst, -, -, -, -, h5⟩ | ⟨-, -, -, -, rfl⟩ | ⟨-, pc', ls', st', σ', h4, h5⟩
      · cases hz : xcond c x1 y1 with
        | true => exact ih _ _ _ _ _ _ (h4 hz)
        | false => exact ih _ _ _ _ _ _ (h5 hz)
      · cases hz : xcond c x1 0 with
        | true => exact ih _ _ _ _ _ _ (h4 hz)
        | false => exact ih _ _ _ _ _ _ (h5 hz)
      · exact ⟨Nat.le_refl _, Nat.le_refl _⟩
      · exact ⟨Nat.le_refl _, Nat.le_refl _⟩
      · have i1 := (xgr_nat h4).le
        have i2 := ih _ _ _ _ _ _ h5
        exact ⟨Nat.le_trans i1.1 i2.1, Nat.le_trans i1.2 i2.2⟩
      · exact ih _ _ _ _ _ _ h5
      · unfold xnt xsl
        dsimp only
        omega
      · have i1 := (xs1_grow h4).le
        have i2 := ih _ _ _ _ _ _ h5
        exact ⟨Nat.le_trans i1.1 i2.1, Nat.le_trans i1.2 i2.2⟩
end XRC
