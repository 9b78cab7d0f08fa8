/-! runs with any fuel: XR; its rules -/
section XRR
variable {L : Nat} {xs : Nat → Int32}
theorem xs1_nsp {q : XI} {pc : Nat} {ls : List (Option Value)} {st : List Value} {σ : XS} {v : Nat × List (Option Value) × List Value × XS} (h : xs1 L xs q pc ls st σ = some v) : (∀ c o, q.1 = .if_icmp c o → False) ∧ (∀ c o, q.1 = .ifCond c o → False) ∧ (q.1 = .ireturn → False) ∧ (q.1 = .return_ → False) ∧ (∀ k, q.1 = .invokestatic k → False) ∧ (∀ k, q.1 = .invokespecial k → False) := by
  unfold xs1 at h
  refine ⟨fun c o e => ?_, fun c o e => ?_, fun e => ?_, fun e => ?_, fun k e => ?_, fun k e => ?_⟩ <;> (rw [e] at h; cases h)
theorem xr_plain {f y pc : Nat} {q : XI} {ls ls' : List (Option Value)} {st st' : List Value} {σ σ' : XS} {pc' : Nat} (hq : xf (xcode y) pc = some q) (hi : xisc q.1 q.2.2.1.2.2.1 = false) (hd : Nat.beq q.2.2.1.2.2.1 1 = false) (h : xs1 L xs q pc ls st σ = some (pc', ls', st', σ')) : xr L xs (f + 1) y pc ls st σ = xr L xs f y pc' ls' st' σ' := by
  rw [xr_succ]
  simp only [hq, hi, cond_false]
  obtain ⟨n1, n2, n3, n4, n5, n6⟩ := xs1_nsp h
  split
  · next c o e => exact absurd e (n1 c o)
  · next c o e => exact absurd e (n2 c o)
  · next e => exact absurd e n3
  · next e => exact absurd e n4
  · next k e => exact absurd e (n5 k)
  · next k e => exact absurd e (n6 k)
  · simp only [hd, cond_false, h]
theorem xr_up : ∀ (f y pc : Nat) (ls : List (Option Value)) (st : List Value) (σ : XS) (r : XO × XS), xr L xs f y pc ls st σ = some r → xr L xs (f + 1) y pc ls st σ = some r := by
  intro f
  induction f with
  | zero => intro y pc ls st σ r h; cases h
  | succ f ih =>
    intro y pc ls st σ r h
    obtain ⟨q, hq, h1 | h1⟩ := xr_cases h
    · obtain ⟨hi, as, rst, r', ha, hr, hh⟩ := h1
      obtain ⟨o, σ'⟩ := r'
      have g1 := ih _ _ _ _ _ _ hr
      rw [xr_succ]
      rcases hh with ⟨v, hv, h2⟩ | ⟨k, hk, h2, hm, hr2⟩ | ⟨k, c, hk, h2, hm, hr2⟩
      · cases hv
        simp only [hq, hi, cond_true, ha, g1]
        cases v with
        | none => exact ih _ _ _ _ _ _ h2
        | some w => exact ih _ _ _ _ _ _ h2
      · cases hk
        simp only [hq, hi, cond_true, ha, g1, h2, cond_false, hm]
        rw [hr2]
      · cases hk
        simp only [hq, hi, cond_true, ha, g1, h2, cond_false]
        cases hx : xmH y with
        | nil => rw [hx] at hm; cases hm
        | cons h t => rw [hx] at hm; simp only [hm]; rw [hr2]
    · obtain ⟨hi, h1⟩ := h1
      rcases h1 with ⟨c, o, y1, x1, rst, e, hs, kt, kf⟩ | ⟨c, o, x1, rst, e, hs, kt, kf⟩ | ⟨x, e, hs, hR, hr⟩ | ⟨e, hs, hR, hr⟩ | ⟨k, rst, σ', e, hd, hx, hr⟩ | ⟨k, a0, rst, e, hd, hs, hw, hr⟩ | h1 | ⟨hd, pc', ls', st', σ', hx, hr⟩
      · subst hs
        rw [xr_succ]
        simp only [hq, hi, e, cond_false]
        cases hz : xcond c x1 y1 with
        | true => exact ih _ _ _ _ _ _ (kt hz)
        | false => exact ih _ _ _ _ _ _ (kf hz)
      · subst hs
        rw [xr_succ]
        simp only [hq, hi, e, cond_false]
        cases hz : xcond c x1 0 with
        | true => exact ih _ _ _ _ _ _ (kt hz)
        | false => exact ih _ _ _ _ _ _ (kf hz)
      · rw [xr_succ] at h ⊢
        simp only [hq, hi, e, cond_false] at h ⊢
        exact h
      · rw [xr_succ] at h ⊢
        simp only [hq, hi, e, cond_false] at h ⊢
        exact h
      · rw [xr_succ]
        simp only [hq, hi, cond_false]
        simp only [e, hx]
        exact ih _ _ _ _ _ _ hr
      · subst hs
        rw [xr_succ]
        simp only [hq, hi, cond_false]
        simp only [e, show Nat.ble (xwords rst) 8 = true from Nat.ble_eq.mpr hw, cond_true]
        exact ih _ _ _ _ _ _ hr
      · rw [xr_succ] at h ⊢
        simp only [hq, hi, cond_false] at h ⊢
        obtain ⟨h5, h6⟩ := h1
        have hb : Nat.beq q.2.2.1.2.2.1 1 = true := by rw [h5]; rfl
        split at h
        · split at h
          · next y1 x1 rst =>
            cases hz : xcond _ x1 y1 with
            | true => rw [hz] at h; exact ih _ _ _ _ _ _ h
            | false => rw [hz] at h; exact ih _ _ _ _ _ _ h
          · cases h
        · split at h
          · next x1 rst =>
            cases hz : xcond _ x1 0 with
            | true => rw [hz] at h; exact ih _ _ _ _ _ _ h
            | false => rw [hz] at h; exact ih _ _ _ _ _ _ h
          · cases h
        · exact h
        · exact h
        · split at h
          · next rst σ' hx => exact ih _ _ _ _ _ _ h
          · cases h
        · split at h
          · next a0 rst =>
            cases hz : Nat.ble (xwords rst) 8 with
            | true => rw [hz] at h; exact ih _ _ _ _ _ _ h
            | false => rw [hz] at h; cases h
          · cases h
        · rw [hb] at h ⊢
          exact h
      · rw [xr_plain hq hi hd hx]
        exact ih _ _ _ _ _ _ hr
theorem xr_le {f f' : Nat} (hf : f ≤ f') {y pc : Nat} {ls : List (Option Value)} {st : List Value} {σ : XS} {r : XO × XS} (h : xr L xs f y pc ls st σ = some r) : xr L xs f' y pc ls st σ = some r := by
  induction hf with
  | refl => exact h
  | step _ ih => exact xr_up _ _ _ _ _ _ _ ih
def XR (L : Nat) (xs : Nat → Int32) (y pc : Nat) (ls : List (Option Value)) (st : List Value) (σ : XS) (r : XO × XS) : Prop := ∃ f, xr L xs f y pc ls st σ = some r
/-- so many plain steps -/
def xgo (L : Nat) (xs : Nat → Int32) (y : Nat) : Nat → Nat → List (Option Value) → List Value → XS → Option (Nat × List (Option Value) × List Value × XS)
  | 0, pc, ls, st, σ => some (pc, ls, st, σ)
  | n + 1, pc, ls, st, σ => match xf (xcode y) pc with
    | none => none
    | some q => bif xisc q.1 q.2.2.1.2.2.1 || Nat.beq q.2.2.1.2.2.1 1 then none else (match xs1 L xs q pc ls st σ with
      | none => none
      | some (pc', ls', st', σ') => xgo L xs y n pc' ls' st' σ')
theorem XR.go {y : Nat} : ∀ (n : Nat) {pc pc' : Nat} {ls ls' : List (Option Value)} {st st' : List Value} {σ σ' : XS} {r : XO × XS}, xgo L xs y n pc ls st σ = some (pc', ls', st', σ') → XR L xs y pc' ls' st' σ' r → XR L xs y pc ls st σ r := by
  intro n
  induction n with
  | zero => intro pc pc' ls ls' st st' σ σ' r h k; cases h; exact k
  | succ n ih =>
    intro pc pc' ls ls' st st' σ σ' r h k
    unfold xgo at h
    split at h
    · cases h
    · next q hq =>
      cases hz : (xisc q.1 q.2.2.1.2.2.1 || Nat.beq q.2.2.1.2.2.1 1) with
      | true => rw [hz] at h; cases h
      | false =>
        rw [hz] at h
        simp only [cond_false] at h
        rw [Bool.or_eq_false_iff] at hz
        split at h
        · cases h
        · next pc1 ls1 st1 σ1 hx =>
          obtain ⟨f, hf⟩ := ih h k
          exact ⟨f + 1, by rw [xr_plain hq hz.1 hz.2 hx]; exact hf⟩
/-- one plain step with a condition of its own -/
theorem XR.one {y pc pc' : Nat} {q : XI} {ls ls' : List (Option Value)} {st st' : List Value} {σ σ' : XS} {r : XO × XS} (hq : xf (xcode y) pc = some q) (hi : xisc q.1 q.2.2.1.2.2.1 = false) (hd : Nat.beq q.2.2.1.2.2.1 1 = false) (h : xs1 L xs q pc ls st σ = some (pc', ls', st', σ')) (k : XR L xs y pc' ls' st' σ' r) : XR L xs y pc ls st σ r := by
  obtain ⟨f, hf⟩ := k
  exact ⟨f + 1, by rw [xr_plain hq hi hd h]; exact hf⟩
theorem XR.icmp {y pc : Nat} {q : XI} {co : Jvm.ClassFile.Cond} {o : Int} {ls : List (Option Value)} {st : List Value} {σ : XS} {r : XO × XS} {y1 x1 : Int32} (hq : xf (xcode y) pc = some q) (he : q.1 = .if_icmp co o) (kt : xcond co x1 y1 = true → XR L xs y q.2.2.1.1 ls st σ r) (kf : xcond co x1 y1 = false → XR L xs y (pc + 3) ls st σ r) : XR L xs y pc ls (.int y1 :: .int x1 :: st) σ r := by
  have hi : xisc q.1 q.2.2.1.2.2.1 = false := by rw [he]; rfl
  cases hz : xcond co x1 y1 with
  | true =>
    obtain ⟨f, hf⟩ := kt hz
    exact ⟨f + 1, by rw [xr_succ]; simp only [hq, hi, he, cond_false, hz, cond_true]; exact hf⟩
  | false =>
    obtain ⟨f, hf⟩ := kf hz
    exact ⟨f + 1, by rw [xr_succ]; simp only [hq, hi, he, cond_false, hz]; exact hf⟩
theorem XR.ifz {y pc : Nat} {q : XI} {co : Jvm.ClassFile.Cond} {o : Int} {ls : List (Option Value)} {st : List Value} {σ : XS} {r : XO × XS} {x1 : Int32} (hq : xf (xcode y) pc = some q) (he : q.1 = .ifCond co o) (kt : xcond co x1 0 = true → XR L xs y q.2.2.1.1 ls st σ r) (kf : xcond co x1 0 = false → XR L xs y (pc + 3) ls st σ r) : XR L xs y pc ls (.int x1 :: st) σ r := by
  have hi : xisc q.1 q.2.2.1.2.2.1 = false := by rw [he]; rfl
  cases hz : xcond co x1 0 with
  | true =>
    obtain ⟨f, hf⟩ := kt hz
    exact ⟨f + 1, by rw [xr_succ]; simp only [hq, hi, he, cond_false, hz, cond_true]; exact hf⟩
  | false =>
    obtain ⟨f, hf⟩ := kf hz
    exact ⟨f + 1, by rw [xr_succ]; simp only [hq, hi, he, cond_false, hz]; exact hf⟩
/-- a return, a throw: one step to the end -/
theorem XR.fin {y pc : Nat} {ls : List (Option Value)} {st : List Value} {σ : XS} {r : XO × XS} (h : xr L xs 1 y pc ls st σ = some r) : XR L xs y pc ls st σ r := ⟨1, h⟩
theorem XR.nat {y pc k : Nat} {q : XI} {ls : List (Option Value)} {st rst : List Value} {σ σ' : XS} {r : XO × XS} (hq : xf (xcode y) pc = some q) (he : q.1 = .invokestatic k) (hi : xisc q.1 q.2.2.1.2.2.1 = false) (h : xnat q.2.2.1.2.2.1 st σ = some (rst, σ')) (kk : XR L xs y (pc + 3) ls rst σ' r) : XR L xs y pc ls st σ r := by
  obtain ⟨f, hf⟩ := kk
  refine ⟨f + 1, ?_⟩
  rw [xr_succ]
  simp only [hq, hi, cond_false]
  simp only [he, h]
  exact hf
theorem XR.obj {y pc k a0 : Nat} {q : XI} {ls : List (Option Value)} {rst : List Value} {σ : XS} {r : XO × XS} (hq : xf (xcode y) pc = some q) (he : q.1 = .invokespecial k) (hi : xisc q.1 q.2.2.1.2.2.1 = false) (h : Nat.ble (xwords rst) 8 = true) (kk : XR L xs y (pc + 3) ls rst σ r) : XR L xs y pc ls (.ref a0 :: rst) σ r := by
  obtain ⟨f, hf⟩ := kk
  refine ⟨f + 1, ?_⟩
  rw [xr_succ]
  simp only [hq, hi, cond_false]
  simp only [he, h, cond_true]
  exact hf
/-- a call that comes back -/
theorem XR.call {y pc : Nat} {q : XI} {ls : List (Option Value)} {st as rst : List Value} {σ σ' : XS} {v : Option Value} {r : XO × XS} (hq : xf (xcode y) pc = some q) (hi : xisc q.1 q.2.2.1.2.2.1 = true) (ha : xcargs q.2.2.1.1 q.2.2.1.2.1 q.2.2.1.2.2.1 st σ = some (as, rst)) (hc : XR L xs q.2.2.1.1 0 (xini as (xmL q.2.2.1.1)) [] σ (.inl v, σ')) (kk : XR L xs y (pc + 3) ls (v.toList ++ rst) σ' r) : XR L xs y pc ls st σ r := by
  obtain ⟨f1, h1⟩ := hc
  obtain ⟨f2, h2⟩ := kk
  have g1 := xr_le (Nat.le_max_left f1 f2) h1
  have g2 := xr_le (Nat.le_max_right f1 f2) h2
  refine ⟨max f1 f2 + 1, ?_⟩
  rw [xr_succ]
  simp only [hq, hi, cond_true, ha, g1]
  cases v with
  | none => exact g2
  | some w => exact g2
/-- a call that throws: to the caller, or caught -/
theorem XR.thr {y pc k : Nat} {q : XI} {ls : List (Option Value)} {st as rst : List Value} {σ σ' : XS} (hq : xf (xcode y) pc = some q) (hi : xisc q.1 q.2.2.1.2.2.1 = true) (h2 : Nat.beq q.2.2.1.2.2.1 2 = false) (hm : xmH y = []) (ha : xcargs q.2.2.1.1 q.2.2.1.2.1 q.2.2.1.2.2.1 st σ = some (as, rst)) (hc : XR L xs q.2.2.1.1 0 (xini as (xmL q.2.2.1.1)) [] σ (.inr k, σ')) : XR L xs y pc ls st σ (.inr k, σ') := by
  obtain ⟨f1, h1⟩ := hc
  refine ⟨f1 + 1, ?_⟩
  rw [xr_succ]
  simp only [hq, hi, cond_true, ha, h1, h2, cond_false, hm]
theorem XR.cat {y pc k : Nat} {q : XI} {c : Int32} {ls : List (Option Value)} {st as rst : List Value} {σ σ' : XS} (hq : xf (xcode y) pc = some q) (hi : xisc q.1 q.2.2.1.2.2.1 = true) (h2 : Nat.beq q.2.2.1.2.2.1 2 = false) (hm : xhand (xmH y) pc k = some c) (ha : xcargs q.2.2.1.1 q.2.2.1.2.1 q.2.2.1.2.2.1 st σ = some (as, rst)) (hc : XR L xs q.2.2.1.1 0 (xini as (xmL q.2.2.1.1)) [] σ (.inr k, σ')) : XR L xs y pc ls st σ (.inl (some (.int c)), σ') := by
  obtain ⟨f1, h1⟩ := hc
  refine ⟨f1 + 1, ?_⟩
  rw [xr_succ]
  simp only [hq, hi, cond_true, ha, h1, h2, cond_false]
  cases hx : xmH y with
  | nil => rw [hx] at hm; cases hm
  | cons h t => rw [hx] at hm; simp only [hm]
end XRR
