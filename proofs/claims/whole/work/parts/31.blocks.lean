/-! program text as functions: a block's function e, and that it is what the machine does from there (XB) -/
abbrev XMu : Type := Nat × (Nat → Nat → Int32) × (Nat → Nat → Int64)
abbrev XRes : Type := Option (XO × XMu)
def XB (L : Nat) (xs : Nat → Int32) (y pc : Nat) (ls : List (Option Value)) (st : List Value) (μ : XMu) (e : XRes) : Prop := ∀ r, e = some r → XR L xs y pc ls st (57, 54, μ) (r.1, (57, 54, r.2))
/-- behind a call: of an int, of nothing; what is thrown goes on -/
def xbi (e : XRes) (K : Int32 → XMu → XRes) : XRes := match e with
  | some (.inl (some (.int v)), μ) => K v μ
  | some (.inr k, μ) => some (.inr k, μ)
  | _ => none
def xbv (e : XRes) (K : XMu → XRes) : XRes := match e with
  | some (.inl none, μ) => K μ
  | some (.inr k, μ) => some (.inr k, μ)
  | _ => none
/-- the same where the method's own table takes what is thrown -/
def xci (hs : Nat → Option Int32) (e : XRes) (K : Int32 → XMu → XRes) : XRes := match e with
  | some (.inl (some (.int v)), μ) => K v μ
  | some (.inr k, μ) => (match hs k with | some c => some (.inl (some (.int c)), μ) | none => none)
  | _ => none
def xcv (hs : Nat → Option Int32) (e : XRes) (K : XMu → XRes) : XRes := match e with
  | some (.inl none, μ) => K μ
  | some (.inr k, μ) => (match hs k with | some c => some (.inl (some (.int c)), μ) | none => none)
  | _ => none
/-- if a condition doesn't hold the machine stands still -/
def xgd (b : Bool) (e : XRes) : XRes := bif b then e else none
def xdl : Option Int32 → Option Value
  | none => none
  | some x => some (.int x)
theorem xbT {α : Type} {b : Bool} {x y : α} (h : b = true) : (bif b then x else y) = x := by rw [h]; rfl
theorem xbL {a : Bool} (h : a = true) : (a && true) = true := by rw [h]; rfl
theorem x01_or {x : Int32} (h : x01 x = true) : x = 0 ∨ x = 1 := by unfold x01 at h; rw [Bool.or_eq_true, decide_eq_true_iff, decide_eq_true_iff] at h; exact h
section XBS
variable {L : Nat} {xs : Nat → Int32} {y pc : Nat} {q : XI} {ls ls' : List (Option Value)} {st st' : List Value} {μ μ' : XMu} {e : XRes}
theorem XB.go (n : Nat) {pc' : Nat} (h : xgo L xs y n pc ls st (57, 54, μ) = some (pc', ls', st', (57, 54, μ'))) (k : XB L xs y pc' ls' st' μ' e) : XB L xs y pc ls st μ e := fun r hr => XR.go n h (k r hr)
theorem XB.icmp {co : Jvm.ClassFile.Cond} {o : Int} {y1 x1 : Int32} {P : Prop} [dP : Decidable P] {e1 e2 : XRes} (hq : xf (xcode y) pc = some q) (he : q.1 = .if_icmp co o) (hP : xcond co x1 y1 = decide P) (kt : P → XB L xs y q.2.2.1.1 ls st μ e1) (kf : ¬ P → XB L xs y (pc + 3) ls st μ e2) : XB L xs y pc ls (.int y1 :: .int x1 :: st) μ (if P then e1 else e2) := by
  intro r hr
  refine XR.icmp hq he (fun c => ?_) (fun c => ?_)
  · have p := of_decide_eq_true (hP ▸ c)
    rw [if_pos p] at hr
    exact kt p r hr
  · have p := of_decide_eq_false (hP ▸ c)
    rw [if_neg p] at hr
    exact kf p r hr
theorem XB.ifz {co : Jvm.ClassFile.Cond} {o : Int} {x1 : Int32} {P : Prop} [dP : Decidable P] {e1 e2 : XRes} (hq : xf (xcode y) pc = some q) (he : q.1 = .ifCond co o) (hP : xcond co x1 0 = decide P) (kt : P → XB L xs y q.2.2.1.1 ls st μ e1) (kf : ¬ P → XB L xs y (pc + 3) ls st μ e2) : XB L xs y pc ls (.int x1 :: st) μ (if P then e1 else e2) := by
  intro r hr
  refine XR.ifz hq he (fun c => ?_) (fun c => ?_)
  · have p := of_decide_eq_true (hP ▸ c)
    rw [if_pos p] at hr
    exact kt p r hr
  · have p := of_decide_eq_false (hP ▸ c)
    rw [if_neg p] at hr
    exact kf p r hr
theorem XB.fin {o : XO} (h : xr L xs 1 y pc ls st (57, 54, μ) = some (o, (57, 54, μ'))) : XB L xs y pc ls st μ (some (o, μ')) := by
  intro r hr
  cases hr
  exact XR.fin h
theorem XB.retz {x : Int32} (hq : xf (xcode y) pc = some q) (he : q.1 = .ireturn) (hR : xmR y = some .boolean) : XB L xs y pc ls [.int x] μ (xgd (x01 x) (some (.inl (some (.int x)), μ))) := by
  intro r hr
  cases hx : x01 x with
  | false => rw [hx] at hr; cases hr
  | true =>
    rw [hx] at hr
    cases hr
    refine XR.fin ?_
    have hi : xisc q.1 q.2.2.1.2.2.1 = false := by rw [he]; rfl
    rw [xr_succ]
    simp only [hq, hi, cond_false, he, hR, hx]
    rfl
theorem XB.ci {as rst : List Value} {ec : XRes} {K : Int32 → XMu → XRes} (hq : xf (xcode y) pc = some q) (hi : xisc q.1 q.2.2.1.2.2.1 = true) (h2 : Nat.beq q.2.2.1.2.2.1 2 = false) (hm : xmH y = []) (ha : xcargs q.2.2.1.1 q.2.2.1.2.1 q.2.2.1.2.2.1 st (57, 54, μ) = some (as, rst)) (hc : XB L xs q.2.2.1.1 0 (xini as (xmL q.2.2.1.1)) [] μ ec)
    (kk : ∀ v μ1, XB L xs y (pc + 3) ls (.int v :: rst) μ1 (K v μ1)) : XB L xs y pc ls st μ (xbi ec K) := by
  intro r hr
  unfold xbi at hr
  split at hr
  · next v μ1 => exact XR.call hq hi ha (hc _ rfl) (kk v μ1 r hr)
  · next k μ1 => cases hr; exact XR.thr hq hi h2 hm ha (hc _ rfl)
  · cases hr
theorem XB.cv {as rst : List Value} {ec : XRes} {K : XMu → XRes} (hq : xf (xcode y) pc = some q) (hi : xisc q.1 q.2.2.1.2.2.1 = true) (h2 : Nat.beq q.2.2.1.2.2.1 2 = false) (hm : xmH y = []) (ha : xcargs q.2.2.1.1 q.2.2.1.2.1 q.2.2.1.2.2.1 st (57, 54, μ) = some (as, rst)) (hc : XB L xs q.2.2.1.1 0 (xini as (xmL q.2.2.1.1)) [] μ ec)
    (kk : ∀ μ1, XB L xs y (pc + 3) ls rst μ1 (K μ1)) : XB L xs y pc ls st μ (xbv ec K) := by
  intro r hr
  unfold xbv at hr
  split at hr
  · next μ1 => exact XR.call hq hi ha (hc _ rfl) (kk μ1 r hr)
  · next k μ1 => cases hr; exact XR.thr hq hi h2 hm ha (hc _ rfl)
  · cases hr
theorem XB.xi {as rst : List Value} {ec : XRes} {K : Int32 → XMu → XRes} (hq : xf (xcode y) pc = some q) (hi : xisc q.1 q.2.2.1.2.2.1 = true) (h2 : Nat.beq q.2.2.1.2.2.1 2 = false) (ha : xcargs q.2.2.1.1 q.2.2.1.2.1 q.2.2.1.2.2.1 st (57, 54, μ) = some (as, rst)) (hc : XB L xs q.2.2.1.1 0 (xini as (xmL q.2.2.1.1)) [] μ ec)
    (kk : ∀ v μ1, XB L xs y (pc + 3) ls (.int v :: rst) μ1 (K v μ1)) : XB L xs y pc ls st μ (xci (xhand (xmH y) pc) ec K) := by
  intro r hr
  unfold xci at hr
  split at hr
  · next v μ1 => exact XR.call hq hi ha (hc _ rfl) (kk v μ1 r hr)
  · next k μ1 =>
    split at hr
    · next c hx => cases hr; exact XR.cat hq hi h2 hx ha (hc _ rfl)
    · cases hr
  · cases hr
theorem XB.xv {as rst : List Value} {ec : XRes} {K : XMu → XRes} (hq : xf (xcode y) pc = some q) (hi : xisc q.1 q.2.2.1.2.2.1 = true) (h2 : Nat.beq q.2.2.1.2.2.1 2 = false) (ha : xcargs q.2.2.1.1 q.2.2.1.2.1 q.2.2.1.2.2.1 st (57, 54, μ) = some (as, rst)) (hc : XB L xs q.2.2.1.1 0 (xini as (xmL q.2.2.1.1)) [] μ ec)
    (kk : ∀ μ1, XB L xs y (pc + 3) ls rst μ1 (K μ1)) : XB L xs y pc ls st μ (xcv (xhand (xmH y) pc) ec K) := by
  intro r hr
  unfold xcv at hr
  split at hr
  · next μ1 => exact XR.call hq hi ha (hc _ rfl) (kk μ1 r hr)
  · next k μ1 =>
    split at hr
    · next c hx => cases hr; exact XR.cat hq hi h2 hx ha (hc _ rfl)
    · cases hr
  · cases hr
/-- a plain step under a condition -/
theorem XB.gd {b : Bool} {pc' : Nat} (hq : xf (xcode y) pc = some q) (hi : xisc q.1 q.2.2.1.2.2.1 = false) (hd : Nat.beq q.2.2.1.2.2.1 1 = false) (h : b = true → xs1 L xs q pc ls st (57, 54, μ) = some (pc', ls', st', (57, 54, μ'))) (k : XB L xs y pc' ls' st' μ' e) : XB L xs y pc ls st μ (xgd b e) := by
  intro r hr
  cases hb : b with
  | false => rw [hb] at hr; cases hr
  | true =>
    rw [hb] at hr
    exact XR.one hq hi hd (h hb) (k r hr)
theorem XB.nat {k : Nat} {rst : List Value} (hq : xf (xcode y) pc = some q) (he : q.1 = .invokestatic k) (hi : xisc q.1 q.2.2.1.2.2.1 = false) (h : xnat q.2.2.1.2.2.1 st (57, 54, μ) = some (rst, (57, 54, μ'))) (kk : XB L xs y (pc + 3) ls rst μ' e) : XB L xs y pc ls st μ e := fun r hr => XR.nat hq he hi h (kk r hr)
/-- arraycopy: its five conditions in one -/
def xcb (sp dp n : Int32) (ns nd : Nat) : Bool := decide (¬ sp < 0) && decide (¬ dp < 0) && decide (¬ n < 0) && Nat.ble (sp.toNatClampNeg + n.toNatClampNeg) ns && Nat.ble (dp.toNatClampNeg + n.toNatClampNeg) nd
theorem XB.copy {k a s9 : Nat} {sp dp n : Int32} {ns nd : Nat} (hq : xf (xcode y) pc = some q) (he : q.1 = .invokestatic k) (hd : q.2.2.1.2.2.1 = 5) (h1 : Nat.blt a 57 = true) (h2 : Nat.blt s9 57 = true) (k1 : xkind a = (1, nd)) (k2 : xkind s9 = (1, ns)) (hw : Nat.ble (xwords st) 8 = true)
    (kk : XB L xs y (pc + 3) ls st (μ.1, va_up μ.2.1 a (va_cpy (μ.2.1 s9) (μ.2.1 a) sp.toNatClampNeg dp.toNatClampNeg n.toNatClampNeg), μ.2.2) e) : XB L xs y pc ls (.int n :: .int dp :: .ref a :: .int sp :: .ref s9 :: st) μ (xgd (xcb sp dp n ns nd) e) := by
  intro r hr
  cases hb : xcb sp dp n ns nd with
  | false => rw [hb] at hr; cases hr
  | true =>
    rw [hb] at hr
    unfold xcb at hb
    obtain ⟨hb, b5⟩ := xand hb
    obtain ⟨hb, b4⟩ := xand hb
    obtain ⟨hb, b3⟩ := xand hb
    obtain ⟨b1, b2⟩ := xand hb
    refine XR.nat hq he (by rw [he, hd]; rfl) ?_ (kk r hr)
    rw [hd]
    unfold xnat
    simp only [show Nat.beq 5 5 = true from rfl, cond_true]
    unfold xcopy
    simp only [b1, b2, b3, h1, h2, k1, k2, b4, b5, hw]
    rfl
theorem XB.icmpT {co : Jvm.ClassFile.Cond} {o : Int} {y1 x1 : Int32} (hq : xf (xcode y) pc = some q) (he : q.1 = .if_icmp co o) (hz : xcond co x1 y1 = true) (k : XB L xs y q.2.2.1.1 ls st μ e) : XB L xs y pc ls (.int y1 :: .int x1 :: st) μ e := fun r hr => XR.icmp hq he (fun _ => k r hr) (fun c => by rw [hz] at c; cases c)
theorem XB.icmpF {co : Jvm.ClassFile.Cond} {o : Int} {y1 x1 : Int32} (hq : xf (xcode y) pc = some q) (he : q.1 = .if_icmp co o) (hz : xcond co x1 y1 = false) (k : XB L xs y (pc + 3) ls st μ e) : XB L xs y pc ls (.int y1 :: .int x1 :: st) μ e := fun r hr => XR.icmp hq he (fun c => by rw [hz] at c; cases c) (fun _ => k r hr)
theorem XB.ifzT {co : Jvm.ClassFile.Cond} {o : Int} {x1 : Int32} (hq : xf (xcode y) pc = some q) (he : q.1 = .ifCond co o) (hz : xcond co x1 0 = true) (k : XB L xs y q.2.2.1.1 ls st μ e) : XB L xs y pc ls (.int x1 :: st) μ e := fun r hr => XR.ifz hq he (fun _ => k r hr) (fun c => by rw [hz] at c; cases c)
theorem XB.ifzF {co : Jvm.ClassFile.Cond} {o : Int} {x1 : Int32} (hq : xf (xcode y) pc = some q) (he : q.1 = .ifCond co o) (hz : xcond co x1 0 = false) (k : XB L xs y (pc + 3) ls st μ e) : XB L xs y pc ls (.int x1 :: st) μ e := fun r hr => XR.ifz hq he (fun c => by rw [hz] at c; cases c) (fun _ => k r hr)
theorem XB.icmpv {co : Jvm.ClassFile.Cond} {o : Int} {y1 x1 a b : Int32} {P : Prop} [dP : Decidable P] (hq : xf (xcode y) pc = some q) (he : q.1 = .if_icmp co o) (hP : xcond co x1 y1 = decide P) (kt : P → XB L xs y q.2.2.1.1 ls st μ (some (.inl (some (.int a)), μ'))) (kf : ¬ P → XB L xs y (pc + 3) ls st μ (some (.inl (some (.int b)), μ'))) : XB L xs y pc ls (.int y1 :: .int x1 :: st) μ (some (.inl (some (.int (if P then a else b))), μ')) := by
  have h := XB.icmp (P := P) hq he hP kt kf
  by_cases p : P
  · rw [if_pos p] at h ⊢; exact h
  · rw [if_neg p] at h ⊢; exact h
theorem XB.ifzv {co : Jvm.ClassFile.Cond} {o : Int} {x1 a b : Int32} {P : Prop} [dP : Decidable P] (hq : xf (xcode y) pc = some q) (he : q.1 = .ifCond co o) (hP : xcond co x1 0 = decide P) (kt : P → XB L xs y q.2.2.1.1 ls st μ (some (.inl (some (.int a)), μ'))) (kf : ¬ P → XB L xs y (pc + 3) ls st μ (some (.inl (some (.int b)), μ'))) : XB L xs y pc ls (.int x1 :: st) μ (some (.inl (some (.int (if P then a else b))), μ')) := by
  have h := XB.ifz (P := P) hq he hP kt kf
  by_cases p : P
  · rw [if_pos p] at h ⊢; exact h
  · rw [if_neg p] at h ⊢; exact h
theorem XB.retp {x : Int32} (hq : xf (xcode y) pc = some q) (he : q.1 = .ireturn) (hR : xmR y = some .boolean) (hx : x01 x = true) : XB L xs y pc ls [.int x] μ (some (.inl (some (.int x)), μ)) := by
  have h := XB.retz (L := L) (xs := xs) (ls := ls) (μ := μ) (x := x) hq he hR
  rw [hx] at h
  exact h
/-- a call of a method that only answers -/
theorem XB.cp {as rst : List Value} {v : Int32} (hq : xf (xcode y) pc = some q) (hi : xisc q.1 q.2.2.1.2.2.1 = true) (ha : xcargs q.2.2.1.1 q.2.2.1.2.1 q.2.2.1.2.2.1 st (57, 54, μ) = some (as, rst)) (hc : XB L xs q.2.2.1.1 0 (xini as (xmL q.2.2.1.1)) [] μ (some (.inl (some (.int v)), μ))) (kk : XB L xs y (pc + 3) ls (.int v :: rst) μ e) : XB L xs y pc ls st μ e := fun r hr => XR.call hq hi ha (hc _ rfl) (kk r hr)
theorem XB.byv {x v : Int32} {e1 e2 : XRes} (kt : XB L xs y pc ls (.int v :: st) μ e1) (kf : ¬ x = v → XB L xs y pc ls (.int x :: st) μ e2) : XB L xs y pc ls (.int x :: st) μ (if x = v then e1 else e2) := by
  by_cases h : x = v
  · rw [if_pos h, h]; exact kt
  · rw [if_neg h]; exact kf h
theorem XB.swd {x : Int32} {pc' : Nat} {d lo hj : Int} {offs : Array Int} (hq : xf (xcode y) pc = some q) (he : q.1 = .tableswitch d lo hj offs) (hi : xisc q.1 q.2.2.1.2.2.1 = false) (hd : Nat.beq q.2.2.1.2.2.1 1 = false) (h : xtab pc d lo hj offs x = pc') (k : XB L xs y pc' ls st μ e) : XB L xs y pc ls (.int x :: st) μ e := fun r hr => XR.one hq hi hd (by unfold xs1; simp only [he, h]) (k r hr)
theorem XB.thw {o : Nat} (hw : Nat.ble (xwords st) 8 = true) (hx : ∀ f, xr L xs (f + 1) y pc ls st (57, 54, μ) = (bif Nat.beq 57 xk.length && Nat.blt μ.1 1024 && Nat.ble (xwords st) 8 then some (.inr o, (57, 54, μ.1 + 1, μ.2.1, μ.2.2)) else none)) : XB L xs y pc ls st μ (xgd (Nat.blt μ.1 1024) (some (.inr o, (μ.1 + 1, μ.2.1, μ.2.2)))) := by
  intro r hr
  cases hb : Nat.blt μ.1 1024 with
  | false => rw [hb] at hr; cases hr
  | true =>
    rw [hb] at hr
    cases hr
    refine XR.fin ?_
    rw [hx, hb, hw]
    rfl
end XBS
theorem xtab_ne {x : Int32} {v : Int} (w : Int32) (hw : w.toInt = v) (h : ¬ x = w) : x.toInt ≠ v := fun e => h (Int32.toInt_inj.mp (e.trans hw.symm))

theorem xtab_d6 {pc : Nat} {d : Int} {offs : Array Int} {x : Int32} {pc' : Nat} (h0 : ¬ x = 0) (h1 : ¬ x = 1) (h2 : ¬ x = 2) (h3 : ¬ x = 3) (h4 : ¬ x = 4) (h5 : ¬ x = 5) (h6 : ¬ x = 6) (hp : (Int.ofNat pc + d).toNat = pc') : xtab pc d 0 6 offs x = pc' := by
  have g0 := xtab_ne (v := 0) 0 rfl h0
  have g1 := xtab_ne (v := 1) 1 rfl h1
  have g2 := xtab_ne (v := 2) 2 rfl h2
  have g3 := xtab_ne (v := 3) 3 rfl h3
  have g4 := xtab_ne (v := 4) 4 rfl h4
  have g5 := xtab_ne (v := 5) 5 rfl h5
  have g6 := xtab_ne (v := 6) 6 rfl h6
  unfold xtab
  rw [show (decide (x.toInt < 0) || decide ((6 : Int) < x.toInt)) = true by rw [Bool.or_eq_true, decide_eq_true_iff, decide_eq_true_iff]; omega]
  exact hp
theorem xtab_d19 {pc : Nat} {d : Int} {offs : Array Int} {x : Int32} {pc' : Nat} (h0 : ¬ x = 0) (h1 : ¬ x = 1) (h2 : ¬ x = 2) (h3 : ¬ x = 3) (h4 : ¬ x = 4) (h5 : ¬ x = 5) (h6 : ¬ x = 6) (h7 : ¬ x = 7) (h8 : ¬ x = 8) (h9 : ¬ x = 9) (h10 : ¬ x = 10) (h11 : ¬ x = 11) (h12 : ¬ x = 12) (h13 : ¬ x = 13) (h14 : ¬ x = 14) (h15 : ¬ x = 15) (h16 : ¬ x = 16) (h17 : ¬ x = 17) (h18 : ¬ x = 18) (h19 : ¬ x = 19) (hp : (Int.ofNat pc + d).toNat = pc') : xtab pc d 0 19 offs x = pc' := by
  have g0 := xtab_ne (v := 0) 0 rfl h0
  have g1 := xtab_ne (v := 1) 1 rfl h1
  have g2 := xtab_ne (v := 2) 2 rfl h2
  have g3 := xtab_ne (v := 3) 3 rfl h3
  have g4 := xtab_ne (v := 4) 4 rfl h4
  have g5 := xtab_ne (v := 5) 5 rfl h5
  have g6 := xtab_ne (v := 6) 6 rfl h6
  have g7 := xtab_ne (v := 7) 7 rfl h7
  have g8 := xtab_ne (v := 8) 8 rfl h8
  have g9 := xtab_ne (v := 9) 9 rfl h9
  have g10 := xtab_ne (v := 10) 10 rfl h10
  have g11 := xtab_ne (v := 11) 11 rfl h11
  have g12 := xtab_ne (v := 12) 12 rfl h12
  have g13 := xtab_ne (v := 13) 13 rfl h13
  have g14 := xtab_ne (v := 14) 14 rfl h14
  have g15 := xtab_ne (v := 15) 15 rfl h15
  have g16 := xtab_ne (v := 16) 16 rfl h16
  have g17 := xtab_ne (v := 17) 17 rfl h17
  have g18 := xtab_ne (v := 18) 18 rfl h18
  have g19 := xtab_ne (v := 19) 19 rfl h19
  unfold xtab
  rw [show (decide (x.toInt < 0) || decide ((19 : Int) < x.toInt)) = true by rw [Bool.or_eq_true, decide_eq_true_iff, decide_eq_true_iff]; omega]
  exact hp
theorem xtab_d26 {pc : Nat} {d : Int} {offs : Array Int} {x : Int32} {pc' : Nat} (h0 : ¬ x = 0) (h1 : ¬ x = 1) (h2 : ¬ x = 2) (h3 : ¬ x = 3) (h4 : ¬ x = 4) (h5 : ¬ x = 5) (h6 : ¬ x = 6) (h7 : ¬ x = 7) (h8 : ¬ x = 8) (h9 : ¬ x = 9) (h10 : ¬ x = 10) (h11 : ¬ x = 11) (h12 : ¬ x = 12) (h13 : ¬ x = 13) (h14 : ¬ x = 14) (h15 : ¬ x = 15) (h16 : ¬ x = 16) (h17 : ¬ x = 17) (h18 : ¬ x = 18) (h19 : ¬ x = 19) (h20 : ¬ x = 20) (h21 : ¬ x = 21) (h22 : ¬ x = 22) (h23 : ¬ x = 23) (h24 : ¬ x = 24) (h25 : ¬ x = 25) (h26 : ¬ x = 26) (hp : (Int.ofNat pc + d).toNat = pc') : xtab pc d 0 26 offs x = pc' := by
  have g0 := xtab_ne (v := 0) 0 rfl h0
  have g1 := xtab_ne (v := 1) 1 rfl h1
  have g2 := xtab_ne (v := 2) 2 rfl h2
  have g3 := xtab_ne (v := 3) 3 rfl h3
  have g4 := xtab_ne (v := 4) 4 rfl h4
  have g5 := xtab_ne (v := 5) 5 rfl h5
  have g6 := xtab_ne (v := 6) 6 rfl h6
  have g7 := xtab_ne (v := 7) 7 rfl h7
  have g8 := xtab_ne (v := 8) 8 rfl h8
  have g9 := xtab_ne (v := 9) 9 rfl h9
  have g10 := xtab_ne (v := 10) 10 rfl h10
  have g11 := xtab_ne (v := 11) 11 rfl h11
  have g12 := xtab_ne (v := 12) 12 rfl h12
  have g13 := xtab_ne (v := 13) 13 rfl h13
  have g14 := xtab_ne (v := 14) 14 rfl h14
  have g15 := xtab_ne (v := 15) 15 rfl h15
  have g16 := xtab_ne (v := 16) 16 rfl h16
  have g17 := xtab_ne (v := 17) 17 rfl h17
  have g18 := xtab_ne (v := 18) 18 rfl h18
  have g19 := xtab_ne (v := 19) 19 rfl h19
  have g20 := xtab_ne (v := 20) 20 rfl h20
  have g21 := xtab_ne (v := 21) 21 rfl h21
  have g22 := xtab_ne (v := 22) 22 rfl h22
  have g23 := xtab_ne (v := 23) 23 rfl h23
  have g24 := xtab_ne (v := 24) 24 rfl h24
  have g25 := xtab_ne (v := 25) 25 rfl h25
  have g26 := xtab_ne (v := 26) 26 rfl h26
  unfold xtab
  rw [show (decide (x.toInt < 0) || decide ((26 : Int) < x.toInt)) = true by rw [Bool.or_eq_true, decide_eq_true_iff, decide_eq_true_iff]; omega]
  exact hp
/-! a long text by pieces -/
def xgoC (L : Nat) (xs : Nat → Int32) (lo : Nat) (C : List XE) : Nat → Nat → List (Option Value) → List Value → XS → Option (Nat × List (Option Value) × List Value × XS)
  | 0, pc, ls, st, σ => some (pc, ls, st, σ)
  | n + 1, pc, ls, st, σ => match (bif Nat.ble lo pc then xf C pc else none) with
    | none => none
    | some q => bif xisc q.1 q.2.2.1.2.2.1 || Nat.beq q.2.2.1.2.2.1 1 then none else (match xs1 L xs q pc ls st σ with
      | none => none
      | some (pc', ls', st', σ') => xgoC L xs lo C n pc' ls' st' σ')
theorem xgoC_go {L : Nat} {xs : Nat → Int32} {y lo : Nat} {C : List XE} (hC : ∀ {pc : Nat} {q : XI}, xf C pc = some q → Nat.ble lo pc = true → xf (xcode y) pc = some q) : ∀ (n : Nat) {pc : Nat} {ls : List (Option Value)} {st : List Value} {σ : XS} {r : Nat × List (Option Value) × List Value × XS}, xgoC L xs lo C n pc ls st σ = some r → xgo L xs y n pc ls st σ = some r := by
  intro n
  induction n with
  | zero => intro pc ls st σ r h; exact h
  | succ n ih =>
    intro pc ls st σ r h
    unfold xgoC at h
    cases hb : Nat.ble lo pc with
    | false => rw [hb] at h; cases h
    | true =>
      rw [hb] at h
      simp only [cond_true] at h
      cases hq : xf C pc with
      | none => rw [hq] at h; cases h
      | some q =>
        rw [hq] at h
        unfold xgo
        rw [hC hq hb]
        dsimp only at h ⊢
        cases hz : (xisc q.1 q.2.2.1.2.2.1 || Nat.beq q.2.2.1.2.2.1 1) with
        | true => rw [hz] at h; cases h
        | false =>
          rw [hz] at h
          simp only [cond_false] at h ⊢
          cases hx : xs1 L xs q pc ls st σ with
          | none => rw [hx] at h; cases h
          | some v =>
            rw [hx] at h
            obtain ⟨pc', ls', st', σ'⟩ := v
            exact ih h
theorem XB.goC {L : Nat} {xs : Nat → Int32} {y pc : Nat} {ls ls' : List (Option Value)} {st st' : List Value} {μ μ' : XMu} {e : XRes} {lo : Nat} {C : List XE} (hC : ∀ {pc : Nat} {q : XI}, xf C pc = some q → Nat.ble lo pc = true → xf (xcode y) pc = some q) (n : Nat) {pc' : Nat} (h : xgoC L xs lo C n pc ls st (57, 54, μ) = some (pc', ls', st', (57, 54, μ'))) (k : XB L xs y pc' ls' st' μ' e) : XB L xs y pc ls st μ e := XB.go n (xgoC_go hC n h) k
theorem xf_app {A C : List XE} {lo pc : Nat} (ha : A.all (fun q => Nat.blt q.1 lo) = true) (hl : Nat.ble lo pc = true) : xf (A ++ C) pc = xf C pc := by
  induction A with
  | nil => rfl
  | cons q t ih =>
    rw [List.all_cons, Bool.and_eq_true] at ha
    show (bif Nat.beq q.1 pc then some q.2 else xf (t ++ C) pc) = _
    have h1 : q.1 < lo := Nat.ble_eq.mp ha.1
    have h2 : lo ≤ pc := Nat.ble_eq.mp hl
    have h3 : Nat.beq q.1 pc = false := by
      cases hb : Nat.beq q.1 pc with
      | false => rfl
      | true => have := Nat.eq_of_beq_eq_true hb; omega
    rw [h3]
    exact ih ha.2
theorem xf_pre {A C : List XE} {pc : Nat} {q : XI} (h : xf A pc = some q) : xf (A ++ C) pc = some q := by
  induction A with
  | nil => cases h
  | cons r t ih =>
    change (bif Nat.beq r.1 pc then some r.2 else xf t pc) = _ at h
    show (bif Nat.beq r.1 pc then some r.2 else xf (t ++ C) pc) = _
    cases hb : Nat.beq r.1 pc with
    | true => rw [hb] at h; exact h
    | false => rw [hb] at h; exact ih h
theorem xf_mid {A B C : List XE} {lo pc : Nat} {q : XI} (ha : A.all (fun q => Nat.blt q.1 lo) = true) (hl : Nat.ble lo pc = true) (h : xf B pc = some q) : xf (A ++ (B ++ C)) pc = some q := by
  rw [xf_app ha hl]
  exact xf_pre h
theorem xl_code : xcode 235 = xp_235 := rfl
