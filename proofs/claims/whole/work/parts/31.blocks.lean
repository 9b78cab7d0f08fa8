/-! program text as functions: a block's function e, and that it is what the machine does from there (XB) -/
abbrev XMu : Type := Nat × (Nat → Nat → Int32) × (Nat → Nat → Int64)
abbrev XRes : Type := Option (XO × XMu)
def XB (L : Nat) (xs : Nat → Int32) (y pc : Nat) (ls : List (Option Value)) (st : List Value) (μ : XMu) (e : XRes) : Prop := ∀ r, e = some r → XR L xs y pc ls st (57, 54, μ) (r.1, (57, 54, r.2))
/-- behind a call: of an int, of nothing; what is thrown goes on -/
def xbi (e : XRes) (K : Int32 → XMu → XRes) : XRes := match e with
  | some (.inl (some (.int v)), μ) => K v μ
  | some (.inr k, μ) => some (.inr k, μ)
  | _ => none
def xbv (e : XRes) (K : XMu → XRes) : XRes := match e with
  | some (.inl none, μ) => K μ
  | some (.inr k, μ) => some (.inr k, μ)
  | _ => none
/-- the same where the method's own table takes what is thrown -/
def xci (hs : Nat → Option Int32) (e : XRes) (K : Int32 → XMu → XRes) : XRes := match e with
  | some (.inl (some (.int v)), μ) => K v μ
  | some (.inr k, μ) => (match hs k with | some c => some (.inl (some (.int c)), μ) | none => none)
  | _ => none
def xcv (hs : Nat → Option Int32) (e : XRes) (K : XMu → XRes) : XRes := match e with
  | some (.inl none, μ) => K μ
  | some (.inr k, μ) => (match hs k with | some c => some (.inl (some (.int c)), μ) | none => none)
  | _ => none
/-- if a condition doesn't hold the machine stands still -/
def xgd (b : Bool) (e : XRes) : XRes := bif b then e else none
section XBS
variable {L : Nat} {xs : Nat → Int32} {y pc : Nat} {q : XI} {ls ls' : List (Option Value)} {st st' : List Value} {μ μ' : XMu} {e : XRes}
theorem XB.go (n : Nat) {pc' : Nat} (h : xgo L xs y n pc ls st (57, 54, μ) = some (pc', ls', st', (57, 54, μ'))) (k : XB L xs y pc' ls' st' μ' e) : XB L xs y pc ls st μ e := fun r hr => XR.go n h (k r hr)
theorem XB.icmp {co : Jvm.ClassFile.Cond} {o : Int} {y1 x1 : Int32} {P : Prop} [dP : Decidable P] {e1 e2 : XRes} (hq : xf (xcode y) pc = some q) (he : q.1 = .if_icmp co o) (hP : xcond co x1 y1 = decide P) (kt : P → XB L xs y q.2.2.1.1 ls st μ e1) (kf : ¬ P → XB L xs y (pc + 3) ls st μ e2) : XB L xs y pc ls (.int y1 :: .int x1 :: st) μ (if P then e1 else e2) := by
  intro r hr
  refine XR.icmp hq he (fun c => ?_) (fun c => ?_)
  · have p := of_decide_eq_true (hP ▸ c)
    rw [if_pos p] at hr
    exact kt p r hr
  · have p := of_decide_eq_false (hP ▸ c)
    rw [if_neg p] at hr
    exact kf p r hr
theorem XB.ifz {co : Jvm.ClassFile.Cond} {o : Int} {x1 : Int32} {P : Prop} [dP : Decidable P] {e1 e2 : XRes} (hq : xf (xcode y) pc = some q) (he : q.1 = .ifCond co o) (hP : xcond co x1 0 = decide P) (kt : P → XB L xs y q.2.2.1.1 ls st μ e1) (kf : ¬ P → XB L xs y (pc + 3) ls st μ e2) : XB L xs y pc ls (.int x1 :: st) μ (if P then e1 else e2) := by
  intro r hr
  refine XR.ifz hq he (fun c => ?_) (fun c => ?_)
  · have p := of_decide_eq_true (hP ▸ c)
    rw [if_pos p] at hr
    exact kt p r hr
  · have p := of_decide_eq_false (hP ▸ c)
    rw [if_neg p] at hr
    exact kf p r hr
theorem XB.fin {o : XO} (h : xr L xs 1 y pc ls st (57, 54, μ) = some (o, (57, 54, μ'))) : XB L xs y pc ls st μ (some (o, μ')) := by
  intro r hr
  cases hr
  exact XR.fin h
theorem XB.retz {x : Int32} (hq : xf (xcode y) pc = some q) (he : q.1 = .ireturn) (hR : xmR y = some .boolean) : XB L xs y pc ls [.int x] μ (xgd (x01 x) (some (.inl (some (.int x)), μ))) := by
  intro r hr
  cases hx : x01 x with
  | false => rw [hx] at hr; cases hr
  | true =>
    rw [hx] at hr
    cases hr
    refine XR.fin ?_
    have hi : xisc q.1 q.2.2.1.2.2.1 = false := by rw [he]; rfl
    rw [xr_succ]
    simp only [hq, hi, cond_false, he, hR, hx]
    rfl
theorem XB.ci {as rst : List Value} {ec : XRes} {K : Int32 → XMu → XRes} (hq : xf (xcode y) pc = some q) (hi : xisc q.1 q.2.2.1.2.2.1 = true) (h2 : Nat.beq q.2.2.1.2.2.1 2 = false) (hm : xmH y = []) (ha : xcargs q.2.2.1.1 q.2.2.1.2.1 q.2.2.1.2.2.1 st (57, 54, μ) = some (as, rst)) (hc : XB L xs q.2.2.1.1 0 (xini as (xmL q.2.2.1.1)) [] μ ec)
    (kk : ∀ v μ1, XB L xs y (pc + 3) ls (.int v :: rst) μ1 (K v μ1)) : XB L xs y pc ls st μ (xbi ec K) := by
  intro r hr
  unfold xbi at hr
  split at hr
  · next v μ1 => exact XR.call hq hi ha (hc _ rfl) (kk v μ1 r hr)
  · next k μ1 => cases hr; exact XR.thr hq hi h2 hm ha (hc _ rfl)
  · cases hr
theorem XB.cv {as rst : List Value} {ec : XRes} {K : XMu → XRes} (hq : xf (xcode y) pc = some q) (hi : xisc q.1 q.2.2.1.2.2.1 = true) (h2 : Nat.beq q.2.2.1.2.2.1 2 = false) (hm : xmH y = []) (ha : xcargs q.2.2.1.1 q.2.2.1.2.1 q.2.2.1.2.2.1 st (57, 54, μ) = some (as, rst)) (hc : XB L xs q.2.2.1.1 0 (xini as (xmL q.2.2.1.1)) [] μ ec)
    (kk : ∀ μ1, XB L xs y (pc + 3) ls rst μ1 (K μ1)) : XB L xs y pc ls st μ (xbv ec K) := by
  intro r hr
  unfold xbv at hr
  split at hr
  · next μ1 => exact XR.call hq hi ha (hc _ rfl) (kk μ1 r hr)
  · next k μ1 => cases hr; exact XR.thr hq hi h2 hm ha (hc _ rfl)
  · cases hr
theorem XB.xi {as rst : List Value} {ec : XRes} {K : Int32 → XMu → XRes} (hq : xf (xcode y) pc = some q) (hi : xisc q.1 q.2.2.1.2.2.1 = true) (h2 : Nat.beq q.2.2.1.2.2.1 2 = false) (ha : xcargs q.2.2.1.1 q.2.2.1.2.1 q.2.2.1.2.2.1 st (57, 54, μ) = some (as, rst)) (hc : XB L xs q.2.2.1.1 0 (xini as (xmL q.2.2.1.1)) [] μ ec)
    (kk : ∀ v μ1, XB L xs y (pc + 3) ls (.int v :: rst) μ1 (K v μ1)) : XB L xs y pc ls st μ (xci (xhand (xmH y) pc) ec K) := by
  intro r hr
  unfold xci at hr
  split at hr
  · next v μ1 => exact XR.call hq hi ha (hc _ rfl) (kk v μ1 r hr)
  · next k μ1 =>
    split at hr
    · next c hx => cases hr; exact XR.cat hq hi h2 hx ha (hc _ rfl)
    · cases hr
  · cases hr
theorem XB.xv {as rst : List Value} {ec : XRes} {K : XMu → XRes} (hq : xf (xcode y) pc = some q) (hi : xisc q.1 q.2.2.1.2.2.1 = true) (h2 : Nat.beq q.2.2.1.2.2.1 2 = false) (ha : xcargs q.2.2.1.1 q.2.2.1.2.1 q.2.2.1.2.2.1 st (57, 54, μ) = some (as, rst)) (hc : XB L xs q.2.2.1.1 0 (xini as (xmL q.2.2.1.1)) [] μ ec)
    (kk : ∀ μ1, XB L xs y (pc + 3) ls rst μ1 (K μ1)) : XB L xs y pc ls st μ (xcv (xhand (xmH y) pc) ec K) := by
  intro r hr
  unfold xcv at hr
  split at hr
  · next μ1 => exact XR.call hq hi ha (hc _ rfl) (kk μ1 r hr)
  · next k μ1 =>
    split at hr
    · next c hx => cases hr; exact XR.cat hq hi h2 hx ha (hc _ rfl)
    · cases hr
  · cases hr
/-- a plain step under a condition -/
theorem XB.gd {b : Bool} {pc' : Nat} (hq : xf (xcode y) pc = some q) (hi : xisc q.1 q.2.2.1.2.2.1 = false) (hd : Nat.beq q.2.2.1.2.2.1 1 = false) (h : b = true → xs1 L xs q pc ls st (57, 54, μ) = some (pc', ls', st', (57, 54, μ'))) (k : XB L xs y pc' ls' st' μ' e) : XB L xs y pc ls st μ (xgd b e) := by
  intro r hr
  cases hb : b with
  | false => rw [hb] at hr; cases hr
  | true =>
    rw [hb] at hr
    exact XR.one hq hi hd (h hb) (k r hr)
theorem XB.nat {k : Nat} {rst : List Value} (hq : xf (xcode y) pc = some q) (he : q.1 = .invokestatic k) (hi : xisc q.1 q.2.2.1.2.2.1 = false) (h : xnat q.2.2.1.2.2.1 st (57, 54, μ) = some (rst, (57, 54, μ'))) (kk : XB L xs y (pc + 3) ls rst μ' e) : XB L xs y pc ls st μ e := fun r hr => XR.nat hq he hi h (kk r hr)
/-- arraycopy: its five conditions in one -/
def xcb (sp dp n : Int32) (ns nd : Nat) : Bool := decide (¬ sp < 0) && decide (¬ dp < 0) && decide (¬ n < 0) && Nat.ble (sp.toNatClampNeg + n.toNatClampNeg) ns && Nat.ble (dp.toNatClampNeg + n.toNatClampNeg) nd
theorem XB.copy {k a s9 : Nat} {sp dp n : Int32} {ns nd : Nat} (hq : xf (xcode y) pc = some q) (he : q.1 = .invokestatic k) (hd : q.2.2.1.2.2.1 = 5) (h1 : Nat.blt a 57 = true) (h2 : Nat.blt s9 57 = true) (k1 : xkind a = (1, nd)) (k2 : xkind s9 = (1, ns)) (hw : Nat.ble (xwords st) 8 = true)
    (kk : XB L xs y (pc + 3) ls st (μ.1, va_up μ.2.1 a (va_cpy (μ.2.1 s9) (μ.2.1 a) sp.toNatClampNeg dp.toNatClampNeg n.toNatClampNeg), μ.2.2) e) : XB L xs y pc ls (.int n :: .int dp :: .ref a :: .int sp :: .ref s9 :: st) μ (xgd (xcb sp dp n ns nd) e) := by
  intro r hr
  cases hb : xcb sp dp n ns nd with
  | false => rw [hb] at hr; cases hr
  | true =>
    rw [hb] at hr
    unfold xcb at hb
    obtain ⟨hb, b5⟩ := xand hb
    obtain ⟨hb, b4⟩ := xand hb
    obtain ⟨hb, b3⟩ := xand hb
    obtain ⟨b1, b2⟩ := xand hb
    refine XR.nat hq he (by rw [he, hd]; rfl) ?_ (kk r hr)
    rw [hd]
    show xcopy _ _ = _
    unfold xcopy
    simp only [b1, b2, b3, h1, h2, k1, k2, b4, b5, hw]
    rfl
end XBS
