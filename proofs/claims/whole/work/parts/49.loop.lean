theorem RE_swap {S M : XMu} (he : RE S S S S) (h1 : ∀ c, 32 ≤ c → M.2.1 c = S.2.1 c) (h2 : ∀ c, 32 ≤ c → c ≠ 56 → M.2.2 c = S.2.2 c) : RE S M S M := RE.mk rfl (fun _ _ => rfl) (fun _ _ => rfl) rfl (fun _ _ => rfl) (fun _ _ => rfl) rfl (by rw [h2 32 (by omega) (by omega)]; exact he.row) (by rw [h1 32 (by omega)]; exact he.itself) (by rw [h1 32 (by omega)]; exact he.now) (by rw [h1 32 (by omega)]; exact he.term) (by rw [h1 32 (by omega)]; exact he.voted) (by rw [h1 32 (by omega)]; exact he.base) (by rw [h1 32 (by omega)]; exact he.last) (by rw [h1 32 (by omega)]; exact he.baseTerm) (by rw [h1 32 (by omega)]; exact he.baseCode) (by rw [h1 32 (by omega)]; exact he.snapshot) (by rw [h1 32 (by omega)]; exact he.dirty) (by rw [h1 32 (by omega)]; exact he.role) (by rw [h1 32 (by omega)]; exact he.leader) (by rw [h1 32 (by omega)]; exact he.commit) (by rw [h1 32 (by omega)]; exact he.applied) (by rw [h1 32 (by omega)]; exact he.synced) (by rw [h1 32 (by omega)]; exact he.heard) (by rw [h1 32 (by omega)]; exact he.alarm) (by rw [h1 32 (by omega)]; exact he.votes) (by rw [h1 32 (by omega)]; exact he.handing) (by rw [h1 32 (by omega)]; exact he.handed) (by rw [h1 32 (by omega)]; exact he.first) (by rw [h1 32 (by omega)]; exact he.round) (by rw [h1 32 (by omega)]; exact he.assembly) (by rw [h1 32 (by omega)]; exact he.described) (by rw [h1 32 (by omega)]; exact he.toldBase) (by rw [h1 32 (by omega)]; exact he.toldTerm) (by rw [h1 32 (by omega)]; exact he.toldCode) (by rw [h1 32 (by omega)]; exact he.toldSize) (by rw [h1 32 (by omega)]; exact he.told) (by rw [h1 32 (by omega)]; exact he.waits) (by rw [h1 32 (by omega)]; exact he.went) (by rw [h1 32 (by omega)]; exact he.done) (by rw [h1 32 (by omega)]; exact he.calls) (by rw [h1 36 (by omega)]; exact he.next) (by rw [h1 37 (by omega)]; exact he.mtch) (by rw [h1 38 (by omega)]; exact he.flying) (by rw [h1 39 (by omega)]; exact he.offset) (by rw [h1 40 (by omega)]; exact he.ack) (by rw [h1 41 (by omega)]; exact he.seen) (by rw [h1 42 (by omega)]; exact he.probing) (by rw [h1 43 (by omega)]; exact he.answered) (by rw [h1 44 (by omega)]; exact he.toldTerms) (by rw [h1 45 (by omega)]; exact he.toldKinds) (by rw [h1 46 (by omega)]; exact he.toldValues) (by rw [h1 50 (by omega)]; exact he.doneNumbers) (by rw [h1 51 (by omega)]; exact he.doneValues) (by rw [h1 52 (by omega)]; exact he.callState) (by rw [h1 53 (by omega)]; exact he.callNumber) (by rw [h1 32 (by omega)]; exact he.got) (by rw [h1 33 (by omega), h1 34 (by omega), h1 35 (by omega)]; exact he.log) (by rw [h1 49 (by omega)]; exact he.kept) (by rw [h1 48 (by omega)]; exact he.wait) (by rw [h1 54 (by omega), h1 55 (by omega)]; exact he.cls)
theorem RE_join {g h μ ν : XMu} (he : RE g h μ ν) (h1 : ∀ c, c < 32 → ν.2.1 c = μ.2.1 c) (h2 : ν.2.2 0 = μ.2.2 0) : RE ν ν ν ν := RE.mk rfl (fun _ _ => rfl) (fun _ _ => rfl) rfl (fun _ _ => rfl) (fun _ _ => rfl) rfl (by rw [h2]; exact he.row) (by rw [h1 0 (by omega)]; exact he.itself) (by rw [h1 0 (by omega)]; exact he.now) (by rw [h1 28 (by omega)]; exact he.term) (by rw [h1 28 (by omega)]; exact he.voted) (by rw [h1 28 (by omega)]; exact he.base) (by rw [h1 28 (by omega)]; exact he.last) (by rw [h1 28 (by omega)]; exact he.baseTerm) (by rw [h1 28 (by omega)]; exact he.baseCode) (by rw [h1 28 (by omega)]; exact he.snapshot) (by rw [h1 28 (by omega)]; exact he.dirty) (by rw [h1 0 (by omega)]; exact he.role) (by rw [h1 0 (by omega)]; exact he.leader) (by rw [h1 0 (by omega)]; exact he.commit) (by rw [h1 0 (by omega)]; exact he.applied) (by rw [h1 28 (by omega)]; exact he.synced) (by rw [h1 0 (by omega)]; exact he.heard) (by rw [h1 0 (by omega)]; exact he.alarm) (by rw [h1 0 (by omega)]; exact he.votes) (by rw [h1 0 (by omega)]; exact he.handing) (by rw [h1 0 (by omega)]; exact he.handed) (by rw [h1 11 (by omega)]; exact he.first) (by rw [h1 11 (by omega)]; exact he.round) (by rw [h1 0 (by omega)]; exact he.assembly) (by rw [h1 7 (by omega)]; exact he.described) (by rw [h1 7 (by omega)]; exact he.toldBase) (by rw [h1 7 (by omega)]; exact he.toldTerm) (by rw [h1 7 (by omega)]; exact he.toldCode) (by rw [h1 7 (by omega)]; exact he.toldSize) (by rw [h1 7 (by omega)]; exact he.told) (by rw [h1 1 (by omega)]; exact he.waits) (by rw [h1 1 (by omega)]; exact he.went) (by rw [h1 25 (by omega)]; exact he.done) (by rw [h1 20 (by omega)]; exact he.calls) (by rw [h1 12 (by omega)]; exact he.next) (by rw [h1 13 (by omega)]; exact he.mtch) (by rw [h1 14 (by omega)]; exact he.flying) (by rw [h1 16 (by omega)]; exact he.offset) (by rw [h1 17 (by omega)]; exact he.ack) (by rw [h1 18 (by omega)]; exact he.seen) (by rw [h1 15 (by omega)]; exact he.probing) (by rw [h1 19 (by omega)]; exact he.answered) (by rw [h1 8 (by omega)]; exact he.toldTerms) (by rw [h1 9 (by omega)]; exact he.toldKinds) (by rw [h1 10 (by omega)]; exact he.toldValues) (by rw [h1 26 (by omega)]; exact he.doneNumbers) (by rw [h1 27 (by omega)]; exact he.doneValues) (by rw [h1 24 (by omega)]; exact he.callState) (by rw [h1 22 (by omega)]; exact he.callNumber) (by rw [h1 0 (by omega)]; exact he.got) (by rw [h1 28 (by omega), h1 29 (by omega), h1 30 (by omega), h1 31 (by omega)]; exact he.log) (by rw [h1 5 (by omega), h1 6 (by omega)]; exact he.kept) (by rw [h1 1 (by omega), h1 3 (by omega), h1 4 (by omega)]; exact he.wait) (by rw [h1 20 (by omega), h1 21 (by omega), h1 23 (by omega)]; exact he.cls)
theorem RI_cong {n : Nat} {μ ν : XMu} (hi : RI n μ) (h1 : ∀ c, c < 32 → ν.2.1 c = μ.2.1 c) : RI n ν := RI.mk (by rw [h1 0 (by omega)]; exact hi.itself) (by rw [h1 0 (by omega)]; exact hi.role) (by rw [h1 28 (by omega)]; exact hi.base) (by rw [h1 0 (by omega), h1 28 (by omega)]; exact hi.ba) (by rw [h1 0 (by omega)]; exact hi.ac) (by rw [h1 0 (by omega), h1 28 (by omega)]; exact hi.cl) (by rw [h1 28 (by omega)]; exact hi.lb) (by rw [h1 28 (by omega)]; exact hi.last) (by rw [h1 28 (by omega)]; exact hi.syn) (by rw [h1 28 (by omega)]; exact hi.dirty) (by rw [h1 7 (by omega)]; exact hi.desc) (by rw [h1 0 (by omega)]; exact hi.now) (by rw [h1 28 (by omega)]; exact hi.term) (by rw [h1 1 (by omega)]; exact hi.went) (by rw [h1 1 (by omega)]; exact hi.waits) (by rw [h1 25 (by omega)]; exact hi.done) (by rw [h1 20 (by omega)]; exact hi.calls) (by rw [h1 7 (by omega)]; exact hi.told) (by rw [h1 11 (by omega)]; exact hi.round) (by rw [h1 0 (by omega)]; exact hi.hand) (by rw [h1 0 (by omega)]; exact hi.heard) (by rw [h1 0 (by omega), h1 28 (by omega)]; exact hi.vote) (by rw [h1 0 (by omega), h1 12 (by omega), h1 13 (by omega), h1 14 (by omega), h1 17 (by omega), h1 18 (by omega), h1 28 (by omega)]; exact hi.lead) (by rw [h1 0 (by omega), h1 20 (by omega), h1 24 (by omega)]; exact hi.quiet) (by rw [h1 0 (by omega), h1 20 (by omega), h1 21 (by omega), h1 22 (by omega), h1 24 (by omega)]; exact hi.cmd) (by rw [h1 8 (by omega)]; exact hi.tt) (by rw [h1 7 (by omega)]; exact hi.tb) (by rw [h1 0 (by omega)]; exact hi.got) (by rw [h1 28 (by omega), h1 30 (by omega), h1 31 (by omega)]; exact hi.mem)
def Inv (n : Nat) (S : XMu) : Prop := RE S S S S ∧ RI n S
theorem Inv_of {g μ ν : XMu} {n : Nat} {c : Int32} {M : XMu} (he : RE g (zh M c) μ ν) (hi : RI n μ) (h1 : ∀ k, k < 32 → M.2.1 k = μ.2.1 k) (h2 : M.2.2 0 = μ.2.2 0) : Inv n ν := by
  have q : ∀ k, k < 32 → ν.2.1 k = μ.2.1 k := fun k hk => by
    rw [he.hg k (Or.inl hk)]
    show xuI M.2.1 32 0 c k = _
    rw [xuI_o (by omega)]
    exact h1 k hk
  exact ⟨RE_join he q (by rw [he.hgl 0 (Or.inl (by omega))]; exact h2), RI_cong hi q⟩
theorem one {E : (Nat → Int32 → Prop) × (Option Value → Prop)} {S : XMu} {n : Nat} {P : XRes} {fM : XMu → XRes} (hS : RE S S S S) (Q : ∀ h ν, RE S h S ν → Pub S h n E P (fM ν)) : (∃ o μ1, E.2 o ∧ P = some (.inl o, μ1) ∧ ∀ Lg : Nat → Nat → Int64, (∀ c, c ≠ 56 → Lg c = μ1.2.2 c) → ∃ ν2, fM (μ1.1, μ1.2.1, Lg) = some (.inl o, ν2) ∧ (ν2.2.1 32 0) = 0 ∧ ν2.2.2 56 = Lg 56 ∧ Inv n ν2 ∧ ν2.1 = S.1) ∨ (∃ k c μ1 o ν2, E.1 k c ∧ E.2 o ∧ P = some (.inr k, μ1) ∧ fM μ1 = some (.inl o, ν2) ∧ (ν2.2.1 32 0) = c ∧ Inv n ν2 ∧ ν2.1 = S.1 + 1) := by
  rcases Q S S hS with ⟨o, μ1, ν1, p1, p2, he1, hi1, t1⟩ | ⟨k, c, o, μ1, ν1, e1, p1, p2, he1, hi1, t1⟩
  · refine Or.inl ⟨o, μ1, t1, p1, fun Lg hL => ?_⟩
    have hsw : RE S (μ1.1, μ1.2.1, Lg) S (μ1.1, μ1.2.1, Lg) := RE_swap hS (fun c hc => he1.fg c hc) (fun c hc h56 => (hL c h56).trans (he1.fgl c hc))
    rcases Q _ _ hsw with ⟨o', μ2, ν2, q1, q2, he2, hi2, t2⟩ | ⟨k, c, o', μ2, ν2, e2, q1, q2, he2, hi2, t2⟩
    · rw [p1] at q1
      cases q1
      exact ⟨ν2, q2, he2.thr, he2.hgl 56 (Or.inr (by omega)), Inv_of he2 hi2 (fun _ _ => rfl) (hL 0 (by omega)), he2.ht.trans he1.ft⟩
    · rw [p1] at q1
      cases q1
  · have hsw : RE S μ1 S μ1 := RE_swap hS (fun c hc => he1.fg c hc) (fun c hc _ => he1.fgl c hc)
    rcases Q _ _ hsw with ⟨o', μ2, ν2, q1, q2, he2, hi2, t2⟩ | ⟨k', c', o', μ2, ν2, e2, q1, q2, he2, hi2, t2⟩
    · rw [p1] at q1
      cases q1
    · rw [p1] at q1
      cases q1
      exact Or.inr ⟨_, c', μ1, o', ν2, e2, t2, p1, q2, he2.thr, Inv_of he2 hi2 (fun _ _ => rfl) rfl, he2.ht.trans he1.ft⟩
theorem xcv_r {hs : Nat → Option Int32} {k : Nat} {c : Int32} {μ : XMu} {K : XMu → XRes} (h : hs k = some c) : xcv hs (some (.inr k, μ)) K = some (.inl (some (.int c)), μ) := by
  show (match hs k with | some c => (some (.inl (some (.int c)), μ) : XRes) | none => none) = _
  rw [h]
theorem xci_r {hs : Nat → Option Int32} {k : Nat} {c : Int32} {μ : XMu} {K : Int32 → XMu → XRes} (h : hs k = some c) : xci hs (some (.inr k, μ)) K = some (.inl (some (.int c)), μ) := by
  show (match hs k with | some c => (some (.inl (some (.int c)), μ) : XRes) | none => none) = _
  rw [h]
theorem lg_self (x : Int64) : lg_cmp x x = 0 := by
  unfold lg_cmp
  rw [if_neg (show ¬ x > x from Int64.lt_irrefl), if_pos rfl]
theorem wv {E : (Nat → Int32 → Prop) × (Option Value → Prop)} {hs : Nat → Option Int32} {S : XMu} {n : Nat} {P : XRes} {fM : XMu → XRes} (hS : RE S S S S) (Q : ∀ h ν, RE S h S ν → Pub S h n E P (fM ν)) (hh : ∀ k c, E.1 k c → hs k = some c) (hv : ∀ o, E.2 o → o = none) : ∃ r m ν2, xcv hs P (fun m1 => some (.inl (some (.int (0 : Int32))), m1)) = some (.inl (some (.int r)), m) ∧ fM m = some (.inl none, ν2) ∧ yM_thrown ν2 = r ∧ Inv n ν2 ∧ ν2.1 ≤ S.1 + 1 := by
  rcases one hS Q with ⟨o, μ1, t1, p1, k⟩ | ⟨k, c, μ1, o, ν2, e1, t1, p1, q2, q3, q4, q5⟩
  · have := hv o t1
    subst this
    obtain ⟨ν2, a1, a2, a3, a4, a5⟩ := k μ1.2.2 (fun _ _ => rfl)
    exact ⟨0, μ1, ν2, by rw [p1]; rfl, a1, a2, a4, by omega⟩
  · have := hv o t1
    subst this
    exact ⟨c, μ1, ν2, by rw [p1]; exact xcv_r (hh k c e1), q2, q3, q4, by omega⟩
theorem wi {E : (Nat → Int32 → Prop) × (Option Value → Prop)} {hs : Nat → Option Int32} {S : XMu} {n : Nat} {P : XRes} {fM : XMu → XRes} (hS : RE S S S S) (Q : ∀ h ν, RE S h S ν → Pub S h n E P (fM ν)) (hh : ∀ k c, E.1 k c → hs k = some c ∧ ¬ c = 0) (hv : ∀ o, E.2 o → ∃ w : Int32, o = some (.int w)) (F : Int32 → Int64) : ∃ r m v ν2, xci hs P (fun r2 m1 => some (.inl (some (.int (0 : Int32))), (m1.1, m1.2.1, (xuL m1.2.2 56 0 (F r2))))) = some (.inl (some (.int r)), m) ∧ fM m = some (.inl (some (.int v)), ν2) ∧ yM_thrown ν2 = r ∧ (r = 0 → ν2.2.2 56 0 = F v) ∧ Inv n ν2 ∧ ν2.1 ≤ S.1 + 1 := by
  rcases one hS Q with ⟨o, μ1, t1, p1, k⟩ | ⟨k, c, μ1, o, ν2, e1, t1, p1, q2, q3, q4, q5⟩
  · obtain ⟨w, rfl⟩ := hv o t1
    obtain ⟨ν2, a1, a2, a3, a4, a5⟩ := k (xuL μ1.2.2 56 0 (F w)) (fun c hc => xuL_o hc)
    refine ⟨0, _, w, ν2, by rw [p1]; rfl, a1, a2, fun _ => ?_, a4, by omega⟩
    rw [a3]
    show (xuL μ1.2.2 56 0 (F w)) 56 0 = F w
    unfold xuL va_up vp_updL
    rw [if_pos rfl, if_pos rfl]
  · obtain ⟨w, rfl⟩ := hv o t1
    exact ⟨c, μ1, w, ν2, by rw [p1]; exact xci_r (hh k c e1).1, q2, q3, fun h => absurd h (hh k c e1).2, q4, by omega⟩
theorem wn {S : XMu} {n : Nat} {P : XRes} {fM : XMu → XRes} (hS : RE S S S S) (Q : ∀ h ν, RE S h S ν → Pub S h n En P (fM ν)) : ∃ v m ν2, P = some (.inl (some (.int v)), m) ∧ fM m = some (.inl (some (.int v)), ν2) ∧ Inv n ν2 ∧ ν2.1 ≤ S.1 + 1 := by
  rcases one hS Q with ⟨o, μ1, t1, p1, k⟩ | ⟨k, c, μ1, o, ν2, e1, t1, p1, q2, q3, q4, q5⟩
  · obtain ⟨w, rfl⟩ := t1
    obtain ⟨ν2, a1, a2, a3, a4, a5⟩ := k μ1.2.2 (fun _ _ => rfl)
    exact ⟨w, μ1, ν2, p1, a1, a4, by omega⟩
  · exact absurd e1 id
theorem wf {S : XMu} {n : Nat} {P : XRes} {fM : XMu → XRes} (hS : RE S S S S) (Q : ∀ h ν, RE S h S ν → Pub S h n Ef P (fM ν)) : ∃ m ν2, P = some (.inl none, m) ∧ fM m = some (.inl none, ν2) ∧ Inv n ν2 ∧ ν2.1 ≤ S.1 + 1 := by
  rcases one hS Q with ⟨o, μ1, t1, p1, k⟩ | ⟨k, c, μ1, o, ν2, e1, t1, p1, q2, q3, q4, q5⟩
  · have : o = none := t1
    subst this
    obtain ⟨ν2, a1, a2, a3, a4, a5⟩ := k μ1.2.2 (fun _ _ => rfl)
    exact ⟨μ1, ν2, p1, a1, a4, by omega⟩
  · exact absurd e1 id
def Gx (L : Nat) (x : Int32) : Prop := xin (x + 1) L = true ∧ xin (x + 2) L = true ∧ xin (x + 3) L = true ∧ xin (x + 4) L = true ∧ xin (x + 5) L = true ∧ xin (x + 6) L = true
theorem bk_196 {L : Nat} {xs : Nat → Int32} {k55 : Int32 → XMu → XRes} {x : Int32} {S : XMu} {n : Nat} (G : Gx L x) (hS : Inv n S) (hn : n + 1500 ≤ 1000000) (ht : S.1 < 1024) : ∃ S', yW_law_b196 L xs k55 x S = k55 (x + 7) S' ∧ Inv (n + 1500) S' ∧ S'.1 ≤ S.1 + 1 := by
  obtain ⟨g1, g2, g3, g4, g5, g6⟩ := G
  unfold yW_law_b196 yW_tick yW_law_b1723
  repeat rw [xgd_t g1]
  have ew : ∀ (r2 : Int32) (m1 : XMu), (if r2 = (0 : Int32) then (some (.inl (some (.int (0 : Int32))), (m1.1, m1.2.1, (xuL m1.2.2 56 0 (0 : Int64)))) : XRes) else some (.inl (some (.int (0 : Int32))), (m1.1, m1.2.1, (xuL m1.2.2 56 0 (1 : Int64))))) = some (.inl (some (.int (0 : Int32))), (m1.1, m1.2.1, (xuL m1.2.2 56 0 (if r2 = 0 then (0 : Int64) else 1)))) := by
    intro r2 m1
    by_cases h : r2 = 0
    · rw [if_pos h, if_pos h]
    · rw [if_neg h, if_neg h]
  have ew2 : (fun (r2 : Int32) (m1 : XMu) => (if r2 = (0 : Int32) then (some (.inl (some (.int (0 : Int32))), (m1.1, m1.2.1, (xuL m1.2.2 56 0 (0 : Int64)))) : XRes) else some (.inl (some (.int (0 : Int32))), (m1.1, m1.2.1, (xuL m1.2.2 56 0 (1 : Int64)))))) = fun r2 m1 => some (.inl (some (.int (0 : Int32))), (m1.1, m1.2.1, (xuL m1.2.2 56 0 (if r2 = 0 then (0 : Int64) else 1)))) := funext fun r2 => funext fun m1 => ew r2 m1
  rw [ew2]
  obtain ⟨r, m, v, ν2, p1, p2, p3, p6, p4, p5⟩ := wi (hs := xhand (xmH 82) 4) (fM := yM_tick (xs (x + 1).toNatClampNeg)) hS.1 (fun h ν he => Q_tick he hS.2 hn ht (xs (x + 1).toNatClampNeg)) (fun k c h => by obtain ⟨rfl, rfl⟩ := h; exact ⟨rfl, by decide⟩) (fun o h => h) (fun r => if r = 0 then (0 : Int64) else 1)
  rw [p1, xbi_s]
  repeat rw [xgd_t g1]
  rw [p2, xbi_s, if_pos p3]
  by_cases h : r = 0
  · rw [if_neg (not_not_intro h), p6 h]
    by_cases h2 : v = 0
    · rw [if_pos h2, if_pos h2, lg_self, if_pos rfl]
      exact ⟨ν2, rfl, p4, p5⟩
    · rw [if_neg h2, if_neg h2, lg_self, if_pos rfl]
      exact ⟨ν2, rfl, p4, p5⟩
  · rw [if_pos h]
    exact ⟨ν2, rfl, p4, p5⟩
theorem bk_259 {L : Nat} {xs : Nat → Int32} {k55 : Int32 → XMu → XRes} {x : Int32} {S : XMu} {n : Nat} (G : Gx L x) (hS : Inv n S) (hn : n + 1500 ≤ 1000000) (ht : S.1 < 1024) : ∃ S', yW_law_b259 L xs k55 x S = k55 (x + 7) S' ∧ Inv (n + 1500) S' ∧ S'.1 ≤ S.1 + 1 := by
  obtain ⟨g1, g2, g3, g4, g5, g6⟩ := G
  unfold yW_law_b259 yW_preask yW_law_b1723
  repeat rw [xgd_t g1]
  repeat rw [xgd_t g2]
  repeat rw [xgd_t g3]
  repeat rw [xgd_t g4]
  obtain ⟨r, m, ν2, p1, p2, p3, p4, p5⟩ := wv (hs := xhand (xmH 87) 6) (fM := yM_preask (xs (x + 1).toNatClampNeg) (xs (x + 2).toNatClampNeg) (xs (x + 3).toNatClampNeg) (xs (x + 4).toNatClampNeg)) hS.1 (fun h ν he => Q_preask he hS.2 hn ht (xs (x + 1).toNatClampNeg) (xs (x + 2).toNatClampNeg) (xs (x + 3).toNatClampNeg) (xs (x + 4).toNatClampNeg)) (fun k c h => by rcases h with ⟨rfl, rfl⟩ | ⟨rfl, rfl⟩ <;> rfl) (fun o h => h)
  rw [p1, xbi_s]
  repeat rw [xgd_t g1]
  repeat rw [xgd_t g2]
  repeat rw [xgd_t g3]
  repeat rw [xgd_t g4]
  rw [p2, xbv_s, if_pos p3]
  exact ⟨ν2, rfl, p4, p5⟩
theorem bk_407 {L : Nat} {xs : Nat → Int32} {k55 : Int32 → XMu → XRes} {x : Int32} {S : XMu} {n : Nat} (G : Gx L x) (hS : Inv n S) (hn : n + 1500 ≤ 1000000) (ht : S.1 < 1024) : ∃ S', yW_law_b407 L xs k55 x S = k55 (x + 7) S' ∧ Inv (n + 1500) S' ∧ S'.1 ≤ S.1 + 1 := by
  obtain ⟨g1, g2, g3, g4, g5, g6⟩ := G
  unfold yW_law_b407 yW_ask yW_law_b1723
  repeat rw [xgd_t g1]
  repeat rw [xgd_t g2]
  repeat rw [xgd_t g3]
  repeat rw [xgd_t g4]
  obtain ⟨r, m, ν2, p1, p2, p3, p4, p5⟩ := wv (hs := xhand (xmH 92) 6) (fM := yM_ask (xs (x + 1).toNatClampNeg) (xs (x + 2).toNatClampNeg) (xs (x + 3).toNatClampNeg) (xs (x + 4).toNatClampNeg)) hS.1 (fun h ν he => Q_ask he hS.2 hn ht (xs (x + 1).toNatClampNeg) (xs (x + 2).toNatClampNeg) (xs (x + 3).toNatClampNeg) (xs (x + 4).toNatClampNeg)) (fun k c h => by rcases h with ⟨rfl, rfl⟩ | ⟨rfl, rfl⟩ <;> rfl) (fun o h => h)
  rw [p1, xbi_s]
  repeat rw [xgd_t g1]
  repeat rw [xgd_t g2]
  repeat rw [xgd_t g3]
  repeat rw [xgd_t g4]
  rw [p2, xbv_s, if_pos p3]
  exact ⟨ν2, rfl, p4, p5⟩
theorem bk_331 {L : Nat} {xs : Nat → Int32} {k55 : Int32 → XMu → XRes} {x : Int32} {S : XMu} {n : Nat} (G : Gx L x) (hS : Inv n S) (hn : n + 1500 ≤ 1000000) (ht : S.1 < 1024) : ∃ S', yW_law_b331 L xs k55 x S = k55 (x + 7) S' ∧ Inv (n + 1500) S' ∧ S'.1 ≤ S.1 + 1 := by
  obtain ⟨g1, g2, g3, g4, g5, g6⟩ := G
  unfold yW_law_b331 yW_law_b358 yW_preanswer yW_law_b1723
  repeat rw [xgd_t g1]
  repeat rw [xgd_t g2]
  repeat rw [xgd_t g3]
  have key : ∀ c : Int32, ∃ S', xbi (xcv (xhand (xmH 90) 4) (yC_preanswer (xs (x + 1).toNatClampNeg) (xs (x + 2).toNatClampNeg) c S) (fun m1 => some (.inl (some (.int (0 : Int32))), m1))) (fun r9 m8 => xbv (yM_preanswer (xs (x + 1).toNatClampNeg) (xs (x + 2).toNatClampNeg) c m8) (fun m10 => (if (yM_thrown m10) = r9 then k55 (x + (7 : Int32)) m10 else some (.inl (some (.int (0 : Int32))), m10)))) = k55 (x + 7) S' ∧ Inv (n + 1500) S' ∧ S'.1 ≤ S.1 + 1 := by
    intro c
    obtain ⟨r, m, ν2, p1, p2, p3, p4, p5⟩ := wv (hs := xhand (xmH 90) 4) (fM := yM_preanswer (xs (x + 1).toNatClampNeg) (xs (x + 2).toNatClampNeg) c) hS.1 (fun h ν he => Q_preanswer he hS.2 hn ht (xs (x + 1).toNatClampNeg) (xs (x + 2).toNatClampNeg) c) (fun k c h => by rcases h with ⟨rfl, rfl⟩ | ⟨rfl, rfl⟩ <;> rfl) (fun o h => h)
    rw [p1, xbi_s, p2, xbv_s, if_pos p3]
    exact ⟨ν2, rfl, p4, p5⟩
  have dr : ∀ (r : XRes) (X Y : Int32 → XMu → XRes), (∀ v m, X v m = Y v m) → xbi r X = xbi r Y := fun r X Y h => congrArg (xbi r) (funext fun v => funext fun m => h v m)
  by_cases h3 : (xs (x + 3).toNatClampNeg) = 0
  · rw [if_pos h3]
    obtain ⟨S', k1, k2⟩ := key 0
    refine ⟨S', ?_, k2⟩
    rw [← k1]
    refine dr _ _ _ fun v m => ?_
    repeat rw [xgd_t g1]
    repeat rw [xgd_t g2]
    repeat rw [xgd_t g3]
    rw [if_pos h3]
  · rw [if_neg h3]
    obtain ⟨S', k1, k2⟩ := key 1
    refine ⟨S', ?_, k2⟩
    rw [← k1]
    refine dr _ _ _ fun v m => ?_
    repeat rw [xgd_t g1]
    repeat rw [xgd_t g2]
    repeat rw [xgd_t g3]
    rw [if_neg h3]
theorem bk_479 {L : Nat} {xs : Nat → Int32} {k55 : Int32 → XMu → XRes} {x : Int32} {S : XMu} {n : Nat} (G : Gx L x) (hS : Inv n S) (hn : n + 1500 ≤ 1000000) (ht : S.1 < 1024) : ∃ S', yW_law_b479 L xs k55 x S = k55 (x + 7) S' ∧ Inv (n + 1500) S' ∧ S'.1 ≤ S.1 + 1 := by
  obtain ⟨g1, g2, g3, g4, g5, g6⟩ := G
  unfold yW_law_b479 yW_law_b506 yW_answer yW_law_b1723
  repeat rw [xgd_t g1]
  repeat rw [xgd_t g2]
  repeat rw [xgd_t g3]
  have key : ∀ c : Int32, ∃ S', xbi (xcv (xhand (xmH 94) 4) (yC_answer (xs (x + 1).toNatClampNeg) (xs (x + 2).toNatClampNeg) c S) (fun m1 => some (.inl (some (.int (0 : Int32))), m1))) (fun r9 m8 => xbv (yM_answer (xs (x + 1).toNatClampNeg) (xs (x + 2).toNatClampNeg) c m8) (fun m10 => (if (yM_thrown m10) = r9 then k55 (x + (7 : Int32)) m10 else some (.inl (some (.int (0 : Int32))), m10)))) = k55 (x + 7) S' ∧ Inv (n + 1500) S' ∧ S'.1 ≤ S.1 + 1 := by
    intro c
    obtain ⟨r, m, ν2, p1, p2, p3, p4, p5⟩ := wv (hs := xhand (xmH 94) 4) (fM := yM_answer (xs (x + 1).toNatClampNeg) (xs (x + 2).toNatClampNeg) c) hS.1 (fun h ν he => Q_answer he hS.2 hn ht (xs (x + 1).toNatClampNeg) (xs (x + 2).toNatClampNeg) c) (fun k c h => by rcases h with ⟨rfl, rfl⟩ | ⟨rfl, rfl⟩ <;> rfl) (fun o h => h)
    rw [p1, xbi_s, p2, xbv_s, if_pos p3]
    exact ⟨ν2, rfl, p4, p5⟩
  have dr : ∀ (r : XRes) (X Y : Int32 → XMu → XRes), (∀ v m, X v m = Y v m) → xbi r X = xbi r Y := fun r X Y h => congrArg (xbi r) (funext fun v => funext fun m => h v m)
  by_cases h3 : (xs (x + 3).toNatClampNeg) = 0
  · rw [if_pos h3]
    obtain ⟨S', k1, k2⟩ := key 0
    refine ⟨S', ?_, k2⟩
    rw [← k1]
    refine dr _ _ _ fun v m => ?_
    repeat rw [xgd_t g1]
    repeat rw [xgd_t g2]
    repeat rw [xgd_t g3]
    rw [if_pos h3]
  · rw [if_neg h3]
    obtain ⟨S', k1, k2⟩ := key 1
    refine ⟨S', ?_, k2⟩
    rw [← k1]
    refine dr _ _ _ fun v m => ?_
    repeat rw [xgd_t g1]
    repeat rw [xgd_t g2]
    repeat rw [xgd_t g3]
    rw [if_neg h3]
theorem bk_555 {L : Nat} {xs : Nat → Int32} {k55 : Int32 → XMu → XRes} {x : Int32} {S : XMu} {n : Nat} (G : Gx L x) (hS : Inv n S) (hn : n + 1500 ≤ 1000000) (ht : S.1 < 1024) : ∃ S', yW_law_b555 L xs k55 x S = k55 (x + 7) S' ∧ Inv (n + 1500) S' ∧ S'.1 ≤ S.1 + 1 := by
  obtain ⟨g1, g2, g3, g4, g5, g6⟩ := G
  unfold yW_law_b555 yW_entry yW_law_b1723
  repeat rw [xgd_t g1]
  repeat rw [xgd_t g2]
  repeat rw [xgd_t g3]
  obtain ⟨r, m, v, ν2, p1, p2, p3, p6, p4, p5⟩ := wi (hs := xhand (xmH 98) 7) (fM := yM_entry (xs (x + 1).toNatClampNeg) (xs (x + 2).toNatClampNeg) (xs (x + 3).toNatClampNeg)) hS.1 (fun h ν he => Q_entry he hS.2 hn ht (xs (x + 1).toNatClampNeg) (xs (x + 2).toNatClampNeg) (xs (x + 3).toNatClampNeg)) (fun k c h => by rcases h with ⟨rfl, rfl⟩ | ⟨rfl, rfl⟩ <;> exact ⟨rfl, by decide⟩) (fun o h => h) (fun r => r.toInt64)
  rw [p1, xbi_s]
  repeat rw [xgd_t g1]
  repeat rw [xgd_t g2]
  repeat rw [xgd_t g3]
  rw [p2, xbi_s, if_pos p3]
  by_cases h : r = 0
  · rw [if_neg (not_not_intro h), p6 h, lg_self, if_pos rfl]
    exact ⟨ν2, rfl, p4, p5⟩
  · rw [if_pos h]
    exact ⟨ν2, rfl, p4, p5⟩
theorem bk_635 {L : Nat} {xs : Nat → Int32} {k55 : Int32 → XMu → XRes} {x : Int32} {S : XMu} {n : Nat} (G : Gx L x) (hS : Inv n S) (hn : n + 1500 ≤ 1000000) (ht : S.1 < 1024) : ∃ S', yW_law_b635 L xs k55 x S = k55 (x + 7) S' ∧ Inv (n + 1500) S' ∧ S'.1 ≤ S.1 + 1 := by
  obtain ⟨g1, g2, g3, g4, g5, g6⟩ := G
  unfold yW_law_b635 yW_append yW_law_b1723
  repeat rw [xgd_t g1]
  repeat rw [xgd_t g2]
  repeat rw [xgd_t g3]
  repeat rw [xgd_t g4]
  repeat rw [xgd_t g5]
  repeat rw [xgd_t g6]
  obtain ⟨r, m, ν2, p1, p2, p3, p4, p5⟩ := wv (hs := xhand (xmH 112) 10) (fM := yM_append (xs (x + 1).toNatClampNeg) (xs (x + 2).toNatClampNeg) (xs (x + 3).toNatClampNeg) (xs (x + 4).toNatClampNeg) (xs (x + 5).toNatClampNeg) (xs (x + 6).toNatClampNeg)) hS.1 (fun h ν he => Q_append he hS.2 hn ht (xs (x + 1).toNatClampNeg) (xs (x + 2).toNatClampNeg) (xs (x + 3).toNatClampNeg) (xs (x + 4).toNatClampNeg) (xs (x + 5).toNatClampNeg) (xs (x + 6).toNatClampNeg)) (fun k c h => by rcases h with ⟨rfl, rfl⟩ | ⟨rfl, rfl⟩ <;> rfl) (fun o h => h)
  rw [p1, xbi_s]
  repeat rw [xgd_t g1]
  repeat rw [xgd_t g2]
  repeat rw [xgd_t g3]
  repeat rw [xgd_t g4]
  repeat rw [xgd_t g5]
  repeat rw [xgd_t g6]
  rw [p2, xbv_s, if_pos p3]
  exact ⟨ν2, rfl, p4, p5⟩
theorem bk_733 {L : Nat} {xs : Nat → Int32} {k55 : Int32 → XMu → XRes} {x : Int32} {S : XMu} {n : Nat} (G : Gx L x) (hS : Inv n S) (hn : n + 1500 ≤ 1000000) (ht : S.1 < 1024) : ∃ S', yW_law_b733 L xs k55 x S = k55 (x + 7) S' ∧ Inv (n + 1500) S' ∧ S'.1 ≤ S.1 + 1 := by
  obtain ⟨g1, g2, g3, g4, g5, g6⟩ := G
  unfold yW_law_b733 yW_law_b760 yW_law_b804 yW_appended yW_law_b1723
  repeat rw [xgd_t g1]
  repeat rw [xgd_t g2]
  repeat rw [xgd_t g3]
  repeat rw [xgd_t g4]
  repeat rw [xgd_t g5]
  have key : ∀ c : Int32, ∃ S', xbi (xcv (xhand (xmH 119) 8) (yC_appended (xs (x + 1).toNatClampNeg) (xs (x + 2).toNatClampNeg) c (xs (x + 4).toNatClampNeg) (xs (x + 5).toNatClampNeg) S) (fun m1 => some (.inl (some (.int (0 : Int32))), m1))) (fun r9 m8 => xbv (yM_appended (xs (x + 1).toNatClampNeg) (xs (x + 2).toNatClampNeg) c (xs (x + 4).toNatClampNeg) (xs (x + 5).toNatClampNeg) m8) (fun m10 => (if (yM_thrown m10) = r9 then k55 (x + (7 : Int32)) m10 else some (.inl (some (.int (0 : Int32))), m10)))) = k55 (x + 7) S' ∧ Inv (n + 1500) S' ∧ S'.1 ≤ S.1 + 1 := by
    intro c
    obtain ⟨r, m, ν2, p1, p2, p3, p4, p5⟩ := wv (hs := xhand (xmH 119) 8) (fM := yM_appended (xs (x + 1).toNatClampNeg) (xs (x + 2).toNatClampNeg) c (xs (x + 4).toNatClampNeg) (xs (x + 5).toNatClampNeg)) hS.1 (fun h ν he => Q_appended he hS.2 hn ht (xs (x + 1).toNatClampNeg) (xs (x + 2).toNatClampNeg) c (xs (x + 4).toNatClampNeg) (xs (x + 5).toNatClampNeg)) (fun k c h => by rcases h with ⟨rfl, rfl⟩ | ⟨rfl, rfl⟩ <;> rfl) (fun o h => h)
    rw [p1, xbi_s, p2, xbv_s, if_pos p3]
    exact ⟨ν2, rfl, p4, p5⟩
  have dr : ∀ (r : XRes) (X Y : Int32 → XMu → XRes), (∀ v m, X v m = Y v m) → xbi r X = xbi r Y := fun r X Y h => congrArg (xbi r) (funext fun v => funext fun m => h v m)
  by_cases h3 : (xs (x + 3).toNatClampNeg) = 0
  · rw [if_pos h3]
    obtain ⟨S', k1, k2⟩ := key 0
    refine ⟨S', ?_, k2⟩
    rw [← k1]
    refine dr _ _ _ fun v m => ?_
    repeat rw [xgd_t g1]
    repeat rw [xgd_t g2]
    repeat rw [xgd_t g3]
    rw [if_pos h3]
    repeat rw [xgd_t g4]
    repeat rw [xgd_t g5]
  · rw [if_neg h3]
    obtain ⟨S', k1, k2⟩ := key 1
    refine ⟨S', ?_, k2⟩
    rw [← k1]
    refine dr _ _ _ fun v m => ?_
    repeat rw [xgd_t g1]
    repeat rw [xgd_t g2]
    repeat rw [xgd_t g3]
    rw [if_neg h3]
    repeat rw [xgd_t g4]
    repeat rw [xgd_t g5]
theorem bk_833 {L : Nat} {xs : Nat → Int32} {k55 : Int32 → XMu → XRes} {x : Int32} {S : XMu} {n : Nat} (G : Gx L x) (hS : Inv n S) (hn : n + 1500 ≤ 1000000) (ht : S.1 < 1024) : ∃ S', yW_law_b833 L xs k55 x S = k55 (x + 7) S' ∧ Inv (n + 1500) S' ∧ S'.1 ≤ S.1 + 1 := by
  obtain ⟨g1, g2, g3, g4, g5, g6⟩ := G
  unfold yW_law_b833 yW_describe yW_law_b1723
  repeat rw [xgd_t g1]
  repeat rw [xgd_t g2]
  repeat rw [xgd_t g3]
  repeat rw [xgd_t g4]
  obtain ⟨r, m, ν2, p1, p2, p3, p4, p5⟩ := wv (hs := xhand (xmH 122) 6) (fM := yM_describe (xs (x + 1).toNatClampNeg) (xs (x + 2).toNatClampNeg) (xs (x + 3).toNatClampNeg) (xs (x + 4).toNatClampNeg)) hS.1 (fun h ν he => Q_describe he hS.2 hn ht (xs (x + 1).toNatClampNeg) (xs (x + 2).toNatClampNeg) (xs (x + 3).toNatClampNeg) (xs (x + 4).toNatClampNeg)) (fun k c h => by obtain ⟨rfl, rfl⟩ := h; rfl) (fun o h => h)
  rw [p1, xbi_s]
  repeat rw [xgd_t g1]
  repeat rw [xgd_t g2]
  repeat rw [xgd_t g3]
  repeat rw [xgd_t g4]
  rw [p2, xbv_s, if_pos p3]
  exact ⟨ν2, rfl, p4, p5⟩
theorem bk_905 {L : Nat} {xs : Nat → Int32} {k55 : Int32 → XMu → XRes} {x : Int32} {S : XMu} {n : Nat} (G : Gx L x) (hS : Inv n S) (hn : n + 1500 ≤ 1000000) (ht : S.1 < 1024) : ∃ S', yW_law_b905 L xs k55 x S = k55 (x + 7) S' ∧ Inv (n + 1500) S' ∧ S'.1 ≤ S.1 + 1 := by
  obtain ⟨g1, g2, g3, g4, g5, g6⟩ := G
  unfold yW_law_b905 yW_piece yW_law_b1723
  repeat rw [xgd_t g1]
  repeat rw [xgd_t g2]
  repeat rw [xgd_t g3]
  repeat rw [xgd_t g4]
  repeat rw [xgd_t g5]
  obtain ⟨r, m, ν2, p1, p2, p3, p4, p5⟩ := wv (hs := xhand (xmH 127) 8) (fM := yM_piece (xs (x + 1).toNatClampNeg) (xs (x + 2).toNatClampNeg) (xs (x + 3).toNatClampNeg) (xs (x + 4).toNatClampNeg) (xs (x + 5).toNatClampNeg)) hS.1 (fun h ν he => Q_piece he hS.2 hn ht (xs (x + 1).toNatClampNeg) (xs (x + 2).toNatClampNeg) (xs (x + 3).toNatClampNeg) (xs (x + 4).toNatClampNeg) (xs (x + 5).toNatClampNeg)) (fun k c h => by rcases h with ⟨rfl, rfl⟩ | ⟨rfl, rfl⟩ <;> rfl) (fun o h => h)
  rw [p1, xbi_s]
  repeat rw [xgd_t g1]
  repeat rw [xgd_t g2]
  repeat rw [xgd_t g3]
  repeat rw [xgd_t g4]
  repeat rw [xgd_t g5]
  rw [p2, xbv_s, if_pos p3]
  exact ⟨ν2, rfl, p4, p5⟩
theorem bk_989 {L : Nat} {xs : Nat → Int32} {k55 : Int32 → XMu → XRes} {x : Int32} {S : XMu} {n : Nat} (G : Gx L x) (hS : Inv n S) (hn : n + 1500 ≤ 1000000) (ht : S.1 < 1024) : ∃ S', yW_law_b989 L xs k55 x S = k55 (x + 7) S' ∧ Inv (n + 1500) S' ∧ S'.1 ≤ S.1 + 1 := by
  obtain ⟨g1, g2, g3, g4, g5, g6⟩ := G
  unfold yW_law_b989 yW_stored yW_law_b1723
  repeat rw [xgd_t g1]
  repeat rw [xgd_t g2]
  repeat rw [xgd_t g3]
  repeat rw [xgd_t g4]
  repeat rw [xgd_t g5]
  obtain ⟨r, m, ν2, p1, p2, p3, p4, p5⟩ := wv (hs := xhand (xmH 130) 8) (fM := yM_stored (xs (x + 1).toNatClampNeg) (xs (x + 2).toNatClampNeg) (xs (x + 3).toNatClampNeg) (xs (x + 4).toNatClampNeg) (xs (x + 5).toNatClampNeg)) hS.1 (fun h ν he => Q_stored he hS.2 hn ht (xs (x + 1).toNatClampNeg) (xs (x + 2).toNatClampNeg) (xs (x + 3).toNatClampNeg) (xs (x + 4).toNatClampNeg) (xs (x + 5).toNatClampNeg)) (fun k c h => by rcases h with ⟨rfl, rfl⟩ | ⟨rfl, rfl⟩ <;> rfl) (fun o h => h)
  rw [p1, xbi_s]
  repeat rw [xgd_t g1]
  repeat rw [xgd_t g2]
  repeat rw [xgd_t g3]
  repeat rw [xgd_t g4]
  repeat rw [xgd_t g5]
  rw [p2, xbv_s, if_pos p3]
  exact ⟨ν2, rfl, p4, p5⟩
theorem bk_1073 {L : Nat} {xs : Nat → Int32} {k55 : Int32 → XMu → XRes} {x : Int32} {S : XMu} {n : Nat} (G : Gx L x) (hS : Inv n S) (hn : n + 1500 ≤ 1000000) (ht : S.1 < 1024) : ∃ S', yW_law_b1073 L xs k55 x S = k55 (x + 7) S' ∧ Inv (n + 1500) S' ∧ S'.1 ≤ S.1 + 1 := by
  obtain ⟨g1, g2, g3, g4, g5, g6⟩ := G
  unfold yW_law_b1073 yW_go yW_law_b1723
  repeat rw [xgd_t g1]
  repeat rw [xgd_t g2]
  obtain ⟨r, m, ν2, p1, p2, p3, p4, p5⟩ := wv (hs := xhand (xmH 132) 3) (fM := yM_go (xs (x + 1).toNatClampNeg) (xs (x + 2).toNatClampNeg)) hS.1 (fun h ν he => Q_go he hS.2 hn ht (xs (x + 1).toNatClampNeg) (xs (x + 2).toNatClampNeg)) (fun k c h => by rcases h with ⟨rfl, rfl⟩ | ⟨rfl, rfl⟩ <;> rfl) (fun o h => h)
  rw [p1, xbi_s]
  repeat rw [xgd_t g1]
  repeat rw [xgd_t g2]
  rw [p2, xbv_s, if_pos p3]
  exact ⟨ν2, rfl, p4, p5⟩
theorem bk_1121 {L : Nat} {xs : Nat → Int32} {k55 : Int32 → XMu → XRes} {x : Int32} {S : XMu} {n : Nat} (G : Gx L x) (hS : Inv n S) (hn : n + 1500 ≤ 1000000) (ht : S.1 < 1024) : ∃ S', yW_law_b1121 L xs k55 x S = k55 (x + 7) S' ∧ Inv (n + 1500) S' ∧ S'.1 ≤ S.1 + 1 := by
  obtain ⟨g1, g2, g3, g4, g5, g6⟩ := G
  unfold yW_law_b1121 yW_law_b1723
  obtain ⟨v, m, ν2, p1, p2, p4, p5⟩ := wn (P := yC_sync  S) (fM := yM_sync ) hS.1 (fun h ν he => Q_sync he hS.2 hn )
  rw [p1, xbi_s]
  rw [p2, xbi_s, if_pos rfl]
  exact ⟨ν2, rfl, p4, p5⟩
theorem bk_1134 {L : Nat} {xs : Nat → Int32} {k55 : Int32 → XMu → XRes} {x : Int32} {S : XMu} {n : Nat} (G : Gx L x) (hS : Inv n S) (hn : n + 1500 ≤ 1000000) (ht : S.1 < 1024) : ∃ S', yW_law_b1134 L xs k55 x S = k55 (x + 7) S' ∧ Inv (n + 1500) S' ∧ S'.1 ≤ S.1 + 1 := by
  obtain ⟨g1, g2, g3, g4, g5, g6⟩ := G
  unfold yW_law_b1134 yW_law_b1723
  repeat rw [xgd_t g1]
  obtain ⟨v, m, ν2, p1, p2, p4, p5⟩ := wn (P := yC_command (xs (x + 1).toNatClampNeg) S) (fM := yM_command (xs (x + 1).toNatClampNeg)) hS.1 (fun h ν he => Q_command he hS.2 hn (xs (x + 1).toNatClampNeg))
  rw [p1, xbi_s]
  repeat rw [xgd_t g1]
  rw [p2, xbi_s, if_pos rfl]
  exact ⟨ν2, rfl, p4, p5⟩
theorem bk_1159 {L : Nat} {xs : Nat → Int32} {k55 : Int32 → XMu → XRes} {x : Int32} {S : XMu} {n : Nat} (G : Gx L x) (hS : Inv n S) (hn : n + 1500 ≤ 1000000) (ht : S.1 < 1024) : ∃ S', yW_law_b1159 L xs k55 x S = k55 (x + 7) S' ∧ Inv (n + 1500) S' ∧ S'.1 ≤ S.1 + 1 := by
  obtain ⟨g1, g2, g3, g4, g5, g6⟩ := G
  unfold yW_law_b1159 yW_law_b1723
  obtain ⟨v, m, ν2, p1, p2, p4, p5⟩ := wn (P := yC_read  S) (fM := yM_read ) hS.1 (fun h ν he => Q_read he hS.2 hn )
  rw [p1, xbi_s]
  rw [p2, xbi_s, if_pos rfl]
  exact ⟨ν2, rfl, p4, p5⟩
theorem bk_1172 {L : Nat} {xs : Nat → Int32} {k55 : Int32 → XMu → XRes} {x : Int32} {S : XMu} {n : Nat} (G : Gx L x) (hS : Inv n S) (hn : n + 1500 ≤ 1000000) (ht : S.1 < 1024) : ∃ S', yW_law_b1172 L xs k55 x S = k55 (x + 7) S' ∧ Inv (n + 1500) S' ∧ S'.1 ≤ S.1 + 1 := by
  obtain ⟨g1, g2, g3, g4, g5, g6⟩ := G
  unfold yW_law_b1172 yW_law_b1723
  repeat rw [xgd_t g1]
  obtain ⟨v, m, ν2, p1, p2, p4, p5⟩ := wn (P := yC_members (xs (x + 1).toNatClampNeg) S) (fM := yM_members (xs (x + 1).toNatClampNeg)) hS.1 (fun h ν he => Q_members he hS.2 hn (xs (x + 1).toNatClampNeg))
  rw [p1, xbi_s]
  repeat rw [xgd_t g1]
  rw [p2, xbi_s, if_pos rfl]
  exact ⟨ν2, rfl, p4, p5⟩
theorem bk_1197 {L : Nat} {xs : Nat → Int32} {k55 : Int32 → XMu → XRes} {x : Int32} {S : XMu} {n : Nat} (G : Gx L x) (hS : Inv n S) (hn : n + 1500 ≤ 1000000) (ht : S.1 < 1024) : ∃ S', yW_law_b1197 L xs k55 x S = k55 (x + 7) S' ∧ Inv (n + 1500) S' ∧ S'.1 ≤ S.1 + 1 := by
  obtain ⟨g1, g2, g3, g4, g5, g6⟩ := G
  unfold yW_law_b1197 yW_law_b1723
  repeat rw [xgd_t g1]
  obtain ⟨v, m, ν2, p1, p2, p4, p5⟩ := wn (P := yC_learners (xs (x + 1).toNatClampNeg) S) (fM := yM_learners (xs (x + 1).toNatClampNeg)) hS.1 (fun h ν he => Q_learners he hS.2 hn (xs (x + 1).toNatClampNeg))
  rw [p1, xbi_s]
  repeat rw [xgd_t g1]
  rw [p2, xbi_s, if_pos rfl]
  exact ⟨ν2, rfl, p4, p5⟩
theorem bk_1222 {L : Nat} {xs : Nat → Int32} {k55 : Int32 → XMu → XRes} {x : Int32} {S : XMu} {n : Nat} (G : Gx L x) (hS : Inv n S) (hn : n + 1500 ≤ 1000000) (ht : S.1 < 1024) : ∃ S', yW_law_b1222 L xs k55 x S = k55 (x + 7) S' ∧ Inv (n + 1500) S' ∧ S'.1 ≤ S.1 + 1 := by
  obtain ⟨g1, g2, g3, g4, g5, g6⟩ := G
  unfold yW_law_b1222 yW_law_b1723
  repeat rw [xgd_t g1]
  obtain ⟨v, m, ν2, p1, p2, p4, p5⟩ := wn (P := yC_hand (xs (x + 1).toNatClampNeg) S) (fM := yM_hand (xs (x + 1).toNatClampNeg)) hS.1 (fun h ν he => Q_hand he hS.2 hn (xs (x + 1).toNatClampNeg))
  rw [p1, xbi_s]
  repeat rw [xgd_t g1]
  rw [p2, xbi_s, if_pos rfl]
  exact ⟨ν2, rfl, p4, p5⟩
theorem bk_1247 {L : Nat} {xs : Nat → Int32} {k55 : Int32 → XMu → XRes} {x : Int32} {S : XMu} {n : Nat} (G : Gx L x) (hS : Inv n S) (hn : n + 1500 ≤ 1000000) (ht : S.1 < 1024) : ∃ S', yW_law_b1247 L xs k55 x S = k55 (x + 7) S' ∧ Inv (n + 1500) S' ∧ S'.1 ≤ S.1 + 1 := by
  obtain ⟨g1, g2, g3, g4, g5, g6⟩ := G
  unfold yW_law_b1247 yW_law_b1723
  repeat rw [xgd_t g1]
  obtain ⟨v, m, ν2, p1, p2, p4, p5⟩ := wn (P := yC_compact (xs (x + 1).toNatClampNeg) S) (fM := yM_compact (xs (x + 1).toNatClampNeg)) hS.1 (fun h ν he => Q_compact he hS.2 hn (xs (x + 1).toNatClampNeg))
  rw [p1, xbi_s]
  repeat rw [xgd_t g1]
  rw [p2, xbi_s, if_pos rfl]
  exact ⟨ν2, rfl, p4, p5⟩
theorem bk_1272 {L : Nat} {xs : Nat → Int32} {k55 : Int32 → XMu → XRes} {x : Int32} {S : XMu} {n : Nat} (G : Gx L x) (hS : Inv n S) (hn : n + 1500 ≤ 1000000) (ht : S.1 < 1024) : ∃ S', yW_law_b1272 L xs k55 x S = k55 (x + 7) S' ∧ Inv (n + 1500) S' ∧ S'.1 ≤ S.1 + 1 := by
  obtain ⟨g1, g2, g3, g4, g5, g6⟩ := G
  unfold yW_law_b1272 yW_law_b1723
  obtain ⟨m, ν2, p1, p2, p4, p5⟩ := wf (fM := yM_restart) hS.1 (fun h ν he => Q_restart he hS.2 hn)
  rw [p1, xbv_s, p2, xbv_s]
  exact ⟨ν2, rfl, p4, p5⟩
theorem bk_1283 {L : Nat} {xs : Nat → Int32} {k55 : Int32 → XMu → XRes} {x : Int32} {S : XMu} {n : Nat} (G : Gx L x) (hS : Inv n S) (hn : n + 1500 ≤ 1000000) (ht : S.1 < 1024) : ∃ S', yW_law_b1283 L xs k55 x S = k55 (x + 7) S' ∧ Inv (n + 1500) S' ∧ S'.1 ≤ S.1 + 1 := by
  obtain ⟨g1, g2, g3, g4, g5, g6⟩ := G
  unfold yW_law_b1283 yW_state yW_law_b1723
  repeat rw [xgd_t g1]
  obtain ⟨r, m, v, ν2, p1, p2, p3, p6, p4, p5⟩ := wi (hs := xhand (xmH 134) 4) (fM := yM_state (xs (x + 1).toNatClampNeg)) hS.1 (fun h ν he => Q_state he hS.2 hn ht (xs (x + 1).toNatClampNeg)) (fun k c h => by obtain ⟨rfl, rfl⟩ := h; exact ⟨rfl, by decide⟩) (fun o h => h) (fun r => r.toInt64)
  rw [p1, xbi_s]
  repeat rw [xgd_t g1]
  rw [p2, xbi_s, if_pos p3]
  by_cases h : r = 0
  · rw [if_neg (not_not_intro h), p6 h, lg_self, if_pos rfl]
    exact ⟨ν2, rfl, p4, p5⟩
  · rw [if_pos h]
    exact ⟨ν2, rfl, p4, p5⟩
theorem bk_1339 {L : Nat} {xs : Nat → Int32} {k55 : Int32 → XMu → XRes} {x : Int32} {S : XMu} {n : Nat} (G : Gx L x) (hS : Inv n S) (hn : n + 1500 ≤ 1000000) (ht : S.1 < 1024) : ∃ S', yW_law_b1339 L xs k55 x S = k55 (x + 7) S' ∧ Inv (n + 1500) S' ∧ S'.1 ≤ S.1 + 1 := by
  obtain ⟨g1, g2, g3, g4, g5, g6⟩ := G
  unfold yW_law_b1339 yW_log yW_law_b1723
  repeat rw [xgd_t g1]
  repeat rw [xgd_t g2]
  obtain ⟨r, m, v, ν2, p1, p2, p3, p6, p4, p5⟩ := wi (hs := xhand (xmH 136) 5) (fM := yM_log (xs (x + 1).toNatClampNeg) (xs (x + 2).toNatClampNeg)) hS.1 (fun h ν he => Q_log he hS.2 hn ht (xs (x + 1).toNatClampNeg) (xs (x + 2).toNatClampNeg)) (fun k c h => by obtain ⟨rfl, rfl⟩ := h; exact ⟨rfl, by decide⟩) (fun o h => h) (fun r => r.toInt64)
  rw [p1, xbi_s]
  repeat rw [xgd_t g1]
  repeat rw [xgd_t g2]
  rw [p2, xbi_s, if_pos p3]
  by_cases h : r = 0
  · rw [if_neg (not_not_intro h), p6 h, lg_self, if_pos rfl]
    exact ⟨ν2, rfl, p4, p5⟩
  · rw [if_pos h]
    exact ⟨ν2, rfl, p4, p5⟩
theorem bk_1407 {L : Nat} {xs : Nat → Int32} {k55 : Int32 → XMu → XRes} {x : Int32} {S : XMu} {n : Nat} (G : Gx L x) (hS : Inv n S) (hn : n + 1500 ≤ 1000000) (ht : S.1 < 1024) : ∃ S', yW_law_b1407 L xs k55 x S = k55 (x + 7) S' ∧ Inv (n + 1500) S' ∧ S'.1 ≤ S.1 + 1 := by
  obtain ⟨g1, g2, g3, g4, g5, g6⟩ := G
  unfold yW_law_b1407 yW_peer yW_law_b1723
  repeat rw [xgd_t g1]
  repeat rw [xgd_t g2]
  obtain ⟨r, m, v, ν2, p1, p2, p3, p6, p4, p5⟩ := wi (hs := xhand (xmH 138) 5) (fM := yM_peer (xs (x + 1).toNatClampNeg) (xs (x + 2).toNatClampNeg)) hS.1 (fun h ν he => Q_peer he hS.2 hn ht (xs (x + 1).toNatClampNeg) (xs (x + 2).toNatClampNeg)) (fun k c h => by obtain ⟨rfl, rfl⟩ := h; exact ⟨rfl, by decide⟩) (fun o h => h) (fun r => r.toInt64)
  rw [p1, xbi_s]
  repeat rw [xgd_t g1]
  repeat rw [xgd_t g2]
  rw [p2, xbi_s, if_pos p3]
  by_cases h : r = 0
  · rw [if_neg (not_not_intro h), p6 h, lg_self, if_pos rfl]
    exact ⟨ν2, rfl, p4, p5⟩
  · rw [if_pos h]
    exact ⟨ν2, rfl, p4, p5⟩
theorem bk_1475 {L : Nat} {xs : Nat → Int32} {k55 : Int32 → XMu → XRes} {x : Int32} {S : XMu} {n : Nat} (G : Gx L x) (hS : Inv n S) (hn : n + 1500 ≤ 1000000) (ht : S.1 < 1024) : ∃ S', yW_law_b1475 L xs k55 x S = k55 (x + 7) S' ∧ Inv (n + 1500) S' ∧ S'.1 ≤ S.1 + 1 := by
  obtain ⟨g1, g2, g3, g4, g5, g6⟩ := G
  unfold yW_law_b1475 yW_letter yW_law_b1723
  repeat rw [xgd_t g1]
  repeat rw [xgd_t g2]
  obtain ⟨r, m, v, ν2, p1, p2, p3, p6, p4, p5⟩ := wi (hs := xhand (xmH 142) 5) (fM := yM_letter (xs (x + 1).toNatClampNeg) (xs (x + 2).toNatClampNeg)) hS.1 (fun h ν he => Q_letter he hS.2 hn ht (xs (x + 1).toNatClampNeg) (xs (x + 2).toNatClampNeg)) (fun k c h => by obtain ⟨rfl, rfl⟩ := h; exact ⟨rfl, by decide⟩) (fun o h => h) (fun r => r.toInt64)
  rw [p1, xbi_s]
  repeat rw [xgd_t g1]
  repeat rw [xgd_t g2]
  rw [p2, xbi_s, if_pos p3]
  by_cases h : r = 0
  · rw [if_neg (not_not_intro h), p6 h, lg_self, if_pos rfl]
    exact ⟨ν2, rfl, p4, p5⟩
  · rw [if_pos h]
    exact ⟨ν2, rfl, p4, p5⟩
theorem bk_1543 {L : Nat} {xs : Nat → Int32} {k55 : Int32 → XMu → XRes} {x : Int32} {S : XMu} {n : Nat} (G : Gx L x) (hS : Inv n S) (hn : n + 1500 ≤ 1000000) (ht : S.1 < 1024) : ∃ S', yW_law_b1543 L xs k55 x S = k55 (x + 7) S' ∧ Inv (n + 1500) S' ∧ S'.1 ≤ S.1 + 1 := by
  obtain ⟨g1, g2, g3, g4, g5, g6⟩ := G
  unfold yW_law_b1543 yW_done yW_law_b1723
  repeat rw [xgd_t g1]
  repeat rw [xgd_t g2]
  obtain ⟨r, m, v, ν2, p1, p2, p3, p6, p4, p5⟩ := wi (hs := xhand (xmH 147) 5) (fM := yM_done (xs (x + 1).toNatClampNeg) (xs (x + 2).toNatClampNeg)) hS.1 (fun h ν he => Q_done he hS.2 hn ht (xs (x + 1).toNatClampNeg) (xs (x + 2).toNatClampNeg)) (fun k c h => by obtain ⟨rfl, rfl⟩ := h; exact ⟨rfl, by decide⟩) (fun o h => h) (fun r => r.toInt64)
  rw [p1, xbi_s]
  repeat rw [xgd_t g1]
  repeat rw [xgd_t g2]
  rw [p2, xbi_s, if_pos p3]
  by_cases h : r = 0
  · rw [if_neg (not_not_intro h), p6 h, lg_self, if_pos rfl]
    exact ⟨ν2, rfl, p4, p5⟩
  · rw [if_pos h]
    exact ⟨ν2, rfl, p4, p5⟩
theorem bk_1611 {L : Nat} {xs : Nat → Int32} {k55 : Int32 → XMu → XRes} {x : Int32} {S : XMu} {n : Nat} (G : Gx L x) (hS : Inv n S) (hn : n + 1500 ≤ 1000000) (ht : S.1 < 1024) : ∃ S', yW_law_b1611 L xs k55 x S = k55 (x + 7) S' ∧ Inv (n + 1500) S' ∧ S'.1 ≤ S.1 + 1 := by
  obtain ⟨g1, g2, g3, g4, g5, g6⟩ := G
  unfold yW_law_b1611 yW_call yW_law_b1723
  repeat rw [xgd_t g1]
  obtain ⟨r, m, v, ν2, p1, p2, p3, p6, p4, p5⟩ := wi (hs := xhand (xmH 152) 4) (fM := yM_call (xs (x + 1).toNatClampNeg)) hS.1 (fun h ν he => Q_call he hS.2 hn ht (xs (x + 1).toNatClampNeg)) (fun k c h => by obtain ⟨rfl, rfl⟩ := h; exact ⟨rfl, by decide⟩) (fun o h => h) (fun r => r.toInt64)
  rw [p1, xbi_s]
  repeat rw [xgd_t g1]
  rw [p2, xbi_s, if_pos p3]
  by_cases h : r = 0
  · rw [if_neg (not_not_intro h), p6 h, lg_self, if_pos rfl]
    exact ⟨ν2, rfl, p4, p5⟩
  · rw [if_pos h]
    exact ⟨ν2, rfl, p4, p5⟩
theorem bk_1667 {L : Nat} {xs : Nat → Int32} {k55 : Int32 → XMu → XRes} {x : Int32} {S : XMu} {n : Nat} (G : Gx L x) (hS : Inv n S) (hn : n + 1500 ≤ 1000000) (ht : S.1 < 1024) : ∃ S', yW_law_b1667 L xs k55 x S = k55 (x + 7) S' ∧ Inv (n + 1500) S' ∧ S'.1 ≤ S.1 + 1 := by
  obtain ⟨g1, g2, g3, g4, g5, g6⟩ := G
  unfold yW_law_b1667 yW_callFor yW_law_b1723
  repeat rw [xgd_t g1]
  obtain ⟨r, m, v, ν2, p1, p2, p3, p6, p4, p5⟩ := wi (hs := xhand (xmH 155) 4) (fM := yM_callFor (xs (x + 1).toNatClampNeg)) hS.1 (fun h ν he => Q_callFor he hS.2 hn ht (xs (x + 1).toNatClampNeg)) (fun k c h => by obtain ⟨rfl, rfl⟩ := h; exact ⟨rfl, by decide⟩) (fun o h => h) (fun r => r.toInt64)
  rw [p1, xbi_s]
  repeat rw [xgd_t g1]
  rw [p2, xbi_s, if_pos p3]
  by_cases h : r = 0
  · rw [if_neg (not_not_intro h), p6 h, lg_self, if_pos rfl]
    exact ⟨ν2, rfl, p4, p5⟩
  · rw [if_pos h]
    exact ⟨ν2, rfl, p4, p5⟩
theorem bk_all {L : Nat} {xs : Nat → Int32} {k55 : Int32 → XMu → XRes} {x : Int32} {S : XMu} {n : Nat} (hx : ¬ Int32.ofNat L - 7 < x) (h0 : xin x L = true) (G : Gx L x) (hS : Inv n S) (hn : n + 1500 ≤ 1000000) (ht : S.1 < 1024) : ∃ S', yW_law_b55 L xs k55 x S = k55 (x + 7) S' ∧ Inv (n + 1500) S' ∧ S'.1 ≤ S.1 + 1 := by
  unfold yW_law_b55
  rw [if_neg hx, xgd_t h0]
  by_cases c0 : xs x.toNatClampNeg &&& 31 = 0
  · rw [if_pos c0]; exact bk_196 G hS hn ht
  rw [if_neg c0]
  by_cases c1 : xs x.toNatClampNeg &&& 31 = 1
  · rw [if_pos c1]; exact bk_259 G hS hn ht
  rw [if_neg c1]
  by_cases c2 : xs x.toNatClampNeg &&& 31 = 2
  · rw [if_pos c2]; exact bk_331 G hS hn ht
  rw [if_neg c2]
  by_cases c3 : xs x.toNatClampNeg &&& 31 = 3
  · rw [if_pos c3]; exact bk_407 G hS hn ht
  rw [if_neg c3]
  by_cases c4 : xs x.toNatClampNeg &&& 31 = 4
  · rw [if_pos c4]; exact bk_479 G hS hn ht
  rw [if_neg c4]
  by_cases c5 : xs x.toNatClampNeg &&& 31 = 5
  · rw [if_pos c5]; exact bk_555 G hS hn ht
  rw [if_neg c5]
  by_cases c6 : xs x.toNatClampNeg &&& 31 = 6
  · rw [if_pos c6]; exact bk_635 G hS hn ht
  rw [if_neg c6]
  by_cases c7 : xs x.toNatClampNeg &&& 31 = 7
  · rw [if_pos c7]; exact bk_733 G hS hn ht
  rw [if_neg c7]
  by_cases c8 : xs x.toNatClampNeg &&& 31 = 8
  · rw [if_pos c8]; exact bk_833 G hS hn ht
  rw [if_neg c8]
  by_cases c9 : xs x.toNatClampNeg &&& 31 = 9
  · rw [if_pos c9]; exact bk_905 G hS hn ht
  rw [if_neg c9]
  by_cases c10 : xs x.toNatClampNeg &&& 31 = 10
  · rw [if_pos c10]; exact bk_989 G hS hn ht
  rw [if_neg c10]
  by_cases c11 : xs x.toNatClampNeg &&& 31 = 11
  · rw [if_pos c11]; exact bk_1073 G hS hn ht
  rw [if_neg c11]
  by_cases c12 : xs x.toNatClampNeg &&& 31 = 12
  · rw [if_pos c12]; exact bk_1121 G hS hn ht
  rw [if_neg c12]
  by_cases c13 : xs x.toNatClampNeg &&& 31 = 13
  · rw [if_pos c13]; exact bk_1134 G hS hn ht
  rw [if_neg c13]
  by_cases c14 : xs x.toNatClampNeg &&& 31 = 14
  · rw [if_pos c14]; exact bk_1159 G hS hn ht
  rw [if_neg c14]
  by_cases c15 : xs x.toNatClampNeg &&& 31 = 15
  · rw [if_pos c15]; exact bk_1172 G hS hn ht
  rw [if_neg c15]
  by_cases c16 : xs x.toNatClampNeg &&& 31 = 16
  · rw [if_pos c16]; exact bk_1197 G hS hn ht
  rw [if_neg c16]
  by_cases c17 : xs x.toNatClampNeg &&& 31 = 17
  · rw [if_pos c17]; exact bk_1222 G hS hn ht
  rw [if_neg c17]
  by_cases c18 : xs x.toNatClampNeg &&& 31 = 18
  · rw [if_pos c18]; exact bk_1247 G hS hn ht
  rw [if_neg c18]
  by_cases c19 : xs x.toNatClampNeg &&& 31 = 19
  · rw [if_pos c19]; exact bk_1272 G hS hn ht
  rw [if_neg c19]
  by_cases c20 : xs x.toNatClampNeg &&& 31 = 20
  · rw [if_pos c20]; exact bk_1283 G hS hn ht
  rw [if_neg c20]
  by_cases c21 : xs x.toNatClampNeg &&& 31 = 21
  · rw [if_pos c21]; exact bk_1339 G hS hn ht
  rw [if_neg c21]
  by_cases c22 : xs x.toNatClampNeg &&& 31 = 22
  · rw [if_pos c22]; exact bk_1407 G hS hn ht
  rw [if_neg c22]
  by_cases c23 : xs x.toNatClampNeg &&& 31 = 23
  · rw [if_pos c23]; exact bk_1475 G hS hn ht
  rw [if_neg c23]
  by_cases c24 : xs x.toNatClampNeg &&& 31 = 24
  · rw [if_pos c24]; exact bk_1543 G hS hn ht
  rw [if_neg c24]
  by_cases c25 : xs x.toNatClampNeg &&& 31 = 25
  · rw [if_pos c25]; exact bk_1611 G hS hn ht
  rw [if_neg c25]
  by_cases c26 : xs x.toNatClampNeg &&& 31 = 26
  · rw [if_pos c26]; exact bk_1667 G hS hn ht
  rw [if_neg c26]
  unfold yW_law_b1723
  exact ⟨S, rfl, ⟨hS.1, hS.2.mono (by omega)⟩, by omega⟩
set_option maxRecDepth 16384 in
theorem law_loop {L : Nat} {xs : Nat → Int32} (hL : L ≤ 3587) : ∀ (r f : Nat) (x : Int32) (n : Nat) (S : XMu), 0 ≤ x.toInt → (L : Int) ≤ x.toInt + 7 * r → x.toInt ≤ L + 7 → Inv n S → n + 1500 * r ≤ 1000000 → S.1 + r < 1024 → r < f → ∃ S', yW_law_b55_L L xs f x S = some (.inl (some (.int 1)), S') ∧ S'.1 ≤ S.1 + r := by
  have lL : (Int32.ofNat L).toInt = L := by
    rw [Int32.toInt_ofNat', bm32]; omega
  have l7 : (Int32.ofNat L - 7).toInt = L - 7 := by rw [i32_sub (by rw [lL, il_7]; omega) (by rw [lL, il_7]; omega), lL, il_7]
  intro r
  induction r with
  | zero =>
    intro f x n S hx hr hx2 hS hn ht hf
    obtain ⟨f, rfl⟩ : ∃ f', f = f' + 1 := ⟨f - 1, by omega⟩
    unfold yW_law_b55_L yW_law_b55
    rw [if_pos (by rw [Int32.lt_iff_toInt_lt]; omega)]
    exact ⟨S, rfl, by omega⟩
  | succ r ih =>
    intro f x n S hx hr hx2 hS hn ht hf
    obtain ⟨f, rfl⟩ : ∃ f', f = f' + 1 := ⟨f - 1, by omega⟩
    by_cases hq : Int32.ofNat L - 7 < x
    · unfold yW_law_b55_L yW_law_b55
      rw [if_pos hq]
      exact ⟨S, rfl, by omega⟩
    · have hq2 := hq
      rw [Int32.lt_iff_toInt_lt] at hq2
      have ad : ∀ (k : Int32) (m : Int), k.toInt = m → 0 ≤ m ∧ m ≤ 7 → (x + k).toInt = x.toInt + m := fun k m hk hm => by rw [i32_add (by omega) (by omega)]; omega
      have g : ∀ (k : Int32) (m : Int), k.toInt = m → 0 ≤ m ∧ m ≤ 6 → xin (x + k) L = true := fun k m hk hm => xin_of (by rw [ad k m hk (by omega)]; omega) (by rw [ad k m hk (by omega)]; omega)
      obtain ⟨S1, k1, k2, k3⟩ := bk_all (xs := xs) (k55 := yW_law_b55_L L xs f) hq (xin_of hx (by omega)) ⟨g 1 1 il_1 (by omega), g 2 2 il_2 (by omega), g 3 3 il_3 (by omega), g 4 4 il_4 (by omega), g 5 5 il_5 (by omega), g 6 6 il_6 (by omega)⟩ hS (by omega) (by omega)
      have e7 := ad 7 7 il_7 (by omega)
      obtain ⟨S', q1, q2⟩ := ih f (x + 7) (n + 1500) S1 (by omega) (by omega) (by omega) k2 (by omega) (by omega) (by omega)
      refine ⟨S', ?_, by omega⟩
      have un : yW_law_b55_L L xs (f + 1) x S = yW_law_b55 L xs (yW_law_b55_L L xs f) x S := rfl
      rw [un, k1, q1]
