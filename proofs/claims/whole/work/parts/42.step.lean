theorem zμ_0 {μ : XMu} {L : Int32} {d : Nat → Int32} : (zμ μ L d).2.1 0 = μ.2.1 0 := rfl
theorem zμ_7 {μ : XMu} {L : Int32} {d : Nat → Int32} : (zμ μ L d).2.1 7 = μ.2.1 7 := rfl
theorem zμ_8 {μ : XMu} {L : Int32} {d : Nat → Int32} : (zμ μ L d).2.1 8 = μ.2.1 8 := rfl
theorem zμ_9 {μ : XMu} {L : Int32} {d : Nat → Int32} : (zμ μ L d).2.1 9 = μ.2.1 9 := rfl
theorem zμ_10 {μ : XMu} {L : Int32} {d : Nat → Int32} : (zμ μ L d).2.1 10 = μ.2.1 10 := rfl
theorem zμ_11 {μ : XMu} {L : Int32} {d : Nat → Int32} : (zμ μ L d).2.1 11 = μ.2.1 11 := rfl
theorem zμ_12 {μ : XMu} {L : Int32} {d : Nat → Int32} : (zμ μ L d).2.1 12 = μ.2.1 12 := rfl
theorem zμ_13 {μ : XMu} {L : Int32} {d : Nat → Int32} : (zμ μ L d).2.1 13 = μ.2.1 13 := rfl
theorem zμ_14 {μ : XMu} {L : Int32} {d : Nat → Int32} : (zμ μ L d).2.1 14 = μ.2.1 14 := rfl
theorem zμ_15 {μ : XMu} {L : Int32} {d : Nat → Int32} : (zμ μ L d).2.1 15 = μ.2.1 15 := rfl
theorem zμ_16 {μ : XMu} {L : Int32} {d : Nat → Int32} : (zμ μ L d).2.1 16 = μ.2.1 16 := rfl
theorem zμ_17 {μ : XMu} {L : Int32} {d : Nat → Int32} : (zμ μ L d).2.1 17 = μ.2.1 17 := rfl
theorem zμ_18 {μ : XMu} {L : Int32} {d : Nat → Int32} : (zμ μ L d).2.1 18 = μ.2.1 18 := rfl
theorem zμ_19 {μ : XMu} {L : Int32} {d : Nat → Int32} : (zμ μ L d).2.1 19 = μ.2.1 19 := rfl
theorem zμ_20 {μ : XMu} {L : Int32} {d : Nat → Int32} : (zμ μ L d).2.1 20 = μ.2.1 20 := rfl
theorem zμ_21 {μ : XMu} {L : Int32} {d : Nat → Int32} : (zμ μ L d).2.1 21 = μ.2.1 21 := rfl
theorem zμ_22 {μ : XMu} {L : Int32} {d : Nat → Int32} : (zμ μ L d).2.1 22 = μ.2.1 22 := rfl
theorem zμ_23 {μ : XMu} {L : Int32} {d : Nat → Int32} : (zμ μ L d).2.1 23 = μ.2.1 23 := rfl
theorem zμ_24 {μ : XMu} {L : Int32} {d : Nat → Int32} : (zμ μ L d).2.1 24 = μ.2.1 24 := rfl
theorem zμ_25 {μ : XMu} {L : Int32} {d : Nat → Int32} : (zμ μ L d).2.1 25 = μ.2.1 25 := rfl
theorem zμ_26 {μ : XMu} {L : Int32} {d : Nat → Int32} : (zμ μ L d).2.1 26 = μ.2.1 26 := rfl
theorem zμ_27 {μ : XMu} {L : Int32} {d : Nat → Int32} : (zμ μ L d).2.1 27 = μ.2.1 27 := rfl
theorem zμ_28 {μ : XMu} {L : Int32} {d : Nat → Int32} : (zμ μ L d).2.1 28 = μ.2.1 28 := rfl
theorem zμ_29 {μ : XMu} {L : Int32} {d : Nat → Int32} : (zμ μ L d).2.1 29 = μ.2.1 29 := rfl
theorem zμ_30 {μ : XMu} {L : Int32} {d : Nat → Int32} : (zμ μ L d).2.1 30 = μ.2.1 30 := rfl
theorem zμ_31 {μ : XMu} {L : Int32} {d : Nat → Int32} : (zμ μ L d).2.1 31 = μ.2.1 31 := rfl
theorem zμ_w {μ : XMu} {L : Int32} {d : Nat → Int32} : (zμ μ L d).2.1 1 7 = μ.2.1 1 7 := rfl
theorem zμ_q {μ : XMu} {L : Int32} {d : Nat → Int32} : (zμ μ L d).2.1 1 4 = μ.2.1 1 4 := rfl
theorem zν_33 {μ : XMu} {L : Int32} {d : Nat → Int32} : (zν μ L d).2.1 33 = μ.2.1 33 := rfl
theorem zν_34 {μ : XMu} {L : Int32} {d : Nat → Int32} : (zν μ L d).2.1 34 = μ.2.1 34 := rfl
theorem zν_35 {μ : XMu} {L : Int32} {d : Nat → Int32} : (zν μ L d).2.1 35 = μ.2.1 35 := rfl
theorem zν_36 {μ : XMu} {L : Int32} {d : Nat → Int32} : (zν μ L d).2.1 36 = μ.2.1 36 := rfl
theorem zν_37 {μ : XMu} {L : Int32} {d : Nat → Int32} : (zν μ L d).2.1 37 = μ.2.1 37 := rfl
theorem zν_38 {μ : XMu} {L : Int32} {d : Nat → Int32} : (zν μ L d).2.1 38 = μ.2.1 38 := rfl
theorem zν_39 {μ : XMu} {L : Int32} {d : Nat → Int32} : (zν μ L d).2.1 39 = μ.2.1 39 := rfl
theorem zν_40 {μ : XMu} {L : Int32} {d : Nat → Int32} : (zν μ L d).2.1 40 = μ.2.1 40 := rfl
theorem zν_41 {μ : XMu} {L : Int32} {d : Nat → Int32} : (zν μ L d).2.1 41 = μ.2.1 41 := rfl
theorem zν_42 {μ : XMu} {L : Int32} {d : Nat → Int32} : (zν μ L d).2.1 42 = μ.2.1 42 := rfl
theorem zν_43 {μ : XMu} {L : Int32} {d : Nat → Int32} : (zν μ L d).2.1 43 = μ.2.1 43 := rfl
theorem zν_44 {μ : XMu} {L : Int32} {d : Nat → Int32} : (zν μ L d).2.1 44 = μ.2.1 44 := rfl
theorem zν_45 {μ : XMu} {L : Int32} {d : Nat → Int32} : (zν μ L d).2.1 45 = μ.2.1 45 := rfl
theorem zν_46 {μ : XMu} {L : Int32} {d : Nat → Int32} : (zν μ L d).2.1 46 = μ.2.1 46 := rfl
theorem zν_50 {μ : XMu} {L : Int32} {d : Nat → Int32} : (zν μ L d).2.1 50 = μ.2.1 50 := rfl
theorem zν_51 {μ : XMu} {L : Int32} {d : Nat → Int32} : (zν μ L d).2.1 51 = μ.2.1 51 := rfl
theorem zν_52 {μ : XMu} {L : Int32} {d : Nat → Int32} : (zν μ L d).2.1 52 = μ.2.1 52 := rfl
theorem zν_53 {μ : XMu} {L : Int32} {d : Nat → Int32} : (zν μ L d).2.1 53 = μ.2.1 53 := rfl
theorem zν_54 {μ : XMu} {L : Int32} {d : Nat → Int32} : (zν μ L d).2.1 54 = μ.2.1 54 := rfl
theorem zν_55 {μ : XMu} {L : Int32} {d : Nat → Int32} : (zν μ L d).2.1 55 = μ.2.1 55 := rfl
theorem zν_j0 {μ : XMu} {L : Int32} {d : Nat → Int32} : (zν μ L d).2.1 32 0 = μ.2.1 32 0 := rfl
theorem zν_j1 {μ : XMu} {L : Int32} {d : Nat → Int32} : (zν μ L d).2.1 32 1 = μ.2.1 32 1 := rfl
theorem zν_j3 {μ : XMu} {L : Int32} {d : Nat → Int32} : (zν μ L d).2.1 32 3 = μ.2.1 32 3 := rfl
theorem zν_j4 {μ : XMu} {L : Int32} {d : Nat → Int32} : (zν μ L d).2.1 32 4 = μ.2.1 32 4 := rfl
theorem zν_j5 {μ : XMu} {L : Int32} {d : Nat → Int32} : (zν μ L d).2.1 32 5 = μ.2.1 32 5 := rfl
theorem zν_j9 {μ : XMu} {L : Int32} {d : Nat → Int32} : (zν μ L d).2.1 32 9 = μ.2.1 32 9 := rfl
theorem zν_j10 {μ : XMu} {L : Int32} {d : Nat → Int32} : (zν μ L d).2.1 32 10 = μ.2.1 32 10 := rfl
theorem zν_j11 {μ : XMu} {L : Int32} {d : Nat → Int32} : (zν μ L d).2.1 32 11 = μ.2.1 32 11 := rfl
theorem zν_j12 {μ : XMu} {L : Int32} {d : Nat → Int32} : (zν μ L d).2.1 32 12 = μ.2.1 32 12 := rfl
theorem zν_j13 {μ : XMu} {L : Int32} {d : Nat → Int32} : (zν μ L d).2.1 32 13 = μ.2.1 32 13 := rfl
theorem zν_j14 {μ : XMu} {L : Int32} {d : Nat → Int32} : (zν μ L d).2.1 32 14 = μ.2.1 32 14 := rfl
theorem zν_j15 {μ : XMu} {L : Int32} {d : Nat → Int32} : (zν μ L d).2.1 32 15 = μ.2.1 32 15 := rfl
theorem zν_j16 {μ : XMu} {L : Int32} {d : Nat → Int32} : (zν μ L d).2.1 32 16 = μ.2.1 32 16 := rfl
theorem zν_j17 {μ : XMu} {L : Int32} {d : Nat → Int32} : (zν μ L d).2.1 32 17 = μ.2.1 32 17 := rfl
theorem zν_j18 {μ : XMu} {L : Int32} {d : Nat → Int32} : (zν μ L d).2.1 32 18 = μ.2.1 32 18 := rfl
theorem zν_j19 {μ : XMu} {L : Int32} {d : Nat → Int32} : (zν μ L d).2.1 32 19 = μ.2.1 32 19 := rfl
theorem zν_j20 {μ : XMu} {L : Int32} {d : Nat → Int32} : (zν μ L d).2.1 32 20 = μ.2.1 32 20 := rfl
theorem zν_j21 {μ : XMu} {L : Int32} {d : Nat → Int32} : (zν μ L d).2.1 32 21 = μ.2.1 32 21 := rfl
theorem zν_j22 {μ : XMu} {L : Int32} {d : Nat → Int32} : (zν μ L d).2.1 32 22 = μ.2.1 32 22 := rfl
theorem zν_j23 {μ : XMu} {L : Int32} {d : Nat → Int32} : (zν μ L d).2.1 32 23 = μ.2.1 32 23 := rfl
theorem zν_j24 {μ : XMu} {L : Int32} {d : Nat → Int32} : (zν μ L d).2.1 32 24 = μ.2.1 32 24 := rfl
theorem zν_j25 {μ : XMu} {L : Int32} {d : Nat → Int32} : (zν μ L d).2.1 32 25 = μ.2.1 32 25 := rfl
theorem zν_j26 {μ : XMu} {L : Int32} {d : Nat → Int32} : (zν μ L d).2.1 32 26 = μ.2.1 32 26 := rfl
theorem zν_j35 {μ : XMu} {L : Int32} {d : Nat → Int32} : (zν μ L d).2.1 32 35 = μ.2.1 32 35 := rfl
theorem zν_j36 {μ : XMu} {L : Int32} {d : Nat → Int32} : (zν μ L d).2.1 32 36 = μ.2.1 32 36 := rfl
theorem zν_j37 {μ : XMu} {L : Int32} {d : Nat → Int32} : (zν μ L d).2.1 32 37 = μ.2.1 32 37 := rfl
theorem zν_j38 {μ : XMu} {L : Int32} {d : Nat → Int32} : (zν μ L d).2.1 32 38 = μ.2.1 32 38 := rfl
theorem zν_j39 {μ : XMu} {L : Int32} {d : Nat → Int32} : (zν μ L d).2.1 32 39 = μ.2.1 32 39 := rfl
theorem zν_j40 {μ : XMu} {L : Int32} {d : Nat → Int32} : (zν μ L d).2.1 32 40 = μ.2.1 32 40 := rfl
theorem zν_j41 {μ : XMu} {L : Int32} {d : Nat → Int32} : (zν μ L d).2.1 32 41 = μ.2.1 32 41 := rfl
theorem zν_j42 {μ : XMu} {L : Int32} {d : Nat → Int32} : (zν μ L d).2.1 32 42 = μ.2.1 32 42 := rfl
theorem zν_j49 {μ : XMu} {L : Int32} {d : Nat → Int32} : (zν μ L d).2.1 32 49 = μ.2.1 32 49 := rfl
theorem zν_j50 {μ : XMu} {L : Int32} {d : Nat → Int32} : (zν μ L d).2.1 32 50 = μ.2.1 32 50 := rfl
theorem zν_j52 {μ : XMu} {L : Int32} {d : Nat → Int32} : (zν μ L d).2.1 32 52 = μ.2.1 32 52 := rfl
theorem zν_j55 {μ : XMu} {L : Int32} {d : Nat → Int32} : (zν μ L d).2.1 32 55 = μ.2.1 32 55 := rfl
theorem RE_z {g h μ ν : XMu} (he : RE g h μ ν) {L : Int32} {d d' : Nat → Int32} : RE g h (zμ μ L d) (zν ν L d') := by
  refine (RE.mk (ft := he.ft) (fg := fun c hc => ?_) (fgl := fun c hc => by first | exact he.fgl c hc | (have hh := he.fgl c hc; (try unfold zq at hh); (try unfold zd at hh); (try unfold zf at hh); (try unfold zo at hh); (try unfold zo); (try unfold zh at hh); (try unfold zh); (try unfold zq); (try unfold zd); (try unfold zf); (try dsimp only at hh); (try dsimp only); (repeat (first | rw [xuI_o (by omega)] at hh | rw [xuL_o (by omega)] at hh | rw [va_up_o (by omega)] at hh)); (repeat (first | rw [xuI_o (by omega)] | rw [xuL_o (by omega)] | rw [va_up_o (by omega)])); exact hh)) (ht := he.ht) (hg := fun c hc => ?_) (hgl := fun c hc => by first | exact he.hgl c hc | (have hh := he.hgl c hc; (try unfold zq at hh); (try unfold zd at hh); (try unfold zf at hh); (try unfold zo at hh); (try unfold zo); (try unfold zh at hh); (try unfold zh); (try unfold zq); (try unfold zd); (try unfold zf); (try dsimp only at hh); (try dsimp only); (repeat (first | rw [xuI_o (by omega)] at hh | rw [xuL_o (by omega)] at hh | rw [va_up_o (by omega)] at hh)); (repeat (first | rw [xuI_o (by omega)] | rw [xuL_o (by omega)] | rw [va_up_o (by omega)])); exact hh)) (thr := he.thr) (row := he.row) (itself := he.itself) (now := he.now) (term := he.term) (voted := he.voted) (base := he.base) (last := he.last) (baseTerm := he.baseTerm) (baseCode := he.baseCode) (snapshot := he.snapshot) (dirty := he.dirty) (role := he.role) (leader := he.leader) (commit := he.commit) (applied := he.applied) (synced := he.synced) (heard := he.heard) (alarm := he.alarm) (votes := he.votes) (handing := he.handing) (handed := he.handed) (first := he.first) (round := he.round) (assembly := he.assembly) (described := he.described) (toldBase := he.toldBase) (toldTerm := he.toldTerm) (toldCode := he.toldCode) (toldSize := he.toldSize) (told := he.told) (waits := he.waits) (went := he.went) (done := he.done) (calls := he.calls) (next := he.next) (mtch := he.mtch) (flying := he.flying) (offset := he.offset) (ack := he.ack) (seen := he.seen) (probing := he.probing) (answered := he.answered) (toldTerms := he.toldTerms) (toldKinds := he.toldKinds) (toldValues := he.toldValues) (doneNumbers := he.doneNumbers) (doneValues := he.doneValues) (callState := he.callState) (callNumber := he.callNumber) (got := he.got) (log := he.log) (kept := he.kept) (wait := he.wait) (cls := he.cls))
  · show va_up (va_up μ.2.1 1 _) 2 d c = _
    rw [va_up_o (by omega), va_up_o (by omega)]
    exact he.fg c hc
  · show va_up (va_up ν.2.1 32 _) 47 d' c = _
    rw [va_up_o (by omega), va_up_o (by omega)]
    exact he.hg c hc
theorem RI_z {n : Nat} {μ : XMu} (hi : RI n μ) {L : Int32} {d : Nat → Int32} : RI n (zμ μ L d) := (RI.mk (itself := hi.itself) (role := hi.role) (base := hi.base) (ba := hi.ba) (ac := hi.ac) (cl := hi.cl) (lb := hi.lb) (last := hi.last) (syn := hi.syn) (dirty := hi.dirty) (desc := hi.desc) (now := hi.now) (term := hi.term) (went := hi.went) (waits := hi.waits) (done := hi.done) (calls := hi.calls) (told := hi.told) (round := hi.round) (hand := hi.hand) (heard := hi.heard) (vote := hi.vote) (lead := hi.lead) (quiet := hi.quiet) (cmd := hi.cmd) (tt := hi.tt) (tb := hi.tb) (got := hi.got) (mem := hi.mem))
def Pv (g h : XMu) (n : Nat) (P Q : XRes) : Prop := ∃ μ' ν', P = some (.inl none, μ') ∧ Q = some (.inl none, ν') ∧ RE g h μ' ν' ∧ RI n μ'
def Pi (g h : XMu) (n : Nat) (P Q : XRes) : Prop := ∃ v μ' ν', P = some (.inl (some (.int v)), μ') ∧ Q = some (.inl (some (.int v)), ν') ∧ RE g h μ' ν' ∧ RI n μ'
theorem Pv.ret {g h μ ν : XMu} {n : Nat} (he : RE g h μ ν) (hi : RI n μ) : Pv g h n (some (.inl none, μ)) (some (.inl none, ν)) := ⟨μ, ν, rfl, rfl, he, hi⟩
theorem Pi.ret {g h μ ν : XMu} {n : Nat} {v : Int32} (he : RE g h μ ν) (hi : RI n μ) : Pi g h n (some (.inl (some (.int v)), μ)) (some (.inl (some (.int v)), ν)) := ⟨v, μ, ν, rfl, rfl, he, hi⟩
theorem Pv.mono {g h : XMu} {n n' : Nat} {P Q : XRes} (p : Pv g h n P Q) (hn : n ≤ n') : Pv g h n' P Q := by
  obtain ⟨μ, ν, a, b, c, d⟩ := p
  exact ⟨μ, ν, a, b, c, d.mono hn⟩
theorem Pi.mono {g h : XMu} {n n' : Nat} {P Q : XRes} (p : Pi g h n P Q) (hn : n ≤ n') : Pi g h n' P Q := by
  obtain ⟨v, μ, ν, a, b, c, d⟩ := p
  exact ⟨v, μ, ν, a, b, c, d.mono hn⟩
theorem Pv.bind {g h : XMu} {n n' : Nat} {P Q : XRes} {K K' : XMu → XRes} (p : Pv g h n P Q) (k : ∀ μ ν, RE g h μ ν → RI n μ → Pv g h n' (K μ) (K' ν)) : Pv g h n' (xbv P K) (xbv Q K') := by
  obtain ⟨μ, ν, rfl, rfl, c, d⟩ := p
  exact k μ ν c d
theorem Pv.bindi {g h : XMu} {n n' : Nat} {P Q : XRes} {K K' : XMu → XRes} (p : Pv g h n P Q) (k : ∀ μ ν, RE g h μ ν → RI n μ → Pi g h n' (K μ) (K' ν)) : Pi g h n' (xbv P K) (xbv Q K') := by
  obtain ⟨μ, ν, rfl, rfl, c, d⟩ := p
  exact k μ ν c d
theorem Pv.tail {g h : XMu} {n : Nat} {P Q : XRes} (p : Pv g h n P Q) : Pv g h n (xbv P fun m => some (.inl none, m)) (xbv Q fun m => some (.inl none, m)) := p.bind fun _ _ he hi => Pv.ret he hi
theorem Pv.tailC {g h : XMu} {n : Nat} {P Q : XRes} (p : Pv g h n P Q) : Pv g h n (xbv P fun m => some (.inl none, m)) Q := by
  obtain ⟨μ, ν, rfl, rfl, c, d⟩ := p
  exact Pv.ret c d
theorem Pv.tailM {g h : XMu} {n : Nat} {P Q : XRes} (p : Pv g h n P Q) : Pv g h n P (xbv Q fun m => some (.inl none, m)) := by
  obtain ⟨μ, ν, rfl, rfl, c, d⟩ := p
  exact Pv.ret c d
theorem Pi.bind {g h : XMu} {n n' : Nat} {P Q : XRes} {K K' : Int32 → XMu → XRes} (p : Pi g h n P Q) (k : ∀ v μ ν, RE g h μ ν → RI n μ → Pv g h n' (K v μ) (K' v ν)) : Pv g h n' (xbi P K) (xbi Q K') := by
  obtain ⟨v, μ, ν, rfl, rfl, c, d⟩ := p
  exact k v μ ν c d
def Pw (g h : XMu) (n : Nat) (A : XMu → Prop) (P Q : XRes) : Prop := ∃ μ' ν', P = some (.inl none, μ') ∧ Q = some (.inl none, ν') ∧ RE g h μ' ν' ∧ RI n μ' ∧ A μ'
theorem Pw.ret {g h μ ν : XMu} {n : Nat} {A : XMu → Prop} (he : RE g h μ ν) (hi : RI n μ) (ha : A μ) : Pw g h n A (some (.inl none, μ)) (some (.inl none, ν)) := ⟨μ, ν, rfl, rfl, he, hi, ha⟩
theorem Pw.toPv {g h : XMu} {n : Nat} {A : XMu → Prop} {P Q : XRes} (p : Pw g h n A P Q) : Pv g h n P Q := by
  obtain ⟨μ, ν, a, b, c, d, e⟩ := p
  exact ⟨μ, ν, a, b, c, d⟩
theorem Pw.mono {g h : XMu} {n n' : Nat} {A B : XMu → Prop} {P Q : XRes} (p : Pw g h n A P Q) (hn : n ≤ n') (hA : ∀ μ, A μ → B μ) : Pw g h n' B P Q := by
  obtain ⟨μ, ν, a, b, c, d, e⟩ := p
  exact ⟨μ, ν, a, b, c, d.mono hn, hA μ e⟩
theorem Pw.bind {g h : XMu} {n n' : Nat} {A B : XMu → Prop} {P Q : XRes} {K K' : XMu → XRes} (p : Pw g h n A P Q) (k : ∀ μ ν, RE g h μ ν → RI n μ → A μ → Pw g h n' B (K μ) (K' ν)) : Pw g h n' B (xbv P K) (xbv Q K') := by
  obtain ⟨μ, ν, rfl, rfl, c, d, e⟩ := p
  exact k μ ν c d e
theorem Pw.bindv {g h : XMu} {n n' : Nat} {A : XMu → Prop} {P Q : XRes} {K K' : XMu → XRes} (p : Pw g h n A P Q) (k : ∀ μ ν, RE g h μ ν → RI n μ → A μ → Pv g h n' (K μ) (K' ν)) : Pv g h n' (xbv P K) (xbv Q K') := by
  obtain ⟨μ, ν, rfl, rfl, c, d, e⟩ := p
  exact k μ ν c d e
theorem Pw.tail {g h : XMu} {n : Nat} {A : XMu → Prop} {P Q : XRes} (p : Pw g h n A P Q) : Pw g h n A (xbv P fun m => some (.inl none, m)) (xbv Q fun m => some (.inl none, m)) := p.bind fun _ _ he hi ha => Pw.ret he hi ha
def Keep (μ : XMu) (μ' : XMu) : Prop := (μ'.2.1 0 9) = (μ.2.1 0 9) ∧ (μ'.2.1 28 13) = (μ.2.1 28 13) ∧ (μ'.2.1 0 0) = (μ.2.1 0 0) ∧ (μ'.2.1 28 5) = (μ.2.1 28 5) ∧ (μ'.2.1 28 9) = (μ.2.1 28 9) ∧ (μ'.2.1 13) = (μ.2.1 13) ∧ (μ'.2.1 28 3) = (μ.2.1 28 3)
theorem Keep.refl {μ : XMu} : Keep μ μ := ⟨rfl, rfl, rfl, rfl, rfl, rfl, rfl⟩
theorem Keep.trans {μ μ' μ'' : XMu} (h : Keep μ μ') (k : Keep μ' μ'') : Keep μ μ'' := by
  obtain ⟨a1, a2, a3, a4, a5, a6, a7⟩ := h
  obtain ⟨b1, b2, b3, b4, b5, b6, b7⟩ := k
  exact ⟨b1.trans a1, b2.trans a2, b3.trans a3, b4.trans a4, b5.trans a5, b6.trans a6, b7.trans a7⟩
theorem Keep.peers {μ μ' : XMu} (h : Keep μ μ') : yC_peers μ' = yC_peers μ := by
  unfold yC_peers yC_voters
  rw [h.2.1, h.2.2.1]
theorem R_draw {g h μ ν : XMu} (he : RE g h μ ν) : ∃ a r, yC_drawAlarm μ = some (.inl none, (μ.1, xuI μ.2.1 0 14 a, xuL μ.2.2 0 7 r)) ∧ yM_draw ν = some (.inl none, (ν.1, xuI ν.2.1 32 21 a, xuL ν.2.2 32 2 r)) := by
  refine ⟨_, _, rfl, ?_⟩
  unfold yM_draw
  rw [he.now, he.row]
theorem RE_draw {g h μ ν : XMu} (he : RE g h μ ν) {a : Int32} {r : Int64} : RE g h (μ.1, xuI μ.2.1 0 14 a, xuL μ.2.2 0 7 r) (ν.1, xuI ν.2.1 32 21 a, xuL ν.2.2 32 2 r) := (RE.mk (ft := he.ft) (fg := fun c hc => by first | exact he.fg c hc | (have hh := he.fg c hc; (try unfold zq at hh); (try unfold zd at hh); (try unfold zf at hh); (try unfold zo at hh); (try unfold zo); (try unfold zh at hh); (try unfold zh); (try unfold zq); (try unfold zd); (try unfold zf); (try dsimp only at hh); (try dsimp only); (repeat (first | rw [xuI_o (by omega)] at hh | rw [xuL_o (by omega)] at hh | rw [va_up_o (by omega)] at hh)); (repeat (first | rw [xuI_o (by omega)] | rw [xuL_o (by omega)] | rw [va_up_o (by omega)])); exact hh)) (fgl := fun c hc => by first | exact he.fgl c hc | (have hh := he.fgl c hc; (try unfold zq at hh); (try unfold zd at hh); (try unfold zf at hh); (try unfold zo at hh); (try unfold zo); (try unfold zh at hh); (try unfold zh); (try unfold zq); (try unfold zd); (try unfold zf); (try dsimp only at hh); (try dsimp only); (repeat (first | rw [xuI_o (by omega)] at hh | rw [xuL_o (by omega)] at hh | rw [va_up_o (by omega)] at hh)); (repeat (first | rw [xuI_o (by omega)] | rw [xuL_o (by omega)] | rw [va_up_o (by omega)])); exact hh)) (ht := he.ht) (hg := fun c hc => by first | exact he.hg c hc | (have hh := he.hg c hc; (try unfold zq at hh); (try unfold zd at hh); (try unfold zf at hh); (try unfold zo at hh); (try unfold zo); (try unfold zh at hh); (try unfold zh); (try unfold zq); (try unfold zd); (try unfold zf); (try dsimp only at hh); (try dsimp only); (repeat (first | rw [xuI_o (by omega)] at hh | rw [xuL_o (by omega)] at hh | rw [va_up_o (by omega)] at hh)); (repeat (first | rw [xuI_o (by omega)] | rw [xuL_o (by omega)] | rw [va_up_o (by omega)])); exact hh)) (hgl := fun c hc => by first | exact he.hgl c hc | (have hh := he.hgl c hc; (try unfold zq at hh); (try unfold zd at hh); (try unfold zf at hh); (try unfold zo at hh); (try unfold zo); (try unfold zh at hh); (try unfold zh); (try unfold zq); (try unfold zd); (try unfold zf); (try dsimp only at hh); (try dsimp only); (repeat (first | rw [xuI_o (by omega)] at hh | rw [xuL_o (by omega)] at hh | rw [va_up_o (by omega)] at hh)); (repeat (first | rw [xuI_o (by omega)] | rw [xuL_o (by omega)] | rw [va_up_o (by omega)])); exact hh)) (thr := he.thr) (row := rfl) (itself := he.itself) (now := he.now) (term := he.term) (voted := he.voted) (base := he.base) (last := he.last) (baseTerm := he.baseTerm) (baseCode := he.baseCode) (snapshot := he.snapshot) (dirty := he.dirty) (role := he.role) (leader := he.leader) (commit := he.commit) (applied := he.applied) (synced := he.synced) (heard := he.heard) (alarm := rfl) (votes := he.votes) (handing := he.handing) (handed := he.handed) (first := he.first) (round := he.round) (assembly := he.assembly) (described := he.described) (toldBase := he.toldBase) (toldTerm := he.toldTerm) (toldCode := he.toldCode) (toldSize := he.toldSize) (told := he.told) (waits := he.waits) (went := he.went) (done := he.done) (calls := he.calls) (next := he.next) (mtch := he.mtch) (flying := he.flying) (offset := he.offset) (ack := he.ack) (seen := he.seen) (probing := he.probing) (answered := he.answered) (toldTerms := he.toldTerms) (toldKinds := he.toldKinds) (toldValues := he.toldValues) (doneNumbers := he.doneNumbers) (doneValues := he.doneValues) (callState := he.callState) (callNumber := he.callNumber) (got := he.got) (log := he.log) (kept := he.kept) (wait := he.wait) (cls := he.cls))
theorem RI_draw {n : Nat} {μ : XMu} (hi : RI n μ) {a : Int32} {r : Int64} : RI n (μ.1, xuI μ.2.1 0 14 a, xuL μ.2.2 0 7 r) := (RI.mk (itself := hi.itself) (role := hi.role) (base := hi.base) (ba := hi.ba) (ac := hi.ac) (cl := hi.cl) (lb := hi.lb) (last := hi.last) (syn := hi.syn) (dirty := hi.dirty) (desc := hi.desc) (now := hi.now) (term := hi.term) (went := hi.went) (waits := hi.waits) (done := hi.done) (calls := hi.calls) (told := hi.told) (round := hi.round) (hand := hi.hand) (heard := hi.heard) (vote := hi.vote) (lead := hi.lead) (quiet := hi.quiet) (cmd := hi.cmd) (tt := hi.tt) (tb := hi.tb) (got := hi.got) (mem := hi.mem))
theorem P_draw {g h μ ν : XMu} {n : Nat} (he : RE g h μ ν) (hi : RI n μ) : Pv g h n (yC_drawAlarm μ) (yM_draw ν) := by
  obtain ⟨a, r, e1, e2⟩ := R_draw he
  exact ⟨_, _, e1, e2, RE_draw he, RI_draw hi⟩
def dropF (F : Nat → Int32) (c : Int) (a : Nat) : Nat → Int32 := fun j => if a ≤ j ∧ j < 32 ∧ (j : Int) < c ∧ F j = 0 then 2 else F j
theorem drop_c : ∀ (r f : Nat) (x : Int32) (μ : XMu), 0 ≤ x.toInt → x.toInt + r = 32 → r < f → yCa_dropWaiting_b2_L f x μ = some (.inl none, (μ.1, va_up μ.2.1 24 (dropF (μ.2.1 24) (μ.2.1 20 4).toInt x.toInt.toNat), μ.2.2)) := by
  intro r
  induction r with
  | zero =>
    intro f x μ hx hr hf
    obtain ⟨f, rfl⟩ : ∃ f', f = f' + 1 := ⟨f - 1, by omega⟩
    unfold yCa_dropWaiting_b2_L yCa_dropWaiting_b2
    rw [if_pos (by rw [Int32.le_iff_toInt_le, il_32]; omega)]
    have e : dropF (μ.2.1 24) (μ.2.1 20 4).toInt x.toInt.toNat = (μ.2.1 24) := by
      funext j
      unfold dropF
      rw [if_neg (by omega)]
    rw [e, va_up_id]
  | succ r ih =>
    intro f x μ hx hr hf
    obtain ⟨f, rfl⟩ : ∃ f', f = f' + 1 := ⟨f - 1, by omega⟩
    unfold yCa_dropWaiting_b2_L yCa_dropWaiting_b2
    rw [if_neg (by rw [Int32.le_iff_toInt_le, il_32]; omega)]
    have e5 := inc_i (n := x) (by omega)
    have t1 := tn_of hx
    by_cases hc : (μ.2.1 20 4) ≤ x
    · rw [if_pos hc]
      rw [Int32.le_iff_toInt_le] at hc
      have e : dropF (μ.2.1 24) (μ.2.1 20 4).toInt x.toInt.toNat = (μ.2.1 24) := by
        funext j
        unfold dropF
        rw [if_neg (by omega)]
      rw [e, va_up_id]
    · rw [if_neg hc, xgd_t (xin_of hx (by omega))]
      rw [Int32.le_iff_toInt_le] at hc
      by_cases hz : (μ.2.1 24) x.toNatClampNeg = 0
      · rw [if_neg (fun k => k hz), xgd_t (xin_of hx (by omega))]
        rw [ih f (x + 1) (μ.1, xuI μ.2.1 24 x.toNatClampNeg 2, μ.2.2) (by omega) (by omega) (by omega)]
        dsimp only
        rw [va_up_xu, xuI_s]
        have e : dropF (upd (μ.2.1 24) x.toNatClampNeg 2) (xuI μ.2.1 24 x.toNatClampNeg 2 20 4).toInt (x + 1).toInt.toNat = dropF (μ.2.1 24) (μ.2.1 20 4).toInt x.toInt.toNat := by
          have e1 : xuI μ.2.1 24 x.toNatClampNeg 2 20 4 = (μ.2.1 20 4) := rfl
          rw [e1]
          funext j
          unfold dropF upd
          by_cases hj : j = x.toNatClampNeg
          · rw [if_neg (by omega), if_pos hj, if_pos ⟨by omega, by omega, by omega, by rw [hj]; exact hz⟩]
          · rw [if_neg hj]
            by_cases hk : (x + 1).toInt.toNat ≤ j ∧ j < 32 ∧ (j : Int) < (μ.2.1 20 4).toInt ∧ (μ.2.1 24) j = 0
            · rw [if_pos hk, if_pos ⟨by omega, hk.2⟩]
            · rw [if_neg hk, if_neg (fun k => hk ⟨by omega, k.2⟩)]
        rw [e]
      · rw [if_pos hz]
        rw [ih f (x + 1) μ (by omega) (by omega) (by omega)]
        have e : dropF (μ.2.1 24) (μ.2.1 20 4).toInt (x + 1).toInt.toNat = dropF (μ.2.1 24) (μ.2.1 20 4).toInt x.toInt.toNat := by
          funext j
          unfold dropF
          by_cases hj : j = x.toNatClampNeg
          · rw [if_neg (by omega), if_neg (fun k => hz (by rw [← hj]; exact k.2.2.2))]
          · by_cases hk : (x + 1).toInt.toNat ≤ j ∧ j < 32 ∧ (j : Int) < (μ.2.1 20 4).toInt ∧ (μ.2.1 24) j = 0
            · rw [if_pos hk, if_pos ⟨by omega, hk.2⟩]
            · rw [if_neg hk, if_neg (fun k => hk ⟨by omega, k.2⟩)]
        rw [e]
theorem drop_m : ∀ (r f : Nat) (x : Int32) (ν : XMu), 0 ≤ x.toInt → x.toInt + r = 32 → r < f → yM_dropCalls_b2_L f x ν = some (.inl none, (ν.1, va_up ν.2.1 52 (dropF (ν.2.1 52) (ν.2.1 32 55).toInt x.toInt.toNat), ν.2.2)) := by
  intro r
  induction r with
  | zero =>
    intro f x μ hx hr hf
    obtain ⟨f, rfl⟩ : ∃ f', f = f' + 1 := ⟨f - 1, by omega⟩
    unfold yM_dropCalls_b2_L yM_dropCalls_b2
    rw [if_pos (by rw [Int32.le_iff_toInt_le, il_32]; omega)]
    have e : dropF (μ.2.1 52) (μ.2.1 32 55).toInt x.toInt.toNat = (μ.2.1 52) := by
      funext j
      unfold dropF
      rw [if_neg (by omega)]
    rw [e, va_up_id]
  | succ r ih =>
    intro f x μ hx hr hf
    obtain ⟨f, rfl⟩ : ∃ f', f = f' + 1 := ⟨f - 1, by omega⟩
    unfold yM_dropCalls_b2_L yM_dropCalls_b2
    rw [if_neg (by rw [Int32.le_iff_toInt_le, il_32]; omega)]
    have e5 := inc_i (n := x) (by omega)
    have t1 := tn_of hx
    unfold yM_callWaits
    by_cases hc : (μ.2.1 32 55) ≤ x
    · rw [if_pos hc, xbi_s, if_pos rfl, ih f (x + 1) μ (by omega) (by omega) (by omega)]
      rw [Int32.le_iff_toInt_le] at hc
      have e : dropF (μ.2.1 52) (μ.2.1 32 55).toInt (x + 1).toInt.toNat = dropF (μ.2.1 52) (μ.2.1 32 55).toInt x.toInt.toNat := by
        funext j
        unfold dropF
        rw [if_neg (by omega), if_neg (by omega)]
      rw [e]
    · rw [if_neg hc, xgd_t (xin_of hx (by omega))]
      rw [Int32.le_iff_toInt_le] at hc
      by_cases hz : (μ.2.1 52) x.toNatClampNeg = 0
      · rw [if_neg (fun k => k hz), xbi_s, if_neg (by decide)]
        unfold yM_settle
        rw [if_pos rfl, xgd_t (xin_of hx (by omega)), xbv_s]
        rw [ih f (x + 1) (μ.1, xuI μ.2.1 52 x.toNatClampNeg 2, μ.2.2) (by omega) (by omega) (by omega)]
        dsimp only
        rw [va_up_xu, xuI_s]
        have e : dropF (upd (μ.2.1 52) x.toNatClampNeg 2) (xuI μ.2.1 52 x.toNatClampNeg 2 32 55).toInt (x + 1).toInt.toNat = dropF (μ.2.1 52) (μ.2.1 32 55).toInt x.toInt.toNat := by
          have e1 : xuI μ.2.1 52 x.toNatClampNeg 2 32 55 = (μ.2.1 32 55) := rfl
          rw [e1]
          funext j
          unfold dropF upd
          by_cases hj : j = x.toNatClampNeg
          · rw [if_neg (by omega), if_pos hj, if_pos ⟨by omega, by omega, by omega, by rw [hj]; exact hz⟩]
          · rw [if_neg hj]
            by_cases hk : (x + 1).toInt.toNat ≤ j ∧ j < 32 ∧ (j : Int) < (μ.2.1 32 55).toInt ∧ (μ.2.1 52) j = 0
            · rw [if_pos hk, if_pos ⟨by omega, hk.2⟩]
            · rw [if_neg hk, if_neg (fun k => hk ⟨by omega, k.2⟩)]
        rw [e]
      · rw [if_pos hz, xbi_s, if_pos rfl]
        rw [ih f (x + 1) μ (by omega) (by omega) (by omega)]
        have e : dropF (μ.2.1 52) (μ.2.1 32 55).toInt (x + 1).toInt.toNat = dropF (μ.2.1 52) (μ.2.1 32 55).toInt x.toInt.toNat := by
          funext j
          unfold dropF
          by_cases hj : j = x.toNatClampNeg
          · rw [if_neg (by omega), if_neg (fun k => hz (by rw [← hj]; exact k.2.2.2))]
          · by_cases hk : (x + 1).toInt.toNat ≤ j ∧ j < 32 ∧ (j : Int) < (μ.2.1 32 55).toInt ∧ (μ.2.1 52) j = 0
            · rw [if_pos hk, if_pos ⟨by omega, hk.2⟩]
            · rw [if_neg hk, if_neg (fun k => hk ⟨by omega, k.2⟩)]
        rw [e]
theorem drop_q {F : Nat → Int32} {c : Int} {j : Nat} (h1 : j < 32) (h2 : (j : Int) < c) : ¬ dropF F c 0 j = 0 := by
  unfold dropF
  by_cases h : 0 ≤ j ∧ j < 32 ∧ (j : Int) < c ∧ F j = 0
  · rw [if_pos h]; decide
  · rw [if_neg h]; exact fun k => h ⟨by omega, h1, h2, k⟩
theorem R_drop {g h μ ν : XMu} (he : RE g h μ ν) : ∃ G, yCa_dropWaiting μ = some (.inl none, (μ.1, va_up μ.2.1 24 G, μ.2.2)) ∧ yM_dropCalls ν = some (.inl none, (ν.1, va_up ν.2.1 52 G, ν.2.2)) ∧ ∀ j : Nat, j < 32 → (j : Int) < (μ.2.1 20 4).toInt → ¬ G j = 0 := by
  refine ⟨dropF (μ.2.1 24) (μ.2.1 20 4).toInt 0, drop_c 32 1000 0 μ (by decide) (by decide) (by omega), ?_, fun j h1 h2 => drop_q h1 h2⟩
  have := drop_m 32 1000 0 ν (by decide) (by decide) (by omega)
  rw [he.callState, he.calls] at this
  exact this
theorem R_step0 {g h μ ν : XMu} {n : Nat} (he : RE g h μ ν) (hi : RI n (μ.1, xuI μ.2.1 28 4 (μ.2.1 0 0), μ.2.2)) (l : Int32) : Pw g h n (fun m => (m.2.1 0 9) = 0 ∧ (m.2.1 0 0) = (μ.2.1 0 0) ∧ (m.2.1 7 5) = (μ.2.1 7 5)) (yC_stepDown_b19 l μ) (yM_stepDown_b23 l ν) := by
  unfold yC_stepDown_b19 yM_stepDown_b23
  rw [he.role]
  by_cases hr : (μ.2.1 0 9) = 3
  · rw [if_neg (fun k => k hr), if_neg (fun k => k hr)]
    obtain ⟨a, r, e1, e2⟩ := R_draw he
    rw [e1, e2, xbv_s, xbv_s]
    obtain ⟨G, e3, e4, q⟩ := R_drop (RE_draw he (a := a) (r := r))
    rw [e3, e4, xbv_s, xbv_s]
    refine Pw.ret ((RE.mk (ft := RE_draw he (a := a) (r := r).ft) (fg := fun c hc => by first | exact RE_draw he (a := a) (r := r).fg c hc | (have hh := RE_draw he (a := a) (r := r).fg c hc; (try unfold zq at hh); (try unfold zd at hh); (try unfold zf at hh); (try unfold zo at hh); (try unfold zo); (try unfold zh at hh); (try unfold zh); (try unfold zq); (try unfold zd); (try unfold zf); (try dsimp only at hh); (try dsimp only); (repeat (first | rw [xuI_o (by omega)] at hh | rw [xuL_o (by omega)] at hh | rw [va_up_o (by omega)] at hh)); (repeat (first | rw [xuI_o (by omega)] | rw [xuL_o (by omega)] | rw [va_up_o (by omega)])); exact hh)) (fgl := fun c hc => by first | exact RE_draw he (a := a) (r := r).fgl c hc | (have hh := RE_draw he (a := a) (r := r).fgl c hc; (try unfold zq at hh); (try unfold zd at hh); (try unfold zf at hh); (try unfold zo at hh); (try unfold zo); (try unfold zh at hh); (try unfold zh); (try unfold zq); (try unfold zd); (try unfold zf); (try dsimp only at hh); (try dsimp only); (repeat (first | rw [xuI_o (by omega)] at hh | rw [xuL_o (by omega)] at hh | rw [va_up_o (by omega)] at hh)); (repeat (first | rw [xuI_o (by omega)] | rw [xuL_o (by omega)] | rw [va_up_o (by omega)])); exact hh)) (ht := RE_draw he (a := a) (r := r).ht) (hg := fun c hc => by first | exact RE_draw he (a := a) (r := r).hg c hc | (have hh := RE_draw he (a := a) (r := r).hg c hc; (try unfold zq at hh); (try unfold zd at hh); (try unfold zf at hh); (try unfold zo at hh); (try unfold zo); (try unfold zh at hh); (try unfold zh); (try unfold zq); (try unfold zd); (try unfold zf); (try dsimp only at hh); (try dsimp only); (repeat (first | rw [xuI_o (by omega)] at hh | rw [xuL_o (by omega)] at hh | rw [va_up_o (by omega)] at hh)); (repeat (first | rw [xuI_o (by omega)] | rw [xuL_o (by omega)] | rw [va_up_o (by omega)])); exact hh)) (hgl := fun c hc => by first | exact RE_draw he (a := a) (r := r).hgl c hc | (have hh := RE_draw he (a := a) (r := r).hgl c hc; (try unfold zq at hh); (try unfold zd at hh); (try unfold zf at hh); (try unfold zo at hh); (try unfold zo); (try unfold zh at hh); (try unfold zh); (try unfold zq); (try unfold zd); (try unfold zf); (try dsimp only at hh); (try dsimp only); (repeat (first | rw [xuI_o (by omega)] at hh | rw [xuL_o (by omega)] at hh | rw [va_up_o (by omega)] at hh)); (repeat (first | rw [xuI_o (by omega)] | rw [xuL_o (by omega)] | rw [va_up_o (by omega)])); exact hh)) (thr := RE_draw he (a := a) (r := r).thr) (row := RE_draw he (a := a) (r := r).row) (itself := RE_draw he (a := a) (r := r).itself) (now := RE_draw he (a := a) (r := r).now) (term := RE_draw he (a := a) (r := r).term) (voted := RE_draw he (a := a) (r := r).voted) (base := RE_draw he (a := a) (r := r).base) (last := RE_draw he (a := a) (r := r).last) (baseTerm := RE_draw he (a := a) (r := r).baseTerm) (baseCode := RE_draw he (a := a) (r := r).baseCode) (snapshot := RE_draw he (a := a) (r := r).snapshot) (dirty := RE_draw he (a := a) (r := r).dirty) (role := rfl) (leader := rfl) (commit := RE_draw he (a := a) (r := r).commit) (applied := RE_draw he (a := a) (r := r).applied) (synced := RE_draw he (a := a) (r := r).synced) (heard := RE_draw he (a := a) (r := r).heard) (alarm := RE_draw he (a := a) (r := r).alarm) (votes := RE_draw he (a := a) (r := r).votes) (handing := rfl) (handed := RE_draw he (a := a) (r := r).handed) (first := RE_draw he (a := a) (r := r).first) (round := RE_draw he (a := a) (r := r).round) (assembly := RE_draw he (a := a) (r := r).assembly) (described := RE_draw he (a := a) (r := r).described) (toldBase := RE_draw he (a := a) (r := r).toldBase) (toldTerm := RE_draw he (a := a) (r := r).toldTerm) (toldCode := RE_draw he (a := a) (r := r).toldCode) (toldSize := RE_draw he (a := a) (r := r).toldSize) (told := RE_draw he (a := a) (r := r).told) (waits := RE_draw he (a := a) (r := r).waits) (went := RE_draw he (a := a) (r := r).went) (done := RE_draw he (a := a) (r := r).done) (calls := RE_draw he (a := a) (r := r).calls) (next := RE_draw he (a := a) (r := r).next) (mtch := RE_draw he (a := a) (r := r).mtch) (flying := RE_draw he (a := a) (r := r).flying) (offset := RE_draw he (a := a) (r := r).offset) (ack := RE_draw he (a := a) (r := r).ack) (seen := RE_draw he (a := a) (r := r).seen) (probing := RE_draw he (a := a) (r := r).probing) (answered := RE_draw he (a := a) (r := r).answered) (toldTerms := RE_draw he (a := a) (r := r).toldTerms) (toldKinds := RE_draw he (a := a) (r := r).toldKinds) (toldValues := RE_draw he (a := a) (r := r).toldValues) (doneNumbers := RE_draw he (a := a) (r := r).doneNumbers) (doneValues := RE_draw he (a := a) (r := r).doneValues) (callState := rfl) (callNumber := RE_draw he (a := a) (r := r).callNumber) (got := RE_draw he (a := a) (r := r).got) (log := RE_draw he (a := a) (r := r).log) (kept := RE_draw he (a := a) (r := r).kept) (wait := RE_draw he (a := a) (r := r).wait) (cls := RE_draw he (a := a) (r := r).cls))) ((RI.mk (itself := hi.itself) (role := Or.inl rfl) (base := hi.base) (ba := hi.ba) (ac := hi.ac) (cl := hi.cl) (lb := hi.lb) (last := hi.last) (syn := hi.syn) (dirty := hi.dirty) (desc := hi.desc) (now := hi.now) (term := hi.term) (went := hi.went) (waits := hi.waits) (done := hi.done) (calls := hi.calls) (told := hi.told) (round := hi.round) (hand := Or.inl rfl) (heard := hi.heard) (vote := fun k => ?_) (lead := fun k => ?_) (quiet := fun _ => q) (cmd := fun j h1 h2 h3 => absurd h3 (q j h1 h2)) (tt := hi.tt) (tb := hi.tb) (got := hi.got) (mem := hi.mem))) ⟨rfl, rfl, rfl⟩
    · rcases k with k | k <;> cases k
    · cases k
  · rw [if_pos hr, if_pos hr]
    refine Pw.ret ((RE.mk (ft := he.ft) (fg := fun c hc => by first | exact he.fg c hc | (have hh := he.fg c hc; (try unfold zq at hh); (try unfold zd at hh); (try unfold zf at hh); (try unfold zo at hh); (try unfold zo); (try unfold zh at hh); (try unfold zh); (try unfold zq); (try unfold zd); (try unfold zf); (try dsimp only at hh); (try dsimp only); (repeat (first | rw [xuI_o (by omega)] at hh | rw [xuL_o (by omega)] at hh | rw [va_up_o (by omega)] at hh)); (repeat (first | rw [xuI_o (by omega)] | rw [xuL_o (by omega)] | rw [va_up_o (by omega)])); exact hh)) (fgl := fun c hc => by first | exact he.fgl c hc | (have hh := he.fgl c hc; (try unfold zq at hh); (try unfold zd at hh); (try unfold zf at hh); (try unfold zo at hh); (try unfold zo); (try unfold zh at hh); (try unfold zh); (try unfold zq); (try unfold zd); (try unfold zf); (try dsimp only at hh); (try dsimp only); (repeat (first | rw [xuI_o (by omega)] at hh | rw [xuL_o (by omega)] at hh | rw [va_up_o (by omega)] at hh)); (repeat (first | rw [xuI_o (by omega)] | rw [xuL_o (by omega)] | rw [va_up_o (by omega)])); exact hh)) (ht := he.ht) (hg := fun c hc => by first | exact he.hg c hc | (have hh := he.hg c hc; (try unfold zq at hh); (try unfold zd at hh); (try unfold zf at hh); (try unfold zo at hh); (try unfold zo); (try unfold zh at hh); (try unfold zh); (try unfold zq); (try unfold zd); (try unfold zf); (try dsimp only at hh); (try dsimp only); (repeat (first | rw [xuI_o (by omega)] at hh | rw [xuL_o (by omega)] at hh | rw [va_up_o (by omega)] at hh)); (repeat (first | rw [xuI_o (by omega)] | rw [xuL_o (by omega)] | rw [va_up_o (by omega)])); exact hh)) (hgl := fun c hc => by first | exact he.hgl c hc | (have hh := he.hgl c hc; (try unfold zq at hh); (try unfold zd at hh); (try unfold zf at hh); (try unfold zo at hh); (try unfold zo); (try unfold zh at hh); (try unfold zh); (try unfold zq); (try unfold zd); (try unfold zf); (try dsimp only at hh); (try dsimp only); (repeat (first | rw [xuI_o (by omega)] at hh | rw [xuL_o (by omega)] at hh | rw [va_up_o (by omega)] at hh)); (repeat (first | rw [xuI_o (by omega)] | rw [xuL_o (by omega)] | rw [va_up_o (by omega)])); exact hh)) (thr := he.thr) (row := he.row) (itself := he.itself) (now := he.now) (term := he.term) (voted := he.voted) (base := he.base) (last := he.last) (baseTerm := he.baseTerm) (baseCode := he.baseCode) (snapshot := he.snapshot) (dirty := he.dirty) (role := rfl) (leader := rfl) (commit := he.commit) (applied := he.applied) (synced := he.synced) (heard := he.heard) (alarm := he.alarm) (votes := he.votes) (handing := he.handing) (handed := he.handed) (first := he.first) (round := he.round) (assembly := he.assembly) (described := he.described) (toldBase := he.toldBase) (toldTerm := he.toldTerm) (toldCode := he.toldCode) (toldSize := he.toldSize) (told := he.told) (waits := he.waits) (went := he.went) (done := he.done) (calls := he.calls) (next := he.next) (mtch := he.mtch) (flying := he.flying) (offset := he.offset) (ack := he.ack) (seen := he.seen) (probing := he.probing) (answered := he.answered) (toldTerms := he.toldTerms) (toldKinds := he.toldKinds) (toldValues := he.toldValues) (doneNumbers := he.doneNumbers) (doneValues := he.doneValues) (callState := he.callState) (callNumber := he.callNumber) (got := he.got) (log := he.log) (kept := he.kept) (wait := he.wait) (cls := he.cls))) ((RI.mk (itself := hi.itself) (role := Or.inl rfl) (base := hi.base) (ba := hi.ba) (ac := hi.ac) (cl := hi.cl) (lb := hi.lb) (last := hi.last) (syn := hi.syn) (dirty := hi.dirty) (desc := hi.desc) (now := hi.now) (term := hi.term) (went := hi.went) (waits := hi.waits) (done := hi.done) (calls := hi.calls) (told := hi.told) (round := hi.round) (hand := hi.hand) (heard := hi.heard) (vote := fun k => ?_) (lead := fun k => ?_) (quiet := fun _ => hi.quiet hr) (cmd := hi.cmd) (tt := hi.tt) (tb := hi.tb) (got := hi.got) (mem := hi.mem))) ⟨rfl, rfl, rfl⟩
    · rcases k with k | k <;> cases k
    · cases k
theorem P_stepDownK {g h μ ν : XMu} {n : Nat} (he : RE g h μ ν) (hi : RI n μ) (t l : Int32) (ht : t.toInt ≤ 1000000 + n) : Pw g h n (fun m => (m.2.1 0 9) = 0 ∧ (m.2.1 0 0) = (μ.2.1 0 0) ∧ (m.2.1 7 5) = (μ.2.1 7 5)) (yC_stepDown t l μ) (yM_stepDown t l ν) := by
  unfold yC_stepDown yM_stepDown
  rw [he.term]
  by_cases hc : t ≤ (μ.2.1 28 3)
  · rw [if_pos hc, if_pos hc]
    exact R_step0 he ((RI.mk (itself := hi.itself) (role := hi.role) (base := hi.base) (ba := hi.ba) (ac := hi.ac) (cl := hi.cl) (lb := hi.lb) (last := hi.last) (syn := hi.syn) (dirty := hi.dirty) (desc := hi.desc) (now := hi.now) (term := hi.term) (went := hi.went) (waits := hi.waits) (done := hi.done) (calls := hi.calls) (told := hi.told) (round := hi.round) (hand := hi.hand) (heard := hi.heard) (vote := fun _ => rfl) (lead := hi.lead) (quiet := hi.quiet) (cmd := hi.cmd) (tt := hi.tt) (tb := hi.tb) (got := hi.got) (mem := hi.mem))) l
  · rw [if_neg hc, if_neg hc]
    rw [Int32.le_iff_toInt_le] at hc
    have h1 := hi.term
    unfold yDi_enterTerm
    rw [xbv_s]
    exact R_step0 (μ := (μ.1, xuI (xuI (xuI μ.2.1 28 3 t) 28 4 (-1)) 28 11 1, μ.2.2)) (ν := (ν.1, xuI (xuI (xuI ν.2.1 32 4 t) 32 5 (-1)) 32 14 1, ν.2.2)) ((RE.mk (ft := he.ft) (fg := fun c hc => by first | exact he.fg c hc | (have hh := he.fg c hc; (try unfold zq at hh); (try unfold zd at hh); (try unfold zf at hh); (try unfold zo at hh); (try unfold zo); (try unfold zh at hh); (try unfold zh); (try unfold zq); (try unfold zd); (try unfold zf); (try dsimp only at hh); (try dsimp only); (repeat (first | rw [xuI_o (by omega)] at hh | rw [xuL_o (by omega)] at hh | rw [va_up_o (by omega)] at hh)); (repeat (first | rw [xuI_o (by omega)] | rw [xuL_o (by omega)] | rw [va_up_o (by omega)])); exact hh)) (fgl := fun c hc => by first | exact he.fgl c hc | (have hh := he.fgl c hc; (try unfold zq at hh); (try unfold zd at hh); (try unfold zf at hh); (try unfold zo at hh); (try unfold zo); (try unfold zh at hh); (try unfold zh); (try unfold zq); (try unfold zd); (try unfold zf); (try dsimp only at hh); (try dsimp only); (repeat (first | rw [xuI_o (by omega)] at hh | rw [xuL_o (by omega)] at hh | rw [va_up_o (by omega)] at hh)); (repeat (first | rw [xuI_o (by omega)] | rw [xuL_o (by omega)] | rw [va_up_o (by omega)])); exact hh)) (ht := he.ht) (hg := fun c hc => by first | exact he.hg c hc | (have hh := he.hg c hc; (try unfold zq at hh); (try unfold zd at hh); (try unfold zf at hh); (try unfold zo at hh); (try unfold zo); (try unfold zh at hh); (try unfold zh); (try unfold zq); (try unfold zd); (try unfold zf); (try dsimp only at hh); (try dsimp only); (repeat (first | rw [xuI_o (by omega)] at hh | rw [xuL_o (by omega)] at hh | rw [va_up_o (by omega)] at hh)); (repeat (first | rw [xuI_o (by omega)] | rw [xuL_o (by omega)] | rw [va_up_o (by omega)])); exact hh)) (hgl := fun c hc => by first | exact he.hgl c hc | (have hh := he.hgl c hc; (try unfold zq at hh); (try unfold zd at hh); (try unfold zf at hh); (try unfold zo at hh); (try unfold zo); (try unfold zh at hh); (try unfold zh); (try unfold zq); (try unfold zd); (try unfold zf); (try dsimp only at hh); (try dsimp only); (repeat (first | rw [xuI_o (by omega)] at hh | rw [xuL_o (by omega)] at hh | rw [va_up_o (by omega)] at hh)); (repeat (first | rw [xuI_o (by omega)] | rw [xuL_o (by omega)] | rw [va_up_o (by omega)])); exact hh)) (thr := he.thr) (row := he.row) (itself := he.itself) (now := he.now) (term := rfl) (voted := rfl) (base := he.base) (last := he.last) (baseTerm := he.baseTerm) (baseCode := he.baseCode) (snapshot := he.snapshot) (dirty := rfl) (role := he.role) (leader := he.leader) (commit := he.commit) (applied := he.applied) (synced := he.synced) (heard := he.heard) (alarm := he.alarm) (votes := he.votes) (handing := he.handing) (handed := he.handed) (first := he.first) (round := he.round) (assembly := he.assembly) (described := he.described) (toldBase := he.toldBase) (toldTerm := he.toldTerm) (toldCode := he.toldCode) (toldSize := he.toldSize) (told := he.told) (waits := he.waits) (went := he.went) (done := he.done) (calls := he.calls) (next := he.next) (mtch := he.mtch) (flying := he.flying) (offset := he.offset) (ack := he.ack) (seen := he.seen) (probing := he.probing) (answered := he.answered) (toldTerms := he.toldTerms) (toldKinds := he.toldKinds) (toldValues := he.toldValues) (doneNumbers := he.doneNumbers) (doneValues := he.doneValues) (callState := he.callState) (callNumber := he.callNumber) (got := he.got) (log := he.log) (kept := he.kept) (wait := he.wait) (cls := he.cls))) ((RI.mk (itself := hi.itself) (role := hi.role) (base := hi.base) (ba := hi.ba) (ac := hi.ac) (cl := hi.cl) (lb := hi.lb) (last := hi.last) (syn := hi.syn) (dirty := rfl) (desc := hi.desc) (now := hi.now) (term := ⟨by show 0 ≤ t.toInt; omega, ht⟩) (went := hi.went) (waits := hi.waits) (done := hi.done) (calls := hi.calls) (told := hi.told) (round := hi.round) (hand := hi.hand) (heard := hi.heard) (vote := fun _ => rfl) (lead := hi.lead) (quiet := hi.quiet) (cmd := hi.cmd) (tt := hi.tt) (tb := hi.tb) (got := hi.got) (mem := hi.mem))) l
theorem P_stepDown {g h μ ν : XMu} {n : Nat} (he : RE g h μ ν) (hi : RI n μ) (t l : Int32) (ht : t.toInt ≤ 1000000 + n) : Pv g h n (yC_stepDown t l μ) (yM_stepDown t l ν) := (P_stepDownK he hi t l ht).toPv
theorem P_yieldK {g h μ ν : XMu} {n : Nat} (he : RE g h μ ν) (hi : RI n μ) (t : Int32) (ht : t.toInt ≤ 1000000 + n) : Pw g h n (fun m => (m.2.1 0 0) = (μ.2.1 0 0) ∧ (m.2.1 7 5) = (μ.2.1 7 5)) (yC_yieldTo t μ) (yM_above t ν) := by
  unfold yC_yieldTo yM_above
  rw [he.term]
  by_cases hc : t ≤ (μ.2.1 28 3)
  · rw [if_pos hc, if_pos hc]
    exact Pw.ret he hi ⟨rfl, rfl⟩
  · rw [if_neg hc, if_neg hc]
    exact (P_stepDownK he hi t _ ht).tail.mono (Nat.le_refl _) (fun _ h => h.2)
theorem P_yield {g h μ ν : XMu} {n : Nat} (he : RE g h μ ν) (hi : RI n μ) (t : Int32) (ht : t.toInt ≤ 1000000 + n) : Pv g h n (yC_yieldTo t μ) (yM_above t ν) := (P_yieldK he hi t ht).toPv
theorem has_01 (a b : Int32) : yC_has a b = 0 ∨ yC_has a b = 1 := by
  unfold yC_has
  split
  · exact Or.inl rfl
  · exact Or.inr rfl
theorem has_bit (a : Int32) {k : Nat} (hk : k < 7) : (yC_has a (Int32.ofNat k) = 0) ↔ a.toBitVec.getLsbD k = false := by
  have hb : (yC_bit (Int32.ofNat k)).toBitVec = BitVec.twoPow 32 k := by
    rcases (show k = 0 ∨ k = 1 ∨ k = 2 ∨ k = 3 ∨ k = 4 ∨ k = 5 ∨ k = 6 by omega) with rfl | rfl | rfl | rfl | rfl | rfl | rfl <;> rfl
  have h2 : (a &&& yC_bit (Int32.ofNat k) = 0) ↔ a.toBitVec.getLsbD k = false := by
    rw [← Int32.toBitVec_inj, Int32.toBitVec_and, hb, BitVec.and_twoPow]
    cases hx : a.toBitVec.getLsbD k with
    | false => simp
    | true =>
      simp
      intro hh
      have := congrArg BitVec.toNat hh
      rcases (show k = 0 ∨ k = 1 ∨ k = 2 ∨ k = 3 ∨ k = 4 ∨ k = 5 ∨ k = 6 by omega) with rfl | rfl | rfl | rfl | rfl | rfl | rfl <;> cases this
  unfold yC_has
  rw [← h2]
  by_cases hz : a &&& yC_bit (Int32.ofNat k) = 0
  · rw [if_pos hz]; exact ⟨fun _ => hz, fun _ => rfl⟩
  · rw [if_neg hz]; exact ⟨fun k => (by cases k), fun k => absurd k hz⟩
theorem nat7 {i : Int32} (h1 : 0 ≤ i.toInt) (h2 : i.toInt ≤ 6) : ∃ k : Nat, k < 7 ∧ i = Int32.ofNat k ∧ (k : Int) = i.toInt := by
  rcases seven h1 h2 with rfl | rfl | rfl | rfl | rfl | rfl | rfl
  · exact ⟨0, by omega, rfl, rfl⟩
  · exact ⟨1, by omega, rfl, rfl⟩
  · exact ⟨2, by omega, rfl, rfl⟩
  · exact ⟨3, by omega, rfl, rfl⟩
  · exact ⟨4, by omega, rfl, rfl⟩
  · exact ⟨5, by omega, rfl, rfl⟩
  · exact ⟨6, by omega, rfl, rfl⟩
theorem has_but {v i s : Int32} (i1 : 0 ≤ i.toInt) (i2 : i.toInt ≤ 6) (s1 : 0 ≤ s.toInt) (s2 : s.toInt ≤ 6) : (yC_has (v &&& (yC_bit i ^^^ (-1 : Int32))) s = 0) ↔ (yC_has v s = 0 ∨ s = i) := by
  obtain ⟨a, ha, rfl, _⟩ := nat7 i1 i2
  obtain ⟨b, hb, rfl, _⟩ := nat7 s1 s2
  rw [has_bit _ hb, has_bit _ hb, Int32.toBitVec_and, BitVec.getLsbD_and, Bool.and_eq_false_iff]
  have : ∀ a b : Fin 7, ((yC_bit (Int32.ofNat a.val) ^^^ (-1 : Int32)).toBitVec.getLsbD b.val = false) ↔ (Int32.ofNat b.val = Int32.ofNat a.val) := by decide
  rw [this ⟨a, ha⟩ ⟨b, hb⟩]
theorem ask_loop {g h : XMu} : ∀ (r f : Nat) (k t o x : Int32) (n : Nat) (μ ν : XMu), RE g h μ ν → RI n μ → o = (yC_voters μ &&& (yC_bit (μ.2.1 0 0) ^^^ (-1 : Int32))) → 0 ≤ x.toInt → x.toInt + r = 7 → r < f → n + r ≤ 1000000 → Pw g h (n + r) (fun m => (m.2.1 0 9) = (μ.2.1 0 9)) (yC_sendToVoters_b18_L f k t o x μ) (yM_question_b2_L f k t x ν) := by
  intro r
  induction r with
  | zero =>
    intro f k t o x n μ ν he hi ho hx hr hf hn
    obtain ⟨f, rfl⟩ : ∃ f', f = f' + 1 := ⟨f - 1, by omega⟩
    unfold yC_sendToVoters_b18_L yC_sendToVoters_b18 yM_question_b2_L yM_question_b2
    have hc : (7 : Int32) ≤ x := by rw [Int32.le_iff_toInt_le, il_7]; omega
    rw [if_pos hc, if_pos hc]
    exact Pw.ret he hi rfl
  | succ r ih =>
    intro f k t o x n μ ν he hi ho hx hr hf hn
    obtain ⟨f, rfl⟩ : ∃ f', f = f' + 1 := ⟨f - 1, by omega⟩
    unfold yC_sendToVoters_b18_L yC_sendToVoters_b18 yM_question_b2_L yM_question_b2
    have hc : ¬ (7 : Int32) ≤ x := by rw [Int32.le_iff_toInt_le, il_7]; omega
    have hb := hi.LB (by omega)
    have e5 := inc_i (n := x) (by omega)
    rw [if_neg hc, if_neg hc, voters_m he hb hi.mem, xbi_s, has_eq _ hx (by omega), he.itself]
    have hh := has_but (v := yC_voters μ) hi.itself.1 hi.itself.2 hx (show x.toInt ≤ 6 by omega)
    rw [← ho] at hh
    by_cases hz : yC_has o x = 0
    · have go := ih f k t o (x + 1) (n + 1) μ ν he (hi.mono (by omega)) ho (by omega) (by omega) (by omega) (by omega)
      rw [show n + 1 + r = n + (r + 1) by omega] at go
      rw [if_pos hz]
      rcases hh.mp hz with h1 | h1
      · rw [if_pos h1]; exact go
      · by_cases h2 : yC_has (yC_voters μ) x = 0
        · rw [if_pos h2]; exact go
        · rw [if_neg h2, if_pos h1]; exact go
    · rw [if_neg hz, if_neg (fun k => hz (hh.mpr (Or.inl k))), if_neg (fun k => hz (hh.mpr (Or.inr k)))]
      obtain ⟨d, d', b1, b2, z⟩ := L_begin μ ν x k t
      rw [b1, b2, xbv_s, xbv_s, zμ_28, zν_j10, he.last]
      obtain ⟨d1, d1', a1, a2, z1⟩ := L_add (μ := μ) (ν := ν) z (by decide) (μ.2.1 28 9)
      rw [a1, a2, xbv_s, xbv_s, lastTerm_c (μ := zμ μ (3 + 1) d1) hb, xbi_s, zν_j10, he.last, termAt_m (RE_z he) (μ := zμ μ (3 + 1) d1) hb hb.2.1 (Int.le_refl _), xbi_s]
      obtain ⟨d2, d2', a3, a4, z2⟩ := L_add (μ := μ) (ν := ν) z1 (by decide) (zt (zμ μ (3 + 1) d1) (μ.2.1 28 9))
      rw [zμ_28, a3, a4, xbv_s, xbv_s, zμ_28]
      obtain ⟨X, Y, Z, p1, p2, he', hi'⟩ := L_post he hi (by omega) z2
      rw [p1, p2, xbv_s, xbv_s]
      have go := ih f k t o (x + 1) (n + 1) _ _ he' hi' ho (by omega) (by omega) (by omega) (by omega)
      rw [show n + 1 + r = n + (r + 1) by omega] at go
      exact go
theorem P_askAllK {g h μ ν : XMu} {n : Nat} (he : RE g h μ ν) (hi : RI n μ) (hn : n + 7 ≤ 1000000) (k t : Int32) : Pw g h (n + 7) (fun m => (m.2.1 0 9) = (μ.2.1 0 9)) (yC_sendToVoters k t μ) (yM_question k t ν) := by
  unfold yC_sendToVoters yM_question
  exact ask_loop 7 1000 k t _ 0 n μ ν he hi rfl (by decide) (by decide) (by omega) hn
theorem P_askAll {g h μ ν : XMu} {n : Nat} (he : RE g h μ ν) (hi : RI n μ) (hn : n + 7 ≤ 1000000) (k t : Int32) : Pv g h (n + 7) (yC_sendToVoters k t μ) (yM_question k t ν) := (P_askAllK he hi hn k t).toPv
theorem P_campaign {g h μ ν : XMu} {n : Nat} (he : RE g h μ ν) (hi : RI n μ) (hr : ¬ (μ.2.1 0 9) = 3) (hn : n + 8 ≤ 1000000) : Pv g h (n + 8) (yC_campaign μ) (yM_campaign ν) := by
  unfold yC_campaign yM_campaign yDi_enterTerm yDi_voteFor
  have h1 := hi.term
  have e := inc_i (n := (μ.2.1 28 3)) (by omega)
  have hit := hi.itself
  rw [xbv_s, if_neg (fun k => by
    have k2 : (-1 : Int32) = (μ.2.1 0 0) := k
    rw [← k2, il_m1] at hit
    omega), xbv_s, he.term, he.itself]
  have hi1 := hi.mono (Nat.le_add_right n 1)
  have RE1 : RE g h (μ.1, xuI (xuI (xuI (xuI (xuI (xuI (xuI (xuI μ.2.1 0 9 2) 0 10 (-1)) 28 3 ((μ.2.1 28 3) + 1)) 28 4 (-1)) 28 11 1) 28 4 (μ.2.1 0 0)) 28 11 1) 0 15 0, μ.2.2) (ν.1, xuI (xuI (xuI (xuI (xuI (xuI ν.2.1 32 15 2) 32 16 (-1)) 32 4 ((μ.2.1 28 3) + 1)) 32 5 (μ.2.1 0 0)) 32 14 1) 32 22 0, ν.2.2) := (RE.mk (ft := he.ft) (fg := fun c hc => by first | exact he.fg c hc | (have hh := he.fg c hc; (try unfold zq at hh); (try unfold zd at hh); (try unfold zf at hh); (try unfold zo at hh); (try unfold zo); (try unfold zh at hh); (try unfold zh); (try unfold zq); (try unfold zd); (try unfold zf); (try dsimp only at hh); (try dsimp only); (repeat (first | rw [xuI_o (by omega)] at hh | rw [xuL_o (by omega)] at hh | rw [va_up_o (by omega)] at hh)); (repeat (first | rw [xuI_o (by omega)] | rw [xuL_o (by omega)] | rw [va_up_o (by omega)])); exact hh)) (fgl := fun c hc => by first | exact he.fgl c hc | (have hh := he.fgl c hc; (try unfold zq at hh); (try unfold zd at hh); (try unfold zf at hh); (try unfold zo at hh); (try unfold zo); (try unfold zh at hh); (try unfold zh); (try unfold zq); (try unfold zd); (try unfold zf); (try dsimp only at hh); (try dsimp only); (repeat (first | rw [xuI_o (by omega)] at hh | rw [xuL_o (by omega)] at hh | rw [va_up_o (by omega)] at hh)); (repeat (first | rw [xuI_o (by omega)] | rw [xuL_o (by omega)] | rw [va_up_o (by omega)])); exact hh)) (ht := he.ht) (hg := fun c hc => by first | exact he.hg c hc | (have hh := he.hg c hc; (try unfold zq at hh); (try unfold zd at hh); (try unfold zf at hh); (try unfold zo at hh); (try unfold zo); (try unfold zh at hh); (try unfold zh); (try unfold zq); (try unfold zd); (try unfold zf); (try dsimp only at hh); (try dsimp only); (repeat (first | rw [xuI_o (by omega)] at hh | rw [xuL_o (by omega)] at hh | rw [va_up_o (by omega)] at hh)); (repeat (first | rw [xuI_o (by omega)] | rw [xuL_o (by omega)] | rw [va_up_o (by omega)])); exact hh)) (hgl := fun c hc => by first | exact he.hgl c hc | (have hh := he.hgl c hc; (try unfold zq at hh); (try unfold zd at hh); (try unfold zf at hh); (try unfold zo at hh); (try unfold zo); (try unfold zh at hh); (try unfold zh); (try unfold zq); (try unfold zd); (try unfold zf); (try dsimp only at hh); (try dsimp only); (repeat (first | rw [xuI_o (by omega)] at hh | rw [xuL_o (by omega)] at hh | rw [va_up_o (by omega)] at hh)); (repeat (first | rw [xuI_o (by omega)] | rw [xuL_o (by omega)] | rw [va_up_o (by omega)])); exact hh)) (thr := he.thr) (row := he.row) (itself := he.itself) (now := he.now) (term := rfl) (voted := rfl) (base := he.base) (last := he.last) (baseTerm := he.baseTerm) (baseCode := he.baseCode) (snapshot := he.snapshot) (dirty := rfl) (role := rfl) (leader := rfl) (commit := he.commit) (applied := he.applied) (synced := he.synced) (heard := he.heard) (alarm := he.alarm) (votes := rfl) (handing := he.handing) (handed := he.handed) (first := he.first) (round := he.round) (assembly := he.assembly) (described := he.described) (toldBase := he.toldBase) (toldTerm := he.toldTerm) (toldCode := he.toldCode) (toldSize := he.toldSize) (told := he.told) (waits := he.waits) (went := he.went) (done := he.done) (calls := he.calls) (next := he.next) (mtch := he.mtch) (flying := he.flying) (offset := he.offset) (ack := he.ack) (seen := he.seen) (probing := he.probing) (answered := he.answered) (toldTerms := he.toldTerms) (toldKinds := he.toldKinds) (toldValues := he.toldValues) (doneNumbers := he.doneNumbers) (doneValues := he.doneValues) (callState := he.callState) (callNumber := he.callNumber) (got := he.got) (log := he.log) (kept := he.kept) (wait := he.wait) (cls := he.cls))
  have RI1 : RI (n + 1) (μ.1, xuI (xuI (xuI (xuI (xuI (xuI (xuI (xuI μ.2.1 0 9 2) 0 10 (-1)) 28 3 ((μ.2.1 28 3) + 1)) 28 4 (-1)) 28 11 1) 28 4 (μ.2.1 0 0)) 28 11 1) 0 15 0, μ.2.2) := (RI.mk (itself := hi1.itself) (role := Or.inr (Or.inr (Or.inl rfl))) (base := hi1.base) (ba := hi1.ba) (ac := hi1.ac) (cl := hi1.cl) (lb := hi1.lb) (last := hi1.last) (syn := hi1.syn) (dirty := rfl) (desc := hi1.desc) (now := hi1.now) (term := ⟨by show 0 ≤ ((μ.2.1 28 3) + 1).toInt; omega, by show ((μ.2.1 28 3) + 1).toInt ≤ _; omega⟩) (went := hi1.went) (waits := hi1.waits) (done := hi1.done) (calls := hi1.calls) (told := hi1.told) (round := hi1.round) (hand := hi1.hand) (heard := hi1.heard) (vote := fun _ => rfl) (lead := fun k => by cases k) (quiet := fun _ => hi.quiet hr) (cmd := hi1.cmd) (tt := hi1.tt) (tb := hi1.tb) (got := hi1.got) (mem := hi1.mem))
  refine (P_draw RE1 RI1).bind fun μ1 ν1 he1 hi1 => ?_
  rw [he1.term]
  exact ((P_askAll he1 hi1 (by omega) 3 (μ1.2.1 28 3)).tail).mono (by omega)
def bt (s : Int32) (j : Nat) : Bool := s.toBitVec.getLsbD j
theorem bit_i (x : Int32) {k : Nat} (hk : k < 7) {i : Int32} (hi : i = Int32.ofNat k) : ((x >>> (i &&& 31)) &&& (1 : Int32)).toInt = if bt x k = true then 1 else 0 := by
  subst hi
  have h1 : ((x >>> (Int32.ofNat k &&& 31)) &&& (1 : Int32)).toBitVec = (x.toBitVec.sshiftRight k) &&& 1#32 := by
    rcases (show k = 0 ∨ k = 1 ∨ k = 2 ∨ k = 3 ∨ k = 4 ∨ k = 5 ∨ k = 6 by omega) with rfl | rfl | rfl | rfl | rfl | rfl | rfl <;> rfl
  have h2 : (x.toBitVec.sshiftRight k) &&& 1#32 = (BitVec.ofBool (x.toBitVec.getLsbD k)).setWidth 32 := by
    rw [BitVec.and_one_eq_setWidth_ofBool_getLsbD, BitVec.getLsbD_sshiftRight]
    simp [show k < 32 by omega]
  have e : ((x >>> (Int32.ofNat k &&& 31)) &&& (1 : Int32)).toInt = (((x >>> (Int32.ofNat k &&& 31)) &&& (1 : Int32)).toBitVec).toInt := rfl
  rw [e, h1, h2]
  unfold bt
  cases x.toBitVec.getLsbD k <;> rfl
def bi (x : Int32) (k : Nat) : Int := if bt x k = true then 1 else 0
theorem bi_01 (x : Int32) (k : Nat) : 0 ≤ bi x k ∧ bi x k ≤ 1 := by unfold bi; split <;> omega
theorem pc7_i (x : Int32) : (pc7 x).toInt = bi x 0 + bi x 1 + bi x 2 + bi x 3 + bi x 4 + bi x 5 + bi x 6 := by
  have c0 := bi_01 x 0
  have c1 := bi_01 x 1
  have c2 := bi_01 x 2
  have c3 := bi_01 x 3
  have c4 := bi_01 x 4
  have c5 := bi_01 x 5
  have c6 := bi_01 x 6
  have b0 := bit_i x (k := 0) (by omega) (i := 0) rfl
  have b1 := bit_i x (k := 1) (by omega) (i := 0 + 1) rfl
  have b2 := bit_i x (k := 2) (by omega) (i := 0 + 1 + 1) rfl
  have b3 := bit_i x (k := 3) (by omega) (i := 0 + 1 + 1 + 1) rfl
  have b4 := bit_i x (k := 4) (by omega) (i := 0 + 1 + 1 + 1 + 1) rfl
  have b5 := bit_i x (k := 5) (by omega) (i := 0 + 1 + 1 + 1 + 1 + 1) rfl
  have b6 := bit_i x (k := 6) (by omega) (i := 0 + 1 + 1 + 1 + 1 + 1 + 1) rfl
  change _ = bi x 0 at b0
  change _ = bi x 1 at b1
  change _ = bi x 2 at b2
  change _ = bi x 3 at b3
  change _ = bi x 4 at b4
  change _ = bi x 5 at b5
  change _ = bi x 6 at b6
  unfold pc7
  generalize ((x >>> ((0 : Int32) &&& 31)) &&& 1) = y0 at *
  generalize ((x >>> ((0 + 1 : Int32) &&& 31)) &&& 1) = y1 at *
  generalize ((x >>> ((0 + 1 + 1 : Int32) &&& 31)) &&& 1) = y2 at *
  generalize ((x >>> ((0 + 1 + 1 + 1 : Int32) &&& 31)) &&& 1) = y3 at *
  generalize ((x >>> ((0 + 1 + 1 + 1 + 1 : Int32) &&& 31)) &&& 1) = y4 at *
  generalize ((x >>> ((0 + 1 + 1 + 1 + 1 + 1 : Int32) &&& 31)) &&& 1) = y5 at *
  generalize ((x >>> ((0 + 1 + 1 + 1 + 1 + 1 + 1 : Int32) &&& 31)) &&& 1) = y6 at *
  have a0 : ((0 : Int32) + y0).toInt = bi x 0 := by rw [i32_add (by rw [il_0]; omega) (by rw [il_0]; omega), il_0]; omega
  have a1 : ((0 : Int32) + y0 + y1).toInt = bi x 0 + bi x 1 := by rw [i32_add (by omega) (by omega)]; omega
  have a2 : ((0 : Int32) + y0 + y1 + y2).toInt = bi x 0 + bi x 1 + bi x 2 := by rw [i32_add (by omega) (by omega)]; omega
  have a3 : ((0 : Int32) + y0 + y1 + y2 + y3).toInt = bi x 0 + bi x 1 + bi x 2 + bi x 3 := by rw [i32_add (by omega) (by omega)]; omega
  have a4 : ((0 : Int32) + y0 + y1 + y2 + y3 + y4).toInt = bi x 0 + bi x 1 + bi x 2 + bi x 3 + bi x 4 := by rw [i32_add (by omega) (by omega)]; omega
  have a5 : ((0 : Int32) + y0 + y1 + y2 + y3 + y4 + y5).toInt = bi x 0 + bi x 1 + bi x 2 + bi x 3 + bi x 4 + bi x 5 := by rw [i32_add (by omega) (by omega)]; omega
  rw [i32_add (by omega) (by omega)]
  omega
theorem bt_and (a b : Int32) (k : Nat) : bt (a &&& b) k = (bt a k && bt b k) := by unfold bt; rw [Int32.toBitVec_and, BitVec.getLsbD_and]
theorem bt_or (a b : Int32) (k : Nat) : bt (a ||| b) k = (bt a k || bt b k) := by unfold bt; rw [Int32.toBitVec_or, BitVec.getLsbD_or]
theorem bi_le {a b o : Int32} {k : Nat} (h : bt a k = true → bt b k = true) : bi (a &&& o) k ≤ bi (b &&& o) k := by
  unfold bi
  rw [bt_and, bt_and]
  cases ha : bt a k with
  | false => simp; split <;> omega
  | true => rw [h ha]; omega
theorem pc7_le {a b o : Int32} (h : ∀ k, k < 7 → bt a k = true → bt b k = true) : (pc7 (a &&& o)).toInt ≤ (pc7 (b &&& o)).toInt := by
  rw [pc7_i, pc7_i]
  have h0 := bi_le (o := o) (h 0 (by omega))
  have h1 := bi_le (o := o) (h 1 (by omega))
  have h2 := bi_le (o := o) (h 2 (by omega))
  have h3 := bi_le (o := o) (h 3 (by omega))
  have h4 := bi_le (o := o) (h 4 (by omega))
  have h5 := bi_le (o := o) (h 5 (by omega))
  have h6 := bi_le (o := o) (h 6 (by omega))
  omega
theorem pc7_b (x : Int32) : 0 ≤ (pc7 x).toInt ∧ (pc7 x).toInt ≤ 7 := by
  rw [pc7_i]
  have c0 := bi_01 x 0
  have c1 := bi_01 x 1
  have c2 := bi_01 x 2
  have c3 := bi_01 x 3
  have c4 := bi_01 x 4
  have c5 := bi_01 x 5
  have c6 := bi_01 x 6
  omega
theorem two_i (x : Int32) : ((2 : Int32) * pc7 x).toInt = 2 * (pc7 x).toInt := by
  have := pc7_b x
  rw [i32_mul (by rw [il_2]; omega) (by rw [il_2]; omega), il_2]
theorem maj_mono {μ : XMu} {a b : Int32} (h : ∀ k, k < 7 → bt a k = true → bt b k = true) (hm : ¬ yC_isMajority a μ = 0) : ¬ yC_isMajority b μ = 0 := by
  have z1 : z7 (yC_oldOf (μ.2.1 28 13)) := z7_and _
  have z2 : z7 (yC_newOf (μ.2.1 28 13)) := z7_and _
  unfold yC_isMajority at hm ⊢
  rw [bitc_eq z1, bitc_eq z2, bitc_eq (z7_and2 z1), bitc_eq (z7_and2 z2)] at hm ⊢
  have l1 := pc7_le (o := yC_oldOf (μ.2.1 28 13)) h
  have l2 := pc7_le (o := yC_newOf (μ.2.1 28 13)) h
  by_cases c1 : (2 : Int32) * pc7 (a &&& yC_oldOf (μ.2.1 28 13)) ≤ pc7 (yC_oldOf (μ.2.1 28 13))
  · rw [if_pos c1] at hm
    exfalso
    apply hm
    split
    · rfl
    · split <;> rfl
  · have c1' : ¬ (2 : Int32) * pc7 (b &&& yC_oldOf (μ.2.1 28 13)) ≤ pc7 (yC_oldOf (μ.2.1 28 13)) := by
      rw [Int32.le_iff_toInt_le, two_i] at c1 ⊢
      omega
    rw [if_neg c1] at hm
    rw [if_neg c1']
    by_cases c2 : yC_newOf (μ.2.1 28 13) = 0
    · rw [if_pos c2]; decide
    · rw [if_neg c2] at hm ⊢
      by_cases c3 : (2 : Int32) * pc7 (a &&& yC_newOf (μ.2.1 28 13)) ≤ pc7 (yC_newOf (μ.2.1 28 13))
      · rw [if_pos c3] at hm; exact absurd rfl hm
      · have c3' : ¬ (2 : Int32) * pc7 (b &&& yC_newOf (μ.2.1 28 13)) ≤ pc7 (yC_newOf (μ.2.1 28 13)) := by
          rw [Int32.le_iff_toInt_le, two_i] at c3 ⊢
          omega
        rw [if_neg c3']; decide
def QA (μ : XMu) (v : Nat → Int32) (a : Int32) : Prop := ∃ S, (∀ j, j < 7 → (bt S j = true ↔ a.toInt ≤ (v j).toInt)) ∧ ¬ yC_isMajority S μ = 0
def QR (μ : XMu) (v : Nat → Int32) (r : Int32) : Prop := 0 ≤ r.toInt ∧ (r = 0 ∨ ∃ s, s < 7 ∧ r = v s ∧ 0 < (v s).toInt ∧ QA μ v (v s)) ∧ ∀ s, s < 7 → 0 < (v s).toInt → QA μ v (v s) → (v s).toInt ≤ r.toInt
theorem QR_uniq {μ : XMu} {v : Nat → Int32} {r r' : Int32} (h : QR μ v r) (h' : QR μ v r') : r = r' := by
  obtain ⟨a1, a2, a3⟩ := h
  obtain ⟨b1, b2, b3⟩ := h'
  apply inj_i
  apply Int.le_antisymm
  · rcases a2 with rfl | ⟨s, hs, rfl, h0, hq⟩
    · rw [il_0]; exact b1
    · exact b3 s hs h0 hq
  · rcases b2 with rfl | ⟨s, hs, rfl, h0, hq⟩
    · rw [il_0]; exact a1
    · exact a3 s hs h0 hq
theorem bt_bit {k j : Nat} (hk : k < 7) (hj : j < 7) : bt (yC_bit (Int32.ofNat k)) j = decide (j = k) := by
  have : ∀ a b : Fin 7, bt (yC_bit (Int32.ofNat a.val)) b.val = decide (b.val = a.val) := by decide
  exact this ⟨k, hk⟩ ⟨j, hj⟩
theorem z7_or {x y : Int32} (hx : z7 x) (hy : z7 y) : z7 (x ||| y) := by
  obtain ⟨a, ha, rfl⟩ := z7_of hx
  obtain ⟨b, hb, rfl⟩ := z7_of hy
  have h : ∀ k : Fin 128, Int32.ofNat k.val &&& 127 = Int32.ofNat k.val := by decide
  have e : (Int32.ofNat a ||| Int32.ofNat b) = (Int32.ofNat a ||| Int32.ofNat b) &&& 127 := by
    rw [← Int32.toBitVec_inj, Int32.toBitVec_and, Int32.toBitVec_or]
    have h1 := congrArg Int32.toBitVec (h ⟨a, ha⟩)
    have h2 := congrArg Int32.toBitVec (h ⟨b, hb⟩)
    rw [Int32.toBitVec_and] at h1 h2
    dsimp only at h1 h2
    apply BitVec.eq_of_getLsbD_eq
    intro i hi
    have h3 := congrArg (fun x => x.getLsbD i) h1
    have h4 := congrArg (fun x => x.getLsbD i) h2
    simp only [BitVec.getLsbD_and, BitVec.getLsbD_or] at h3 h4 ⊢
    rw [← h3, ← h4]
    cases (Int32.ofNat a).toBitVec.getLsbD i <;> cases (Int32.ofNat b).toBitVec.getLsbD i <;> cases (127 : Int32).toBitVec.getLsbD i <;> rfl
  rw [e]
  exact z7_and _
theorem z7_bit {i : Int32} (h1 : 0 ≤ i.toInt) (h2 : i.toInt ≤ 6) : z7 (yC_bit i) := by
  unfold z7
  rcases seven h1 h2 with rfl | rfl | rfl | rfl | rfl | rfl | rfl <;> decide
theorem from_13 : ∀ (r f : Nat) (a s x : Int32) (μ : XMu), 0 ≤ x.toInt → x.toInt + r = 7 → r < f → z7 s → ∃ S, yC_serversFrom_r13_b4_L f a s x μ = some (.inl (some (.int S)), μ) ∧ z7 S ∧ ∀ j, j < 7 → (bt S j = true ↔ (bt s j = true ∨ (x.toInt ≤ j ∧ a.toInt ≤ (μ.2.1 13 j).toInt))) := by
  intro r
  induction r with
  | zero =>
    intro f a s x μ hx hr hf hz
    obtain ⟨f, rfl⟩ : ∃ f', f = f' + 1 := ⟨f - 1, by omega⟩
    unfold yC_serversFrom_r13_b4_L yC_serversFrom_r13_b4
    rw [if_pos (by rw [Int32.le_iff_toInt_le, il_7]; omega)]
    exact ⟨s, rfl, hz, fun j hj => ⟨fun h => Or.inl h, fun h => h.resolve_right (by omega)⟩⟩
  | succ r ih =>
    intro f a s x μ hx hr hf hz
    obtain ⟨f, rfl⟩ : ∃ f', f = f' + 1 := ⟨f - 1, by omega⟩
    unfold yC_serversFrom_r13_b4_L yC_serversFrom_r13_b4
    have e5 := inc_i (n := x) (by omega)
    have t1 := tn_of hx
    rw [if_neg (by rw [Int32.le_iff_toInt_le, il_7]; omega), xgd_t (xin_of hx (by omega))]
    by_cases hc : μ.2.1 13 x.toNatClampNeg < a
    · rw [if_pos hc]
      rw [Int32.lt_iff_toInt_lt] at hc
      obtain ⟨S, h1, h2, h3⟩ := ih f a s (x + 1) μ (by omega) (by omega) (by omega) hz
      refine ⟨S, h1, h2, fun j hj => ?_⟩
      rw [h3 j hj]
      by_cases hj2 : j = x.toNatClampNeg
      · subst hj2
        constructor
        · rintro (h | h)
          · exact Or.inl h
          · omega
        · rintro (h | h)
          · exact Or.inl h
          · omega
      · constructor
        · rintro (h | h)
          · exact Or.inl h
          · exact Or.inr ⟨by omega, h.2⟩
        · rintro (h | h)
          · exact Or.inl h
          · exact Or.inr ⟨by omega, h.2⟩
    · rw [if_neg hc]
      rw [Int32.lt_iff_toInt_lt] at hc
      obtain ⟨k, hk, hk2, hk3⟩ := nat7 hx (by omega)
      obtain ⟨S, h1, h2, h3⟩ := ih f a (s ||| yC_bit x) (x + 1) μ (by omega) (by omega) (by omega) (z7_or hz (z7_bit hx (by omega)))
      refine ⟨S, h1, h2, fun j hj => ?_⟩
      rw [h3 j hj, bt_or, hk2, bt_bit hk hj, Bool.or_eq_true, decide_eq_true_iff]
      rw [hk2] at e5
      by_cases hj2 : j = k
      · constructor
        · intro _
          refine Or.inr ⟨by rw [hk2] at hk3; omega, ?_⟩
          have : x.toNatClampNeg = j := by omega
          rw [this] at hc
          omega
        · intro _; exact Or.inl (Or.inr hj2)
      · rw [hk2] at hk3
        constructor
        · rintro ((h | h) | h)
          · exact Or.inl h
          · exact absurd h hj2
          · exact Or.inr ⟨by omega, h.2⟩
        · rintro (h | h)
          · exact Or.inl (Or.inl h)
          · exact Or.inr ⟨by omega, h.2⟩
theorem fromS_13 (a : Int32) (μ : XMu) : ∃ S, yC_serversFrom_r13 a μ = some (.inl (some (.int S)), μ) ∧ z7 S ∧ ∀ j, j < 7 → (bt S j = true ↔ a.toInt ≤ (μ.2.1 13 j).toInt) := by
  obtain ⟨S, h1, h2, h3⟩ := from_13 7 1000 a 0 0 μ (by decide) (by decide) (by omega) ⟨by decide, by decide⟩
  refine ⟨S, h1, h2, fun j hj => ?_⟩
  rw [h3 j hj, il_0]
  constructor
  · rintro (h | h)
    · rw [show bt 0 j = false by unfold bt; exact BitVec.getLsbD_zero] at h; cases h
    · exact h.2
  · intro h; exact Or.inr ⟨by omega, h⟩
theorem reach_13 : ∀ (r f : Nat) (G x : Int32) (μ : XMu), 0 ≤ x.toInt → x.toInt + r = 7 → r < f → 0 ≤ G.toInt → (G = 0 ∨ ∃ s, s < 7 ∧ G = μ.2.1 13 s ∧ 0 < (μ.2.1 13 s).toInt ∧ QA μ (μ.2.1 13) (μ.2.1 13 s)) → (∀ s : Nat, s < 7 → (s : Int) < x.toInt → 0 < (μ.2.1 13 s).toInt → QA μ (μ.2.1 13) (μ.2.1 13 s) → (μ.2.1 13 s).toInt ≤ G.toInt) → ∃ v, yC_reachedByMajority_r13_b4_L f G x μ = some (.inl (some (.int v)), μ) ∧ QR μ (μ.2.1 13) v := by
  intro r
  induction r with
  | zero =>
    intro f G x μ hx hr hf g0 g1 g2
    obtain ⟨f, rfl⟩ : ∃ f', f = f' + 1 := ⟨f - 1, by omega⟩
    unfold yC_reachedByMajority_r13_b4_L yC_reachedByMajority_r13_b4
    rw [if_pos (by rw [Int32.le_iff_toInt_le, il_7]; omega)]
    exact ⟨G, rfl, g0, g1, fun s hs => g2 s hs (by omega)⟩
  | succ r ih =>
    intro f G x μ hx hr hf g0 g1 g2
    obtain ⟨f, rfl⟩ : ∃ f', f = f' + 1 := ⟨f - 1, by omega⟩
    unfold yC_reachedByMajority_r13_b4_L yC_reachedByMajority_r13_b4
    have e5 := inc_i (n := x) (by omega)
    have t1 := tn_of hx
    rw [if_neg (by rw [Int32.le_iff_toInt_le, il_7]; omega), xgd_t (xin_of hx (by omega))]
    by_cases hc : μ.2.1 13 x.toNatClampNeg ≤ G
    · rw [if_pos hc]
      rw [Int32.le_iff_toInt_le] at hc
      refine ih f G (x + 1) μ (by omega) (by omega) (by omega) g0 g1 fun s hs hs2 p q => ?_
      by_cases hj2 : s = x.toNatClampNeg
      · rw [hj2]; exact hc
      · exact g2 s hs (by omega) p q
    · rw [if_neg hc, xgd_t (xin_of hx (by omega))]
      rw [Int32.le_iff_toInt_le] at hc
      obtain ⟨S, h1, h2, h3⟩ := fromS_13 (μ.2.1 13 x.toNatClampNeg) μ
      rw [h1, xbi_s]
      by_cases hm : yC_isMajority S μ = 0
      · rw [if_pos hm]
        refine ih f G (x + 1) μ (by omega) (by omega) (by omega) g0 g1 fun s hs hs2 p q => ?_
        by_cases hj2 : s = x.toNatClampNeg
        · rw [hj2] at q
          obtain ⟨S', q1, q2⟩ := q
          exact absurd hm (maj_mono (fun k hk hb => (h3 k hk).mpr ((q1 k hk).mp hb)) q2)
        · exact g2 s hs (by omega) p q
      · rw [if_neg hm, xgd_t (xin_of hx (by omega))]
        refine ih f _ (x + 1) μ (by omega) (by omega) (by omega) (by omega) (Or.inr ⟨x.toNatClampNeg, by omega, rfl, by omega, S, h3, hm⟩) fun s hs hs2 p q => ?_
        by_cases hj2 : s = x.toNatClampNeg
        · rw [hj2]; omega
        · have := g2 s hs (by omega) p q
          omega
theorem reachS_13 (μ : XMu) : ∃ v, yC_reachedByMajority_r13 μ = some (.inl (some (.int v)), μ) ∧ QR μ (μ.2.1 13) v := reach_13 7 1000 0 0 μ (by decide) (by decide) (by omega) (by decide) (Or.inl rfl) (fun s _ h => by rw [il_0] at h; omega)
theorem from_17 : ∀ (r f : Nat) (a s x : Int32) (μ : XMu), 0 ≤ x.toInt → x.toInt + r = 7 → r < f → z7 s → ∃ S, yC_serversFrom_r17_b4_L f a s x μ = some (.inl (some (.int S)), μ) ∧ z7 S ∧ ∀ j, j < 7 → (bt S j = true ↔ (bt s j = true ∨ (x.toInt ≤ j ∧ a.toInt ≤ (μ.2.1 17 j).toInt))) := by
  intro r
  induction r with
  | zero =>
    intro f a s x μ hx hr hf hz
    obtain ⟨f, rfl⟩ : ∃ f', f = f' + 1 := ⟨f - 1, by omega⟩
    unfold yC_serversFrom_r17_b4_L yC_serversFrom_r17_b4
    rw [if_pos (by rw [Int32.le_iff_toInt_le, il_7]; omega)]
    exact ⟨s, rfl, hz, fun j hj => ⟨fun h => Or.inl h, fun h => h.resolve_right (by omega)⟩⟩
  | succ r ih =>
    intro f a s x μ hx hr hf hz
    obtain ⟨f, rfl⟩ : ∃ f', f = f' + 1 := ⟨f - 1, by omega⟩
    unfold yC_serversFrom_r17_b4_L yC_serversFrom_r17_b4
    have e5 := inc_i (n := x) (by omega)
    have t1 := tn_of hx
    rw [if_neg (by rw [Int32.le_iff_toInt_le, il_7]; omega), xgd_t (xin_of hx (by omega))]
    by_cases hc : μ.2.1 17 x.toNatClampNeg < a
    · rw [if_pos hc]
      rw [Int32.lt_iff_toInt_lt] at hc
      obtain ⟨S, h1, h2, h3⟩ := ih f a s (x + 1) μ (by omega) (by omega) (by omega) hz
      refine ⟨S, h1, h2, fun j hj => ?_⟩
      rw [h3 j hj]
      by_cases hj2 : j = x.toNatClampNeg
      · subst hj2
        constructor
        · rintro (h | h)
          · exact Or.inl h
          · omega
        · rintro (h | h)
          · exact Or.inl h
          · omega
      · constructor
        · rintro (h | h)
          · exact Or.inl h
          · exact Or.inr ⟨by omega, h.2⟩
        · rintro (h | h)
          · exact Or.inl h
          · exact Or.inr ⟨by omega, h.2⟩
    · rw [if_neg hc]
      rw [Int32.lt_iff_toInt_lt] at hc
      obtain ⟨k, hk, hk2, hk3⟩ := nat7 hx (by omega)
      obtain ⟨S, h1, h2, h3⟩ := ih f a (s ||| yC_bit x) (x + 1) μ (by omega) (by omega) (by omega) (z7_or hz (z7_bit hx (by omega)))
      refine ⟨S, h1, h2, fun j hj => ?_⟩
      rw [h3 j hj, bt_or, hk2, bt_bit hk hj, Bool.or_eq_true, decide_eq_true_iff]
      rw [hk2] at e5
      by_cases hj2 : j = k
      · constructor
        · intro _
          refine Or.inr ⟨by rw [hk2] at hk3; omega, ?_⟩
          have : x.toNatClampNeg = j := by omega
          rw [this] at hc
          omega
        · intro _; exact Or.inl (Or.inr hj2)
      · rw [hk2] at hk3
        constructor
        · rintro ((h | h) | h)
          · exact Or.inl h
          · exact absurd h hj2
          · exact Or.inr ⟨by omega, h.2⟩
        · rintro (h | h)
          · exact Or.inl (Or.inl h)
          · exact Or.inr ⟨by omega, h.2⟩
theorem fromS_17 (a : Int32) (μ : XMu) : ∃ S, yC_serversFrom_r17 a μ = some (.inl (some (.int S)), μ) ∧ z7 S ∧ ∀ j, j < 7 → (bt S j = true ↔ a.toInt ≤ (μ.2.1 17 j).toInt) := by
  obtain ⟨S, h1, h2, h3⟩ := from_17 7 1000 a 0 0 μ (by decide) (by decide) (by omega) ⟨by decide, by decide⟩
  refine ⟨S, h1, h2, fun j hj => ?_⟩
  rw [h3 j hj, il_0]
  constructor
  · rintro (h | h)
    · rw [show bt 0 j = false by unfold bt; exact BitVec.getLsbD_zero] at h; cases h
    · exact h.2
  · intro h; exact Or.inr ⟨by omega, h⟩
theorem reach_17 : ∀ (r f : Nat) (G x : Int32) (μ : XMu), 0 ≤ x.toInt → x.toInt + r = 7 → r < f → 0 ≤ G.toInt → (G = 0 ∨ ∃ s, s < 7 ∧ G = μ.2.1 17 s ∧ 0 < (μ.2.1 17 s).toInt ∧ QA μ (μ.2.1 17) (μ.2.1 17 s)) → (∀ s : Nat, s < 7 → (s : Int) < x.toInt → 0 < (μ.2.1 17 s).toInt → QA μ (μ.2.1 17) (μ.2.1 17 s) → (μ.2.1 17 s).toInt ≤ G.toInt) → ∃ v, yC_reachedByMajority_r17_b4_L f G x μ = some (.inl (some (.int v)), μ) ∧ QR μ (μ.2.1 17) v := by
  intro r
  induction r with
  | zero =>
    intro f G x μ hx hr hf g0 g1 g2
    obtain ⟨f, rfl⟩ : ∃ f', f = f' + 1 := ⟨f - 1, by omega⟩
    unfold yC_reachedByMajority_r17_b4_L yC_reachedByMajority_r17_b4
    rw [if_pos (by rw [Int32.le_iff_toInt_le, il_7]; omega)]
    exact ⟨G, rfl, g0, g1, fun s hs => g2 s hs (by omega)⟩
  | succ r ih =>
    intro f G x μ hx hr hf g0 g1 g2
    obtain ⟨f, rfl⟩ : ∃ f', f = f' + 1 := ⟨f - 1, by omega⟩
    unfold yC_reachedByMajority_r17_b4_L yC_reachedByMajority_r17_b4
    have e5 := inc_i (n := x) (by omega)
    have t1 := tn_of hx
    rw [if_neg (by rw [Int32.le_iff_toInt_le, il_7]; omega), xgd_t (xin_of hx (by omega))]
    by_cases hc : μ.2.1 17 x.toNatClampNeg ≤ G
    · rw [if_pos hc]
      rw [Int32.le_iff_toInt_le] at hc
      refine ih f G (x + 1) μ (by omega) (by omega) (by omega) g0 g1 fun s hs hs2 p q => ?_
      by_cases hj2 : s = x.toNatClampNeg
      · rw [hj2]; exact hc
      · exact g2 s hs (by omega) p q
    · rw [if_neg hc, xgd_t (xin_of hx (by omega))]
      rw [Int32.le_iff_toInt_le] at hc
      obtain ⟨S, h1, h2, h3⟩ := fromS_17 (μ.2.1 17 x.toNatClampNeg) μ
      rw [h1, xbi_s]
      by_cases hm : yC_isMajority S μ = 0
      · rw [if_pos hm]
        refine ih f G (x + 1) μ (by omega) (by omega) (by omega) g0 g1 fun s hs hs2 p q => ?_
        by_cases hj2 : s = x.toNatClampNeg
        · rw [hj2] at q
          obtain ⟨S', q1, q2⟩ := q
          exact absurd hm (maj_mono (fun k hk hb => (h3 k hk).mpr ((q1 k hk).mp hb)) q2)
        · exact g2 s hs (by omega) p q
      · rw [if_neg hm, xgd_t (xin_of hx (by omega))]
        refine ih f _ (x + 1) μ (by omega) (by omega) (by omega) (by omega) (Or.inr ⟨x.toNatClampNeg, by omega, rfl, by omega, S, h3, hm⟩) fun s hs hs2 p q => ?_
        by_cases hj2 : s = x.toNatClampNeg
        · rw [hj2]; omega
        · have := g2 s hs (by omega) p q
          omega
theorem reachS_17 (μ : XMu) : ∃ v, yC_reachedByMajority_r17 μ = some (.inl (some (.int v)), μ) ∧ QR μ (μ.2.1 17) v := reach_17 7 1000 0 0 μ (by decide) (by decide) (by omega) (by decide) (Or.inl rfl) (fun s _ h => by rw [il_0] at h; omega)
theorem from_18 : ∀ (r f : Nat) (a s x : Int32) (μ : XMu), 0 ≤ x.toInt → x.toInt + r = 7 → r < f → z7 s → ∃ S, yC_serversFrom_r18_b4_L f a s x μ = some (.inl (some (.int S)), μ) ∧ z7 S ∧ ∀ j, j < 7 → (bt S j = true ↔ (bt s j = true ∨ (x.toInt ≤ j ∧ a.toInt ≤ (μ.2.1 18 j).toInt))) := by
  intro r
  induction r with
  | zero =>
    intro f a s x μ hx hr hf hz
    obtain ⟨f, rfl⟩ : ∃ f', f = f' + 1 := ⟨f - 1, by omega⟩
    unfold yC_serversFrom_r18_b4_L yC_serversFrom_r18_b4
    rw [if_pos (by rw [Int32.le_iff_toInt_le, il_7]; omega)]
    exact ⟨s, rfl, hz, fun j hj => ⟨fun h => Or.inl h, fun h => h.resolve_right (by omega)⟩⟩
  | succ r ih =>
    intro f a s x μ hx hr hf hz
    obtain ⟨f, rfl⟩ : ∃ f', f = f' + 1 := ⟨f - 1, by omega⟩
    unfold yC_serversFrom_r18_b4_L yC_serversFrom_r18_b4
    have e5 := inc_i (n := x) (by omega)
    have t1 := tn_of hx
    rw [if_neg (by rw [Int32.le_iff_toInt_le, il_7]; omega), xgd_t (xin_of hx (by omega))]
    by_cases hc : μ.2.1 18 x.toNatClampNeg < a
    · rw [if_pos hc]
      rw [Int32.lt_iff_toInt_lt] at hc
      obtain ⟨S, h1, h2, h3⟩ := ih f a s (x + 1) μ (by omega) (by omega) (by omega) hz
      refine ⟨S, h1, h2, fun j hj => ?_⟩
      rw [h3 j hj]
      by_cases hj2 : j = x.toNatClampNeg
      · subst hj2
        constructor
        · rintro (h | h)
          · exact Or.inl h
          · omega
        · rintro (h | h)
          · exact Or.inl h
          · omega
      · constructor
        · rintro (h | h)
          · exact Or.inl h
          · exact Or.inr ⟨by omega, h.2⟩
        · rintro (h | h)
          · exact Or.inl h
          · exact Or.inr ⟨by omega, h.2⟩
    · rw [if_neg hc]
      rw [Int32.lt_iff_toInt_lt] at hc
      obtain ⟨k, hk, hk2, hk3⟩ := nat7 hx (by omega)
      obtain ⟨S, h1, h2, h3⟩ := ih f a (s ||| yC_bit x) (x + 1) μ (by omega) (by omega) (by omega) (z7_or hz (z7_bit hx (by omega)))
      refine ⟨S, h1, h2, fun j hj => ?_⟩
      rw [h3 j hj, bt_or, hk2, bt_bit hk hj, Bool.or_eq_true, decide_eq_true_iff]
      rw [hk2] at e5
      by_cases hj2 : j = k
      · constructor
        · intro _
          refine Or.inr ⟨by rw [hk2] at hk3; omega, ?_⟩
          have : x.toNatClampNeg = j := by omega
          rw [this] at hc
          omega
        · intro _; exact Or.inl (Or.inr hj2)
      · rw [hk2] at hk3
        constructor
        · rintro ((h | h) | h)
          · exact Or.inl h
          · exact absurd h hj2
          · exact Or.inr ⟨by omega, h.2⟩
        · rintro (h | h)
          · exact Or.inl (Or.inl h)
          · exact Or.inr ⟨by omega, h.2⟩
theorem fromS_18 (a : Int32) (μ : XMu) : ∃ S, yC_serversFrom_r18 a μ = some (.inl (some (.int S)), μ) ∧ z7 S ∧ ∀ j, j < 7 → (bt S j = true ↔ a.toInt ≤ (μ.2.1 18 j).toInt) := by
  obtain ⟨S, h1, h2, h3⟩ := from_18 7 1000 a 0 0 μ (by decide) (by decide) (by omega) ⟨by decide, by decide⟩
  refine ⟨S, h1, h2, fun j hj => ?_⟩
  rw [h3 j hj, il_0]
  constructor
  · rintro (h | h)
    · rw [show bt 0 j = false by unfold bt; exact BitVec.getLsbD_zero] at h; cases h
    · exact h.2
  · intro h; exact Or.inr ⟨by omega, h⟩
theorem reach_18 : ∀ (r f : Nat) (G x : Int32) (μ : XMu), 0 ≤ x.toInt → x.toInt + r = 7 → r < f → 0 ≤ G.toInt → (G = 0 ∨ ∃ s, s < 7 ∧ G = μ.2.1 18 s ∧ 0 < (μ.2.1 18 s).toInt ∧ QA μ (μ.2.1 18) (μ.2.1 18 s)) → (∀ s : Nat, s < 7 → (s : Int) < x.toInt → 0 < (μ.2.1 18 s).toInt → QA μ (μ.2.1 18) (μ.2.1 18 s) → (μ.2.1 18 s).toInt ≤ G.toInt) → ∃ v, yC_reachedByMajority_r18_b4_L f G x μ = some (.inl (some (.int v)), μ) ∧ QR μ (μ.2.1 18) v := by
  intro r
  induction r with
  | zero =>
    intro f G x μ hx hr hf g0 g1 g2
    obtain ⟨f, rfl⟩ : ∃ f', f = f' + 1 := ⟨f - 1, by omega⟩
    unfold yC_reachedByMajority_r18_b4_L yC_reachedByMajority_r18_b4
    rw [if_pos (by rw [Int32.le_iff_toInt_le, il_7]; omega)]
    exact ⟨G, rfl, g0, g1, fun s hs => g2 s hs (by omega)⟩
  | succ r ih =>
    intro f G x μ hx hr hf g0 g1 g2
    obtain ⟨f, rfl⟩ : ∃ f', f = f' + 1 := ⟨f - 1, by omega⟩
    unfold yC_reachedByMajority_r18_b4_L yC_reachedByMajority_r18_b4
    have e5 := inc_i (n := x) (by omega)
    have t1 := tn_of hx
    rw [if_neg (by rw [Int32.le_iff_toInt_le, il_7]; omega), xgd_t (xin_of hx (by omega))]
    by_cases hc : μ.2.1 18 x.toNatClampNeg ≤ G
    · rw [if_pos hc]
      rw [Int32.le_iff_toInt_le] at hc
      refine ih f G (x + 1) μ (by omega) (by omega) (by omega) g0 g1 fun s hs hs2 p q => ?_
      by_cases hj2 : s = x.toNatClampNeg
      · rw [hj2]; exact hc
      · exact g2 s hs (by omega) p q
    · rw [if_neg hc, xgd_t (xin_of hx (by omega))]
      rw [Int32.le_iff_toInt_le] at hc
      obtain ⟨S, h1, h2, h3⟩ := fromS_18 (μ.2.1 18 x.toNatClampNeg) μ
      rw [h1, xbi_s]
      by_cases hm : yC_isMajority S μ = 0
      · rw [if_pos hm]
        refine ih f G (x + 1) μ (by omega) (by omega) (by omega) g0 g1 fun s hs hs2 p q => ?_
        by_cases hj2 : s = x.toNatClampNeg
        · rw [hj2] at q
          obtain ⟨S', q1, q2⟩ := q
          exact absurd hm (maj_mono (fun k hk hb => (h3 k hk).mpr ((q1 k hk).mp hb)) q2)
        · exact g2 s hs (by omega) p q
      · rw [if_neg hm, xgd_t (xin_of hx (by omega))]
        refine ih f _ (x + 1) μ (by omega) (by omega) (by omega) (by omega) (Or.inr ⟨x.toNatClampNeg, by omega, rfl, by omega, S, h3, hm⟩) fun s hs hs2 p q => ?_
        by_cases hj2 : s = x.toNatClampNeg
        · rw [hj2]; omega
        · have := g2 s hs (by omega) p q
          omega
theorem reachS_18 (μ : XMu) : ∃ v, yC_reachedByMajority_r18 μ = some (.inl (some (.int v)), μ) ∧ QR μ (μ.2.1 18) v := reach_18 7 1000 0 0 μ (by decide) (by decide) (by omega) (by decide) (Or.inl rfl) (fun s _ h => by rw [il_0] at h; omega)
def vm (w : Int32) (ν : XMu) : Nat → Int32 := if w = 0 then (ν.2.1 37) else if w = 1 then (ν.2.1 41) else (ν.2.1 40)
theorem agr_unf {k4 k18} {w b s l x : Int32} {ν : XMu} : yM_agreed_b18 k4 k18 w b s l x ν = if (7 : Int32) ≤ x then yM_agreed_b89 k4 w b s l ν else xgd (xin x 7) (if yM_has s x = 0 then k18 w b s l (x + 1) ν else if l ≤ vm w ν x.toNatClampNeg then k18 w b s l (x + 1) ν else k18 w b s (vm w ν x.toNatClampNeg) (x + 1) ν) := by
  unfold yM_agreed_b18 vm
  by_cases h7 : (7 : Int32) ≤ x
  · rw [if_pos h7, if_pos h7]
  rw [if_neg h7, if_neg h7]
  by_cases h1 : w = 0
  · rw [if_neg (fun k => k h1), if_pos h1]
  · rw [if_pos h1, if_neg h1]
    by_cases h2 : w = 1
    · rw [if_neg (fun k => k h2), if_pos h2]
    · rw [if_pos h2, if_neg h2]
theorem least_m {k4 : Int32 → Int32 → Int32 → XMu → XRes} : ∀ (r f : Nat) (w b s l x : Int32) (ν : XMu), 0 ≤ x.toInt → x.toInt + r = 7 → r < f → ∃ m, yM_agreed_b18_L k4 f w b s l x ν = yM_agreed_b89 k4 w b s m ν ∧ m.toInt ≤ l.toInt ∧ (∀ j : Nat, j < 7 → x.toInt ≤ j → bt s j = true → m.toInt ≤ (vm w ν j).toInt) ∧ (m = l ∨ ∃ j, j < 7 ∧ bt s j = true ∧ m = vm w ν j) := by
  intro r
  induction r with
  | zero =>
    intro f w b s l x ν hx hr hf
    obtain ⟨f, rfl⟩ : ∃ f', f = f' + 1 := ⟨f - 1, by omega⟩
    unfold yM_agreed_b18_L
    rw [agr_unf, if_pos (by rw [Int32.le_iff_toInt_le, il_7]; omega)]
    exact ⟨l, rfl, Int.le_refl _, fun j hj h2 => by omega, Or.inl rfl⟩
  | succ r ih =>
    intro f w b s l x ν hx hr hf
    obtain ⟨f, rfl⟩ : ∃ f', f = f' + 1 := ⟨f - 1, by omega⟩
    unfold yM_agreed_b18_L
    have e5 := inc_i (n := x) (by omega)
    have t1 := tn_of hx
    obtain ⟨k, hk, hk2, hk3⟩ := nat7 hx (by omega)
    have hkt : k = x.toNatClampNeg := by omega
    rw [agr_unf, if_neg (by rw [Int32.le_iff_toInt_le, il_7]; omega), xgd_t (xin_of hx (by omega)), has_eq _ hx (by omega)]
    have hb := has_bit s hk
    rw [← hk2] at hb
    by_cases hz : yC_has s x = 0
    · rw [if_pos hz]
      obtain ⟨m, h1, h2, h3, h4⟩ := ih f w b s l (x + 1) ν (by omega) (by omega) (by omega)
      refine ⟨m, h1, h2, fun j hj h5 h6 => ?_, h4⟩
      by_cases hj2 : j = k
      · rw [hj2] at h6
        have := hb.mp hz
        unfold bt at h6
        rw [this] at h6
        cases h6
      · exact h3 j hj (by omega) h6
    · have hbt : bt s k = true := by
        unfold bt
        cases hq : s.toBitVec.getLsbD k with
        | true => rfl
        | false => exact absurd (hb.mpr hq) hz
      rw [if_neg hz]
      by_cases hl : l ≤ vm w ν x.toNatClampNeg
      · rw [if_pos hl]
        rw [Int32.le_iff_toInt_le] at hl
        obtain ⟨m, h1, h2, h3, h4⟩ := ih f w b s l (x + 1) ν (by omega) (by omega) (by omega)
        refine ⟨m, h1, h2, fun j hj h5 h6 => ?_, h4⟩
        by_cases hj2 : j = k
        · rw [hj2, hkt]; omega
        · exact h3 j hj (by omega) h6
      · rw [if_neg hl]
        rw [Int32.le_iff_toInt_le] at hl
        obtain ⟨m, h1, h2, h3, h4⟩ := ih f w b s (vm w ν x.toNatClampNeg) (x + 1) ν (by omega) (by omega) (by omega)
        refine ⟨m, h1, by omega, fun j hj h5 h6 => ?_, ?_⟩
        · by_cases hj2 : j = k
          · rw [hj2, hkt]; exact h2
          · exact h3 j hj (by omega) h6
        · rcases h4 with h4 | h4
          · exact Or.inr ⟨k, hk, hbt, by rw [h4, hkt]⟩
          · exact Or.inr h4
theorem z7_pos {S : Int32} (h : z7 S) {j : Nat} (hj : bt S j = true) : 1 ≤ S.toInt := by
  rcases Int.lt_or_eq_of_le h.1 with h1 | h1
  · exact h1
  · have : S = 0 := inj_i (by rw [il_0]; exact h1.symm)
    rw [this] at hj
    unfold bt at hj
    rw [show ((0 : Int32).toBitVec).getLsbD j = false from BitVec.getLsbD_zero] at hj
    cases hj
theorem agr_loop {g h μ ν : XMu} (he : RE g h μ ν) (hb : LB μ) (hm : ZM (μ.2.1 28 5) (μ.2.1 28 9) (μ.2.1 30) (μ.2.1 31) (μ.2.1 28 7) (μ.2.1 28 12) (μ.2.1 28 13)) (w : Int32) (hv : ∀ j, j < 7 → (vm w ν j).toInt < 2000000000) (hS : ∀ a, ∃ S, z7 S ∧ ∀ j, j < 7 → (bt S j = true ↔ a ≤ (vm w ν j).toInt)) : ∀ (r f : Nat) (b s : Int32), 1 ≤ s.toInt → s.toInt + r = 128 → r < f → 0 ≤ b.toInt → (b = 0 ∨ ∃ j, j < 7 ∧ b = vm w ν j ∧ 0 < (vm w ν j).toInt ∧ QA μ (vm w ν) (vm w ν j)) → (∀ (S : Int32) (c : Int), 1 ≤ S.toInt → S.toInt < s.toInt → ¬ yC_isMajority S μ = 0 → c < 2000000000 → (∀ j, j < 7 → bt S j = true → c ≤ (vm w ν j).toInt) → c ≤ b.toInt) → ∃ v, yM_agreed_b4_L f w b s ν = some (.inl (some (.int v)), ν) ∧ QR μ (vm w ν) v := by
  intro r
  induction r with
  | zero =>
    intro f b s h1 hr hf b0 b1 b2
    obtain ⟨f, rfl⟩ : ∃ f', f = f' + 1 := ⟨f - 1, by omega⟩
    unfold yM_agreed_b4_L yM_agreed_b4
    rw [if_pos (by rw [Int32.le_iff_toInt_le, il_128]; omega)]
    refine ⟨b, rfl, b0, b1, fun j hj p q => ?_⟩
    obtain ⟨S', q1, q2⟩ := q
    obtain ⟨S, z, s1⟩ := hS (vm w ν j).toInt
    have hbj : bt S j = true := (s1 j hj).mpr (Int.le_refl _)
    refine b2 S _ (z7_pos z hbj) (by have := z.2; omega) (maj_mono (fun k hk hh => (s1 k hk).mpr ((q1 k hk).mp hh)) q2) (hv j hj) fun k hk hh => (s1 k hk).mp hh
  | succ r ih =>
    intro f b s h1 hr hf b0 b1 b2
    obtain ⟨f, rfl⟩ : ∃ f', f = f' + 1 := ⟨f - 1, by omega⟩
    unfold yM_agreed_b4_L yM_agreed_b4
    have e5 := inc_i (n := s) (by omega)
    rw [if_neg (by rw [Int32.le_iff_toInt_le, il_128]; omega)]
    obtain ⟨m, h2, h3, h4, h5⟩ := least_m (k4 := yM_agreed_b4_L f) 7 1000 w b s 2000000000 0 ν (by decide) (by decide) (by omega)
    rw [h2]
    unfold yM_agreed_b89
    rw [majority_m he hb hm, xbi_s]
    have hne : ∃ j, j < 7 ∧ bt s j = true := by
      have z : z7 s := ⟨by omega, by omega⟩
      obtain ⟨k, hk, rfl⟩ := z7_of z
      have : ∀ k : Fin 128, k.val = 0 ∨ bt (Int32.ofNat k.val) 0 = true ∨ bt (Int32.ofNat k.val) 1 = true ∨ bt (Int32.ofNat k.val) 2 = true ∨ bt (Int32.ofNat k.val) 3 = true ∨ bt (Int32.ofNat k.val) 4 = true ∨ bt (Int32.ofNat k.val) 5 = true ∨ bt (Int32.ofNat k.val) 6 = true := by decide
      rcases this ⟨k, hk⟩ with h | h | h | h | h | h | h | h
      · dsimp only at h
        subst h
        exact absurd h1 (by decide)
      · exact ⟨0, by omega, h⟩
      · exact ⟨1, by omega, h⟩
      · exact ⟨2, by omega, h⟩
      · exact ⟨3, by omega, h⟩
      · exact ⟨4, by omega, h⟩
      · exact ⟨5, by omega, h⟩
      · exact ⟨6, by omega, h⟩
    have hmm : ∃ j, j < 7 ∧ bt s j = true ∧ m = vm w ν j := by
      rcases h5 with h5 | h5
      · obtain ⟨j, hj, hbj⟩ := hne
        have q1 := h4 j hj (by rw [il_0]; omega) hbj
        have q2 := hv j hj
        rw [h5, il_2000000000] at q1
        omega
      · exact h5
    obtain ⟨jm, hjm, hbm, rfl⟩ := hmm
    have key : ∀ (S : Int32) (c : Int), 1 ≤ S.toInt → S.toInt < (s + 1).toInt → ¬ yC_isMajority S μ = 0 → c < 2000000000 → (∀ j, j < 7 → bt S j = true → c ≤ (vm w ν j).toInt) → (S.toInt < s.toInt ∨ (S = s ∧ c ≤ (vm w ν jm).toInt)) := by
      intro S c q1 q2 q3 q4 q5
      by_cases hs : S.toInt < s.toInt
      · exact Or.inl hs
      · have : S = s := inj_i (by omega)
        subst this
        exact Or.inr ⟨rfl, q5 jm hjm hbm⟩
    by_cases hj : yC_isMajority s μ = 0
    · rw [if_pos hj]
      refine ih f b (s + 1) (by omega) (by omega) (by omega) b0 b1 fun S c q1 q2 q3 q4 q5 => ?_
      rcases key S c q1 q2 q3 q4 q5 with k | k
      · exact b2 S c q1 k q3 q4 q5
      · rw [k.1] at q3; exact absurd hj q3
    · rw [if_neg hj]
      by_cases hl : vm w ν jm ≤ b
      · rw [if_pos hl]
        rw [Int32.le_iff_toInt_le] at hl
        refine ih f b (s + 1) (by omega) (by omega) (by omega) b0 b1 fun S c q1 q2 q3 q4 q5 => ?_
        rcases key S c q1 q2 q3 q4 q5 with k | k
        · exact b2 S c q1 k q3 q4 q5
        · have := k.2; omega
      · rw [if_neg hl]
        rw [Int32.le_iff_toInt_le] at hl
        refine ih f (vm w ν jm) (s + 1) (by omega) (by omega) (by omega) (by omega) (Or.inr ⟨jm, hjm, rfl, by omega, ?_⟩) fun S c q1 q2 q3 q4 q5 => ?_
        · obtain ⟨S, z, s1⟩ := hS (vm w ν jm).toInt
          exact ⟨S, s1, maj_mono (fun k hk hh => (s1 k hk).mpr (h4 k hk (by rw [il_0]; omega) hh)) hj⟩
        · rcases key S c q1 q2 q3 q4 q5 with k | k
          · have := b2 S c q1 k q3 q4 q5; omega
          · exact k.2
theorem agreed_13 {g h μ ν : XMu} (he : RE g h μ ν) (hb : LB μ) (hm : ZM (μ.2.1 28 5) (μ.2.1 28 9) (μ.2.1 30) (μ.2.1 31) (μ.2.1 28 7) (μ.2.1 28 12) (μ.2.1 28 13)) (hv : ∀ j, j < 7 → (μ.2.1 13 j).toInt < 2000000000) : ∃ v, yC_reachedByMajority_r13 μ = some (.inl (some (.int v)), μ) ∧ yM_agreed 0 ν = some (.inl (some (.int v)), ν) ∧ QR μ (μ.2.1 13) v := by
  have e : vm 0 ν = μ.2.1 13 := he.mtch
  obtain ⟨v, h1, h2⟩ := reachS_13 μ
  obtain ⟨v', h3, h4⟩ := agr_loop he hb hm 0 (by rw [e]; exact hv) (by
    intro a
    rw [e]
    by_cases ha : -2147483648 ≤ a ∧ a < 2147483648
    · obtain ⟨S, _, z, s1⟩ := fromS_13 (Int32.ofInt a) μ
      refine ⟨S, z, ?_⟩
      rw [Int32.toInt_ofInt, bm32, show (a + 2147483648) % 4294967296 - 2147483648 = a by omega] at s1
      exact s1
    · by_cases h9 : a < 0
      · refine ⟨127, ⟨by decide, by decide⟩, fun j hj => ⟨fun _ => ?_, fun _ => ?_⟩⟩
        · have := Int32.le_toInt (μ.2.1 13 j); omega
        · have : ∀ k : Fin 7, bt 127 k.val = true := by decide
          exact this ⟨j, hj⟩
      · refine ⟨0, ⟨by decide, by decide⟩, fun j hj => ⟨fun hh => ?_, fun hh => ?_⟩⟩
        · unfold bt at hh
          rw [show ((0 : Int32).toBitVec).getLsbD j = false from BitVec.getLsbD_zero] at hh
          cases hh
        · have := Int32.toInt_lt (μ.2.1 13 j); omega) 127 1000 0 1 (by decide) (by decide) (by omega) (by decide) (Or.inl rfl) (fun S c q1 q2 => by rw [il_1] at q2; omega)
  rw [e] at h4
  have := QR_uniq h2 h4
  subst this
  exact ⟨v, h1, h3, h2⟩
theorem agreed_18 {g h μ ν : XMu} (he : RE g h μ ν) (hb : LB μ) (hm : ZM (μ.2.1 28 5) (μ.2.1 28 9) (μ.2.1 30) (μ.2.1 31) (μ.2.1 28 7) (μ.2.1 28 12) (μ.2.1 28 13)) (hv : ∀ j, j < 7 → (μ.2.1 18 j).toInt < 2000000000) : ∃ v, yC_reachedByMajority_r18 μ = some (.inl (some (.int v)), μ) ∧ yM_agreed 1 ν = some (.inl (some (.int v)), ν) ∧ QR μ (μ.2.1 18) v := by
  have e : vm 1 ν = μ.2.1 18 := he.seen
  obtain ⟨v, h1, h2⟩ := reachS_18 μ
  obtain ⟨v', h3, h4⟩ := agr_loop he hb hm 1 (by rw [e]; exact hv) (by
    intro a
    rw [e]
    by_cases ha : -2147483648 ≤ a ∧ a < 2147483648
    · obtain ⟨S, _, z, s1⟩ := fromS_18 (Int32.ofInt a) μ
      refine ⟨S, z, ?_⟩
      rw [Int32.toInt_ofInt, bm32, show (a + 2147483648) % 4294967296 - 2147483648 = a by omega] at s1
      exact s1
    · by_cases h9 : a < 0
      · refine ⟨127, ⟨by decide, by decide⟩, fun j hj => ⟨fun _ => ?_, fun _ => ?_⟩⟩
        · have := Int32.le_toInt (μ.2.1 18 j); omega
        · have : ∀ k : Fin 7, bt 127 k.val = true := by decide
          exact this ⟨j, hj⟩
      · refine ⟨0, ⟨by decide, by decide⟩, fun j hj => ⟨fun hh => ?_, fun hh => ?_⟩⟩
        · unfold bt at hh
          rw [show ((0 : Int32).toBitVec).getLsbD j = false from BitVec.getLsbD_zero] at hh
          cases hh
        · have := Int32.toInt_lt (μ.2.1 18 j); omega) 127 1000 0 1 (by decide) (by decide) (by omega) (by decide) (Or.inl rfl) (fun S c q1 q2 => by rw [il_1] at q2; omega)
  rw [e] at h4
  have := QR_uniq h2 h4
  subst this
  exact ⟨v, h1, h3, h2⟩
theorem agreed_17 {g h μ ν : XMu} (he : RE g h μ ν) (hb : LB μ) (hm : ZM (μ.2.1 28 5) (μ.2.1 28 9) (μ.2.1 30) (μ.2.1 31) (μ.2.1 28 7) (μ.2.1 28 12) (μ.2.1 28 13)) (hv : ∀ j, j < 7 → (μ.2.1 17 j).toInt < 2000000000) : ∃ v, yC_reachedByMajority_r17 μ = some (.inl (some (.int v)), μ) ∧ yM_agreed 2 ν = some (.inl (some (.int v)), ν) ∧ QR μ (μ.2.1 17) v := by
  have e : vm 2 ν = μ.2.1 17 := he.ack
  obtain ⟨v, h1, h2⟩ := reachS_17 μ
  obtain ⟨v', h3, h4⟩ := agr_loop he hb hm 2 (by rw [e]; exact hv) (by
    intro a
    rw [e]
    by_cases ha : -2147483648 ≤ a ∧ a < 2147483648
    · obtain ⟨S, _, z, s1⟩ := fromS_17 (Int32.ofInt a) μ
      refine ⟨S, z, ?_⟩
      rw [Int32.toInt_ofInt, bm32, show (a + 2147483648) % 4294967296 - 2147483648 = a by omega] at s1
      exact s1
    · by_cases h9 : a < 0
      · refine ⟨127, ⟨by decide, by decide⟩, fun j hj => ⟨fun _ => ?_, fun _ => ?_⟩⟩
        · have := Int32.le_toInt (μ.2.1 17 j); omega
        · have : ∀ k : Fin 7, bt 127 k.val = true := by decide
          exact this ⟨j, hj⟩
      · refine ⟨0, ⟨by decide, by decide⟩, fun j hj => ⟨fun hh => ?_, fun hh => ?_⟩⟩
        · unfold bt at hh
          rw [show ((0 : Int32).toBitVec).getLsbD j = false from BitVec.getLsbD_zero] at hh
          cases hh
        · have := Int32.toInt_lt (μ.2.1 17 j); omega) 127 1000 0 1 (by decide) (by decide) (by omega) (by decide) (Or.inl rfl) (fun S c q1 q2 => by rw [il_1] at q2; omega)
  rw [e] at h4
  have := QR_uniq h2 h4
  subst this
  exact ⟨v, h1, h3, h2⟩
