theorem zh_x {h : XMu} {c : Int32} : ((h.1, xuI h.2.1 32 0 c, h.2.2) : XMu) = zh h c := rfl
theorem Pub.i {g h μ ν : XMu} {n n' : Nat} {E : (Nat → Int32 → Prop) × (Option Value → Prop)} {v : Int32} (he : RE g (zh h 0) μ ν) (hi : RI n μ) (hn : n ≤ n') (hT : E.2 (some (.int v)) := by first | exact isV | exact isI _) : Pub g h n' E (some (.inl (some (.int v)), μ)) (some (.inl (some (.int v)), ν)) := Or.inl ⟨_, μ, ν, rfl, rfl, he, hi.mono hn, hT⟩
theorem Pub.v {g h μ ν : XMu} {n n' : Nat} {E : (Nat → Int32 → Prop) × (Option Value → Prop)} (he : RE g (zh h 0) μ ν) (hi : RI n μ) (hn : n ≤ n') (hT : E.2 none := by first | exact isV | exact isI _) : Pub g h n' E (some (.inl none, μ)) (some (.inl none, ν)) := Or.inl ⟨_, μ, ν, rfl, rfl, he, hi.mono hn, hT⟩
theorem Pub.toI {g h : XMu} {n n' : Nat} {E : (Nat → Int32 → Prop) × (Option Value → Prop)} {v : Int32} {P Q : XRes} (p : Pv g (zh h 0) n P Q) (hn : n ≤ n') (hT : E.2 (some (.int v)) := by first | exact isV | exact isI _) : Pub g h n' E (xbv P fun m => some (.inl (some (.int v)), m)) (xbv Q fun m => some (.inl (some (.int v)), m)) := by
  obtain ⟨μ, ν, rfl, rfl, c, d⟩ := p
  exact Pub.i c d hn hT
def Et : (Nat → Int32 → Prop) × (Option Value → Prop) := (fun k c => k = 0 ∧ c = 1, fun o => ∃ w : Int32, o = some (.int w))
def Ed : (Nat → Int32 → Prop) × (Option Value → Prop) := (fun k c => k = 0 ∧ c = 1, fun o => o = none)
def En : (Nat → Int32 → Prop) × (Option Value → Prop) := (fun _ _ => False, fun o => ∃ w : Int32, o = some (.int w))
def Ef : (Nat → Int32 → Prop) × (Option Value → Prop) := (fun _ _ => False, fun o => o = none)
def Ee : (Nat → Int32 → Prop) × (Option Value → Prop) := (fun k c => (k = 0 ∧ c = 1) ∨ (k = 1 ∧ c = 2), fun o => ∃ w : Int32, o = some (.int w))
def Ei : (Nat → Int32 → Prop) × (Option Value → Prop) := (fun k c => k = 2 ∧ c = 1, fun o => ∃ w : Int32, o = some (.int w))
theorem P_ringO {g h μ ν : XMu} {n : Nat} (he : RE g h μ ν) (hi : RI n μ) (hr : ¬ (μ.2.1 0 9) = 3) (hn : n + 15 ≤ 1000000) : ∃ μ' ν', yC_ringOtherwise μ = some (.inl none, μ') ∧ (∀ K, xbv (yM_draw ν) (fun m1 => xbi (yM_voters m1) (fun r3 m2 => (if (yM_has r3 (m2.2.1 32 1)) = (0 : Int32) then K m2 else xbv (yM_question (1 : Int32) ((m2.2.1 32 4) + (1 : Int32)) (m2.1, (xuI (xuI (xuI m2.2.1 32 15 (1 : Int32)) 32 16 (-1 : Int32)) 32 22 ((1 : Int32) <<< ((m2.2.1 32 1) &&& 31))), m2.2.2)) (fun m4 => xbi (yM_majority (m4.2.1 32 22) m4) (fun r6 m5 => (if r6 = (0 : Int32) then K m5 else xbv (yM_campaign m5) K)))))) = K ν') ∧ RE g h μ' ν' ∧ RI (n + 15) μ' := by
  obtain ⟨a, r, e1, e2⟩ := R_draw he
  unfold yC_ringOtherwise
  rw [e1, e2, xbv_s]
  have he1 := RE_draw he (a := a) (r := r)
  have hi1 := RI_draw hi (a := a) (r := r)
  generalize hM : ((μ.1, xuI μ.2.1 0 14 a, xuL μ.2.2 0 7 r) : XMu) = μ1 at he1 hi1 ⊢
  generalize hN : ((ν.1, xuI ν.2.1 32 21 a, xuL ν.2.2 32 2 r) : XMu) = ν1 at he1 ⊢
  have hr1 : ¬ (μ1.2.1 0 9) = 3 := by rw [← hM]; exact hr
  by_cases h1 : yC_has (yC_voters μ1) (μ1.2.1 0 0) = 0
  · rw [if_neg (not_not_intro h1)]
    refine ⟨μ1, ν1, rfl, fun K => ?_, he1, hi1.mono (by omega)⟩
    rw [xbv_s, voters_m he1 (hi1.LB (by omega)) hi1.mem, xbi_s, has_eq _ (by rw [he1.itself]; exact hi1.itself.1) (by rw [he1.itself]; exact hi1.itself.2), he1.itself, if_pos h1]
  · rw [if_pos h1]
    have he2 : RE g h (μ1.1, xuI (xuI (xuI μ1.2.1 0 9 1) 0 10 (-1)) 0 15 (yC_bit (μ1.2.1 0 0)), μ1.2.2) (ν1.1, xuI (xuI (xuI ν1.2.1 32 15 1) 32 16 (-1)) 32 22 (yC_bit (μ1.2.1 0 0)), ν1.2.2) := (RE.mk (ft := he1.ft) (fg := fun c hc => by first | exact he1.fg c hc | (have hh := he1.fg c hc; (try unfold zq at hh); (try unfold zd at hh); (try unfold zf at hh); (try unfold zo at hh); (try unfold zo); (try unfold zh at hh); (try unfold zh); (try unfold zq); (try unfold zd); (try unfold zf); (try dsimp only at hh); (try dsimp only); (repeat (first | rw [xuI_o (by omega)] at hh | rw [xuL_o (by omega)] at hh | rw [va_up_o (by omega)] at hh)); (repeat (first | rw [xuI_o (by omega)] | rw [xuL_o (by omega)] | rw [va_up_o (by omega)])); exact hh)) (fgl := fun c hc => by first | exact he1.fgl c hc | (have hh := he1.fgl c hc; (try unfold zq at hh); (try unfold zd at hh); (try unfold zf at hh); (try unfold zo at hh); (try unfold zo); (try unfold zh at hh); (try unfold zh); (try unfold zq); (try unfold zd); (try unfold zf); (try dsimp only at hh); (try dsimp only); (repeat (first | rw [xuI_o (by omega)] at hh | rw [xuL_o (by omega)] at hh | rw [va_up_o (by omega)] at hh)); (repeat (first | rw [xuI_o (by omega)] | rw [xuL_o (by omega)] | rw [va_up_o (by omega)])); exact hh)) (ht := he1.ht) (hg := fun c hc => by first | exact he1.hg c hc | (have hh := he1.hg c hc; (try unfold zq at hh); (try unfold zd at hh); (try unfold zf at hh); (try unfold zo at hh); (try unfold zo); (try unfold zh at hh); (try unfold zh); (try unfold zq); (try unfold zd); (try unfold zf); (try dsimp only at hh); (try dsimp only); (repeat (first | rw [xuI_o (by omega)] at hh | rw [xuL_o (by omega)] at hh | rw [va_up_o (by omega)] at hh)); (repeat (first | rw [xuI_o (by omega)] | rw [xuL_o (by omega)] | rw [va_up_o (by omega)])); exact hh)) (hgl := fun c hc => by first | exact he1.hgl c hc | (have hh := he1.hgl c hc; (try unfold zq at hh); (try unfold zd at hh); (try unfold zf at hh); (try unfold zo at hh); (try unfold zo); (try unfold zh at hh); (try unfold zh); (try unfold zq); (try unfold zd); (try unfold zf); (try dsimp only at hh); (try dsimp only); (repeat (first | rw [xuI_o (by omega)] at hh | rw [xuL_o (by omega)] at hh | rw [va_up_o (by omega)] at hh)); (repeat (first | rw [xuI_o (by omega)] | rw [xuL_o (by omega)] | rw [va_up_o (by omega)])); exact hh)) (thr := he1.thr) (row := he1.row) (itself := he1.itself) (now := he1.now) (term := he1.term) (voted := he1.voted) (base := he1.base) (last := he1.last) (baseTerm := he1.baseTerm) (baseCode := he1.baseCode) (snapshot := he1.snapshot) (dirty := he1.dirty) (role := rfl) (leader := rfl) (commit := he1.commit) (applied := he1.applied) (synced := he1.synced) (heard := he1.heard) (alarm := he1.alarm) (votes := rfl) (handing := he1.handing) (handed := he1.handed) (first := he1.first) (round := he1.round) (assembly := he1.assembly) (described := he1.described) (toldBase := he1.toldBase) (toldTerm := he1.toldTerm) (toldCode := he1.toldCode) (toldSize := he1.toldSize) (told := he1.told) (waits := he1.waits) (went := he1.went) (done := he1.done) (calls := he1.calls) (next := he1.next) (mtch := he1.mtch) (flying := he1.flying) (offset := he1.offset) (ack := he1.ack) (seen := he1.seen) (probing := he1.probing) (answered := he1.answered) (toldTerms := he1.toldTerms) (toldKinds := he1.toldKinds) (toldValues := he1.toldValues) (doneNumbers := he1.doneNumbers) (doneValues := he1.doneValues) (callState := he1.callState) (callNumber := he1.callNumber) (got := he1.got) (log := he1.log) (kept := he1.kept) (wait := he1.wait) (cls := he1.cls))
    have hi2 : RI n (μ1.1, xuI (xuI (xuI μ1.2.1 0 9 1) 0 10 (-1)) 0 15 (yC_bit (μ1.2.1 0 0)), μ1.2.2) := (RI.mk (itself := hi1.itself) (role := Or.inr (Or.inl rfl)) (base := hi1.base) (ba := hi1.ba) (ac := hi1.ac) (cl := hi1.cl) (lb := hi1.lb) (last := hi1.last) (syn := hi1.syn) (dirty := hi1.dirty) (desc := hi1.desc) (now := hi1.now) (term := hi1.term) (went := hi1.went) (waits := hi1.waits) (done := hi1.done) (calls := hi1.calls) (told := hi1.told) (round := hi1.round) (hand := hi1.hand) (heard := hi1.heard) (vote := fun k => by rcases k with k | k <;> cases k) (lead := fun k => by cases k) (quiet := fun _ => hi1.quiet hr1) (cmd := hi1.cmd) (tt := hi1.tt) (tb := hi1.tb) (got := hi1.got) (mem := hi1.mem))
    obtain ⟨μ3, ν3, q1, q2, he3, hi3, hk⟩ := P_askAllK he2 hi2 (by omega) 1 ((μ1.2.1 28 3) + 1)
    have hr3 : ¬ (μ3.2.1 0 9) = 3 := by rw [hk]; show ¬ (1 : Int32) = 3; decide
    rw [q1, xbv_s]
    by_cases h2 : yC_isMajority (μ3.2.1 0 15) μ3 = 0
    · rw [if_pos h2]
      refine ⟨μ3, ν3, rfl, fun K => ?_, he3, hi3.mono (by omega)⟩
      rw [xbv_s, voters_m he1 (hi1.LB (by omega)) hi1.mem, xbi_s, has_eq _ (by rw [he1.itself]; exact hi1.itself.1) (by rw [he1.itself]; exact hi1.itself.2), he1.itself, if_neg h1, bit_eq, he1.term, q2, xbv_s, he3.votes, majority_m he3 (hi3.LB (by omega)) hi3.mem, xbi_s, if_pos h2]
    · rw [if_neg h2]
      obtain ⟨μ4, ν4, p1, p2, he4, hi4⟩ := P_campaign he3 hi3 hr3 (by omega)
      rw [p1, xbv_s]
      refine ⟨μ4, ν4, rfl, fun K => ?_, he4, hi4.mono (by omega)⟩
      rw [xbv_s, voters_m he1 (hi1.LB (by omega)) hi1.mem, xbi_s, has_eq _ (by rw [he1.itself]; exact hi1.itself.1) (by rw [he1.itself]; exact hi1.itself.2), he1.itself, if_neg h1, bit_eq, he1.term, q2, xbv_s, he3.votes, majority_m he3 (hi3.LB (by omega)) hi3.mem, xbi_s, if_neg h2, p2, xbv_s]
theorem Q_tick {g h μ ν : XMu} {n : Nat} (he : RE g h μ ν) (hi : RI n μ) (hn : n + 1500 ≤ 1000000) (ht : μ.1 < 1024) (a : Int32) : Pub g h (n + 1500) Et (yC_tick a μ) (yM_tick a ν) := by
  unfold yC_tick yM_tick
  by_cases h1 : 1 ≤ a.toInt ∧ a.toInt ≤ 1000
  · have c1 : ¬ a < 1 := by rw [Int32.lt_iff_toInt_lt, il_1]; omega
    have c2 : a ≤ 1000 := by rw [Int32.le_iff_toInt_le, il_1000]; omega
    rw [if_neg c1, if_pos c2, within_1 (show (1 : Int32).toInt ≤ _ by rw [il_1]; omega) (show _ ≤ (1000 : Int32).toInt by rw [il_1000]; omega), if_pos (show ¬ (1 : Int32) = 0 by decide), he.alarm, he.now, he.role]
    have hnw := hi.now
    have ea : ((μ.2.1 0 8) + a).toInt = (μ.2.1 0 8).toInt + a.toInt := i32_add (by omega) (by omega)
    have hiw := hi.mono (show n ≤ n + 1000 by omega)
    have he0 := RE_zh he 0
    have he1 : RE g (zh h 0) (μ.1, xuI μ.2.1 0 8 ((μ.2.1 0 8) + a), μ.2.2) (ν.1, xuI (xuI ν.2.1 32 0 0) 32 3 ((μ.2.1 0 8) + a), ν.2.2) := (RE.mk (ft := he0.ft) (fg := fun c hc => by first | exact he0.fg c hc | (have hh := he0.fg c hc; (try unfold zq at hh); (try unfold zd at hh); (try unfold zf at hh); (try unfold zo at hh); (try unfold zo); (try unfold zh at hh); (try unfold zh); (try unfold zq); (try unfold zd); (try unfold zf); (try dsimp only at hh); (try dsimp only); (repeat (first | rw [xuI_o (by omega)] at hh | rw [xuL_o (by omega)] at hh | rw [va_up_o (by omega)] at hh)); (repeat (first | rw [xuI_o (by omega)] | rw [xuL_o (by omega)] | rw [va_up_o (by omega)])); exact hh)) (fgl := fun c hc => by first | exact he0.fgl c hc | (have hh := he0.fgl c hc; (try unfold zq at hh); (try unfold zd at hh); (try unfold zf at hh); (try unfold zo at hh); (try unfold zo); (try unfold zh at hh); (try unfold zh); (try unfold zq); (try unfold zd); (try unfold zf); (try dsimp only at hh); (try dsimp only); (repeat (first | rw [xuI_o (by omega)] at hh | rw [xuL_o (by omega)] at hh | rw [va_up_o (by omega)] at hh)); (repeat (first | rw [xuI_o (by omega)] | rw [xuL_o (by omega)] | rw [va_up_o (by omega)])); exact hh)) (ht := he0.ht) (hg := fun c hc => by first | exact he0.hg c hc | (have hh := he0.hg c hc; (try unfold zq at hh); (try unfold zd at hh); (try unfold zf at hh); (try unfold zo at hh); (try unfold zo); (try unfold zh at hh); (try unfold zh); (try unfold zq); (try unfold zd); (try unfold zf); (try dsimp only at hh); (try dsimp only); (repeat (first | rw [xuI_o (by omega)] at hh | rw [xuL_o (by omega)] at hh | rw [va_up_o (by omega)] at hh)); (repeat (first | rw [xuI_o (by omega)] | rw [xuL_o (by omega)] | rw [va_up_o (by omega)])); exact hh)) (hgl := fun c hc => by first | exact he0.hgl c hc | (have hh := he0.hgl c hc; (try unfold zq at hh); (try unfold zd at hh); (try unfold zf at hh); (try unfold zo at hh); (try unfold zo); (try unfold zh at hh); (try unfold zh); (try unfold zq); (try unfold zd); (try unfold zf); (try dsimp only at hh); (try dsimp only); (repeat (first | rw [xuI_o (by omega)] at hh | rw [xuL_o (by omega)] at hh | rw [va_up_o (by omega)] at hh)); (repeat (first | rw [xuI_o (by omega)] | rw [xuL_o (by omega)] | rw [va_up_o (by omega)])); exact hh)) (thr := he0.thr) (row := he0.row) (itself := he0.itself) (now := rfl) (term := he0.term) (voted := he0.voted) (base := he0.base) (last := he0.last) (baseTerm := he0.baseTerm) (baseCode := he0.baseCode) (snapshot := he0.snapshot) (dirty := he0.dirty) (role := he0.role) (leader := he0.leader) (commit := he0.commit) (applied := he0.applied) (synced := he0.synced) (heard := he0.heard) (alarm := he0.alarm) (votes := he0.votes) (handing := he0.handing) (handed := he0.handed) (first := he0.first) (round := he0.round) (assembly := he0.assembly) (described := he0.described) (toldBase := he0.toldBase) (toldTerm := he0.toldTerm) (toldCode := he0.toldCode) (toldSize := he0.toldSize) (told := he0.told) (waits := he0.waits) (went := he0.went) (done := he0.done) (calls := he0.calls) (next := he0.next) (mtch := he0.mtch) (flying := he0.flying) (offset := he0.offset) (ack := he0.ack) (seen := he0.seen) (probing := he0.probing) (answered := he0.answered) (toldTerms := he0.toldTerms) (toldKinds := he0.toldKinds) (toldValues := he0.toldValues) (doneNumbers := he0.doneNumbers) (doneValues := he0.doneValues) (callState := he0.callState) (callNumber := he0.callNumber) (got := he0.got) (log := he0.log) (kept := he0.kept) (wait := he0.wait) (cls := he0.cls))
    have hi1 : RI (n + 1000) (μ.1, xuI μ.2.1 0 8 ((μ.2.1 0 8) + a), μ.2.2) := (RI.mk (itself := hiw.itself) (role := hiw.role) (base := hiw.base) (ba := hiw.ba) (ac := hiw.ac) (cl := hiw.cl) (lb := hiw.lb) (last := hiw.last) (syn := hiw.syn) (dirty := hiw.dirty) (desc := hiw.desc) (now := ⟨by show 0 ≤ ((μ.2.1 0 8) + a).toInt; omega, by show ((μ.2.1 0 8) + a).toInt ≤ ((n + 1000 : Nat) : Int); omega⟩) (term := hiw.term) (went := hiw.went) (waits := hiw.waits) (done := hiw.done) (calls := hiw.calls) (told := hiw.told) (round := hiw.round) (hand := hiw.hand) (heard := hiw.heard) (vote := hiw.vote) (lead := hiw.lead) (quiet := hiw.quiet) (cmd := hiw.cmd) (tt := hiw.tt) (tb := hiw.tb) (got := hiw.got) (mem := hiw.mem))
    by_cases h2 : (μ.2.1 0 14) ≤ (μ.2.1 0 8) + a
    · rw [if_pos h2, if_pos h2]
      by_cases h3 : (μ.2.1 0 9) = 3
      · rw [if_neg (not_not_intro h3), if_neg (not_not_intro h3), he.itself]
        have hit := hi.itself
        have xi := xin_of (i := (μ.2.1 0 0)) (n := 7) hit.1 (by omega)
        have he2 : RE g (zh h 0) (μ.1, xuI (xuI μ.2.1 0 8 ((μ.2.1 0 8) + a)) 18 (μ.2.1 0 0).toNatClampNeg ((μ.2.1 0 8) + a), μ.2.2) (ν.1, xuI (xuI (xuI ν.2.1 32 0 0) 32 3 ((μ.2.1 0 8) + a)) 41 (μ.2.1 0 0).toNatClampNeg ((μ.2.1 0 8) + a), ν.2.2) := (RE.mk (ft := he1.ft) (fg := fun c hc => by first | exact he1.fg c hc | (have hh := he1.fg c hc; (try unfold zq at hh); (try unfold zd at hh); (try unfold zf at hh); (try unfold zo at hh); (try unfold zo); (try unfold zh at hh); (try unfold zh); (try unfold zq); (try unfold zd); (try unfold zf); (try dsimp only at hh); (try dsimp only); (repeat (first | rw [xuI_o (by omega)] at hh | rw [xuL_o (by omega)] at hh | rw [va_up_o (by omega)] at hh)); (repeat (first | rw [xuI_o (by omega)] | rw [xuL_o (by omega)] | rw [va_up_o (by omega)])); exact hh)) (fgl := fun c hc => by first | exact he1.fgl c hc | (have hh := he1.fgl c hc; (try unfold zq at hh); (try unfold zd at hh); (try unfold zf at hh); (try unfold zo at hh); (try unfold zo); (try unfold zh at hh); (try unfold zh); (try unfold zq); (try unfold zd); (try unfold zf); (try dsimp only at hh); (try dsimp only); (repeat (first | rw [xuI_o (by omega)] at hh | rw [xuL_o (by omega)] at hh | rw [va_up_o (by omega)] at hh)); (repeat (first | rw [xuI_o (by omega)] | rw [xuL_o (by omega)] | rw [va_up_o (by omega)])); exact hh)) (ht := he1.ht) (hg := fun c hc => by first | exact he1.hg c hc | (have hh := he1.hg c hc; (try unfold zq at hh); (try unfold zd at hh); (try unfold zf at hh); (try unfold zo at hh); (try unfold zo); (try unfold zh at hh); (try unfold zh); (try unfold zq); (try unfold zd); (try unfold zf); (try dsimp only at hh); (try dsimp only); (repeat (first | rw [xuI_o (by omega)] at hh | rw [xuL_o (by omega)] at hh | rw [va_up_o (by omega)] at hh)); (repeat (first | rw [xuI_o (by omega)] | rw [xuL_o (by omega)] | rw [va_up_o (by omega)])); exact hh)) (hgl := fun c hc => by first | exact he1.hgl c hc | (have hh := he1.hgl c hc; (try unfold zq at hh); (try unfold zd at hh); (try unfold zf at hh); (try unfold zo at hh); (try unfold zo); (try unfold zh at hh); (try unfold zh); (try unfold zq); (try unfold zd); (try unfold zf); (try dsimp only at hh); (try dsimp only); (repeat (first | rw [xuI_o (by omega)] at hh | rw [xuL_o (by omega)] at hh | rw [va_up_o (by omega)] at hh)); (repeat (first | rw [xuI_o (by omega)] | rw [xuL_o (by omega)] | rw [va_up_o (by omega)])); exact hh)) (thr := he1.thr) (row := he1.row) (itself := he1.itself) (now := he1.now) (term := he1.term) (voted := he1.voted) (base := he1.base) (last := he1.last) (baseTerm := he1.baseTerm) (baseCode := he1.baseCode) (snapshot := he1.snapshot) (dirty := he1.dirty) (role := he1.role) (leader := he1.leader) (commit := he1.commit) (applied := he1.applied) (synced := he1.synced) (heard := he1.heard) (alarm := he1.alarm) (votes := he1.votes) (handing := he1.handing) (handed := he1.handed) (first := he1.first) (round := he1.round) (assembly := he1.assembly) (described := he1.described) (toldBase := he1.toldBase) (toldTerm := he1.toldTerm) (toldCode := he1.toldCode) (toldSize := he1.toldSize) (told := he1.told) (waits := he1.waits) (went := he1.went) (done := he1.done) (calls := he1.calls) (next := he1.next) (mtch := he1.mtch) (flying := he1.flying) (offset := he1.offset) (ack := he1.ack) (seen := congrArg (fun F => upd F (μ.2.1 0 0).toNatClampNeg ((μ.2.1 0 8) + a)) he1.seen) (probing := he1.probing) (answered := he1.answered) (toldTerms := he1.toldTerms) (toldKinds := he1.toldKinds) (toldValues := he1.toldValues) (doneNumbers := he1.doneNumbers) (doneValues := he1.doneValues) (callState := he1.callState) (callNumber := he1.callNumber) (got := he1.got) (log := he1.log) (kept := he1.kept) (wait := he1.wait) (cls := he1.cls))
        have hi2 : RI (n + 1000) (μ.1, xuI (xuI μ.2.1 0 8 ((μ.2.1 0 8) + a)) 18 (μ.2.1 0 0).toNatClampNeg ((μ.2.1 0 8) + a), μ.2.2) := by
          refine (RI.mk (itself := hi1.itself) (role := hi1.role) (base := hi1.base) (ba := hi1.ba) (ac := hi1.ac) (cl := hi1.cl) (lb := hi1.lb) (last := hi1.last) (syn := hi1.syn) (dirty := hi1.dirty) (desc := hi1.desc) (now := hi1.now) (term := hi1.term) (went := hi1.went) (waits := hi1.waits) (done := hi1.done) (calls := hi1.calls) (told := hi1.told) (round := hi1.round) (hand := hi1.hand) (heard := hi1.heard) (vote := hi1.vote) (lead := fun _ j hj => ?_) (quiet := hi1.quiet) (cmd := hi1.cmd) (tt := hi1.tt) (tb := hi1.tb) (got := hi1.got) (mem := hi1.mem))
          have hz := hi1.lead h3 j hj
          refine ⟨hz.1, hz.2.1, hz.2.2.1, hz.2.2.2.1, ?_⟩
          show 0 ≤ (upd (μ.2.1 18) (μ.2.1 0 0).toNatClampNeg ((μ.2.1 0 8) + a) j).toInt ∧ (upd (μ.2.1 18) (μ.2.1 0 0).toNatClampNeg ((μ.2.1 0 8) + a) j).toInt ≤ ((n + 1000 : Nat) : Int)
          by_cases hj2 : j = (μ.2.1 0 0).toNatClampNeg
          · rw [hj2, upd_s]; omega
          · rw [upd_o hj2]; exact hz.2.2.2.2
        have hr2 : (μ.1, xuI (xuI μ.2.1 0 8 ((μ.2.1 0 8) + a)) 18 (μ.2.1 0 0).toNatClampNeg ((μ.2.1 0 8) + a), μ.2.2).2.1 0 9 = 3 := h3
        obtain ⟨v, a1, a2, _⟩ := agreed_18 he2 (hi2.LB (by omega)) hi2.mem (fun j hj => by have := hi2.lead hr2 j hj; omega)
        unfold yC_ringLeading
        rw [xgd_t xi, xgd_t (show xin ((xuI μ.2.1 0 8 ((μ.2.1 0 8) + a)) 0 0) 7 = true from xi)]
        rw [show ((μ.1, xuI μ.2.1 0 8 ((μ.2.1 0 8) + a), μ.2.2).1, xuI (μ.1, xuI μ.2.1 0 8 ((μ.2.1 0 8) + a), μ.2.2).2.1 18 ((μ.1, xuI μ.2.1 0 8 ((μ.2.1 0 8) + a), μ.2.2).2.1 0 0).toNatClampNeg ((μ.1, xuI μ.2.1 0 8 ((μ.2.1 0 8) + a), μ.2.2).2.1 0 8), (μ.1, xuI μ.2.1 0 8 ((μ.2.1 0 8) + a), μ.2.2).2.2) = (μ.1, xuI (xuI μ.2.1 0 8 ((μ.2.1 0 8) + a)) 18 (μ.2.1 0 0).toNatClampNeg ((μ.2.1 0 8) + a), μ.2.2) from rfl, a1, a2, xbi_s, xbi_s]
        generalize ((μ.1, xuI (xuI μ.2.1 0 8 ((μ.2.1 0 8) + a)) 18 (μ.2.1 0 0).toNatClampNeg ((μ.2.1 0 8) + a), μ.2.2) : XMu) = M at *
        generalize ((ν.1, xuI (xuI (xuI ν.2.1 32 0 0) 32 3 ((μ.2.1 0 8) + a)) 41 (μ.2.1 0 0).toNatClampNeg ((μ.2.1 0 8) + a), ν.2.2) : XMu) = N at *
        rw [he2.now]
        by_cases h4 : (M.2.1 0 8) - 100 ≤ v
        · rw [if_pos h4, if_pos h4]
          exact Pub.toI ((P_beat he2 hi2 hr2 (by omega)).tailC) (by omega)
        · rw [if_neg h4, if_neg h4, he2.term]
          exact Pub.toI ((P_stepDown he2 hi2 _ _ hi2.term.2).tailC) (by omega)
      · rw [if_pos h3, if_pos h3]
        obtain ⟨μ', ν', p1, p2, p3, p4⟩ := P_ringO he1 hi1 h3 (by omega)
        rw [p1, xbv_s, p2 (fun m => some (.inl (some (.int 1)), m))]
        exact Pub.i p3 p4 (by omega)
    · rw [if_neg h2, if_neg h2]
      exact Pub.i he1 hi1 (by omega)
  · rw [within_0 (show ¬ ((1 : Int32).toInt ≤ _ ∧ _ ≤ (1000 : Int32).toInt) by rw [il_1, il_1000]; exact h1), if_neg (not_not_intro rfl), zh_x]
    unfold yM_fail
    rw [xbi_s, if_pos (show (0 : Int32) ≤ 0 by decide), show (((zh ν 0).1, xuI (zh ν 0).2.1 32 0 1, (zh ν 0).2.2) : XMu) = zh (zh ν 0) 1 from rfl, zh_zh, xgd_t (blt_t ht)]
    by_cases c1 : a < 1
    · rw [if_pos c1]
      exact Pub.thr he hi (by omega) ⟨rfl, rfl⟩
    · rw [if_neg c1]
      rw [Int32.lt_iff_toInt_lt, il_1] at c1
      rw [if_neg (by rw [Int32.le_iff_toInt_le, il_1000]; omega)]
      exact Pub.thr he hi (by omega) ⟨rfl, rfl⟩
theorem isCode_eq (a : Int32) : yM_isCode a = yC_isCode a := by
  unfold yM_isCode yC_isCode
  have ho : yM_old a = yC_oldOf a := rfl
  have hl : yM_learning a = yC_learnersOf a := rfl
  have hf : yM_fresh a = yC_newOf a := rfl
  have z : z7 (yC_oldOf a) := z7_and a
  rw [ho, hl, hf]
  by_cases h1 : a < 0
  · rw [if_pos h1, within_0 (by rw [Int32.lt_iff_toInt_lt, il_0] at h1; rw [il_0]; omega), if_pos rfl]
  · rw [if_neg h1]
    rw [Int32.lt_iff_toInt_lt, il_0] at h1
    by_cases h2 : (2097152 : Int32) ≤ a
    · rw [if_pos h2]
      rw [Int32.le_iff_toInt_le, il_2097152] at h2
      rw [within_0 (by rw [il_2097151]; omega), if_pos rfl]
    · rw [if_neg h2]
      rw [Int32.le_iff_toInt_le, il_2097152] at h2
      rw [within_1 (by rw [il_0]; omega) (by rw [il_2097151]; omega), if_neg (show ¬ (1 : Int32) = 0 by decide)]
      by_cases h3 : yC_oldOf a = 0
      · rw [if_pos h3, if_pos (by rw [h3]; decide)]
      · rw [if_neg h3, if_neg]
        intro k
        rw [Int32.le_iff_toInt_le, il_0] at k
        exact h3 (inj_i (by rw [il_0]; have := z.1; omega))
theorem Q_entry {g h μ ν : XMu} {n : Nat} (he : RE g h μ ν) (hi : RI n μ) (hn : n + 1500 ≤ 1000000) (ht : μ.1 < 1024) (a b c : Int32) : Pub g h (n + 1500) Ee (yC_entry a b c μ) (yM_entry a b c ν) := by
  unfold yC_entry yM_entry yM_fail
  rw [xbi_s, isCode_eq, show ((ν.1, xuI (xuI ν.2.1 32 0 0) 32 0 1, ν.2.2) : XMu) = zh (zh ν 0) 1 from rfl, show ((ν.1, xuI ν.2.1 32 0 0, ν.2.2) : XMu) = zh ν 0 from rfl, zh_zh]
  have th : ∀ {k : Nat} {z : Int32}, Ee.1 k z → Pub g h (n + 1500) Ee (some (.inr k, (μ.1 + 1, μ.2.1, μ.2.2))) (some (.inl (some (.int 0)), zh ν z)) := fun h => Pub.thr he hi (by omega) h
  have body : Pub g h (n + 1500) Ee (yC_entry_b45 a b c μ) (yM_entry_b39 a b c (zh ν 0)) ∨ ¬ nok a := by
    by_cases hA : nok a
    · refine Or.inl ?_
      unfold yC_entry_b45 yM_entry_b39
      have qt : (zh ν 0).2.1 32 42 = (μ.2.1 7 3) := he.told
      rw [qt]
      have h6 := hi.told
      by_cases h1 : (μ.2.1 7 3) < 6
      · have h2 : ¬ (μ.2.1 7 3) = 6 := fun k => by rw [k] at h1; exact absurd h1 (by decide)
        rw [if_pos h1, if_pos h2]
        rw [Int32.lt_iff_toInt_lt, il_6] at h1
        have xi := xin_of (i := (μ.2.1 7 3)) (n := 6) h6.1 (by omega)
        have t1 := tn_of h6.1
        unfold yTo_add
        rw [if_neg (by rw [Int32.le_iff_toInt_le, il_6]; omega)]
        repeat rw [xgd_t xi]
        rw [xbv_s]
        have e := inc_i (n := (μ.2.1 7 3)) (by omega)
        have he0 := RE_zh he 0
        refine Or.inl ⟨_, _, _, rfl, rfl, ?_, ?_, isI _⟩
        · exact (RE.mk (ft := he0.ft) (fg := fun c hc => by first | exact he0.fg c hc | (have hh := he0.fg c hc; (try unfold zq at hh); (try unfold zd at hh); (try unfold zf at hh); (try unfold zo at hh); (try unfold zo); (try unfold zh at hh); (try unfold zh); (try unfold zq); (try unfold zd); (try unfold zf); (try dsimp only at hh); (try dsimp only); (repeat (first | rw [xuI_o (by omega)] at hh | rw [xuL_o (by omega)] at hh | rw [va_up_o (by omega)] at hh)); (repeat (first | rw [xuI_o (by omega)] | rw [xuL_o (by omega)] | rw [va_up_o (by omega)])); exact hh)) (fgl := fun c hc => by first | exact he0.fgl c hc | (have hh := he0.fgl c hc; (try unfold zq at hh); (try unfold zd at hh); (try unfold zf at hh); (try unfold zo at hh); (try unfold zo); (try unfold zh at hh); (try unfold zh); (try unfold zq); (try unfold zd); (try unfold zf); (try dsimp only at hh); (try dsimp only); (repeat (first | rw [xuI_o (by omega)] at hh | rw [xuL_o (by omega)] at hh | rw [va_up_o (by omega)] at hh)); (repeat (first | rw [xuI_o (by omega)] | rw [xuL_o (by omega)] | rw [va_up_o (by omega)])); exact hh)) (ht := he0.ht) (hg := fun c hc => by first | exact he0.hg c hc | (have hh := he0.hg c hc; (try unfold zq at hh); (try unfold zd at hh); (try unfold zf at hh); (try unfold zo at hh); (try unfold zo); (try unfold zh at hh); (try unfold zh); (try unfold zq); (try unfold zd); (try unfold zf); (try dsimp only at hh); (try dsimp only); (repeat (first | rw [xuI_o (by omega)] at hh | rw [xuL_o (by omega)] at hh | rw [va_up_o (by omega)] at hh)); (repeat (first | rw [xuI_o (by omega)] | rw [xuL_o (by omega)] | rw [va_up_o (by omega)])); exact hh)) (hgl := fun c hc => by first | exact he0.hgl c hc | (have hh := he0.hgl c hc; (try unfold zq at hh); (try unfold zd at hh); (try unfold zf at hh); (try unfold zo at hh); (try unfold zo); (try unfold zh at hh); (try unfold zh); (try unfold zq); (try unfold zd); (try unfold zf); (try dsimp only at hh); (try dsimp only); (repeat (first | rw [xuI_o (by omega)] at hh | rw [xuL_o (by omega)] at hh | rw [va_up_o (by omega)] at hh)); (repeat (first | rw [xuI_o (by omega)] | rw [xuL_o (by omega)] | rw [va_up_o (by omega)])); exact hh)) (thr := he0.thr) (row := he0.row) (itself := he0.itself) (now := he0.now) (term := he0.term) (voted := he0.voted) (base := he0.base) (last := he0.last) (baseTerm := he0.baseTerm) (baseCode := he0.baseCode) (snapshot := he0.snapshot) (dirty := he0.dirty) (role := he0.role) (leader := he0.leader) (commit := he0.commit) (applied := he0.applied) (synced := he0.synced) (heard := he0.heard) (alarm := he0.alarm) (votes := he0.votes) (handing := he0.handing) (handed := he0.handed) (first := he0.first) (round := he0.round) (assembly := he0.assembly) (described := he0.described) (toldBase := he0.toldBase) (toldTerm := he0.toldTerm) (toldCode := he0.toldCode) (toldSize := he0.toldSize) (told := rfl) (waits := he0.waits) (went := he0.went) (done := he0.done) (calls := he0.calls) (next := he0.next) (mtch := he0.mtch) (flying := he0.flying) (offset := he0.offset) (ack := he0.ack) (seen := he0.seen) (probing := he0.probing) (answered := he0.answered) (toldTerms := congrArg (fun F => upd F (μ.2.1 7 3).toNatClampNeg a) he0.toldTerms) (toldKinds := congrArg (fun F => upd F (μ.2.1 7 3).toNatClampNeg b) he0.toldKinds) (toldValues := congrArg (fun F => upd F (μ.2.1 7 3).toNatClampNeg c) he0.toldValues) (doneNumbers := he0.doneNumbers) (doneValues := he0.doneValues) (callState := he0.callState) (callNumber := he0.callNumber) (got := he0.got) (log := he0.log) (kept := he0.kept) (wait := he0.wait) (cls := he0.cls))
        · have hiM := hi.mono (show n ≤ n + 1500 by omega)
          refine (RI.mk (itself := hiM.itself) (role := hiM.role) (base := hiM.base) (ba := hiM.ba) (ac := hiM.ac) (cl := hiM.cl) (lb := hiM.lb) (last := hiM.last) (syn := hiM.syn) (dirty := hiM.dirty) (desc := hiM.desc) (now := hiM.now) (term := hiM.term) (went := hiM.went) (waits := hiM.waits) (done := hiM.done) (calls := hiM.calls) (told := ⟨by show 0 ≤ ((μ.2.1 7 3) + 1).toInt; omega, by show ((μ.2.1 7 3) + 1).toInt ≤ 6; omega⟩) (round := hiM.round) (hand := hiM.hand) (heard := hiM.heard) (vote := hiM.vote) (lead := hiM.lead) (quiet := hiM.quiet) (cmd := hiM.cmd) (tt := fun j hj => ?_) (tb := hiM.tb) (got := hiM.got) (mem := hiM.mem))
          show 0 ≤ (upd (μ.2.1 8) (μ.2.1 7 3).toNatClampNeg a j).toInt
          by_cases hj2 : j = (μ.2.1 7 3).toNatClampNeg
          · rw [hj2, upd_s]; exact hA.1
          · rw [upd_o hj2]; exact hi.tt j hj
      · have h2 : (μ.2.1 7 3) = 6 := inj_i (by rw [Int32.lt_iff_toInt_lt, il_6] at h1; rw [il_6]; omega)
        rw [if_neg h1, if_neg (not_not_intro h2), xgd_t (blt_t ht)]
        unfold yM_fail
        rw [xbi_s, show (((zh ν 0).1, xuI (zh ν 0).2.1 32 0 2, (zh ν 0).2.2) : XMu) = zh (zh ν 0) 2 from rfl, zh_zh]
        exact th (Or.inr ⟨rfl, rfl⟩)
    · exact Or.inr hA
  by_cases hA : nok a
  · have body := body.resolve_right (not_not_intro hA)
    rw [c_num_1 hA, xbv_s, num_1 hA, if_neg (show ¬ (1 : Int32) = 0 by decide), xgd_t (blt_t ht)]
    by_cases h1 : b < 0
    · rw [if_pos h1, within_0 (by rw [Int32.lt_iff_toInt_lt, il_0] at h1; rw [il_0]; omega), if_pos rfl]
      exact th (Or.inl ⟨rfl, rfl⟩)
    · rw [if_neg h1]
      rw [Int32.lt_iff_toInt_lt, il_0] at h1
      by_cases h2 : b ≤ 2
      · rw [if_pos h2]
        rw [Int32.le_iff_toInt_le, il_2] at h2
        rw [within_1 (by rw [il_0]; omega) (by rw [il_2]; omega), if_neg (show ¬ (1 : Int32) = 0 by decide)]
        by_cases h3 : b = 1
        · rw [if_neg (not_not_intro h3), if_neg (not_not_intro h3)]
          by_cases h4 : yC_isCode c = 0
          · rw [if_neg (not_not_intro h4), if_neg (not_not_intro h4)]
            exact th (Or.inl ⟨rfl, rfl⟩)
          · rw [if_pos h4, if_pos h4]
            exact body
        · rw [if_pos h3, if_pos h3]
          exact body
      · rw [if_neg h2]
        rw [Int32.le_iff_toInt_le, il_2] at h2
        rw [within_0 (by rw [il_2]; omega), if_pos rfl]
        exact th (Or.inl ⟨rfl, rfl⟩)
  · rw [c_num_0 hA ht, xbv_r, num_0 hA, if_pos rfl]
    exact th (Or.inl ⟨rfl, rfl⟩)
theorem pos_eq (a : Int32) : yC_isPositive a = yM_within a 1 1000000 := rfl
theorem pos_1 {a : Int32} (h : ¬ yC_isPositive a = 0) : 1 ≤ a.toInt ∧ a.toInt ≤ 1000000 := by
  unfold yC_isPositive at h
  by_cases h1 : a < 1
  · rw [if_pos h1] at h; exact absurd rfl h
  · rw [if_neg h1] at h
    by_cases h2 : (1000000 : Int32) < a
    · rw [if_pos h2] at h; exact absurd rfl h
    · rw [Int32.lt_iff_toInt_lt, il_1] at h1
      rw [Int32.lt_iff_toInt_lt, il_1000000] at h2
      omega
theorem Q_describe {g h μ ν : XMu} {n : Nat} (he : RE g h μ ν) (hi : RI n μ) (hn : n + 1500 ≤ 1000000) (ht : μ.1 < 1024) (a b c d : Int32) : Pub g h (n + 1500) Ed (yC_describe a b c d μ) (yM_describe a b c d ν) := by
  unfold yC_describe yM_describe
  rw [isCode_eq, ← pos_eq, ← pos_eq, show ((ν.1, xuI (xuI ν.2.1 32 0 0) 32 0 1, ν.2.2) : XMu) = zh (zh ν 0) 1 from rfl, zh_zh]
  have th : Pub g h (n + 1500) Ed (some (.inr 0, (μ.1 + 1, μ.2.1, μ.2.2))) (some (.inl none, zh ν 1)) := Pub.thr he hi (by omega) ⟨rfl, rfl⟩
  by_cases hb : nok b
  · rw [c_num_1 hb, xbv_s, num_1 hb, if_neg (show ¬ (1 : Int32) = 0 by decide), xgd_t (blt_t ht)]
    by_cases h1 : yC_isPositive a = 0
    · rw [if_pos h1, if_pos h1]; exact th
    · rw [if_neg h1, if_neg h1]
      by_cases h2 : yC_isPositive d = 0
      · rw [if_pos h2, if_neg (not_not_intro h2)]
        split <;> exact th
      · rw [if_neg h2, if_pos h2]
        by_cases h3 : yC_isCode c = 0
        · rw [if_neg (not_not_intro h3), if_pos h3]; exact th
        · rw [if_pos h3, if_neg h3]
          unfold yTo_describeSnapshot
          rw [xbv_s]
          have pa := pos_1 h1
          have pd := pos_1 h2
          have he0 := RE_zh he 0
          refine Or.inl ⟨_, _, _, rfl, rfl, ?_, ?_, isV⟩
          · exact (RE.mk (ft := he0.ft) (fg := fun c hc => by first | exact he0.fg c hc | (have hh := he0.fg c hc; (try unfold zq at hh); (try unfold zd at hh); (try unfold zf at hh); (try unfold zo at hh); (try unfold zo); (try unfold zh at hh); (try unfold zh); (try unfold zq); (try unfold zd); (try unfold zf); (try dsimp only at hh); (try dsimp only); (repeat (first | rw [xuI_o (by omega)] at hh | rw [xuL_o (by omega)] at hh | rw [va_up_o (by omega)] at hh)); (repeat (first | rw [xuI_o (by omega)] | rw [xuL_o (by omega)] | rw [va_up_o (by omega)])); exact hh)) (fgl := fun c hc => by first | exact he0.fgl c hc | (have hh := he0.fgl c hc; (try unfold zq at hh); (try unfold zd at hh); (try unfold zf at hh); (try unfold zo at hh); (try unfold zo); (try unfold zh at hh); (try unfold zh); (try unfold zq); (try unfold zd); (try unfold zf); (try dsimp only at hh); (try dsimp only); (repeat (first | rw [xuI_o (by omega)] at hh | rw [xuL_o (by omega)] at hh | rw [va_up_o (by omega)] at hh)); (repeat (first | rw [xuI_o (by omega)] | rw [xuL_o (by omega)] | rw [va_up_o (by omega)])); exact hh)) (ht := he0.ht) (hg := fun c hc => by first | exact he0.hg c hc | (have hh := he0.hg c hc; (try unfold zq at hh); (try unfold zd at hh); (try unfold zf at hh); (try unfold zo at hh); (try unfold zo); (try unfold zh at hh); (try unfold zh); (try unfold zq); (try unfold zd); (try unfold zf); (try dsimp only at hh); (try dsimp only); (repeat (first | rw [xuI_o (by omega)] at hh | rw [xuL_o (by omega)] at hh | rw [va_up_o (by omega)] at hh)); (repeat (first | rw [xuI_o (by omega)] | rw [xuL_o (by omega)] | rw [va_up_o (by omega)])); exact hh)) (hgl := fun c hc => by first | exact he0.hgl c hc | (have hh := he0.hgl c hc; (try unfold zq at hh); (try unfold zd at hh); (try unfold zf at hh); (try unfold zo at hh); (try unfold zo); (try unfold zh at hh); (try unfold zh); (try unfold zq); (try unfold zd); (try unfold zf); (try dsimp only at hh); (try dsimp only); (repeat (first | rw [xuI_o (by omega)] at hh | rw [xuL_o (by omega)] at hh | rw [va_up_o (by omega)] at hh)); (repeat (first | rw [xuI_o (by omega)] | rw [xuL_o (by omega)] | rw [va_up_o (by omega)])); exact hh)) (thr := he0.thr) (row := he0.row) (itself := he0.itself) (now := he0.now) (term := he0.term) (voted := he0.voted) (base := he0.base) (last := he0.last) (baseTerm := he0.baseTerm) (baseCode := he0.baseCode) (snapshot := he0.snapshot) (dirty := he0.dirty) (role := he0.role) (leader := he0.leader) (commit := he0.commit) (applied := he0.applied) (synced := he0.synced) (heard := he0.heard) (alarm := he0.alarm) (votes := he0.votes) (handing := he0.handing) (handed := he0.handed) (first := he0.first) (round := he0.round) (assembly := he0.assembly) (described := rfl) (toldBase := rfl) (toldTerm := rfl) (toldCode := rfl) (toldSize := rfl) (told := he0.told) (waits := he0.waits) (went := he0.went) (done := he0.done) (calls := he0.calls) (next := he0.next) (mtch := he0.mtch) (flying := he0.flying) (offset := he0.offset) (ack := he0.ack) (seen := he0.seen) (probing := he0.probing) (answered := he0.answered) (toldTerms := he0.toldTerms) (toldKinds := he0.toldKinds) (toldValues := he0.toldValues) (doneNumbers := he0.doneNumbers) (doneValues := he0.doneValues) (callState := he0.callState) (callNumber := he0.callNumber) (got := he0.got) (log := he0.log) (kept := he0.kept) (wait := he0.wait) (cls := he0.cls))
          · have hiM := hi.mono (show n ≤ n + 1500 by omega)
            exact (RI.mk (itself := hiM.itself) (role := hiM.role) (base := hiM.base) (ba := hiM.ba) (ac := hiM.ac) (cl := hiM.cl) (lb := hiM.lb) (last := hiM.last) (syn := hiM.syn) (dirty := hiM.dirty) (desc := rfl) (now := hiM.now) (term := hiM.term) (went := hiM.went) (waits := hiM.waits) (done := hiM.done) (calls := hiM.calls) (told := hiM.told) (round := hiM.round) (hand := hiM.hand) (heard := hiM.heard) (vote := hiM.vote) (lead := hiM.lead) (quiet := hiM.quiet) (cmd := hiM.cmd) (tt := hiM.tt) (tb := ⟨by show 0 ≤ a.toInt; omega, pa.2, by show 0 ≤ d.toInt; omega, pd.2, hb.1, hb.2⟩) (got := hiM.got) (mem := hiM.mem))
  · rw [c_num_0 hb ht, xbv_r, num_0 hb]
    by_cases h1 : yC_isPositive a = 0
    · rw [if_pos h1]; exact th
    · rw [if_neg h1, if_pos rfl]; exact th
theorem Q_restart {g h μ ν : XMu} {n : Nat} (he : RE g h μ ν) (hi : RI n μ) (hn : n + 1500 ≤ 1000000) : Pub g h (n + 1500) Ef (yC_restart μ) (yM_restart ν) := by
  unfold yC_restart yM_restart yDi_settle yMa_loseWaiting yCa_dropWaiting yM_dropCalls
  rw [xbv_s, xbv_s, drop_c 32 1000 0 _ (by decide) (by decide) (by omega), drop_m 32 1000 0 _ (by decide) (by decide) (by omega), xbv_s, xbv_s]
  have q1 : (xuI (xuI (xuI (xuI (xuI (xuI (xuI (xuI ν.2.1 32 0 0) 32 14 0) 32 49 0) 32 35 (-1)) 32 36 0) 32 17 (ν.2.1 32 9)) 32 18 (ν.2.1 32 9)) 32 19 (ν.2.1 32 10)) 52 = (μ.2.1 24) := he.callState
  have q2 : (xuI (xuI (xuI (xuI (xuI (xuI (xuI (xuI ν.2.1 32 0 0) 32 14 0) 32 49 0) 32 35 (-1)) 32 36 0) 32 17 (ν.2.1 32 9)) 32 18 (ν.2.1 32 9)) 32 19 (ν.2.1 32 10)) 32 55 = (μ.2.1 20 4) := he.calls
  dsimp only
  rw [q1, q2, he.base, he.last]
  have q3 : (xuI (xuI (xuI μ.2.1 28 11 0) 28 10 (μ.2.1 28 9)) 1 4 0) 24 = (μ.2.1 24) := rfl
  have q4 : (xuI (xuI (xuI μ.2.1 28 11 0) 28 10 (μ.2.1 28 9)) 1 4 0) 20 4 = (μ.2.1 20 4) := rfl
  rw [q3, q4, show (0 : Int32).toInt.toNat = 0 from rfl]
  have q : ∀ j : Nat, j < 32 → (j : Int) < (μ.2.1 20 4).toInt → ¬ dropF (μ.2.1 24) (μ.2.1 20 4).toInt 0 j = 0 := fun j h1 h2 => drop_q h1 h2
  generalize dropF (μ.2.1 24) (μ.2.1 20 4).toInt 0 = G at q ⊢
  have he0 := RE_zh he 0
  have hb := hi.base
  have h1 := hi.ba
  have h2 := hi.ac
  have h3 := hi.cl
  have h4 := hi.syn
  refine Pub.ofPv (n := n) (Pv.tail (P_draw ?_ ?_)) (by omega)
  · exact (RE.mk (ft := he0.ft) (fg := fun c hc => by first | exact he0.fg c hc | (have hh := he0.fg c hc; (try unfold zq at hh); (try unfold zd at hh); (try unfold zf at hh); (try unfold zo at hh); (try unfold zo); (try unfold zh at hh); (try unfold zh); (try unfold zq); (try unfold zd); (try unfold zf); (try dsimp only at hh); (try dsimp only); (repeat (first | rw [xuI_o (by omega)] at hh | rw [xuL_o (by omega)] at hh | rw [va_up_o (by omega)] at hh)); (repeat (first | rw [xuI_o (by omega)] | rw [xuL_o (by omega)] | rw [va_up_o (by omega)])); exact hh)) (fgl := fun c hc => by first | exact he0.fgl c hc | (have hh := he0.fgl c hc; (try unfold zq at hh); (try unfold zd at hh); (try unfold zf at hh); (try unfold zo at hh); (try unfold zo); (try unfold zh at hh); (try unfold zh); (try unfold zq); (try unfold zd); (try unfold zf); (try dsimp only at hh); (try dsimp only); (repeat (first | rw [xuI_o (by omega)] at hh | rw [xuL_o (by omega)] at hh | rw [va_up_o (by omega)] at hh)); (repeat (first | rw [xuI_o (by omega)] | rw [xuL_o (by omega)] | rw [va_up_o (by omega)])); exact hh)) (ht := he0.ht) (hg := fun c hc => by first | exact he0.hg c hc | (have hh := he0.hg c hc; (try unfold zq at hh); (try unfold zd at hh); (try unfold zf at hh); (try unfold zo at hh); (try unfold zo); (try unfold zh at hh); (try unfold zh); (try unfold zq); (try unfold zd); (try unfold zf); (try dsimp only at hh); (try dsimp only); (repeat (first | rw [xuI_o (by omega)] at hh | rw [xuL_o (by omega)] at hh | rw [va_up_o (by omega)] at hh)); (repeat (first | rw [xuI_o (by omega)] | rw [xuL_o (by omega)] | rw [va_up_o (by omega)])); exact hh)) (hgl := fun c hc => by first | exact he0.hgl c hc | (have hh := he0.hgl c hc; (try unfold zq at hh); (try unfold zd at hh); (try unfold zf at hh); (try unfold zo at hh); (try unfold zo); (try unfold zh at hh); (try unfold zh); (try unfold zq); (try unfold zd); (try unfold zf); (try dsimp only at hh); (try dsimp only); (repeat (first | rw [xuI_o (by omega)] at hh | rw [xuL_o (by omega)] at hh | rw [va_up_o (by omega)] at hh)); (repeat (first | rw [xuI_o (by omega)] | rw [xuL_o (by omega)] | rw [va_up_o (by omega)])); exact hh)) (thr := he0.thr) (row := he0.row) (itself := he0.itself) (now := he0.now) (term := he0.term) (voted := he0.voted) (base := he0.base) (last := he0.last) (baseTerm := he0.baseTerm) (baseCode := he0.baseCode) (snapshot := he0.snapshot) (dirty := rfl) (role := rfl) (leader := rfl) (commit := rfl) (applied := rfl) (synced := rfl) (heard := rfl) (alarm := he0.alarm) (votes := rfl) (handing := rfl) (handed := he0.handed) (first := he0.first) (round := he0.round) (assembly := rfl) (described := he0.described) (toldBase := he0.toldBase) (toldTerm := he0.toldTerm) (toldCode := he0.toldCode) (toldSize := he0.toldSize) (told := he0.told) (waits := rfl) (went := he0.went) (done := he0.done) (calls := he0.calls) (next := he0.next) (mtch := he0.mtch) (flying := he0.flying) (offset := he0.offset) (ack := he0.ack) (seen := he0.seen) (probing := he0.probing) (answered := he0.answered) (toldTerms := he0.toldTerms) (toldKinds := he0.toldKinds) (toldValues := he0.toldValues) (doneNumbers := he0.doneNumbers) (doneValues := he0.doneValues) (callState := rfl) (callNumber := he0.callNumber) (got := fun k => absurd rfl k) (log := he0.log) (kept := he0.kept) (wait := fun s hs => by have : s < (0 : Int32).toInt.toNat := hs; exact absurd this (Nat.not_lt_zero s)) (cls := he0.cls))
  · exact (RI.mk (itself := hi.itself) (role := Or.inl rfl) (base := hi.base) (ba := Int.le_refl _) (ac := Int.le_refl _) (cl := by show (μ.2.1 28 5).toInt ≤ (μ.2.1 28 9).toInt; omega) (lb := hi.lb) (last := hi.last) (syn := ⟨by show 0 ≤ (μ.2.1 28 9).toInt; omega, Int.le_refl _⟩) (dirty := rfl) (desc := hi.desc) (now := hi.now) (term := hi.term) (went := hi.went) (waits := ⟨by show 0 ≤ (0 : Int32).toInt; decide, by show (0 : Int32).toInt ≤ 200; decide⟩) (done := hi.done) (calls := hi.calls) (told := hi.told) (round := hi.round) (hand := Or.inl rfl) (heard := ⟨by show -1 ≤ (-1 : Int32).toInt; decide, by show (-1 : Int32).toInt ≤ n; rw [il_m1]; omega⟩) (vote := fun k => by rcases k with k | k <;> cases k) (lead := fun k => by cases k) (quiet := fun _ => q) (cmd := fun j h1 h2 h3 => absurd h3 (q j h1 h2)) (tt := hi.tt) (tb := hi.tb) (got := hi.got) (mem := hi.mem))
def zA (μ : XMu) : XMu := (μ.1, xuI (xuI μ.2.1 28 11 0) 1 4 0, μ.2.2)
theorem rel_loop {g h : XMu} {W : Int32} (hW : W.toInt ≤ 200) : ∀ (r f : Nat) (k : Int32) (n : Nat) (μ ν : XMu), RE g h (μ.1, xuI (xuI μ.2.1 28 11 0) 1 4 0, μ.2.2) ν → RI n (μ.1, xuI (xuI μ.2.1 28 11 0) 1 4 0, μ.2.2) → ZW W (μ.2.1 3) (μ.2.1 4) (ν.2.1 48) → 0 ≤ k.toInt → k.toInt + r = W.toInt → r < f → n + r ≤ 1000000 → ∃ μ' ν', yMa_release_b7_L f W k μ = yMa_release_b73 W μ' ∧ yM_sync_b22_L f W k ν = yM_sync_b38 W ν' ∧ RE g h (μ'.1, xuI (xuI μ'.2.1 28 11 0) 1 4 0, μ'.2.2) ν' ∧ RI (n + r) (μ'.1, xuI (xuI μ'.2.1 28 11 0) 1 4 0, μ'.2.2) := by
  intro r
  induction r with
  | zero =>
    intro f k n μ ν he hi hz hk hkr hf hn
    obtain ⟨f, rfl⟩ : ∃ f', f = f' + 1 := ⟨f - 1, by omega⟩
    unfold yMa_release_b7_L yMa_release_b7 yM_sync_b22_L yM_sync_b22
    have hc : W ≤ k := by rw [Int32.le_iff_toInt_le]; omega
    rw [if_pos hc, if_pos hc]
    exact ⟨μ, ν, rfl, rfl, he, hi⟩
  | succ r ih =>
    intro f k n μ ν he hi hz hk hkr hf hn
    obtain ⟨f, rfl⟩ : ∃ f', f = f' + 1 := ⟨f - 1, by omega⟩
    unfold yMa_release_b7_L yMa_release_b7 yM_sync_b22_L yM_sync_b22
    have hc : ¬ W ≤ k := by rw [Int32.le_iff_toInt_le]; omega
    have e5 := inc_i (n := k) (by omega)
    have tk := tn_of hk
    have hw : 0 ≤ (μ.2.1 1 7).toInt ∧ (μ.2.1 1 7).toInt ≤ n := hi.went
    have qw : (ν.2.1 32 50) = (μ.2.1 1 7) := he.went
    have k1 : (yMa_slotOf (μ.2.1 1 7)).toInt = (μ.2.1 1 7).toInt % 64 := and63 hw.1
    have k2 : (yMa_slotOf (μ.2.1 1 7) * (26 : Int32)).toInt = (μ.2.1 1 7).toInt % 64 * 26 := by
      rw [mul_i (k := 26) rfl (by omega) (by omega) (by omega), k1]; omega
    have t2 := tn_of (i := yMa_slotOf (μ.2.1 1 7)) (by omega)
    have k3 : (yMa_slotOf (μ.2.1 1 7) * (26 : Int32)).toNatClampNeg = (yMa_slotOf (μ.2.1 1 7)).toNatClampNeg * 26 := by
      have t1 := tn_of (i := yMa_slotOf (μ.2.1 1 7) * (26 : Int32)) (by omega)
      omega
    have k4 := inc_i (n := (μ.2.1 1 7)) (by omega)
    have k5 : ((yMa_slotOf (μ.2.1 1 7)).toNatClampNeg : Int) = (ν.2.1 32 50).toInt % 64 := by
      rw [tn_of (by omega), k1, qw]
    have p2 : (k * (26 : Int32)).toInt = k.toInt * 26 := by
      rw [mul_i (k := 26) rfl (by omega) (by omega) (by omega)]; omega
    have p3 : (k * (26 : Int32)).toNatClampNeg = k.toNatClampNeg * 26 := by
      have t1 := tn_of (i := k * (26 : Int32)) (by omega)
      omega
    obtain ⟨z0, z1, z2, z3⟩ := hz k.toNatClampNeg (by omega)
    have xk := xin_of (i := k) (n := 200) hk (by omega)
    rw [if_neg hc, if_neg hc, xgd_t xk, xgd_t (xcb_of (by omega) (by omega) z0 (by omega) (by omega)), xgd_t xk, xgd_t (xin_of (i := yMa_slotOf (μ.2.1 1 7)) (n := 64) (by omega) (by omega)), k3, p3]
    unfold yM_goes
    rw [goes_old 32 1000 k 0 ν (yMa_slotOf (μ.2.1 1 7)).toNatClampNeg hk (by omega) (by rw [qw]; exact hw.1) k5 (by decide) (by decide) (by omega)]
    unfold yM_goes_b55
    rw [xbv_s, show (0 : Int32).toNatClampNeg = 0 from rfl, Nat.add_zero, Nat.add_zero]
    have hi1 := hi.mono (Nat.le_add_right n 1)
    have go := ih f (k + 1) (n + 1) (μ.1, xuI (xuI (va_up μ.2.1 5 (va_cpy (μ.2.1 3) (μ.2.1 5) (k.toNatClampNeg * 26) ((yMa_slotOf (μ.2.1 1 7)).toNatClampNeg * 26) ((μ.2.1 4) k.toNatClampNeg).toNatClampNeg)) 6 (yMa_slotOf (μ.2.1 1 7)).toNatClampNeg ((μ.2.1 4) k.toNatClampNeg)) 1 7 ((μ.2.1 1 7) + 1), μ.2.2) (ν.1, xuI (va_up ν.2.1 49 (va_cpy (ν.2.1 48) (ν.2.1 49) (k.toNatClampNeg * 32) ((yMa_slotOf (μ.2.1 1 7)).toNatClampNeg * 32) 32)) 32 50 ((ν.2.1 32 50) + 1), ν.2.2) ((RE.mk (ft := he.ft) (fg := fun c hc => by first | exact he.fg c hc | (have hh := he.fg c hc; (try unfold zq at hh); (try unfold zd at hh); (try unfold zf at hh); (try unfold zo at hh); (try unfold zo); (try unfold zh at hh); (try unfold zh); (try unfold zq); (try unfold zd); (try unfold zf); (try dsimp only at hh); (try dsimp only); (repeat (first | rw [xuI_o (by omega)] at hh | rw [xuL_o (by omega)] at hh | rw [va_up_o (by omega)] at hh)); (repeat (first | rw [xuI_o (by omega)] | rw [xuL_o (by omega)] | rw [va_up_o (by omega)])); exact hh)) (fgl := fun c hc => by first | exact he.fgl c hc | (have hh := he.fgl c hc; (try unfold zq at hh); (try unfold zd at hh); (try unfold zf at hh); (try unfold zo at hh); (try unfold zo); (try unfold zh at hh); (try unfold zh); (try unfold zq); (try unfold zd); (try unfold zf); (try dsimp only at hh); (try dsimp only); (repeat (first | rw [xuI_o (by omega)] at hh | rw [xuL_o (by omega)] at hh | rw [va_up_o (by omega)] at hh)); (repeat (first | rw [xuI_o (by omega)] | rw [xuL_o (by omega)] | rw [va_up_o (by omega)])); exact hh)) (ht := he.ht) (hg := fun c hc => by first | exact he.hg c hc | (have hh := he.hg c hc; (try unfold zq at hh); (try unfold zd at hh); (try unfold zf at hh); (try unfold zo at hh); (try unfold zo); (try unfold zh at hh); (try unfold zh); (try unfold zq); (try unfold zd); (try unfold zf); (try dsimp only at hh); (try dsimp only); (repeat (first | rw [xuI_o (by omega)] at hh | rw [xuL_o (by omega)] at hh | rw [va_up_o (by omega)] at hh)); (repeat (first | rw [xuI_o (by omega)] | rw [xuL_o (by omega)] | rw [va_up_o (by omega)])); exact hh)) (hgl := fun c hc => by first | exact he.hgl c hc | (have hh := he.hgl c hc; (try unfold zq at hh); (try unfold zd at hh); (try unfold zf at hh); (try unfold zo at hh); (try unfold zo); (try unfold zh at hh); (try unfold zh); (try unfold zq); (try unfold zd); (try unfold zf); (try dsimp only at hh); (try dsimp only); (repeat (first | rw [xuI_o (by omega)] at hh | rw [xuL_o (by omega)] at hh | rw [va_up_o (by omega)] at hh)); (repeat (first | rw [xuI_o (by omega)] | rw [xuL_o (by omega)] | rw [va_up_o (by omega)])); exact hh)) (thr := he.thr) (row := he.row) (itself := he.itself) (now := he.now) (term := he.term) (voted := he.voted) (base := he.base) (last := he.last) (baseTerm := he.baseTerm) (baseCode := he.baseCode) (snapshot := he.snapshot) (dirty := he.dirty) (role := he.role) (leader := he.leader) (commit := he.commit) (applied := he.applied) (synced := he.synced) (heard := he.heard) (alarm := he.alarm) (votes := he.votes) (handing := he.handing) (handed := he.handed) (first := he.first) (round := he.round) (assembly := he.assembly) (described := he.described) (toldBase := he.toldBase) (toldTerm := he.toldTerm) (toldCode := he.toldCode) (toldSize := he.toldSize) (told := he.told) (waits := he.waits) (went := by show (ν.2.1 32 50) + 1 = (μ.2.1 1 7) + 1; rw [qw]) (done := he.done) (calls := he.calls) (next := he.next) (mtch := he.mtch) (flying := he.flying) (offset := he.offset) (ack := he.ack) (seen := he.seen) (probing := he.probing) (answered := he.answered) (toldTerms := he.toldTerms) (toldKinds := he.toldKinds) (toldValues := he.toldValues) (doneNumbers := he.doneNumbers) (doneValues := he.doneValues) (callState := he.callState) (callNumber := he.callNumber) (got := he.got) (log := he.log) (kept := ZK_put (sp := k.toNatClampNeg * 26) (sp' := k.toNatClampNeg * 32) he.kept (fun s' hs' _ => hs') z0 z1 z2 z3) (wait := he.wait) (cls := he.cls))) ((RI.mk (itself := hi1.itself) (role := hi1.role) (base := hi1.base) (ba := hi1.ba) (ac := hi1.ac) (cl := hi1.cl) (lb := hi1.lb) (last := hi1.last) (syn := hi1.syn) (dirty := hi1.dirty) (desc := hi1.desc) (now := hi1.now) (term := hi1.term) (went := ⟨by show 0 ≤ ((μ.2.1 1 7) + 1).toInt; omega, by show ((μ.2.1 1 7) + 1).toInt ≤ ((n + 1 : Nat) : Int); omega⟩) (waits := hi1.waits) (done := hi1.done) (calls := hi1.calls) (told := hi1.told) (round := hi1.round) (hand := hi1.hand) (heard := hi1.heard) (vote := hi1.vote) (lead := hi1.lead) (quiet := hi1.quiet) (cmd := hi1.cmd) (tt := hi1.tt) (tb := hi1.tb) (got := hi1.got) (mem := hi1.mem))) hz (by omega) (by omega) (by omega) (by omega)
    rw [show n + 1 + r = n + (r + 1) by omega] at go
    exact go
theorem Q_sync {g h μ ν : XMu} {n : Nat} (he : RE g h μ ν) (hi : RI n μ) (hn : n + 1500 ≤ 1000000) : Pub g h (n + 1500) En (yC_sync μ) (yM_sync ν) := by
  unfold yC_sync yM_sync yMa_release
  have he0 := RE_zh he 0
  have hq := hi.waits
  obtain ⟨μ1, ν1, o1, o2, he1, hi1⟩ := rel_loop (g := g) (h := zh h 0) hq.2 (μ.2.1 1 4).toInt.toNat 1000 0 n μ (ν.1, xuI (xuI (xuI ν.2.1 32 0 0) 32 14 0) 32 49 0, ν.2.2) ((RE.mk (ft := he0.ft) (fg := fun c hc => by first | exact he0.fg c hc | (have hh := he0.fg c hc; (try unfold zq at hh); (try unfold zd at hh); (try unfold zf at hh); (try unfold zo at hh); (try unfold zo); (try unfold zh at hh); (try unfold zh); (try unfold zq); (try unfold zd); (try unfold zf); (try dsimp only at hh); (try dsimp only); (repeat (first | rw [xuI_o (by omega)] at hh | rw [xuL_o (by omega)] at hh | rw [va_up_o (by omega)] at hh)); (repeat (first | rw [xuI_o (by omega)] | rw [xuL_o (by omega)] | rw [va_up_o (by omega)])); exact hh)) (fgl := fun c hc => by first | exact he0.fgl c hc | (have hh := he0.fgl c hc; (try unfold zq at hh); (try unfold zd at hh); (try unfold zf at hh); (try unfold zo at hh); (try unfold zo); (try unfold zh at hh); (try unfold zh); (try unfold zq); (try unfold zd); (try unfold zf); (try dsimp only at hh); (try dsimp only); (repeat (first | rw [xuI_o (by omega)] at hh | rw [xuL_o (by omega)] at hh | rw [va_up_o (by omega)] at hh)); (repeat (first | rw [xuI_o (by omega)] | rw [xuL_o (by omega)] | rw [va_up_o (by omega)])); exact hh)) (ht := he0.ht) (hg := fun c hc => by first | exact he0.hg c hc | (have hh := he0.hg c hc; (try unfold zq at hh); (try unfold zd at hh); (try unfold zf at hh); (try unfold zo at hh); (try unfold zo); (try unfold zh at hh); (try unfold zh); (try unfold zq); (try unfold zd); (try unfold zf); (try dsimp only at hh); (try dsimp only); (repeat (first | rw [xuI_o (by omega)] at hh | rw [xuL_o (by omega)] at hh | rw [va_up_o (by omega)] at hh)); (repeat (first | rw [xuI_o (by omega)] | rw [xuL_o (by omega)] | rw [va_up_o (by omega)])); exact hh)) (hgl := fun c hc => by first | exact he0.hgl c hc | (have hh := he0.hgl c hc; (try unfold zq at hh); (try unfold zd at hh); (try unfold zf at hh); (try unfold zo at hh); (try unfold zo); (try unfold zh at hh); (try unfold zh); (try unfold zq); (try unfold zd); (try unfold zf); (try dsimp only at hh); (try dsimp only); (repeat (first | rw [xuI_o (by omega)] at hh | rw [xuL_o (by omega)] at hh | rw [va_up_o (by omega)] at hh)); (repeat (first | rw [xuI_o (by omega)] | rw [xuL_o (by omega)] | rw [va_up_o (by omega)])); exact hh)) (thr := he0.thr) (row := he0.row) (itself := he0.itself) (now := he0.now) (term := he0.term) (voted := he0.voted) (base := he0.base) (last := he0.last) (baseTerm := he0.baseTerm) (baseCode := he0.baseCode) (snapshot := he0.snapshot) (dirty := rfl) (role := he0.role) (leader := he0.leader) (commit := he0.commit) (applied := he0.applied) (synced := he0.synced) (heard := he0.heard) (alarm := he0.alarm) (votes := he0.votes) (handing := he0.handing) (handed := he0.handed) (first := he0.first) (round := he0.round) (assembly := he0.assembly) (described := he0.described) (toldBase := he0.toldBase) (toldTerm := he0.toldTerm) (toldCode := he0.toldCode) (toldSize := he0.toldSize) (told := he0.told) (waits := rfl) (went := he0.went) (done := he0.done) (calls := he0.calls) (next := he0.next) (mtch := he0.mtch) (flying := he0.flying) (offset := he0.offset) (ack := he0.ack) (seen := he0.seen) (probing := he0.probing) (answered := he0.answered) (toldTerms := he0.toldTerms) (toldKinds := he0.toldKinds) (toldValues := he0.toldValues) (doneNumbers := he0.doneNumbers) (doneValues := he0.doneValues) (callState := he0.callState) (callNumber := he0.callNumber) (got := he0.got) (log := he0.log) (kept := he0.kept) (wait := fun s hs => by have : s < (0 : Int32).toInt.toNat := hs; exact absurd this (Nat.not_lt_zero s)) (cls := he0.cls))) ((RI.mk (itself := hi.itself) (role := hi.role) (base := hi.base) (ba := hi.ba) (ac := hi.ac) (cl := hi.cl) (lb := hi.lb) (last := hi.last) (syn := hi.syn) (dirty := rfl) (desc := hi.desc) (now := hi.now) (term := hi.term) (went := hi.went) (waits := ⟨by show 0 ≤ (0 : Int32).toInt; decide, by show (0 : Int32).toInt ≤ 200; decide⟩) (done := hi.done) (calls := hi.calls) (told := hi.told) (round := hi.round) (hand := hi.hand) (heard := hi.heard) (vote := hi.vote) (lead := hi.lead) (quiet := hi.quiet) (cmd := hi.cmd) (tt := hi.tt) (tb := hi.tb) (got := hi.got) (mem := hi.mem))) he.wait (by decide) (by rw [il_0]; omega) (by omega) (by omega)
  rw [he.waits, o1, o2]
  unfold yMa_release_b73 yDi_settle yM_sync_b38
  rw [xbi_s, xbv_s]
  have hla := hi1.cl
  have hlb := hi1.ac
  have hlc := hi1.ba
  have hld := hi1.base
  have q0 : (ν1.2.1 32 10) = (μ1.2.1 28 9) := he1.last
  have he2 : RE g (zh h 0) (μ1.1, xuI (xuI (xuI μ1.2.1 1 4 0) 28 11 0) 28 10 (μ1.2.1 28 9), μ1.2.2) (ν1.1, xuI ν1.2.1 32 19 (μ1.2.1 28 9), ν1.2.2) := (RE.mk (ft := he1.ft) (fg := fun c hc => by first | exact he1.fg c hc | (have hh := he1.fg c hc; (try unfold zq at hh); (try unfold zd at hh); (try unfold zf at hh); (try unfold zo at hh); (try unfold zo); (try unfold zh at hh); (try unfold zh); (try unfold zq); (try unfold zd); (try unfold zf); (try dsimp only at hh); (try dsimp only); (repeat (first | rw [xuI_o (by omega)] at hh | rw [xuL_o (by omega)] at hh | rw [va_up_o (by omega)] at hh)); (repeat (first | rw [xuI_o (by omega)] | rw [xuL_o (by omega)] | rw [va_up_o (by omega)])); exact hh)) (fgl := fun c hc => by first | exact he1.fgl c hc | (have hh := he1.fgl c hc; (try unfold zq at hh); (try unfold zd at hh); (try unfold zf at hh); (try unfold zo at hh); (try unfold zo); (try unfold zh at hh); (try unfold zh); (try unfold zq); (try unfold zd); (try unfold zf); (try dsimp only at hh); (try dsimp only); (repeat (first | rw [xuI_o (by omega)] at hh | rw [xuL_o (by omega)] at hh | rw [va_up_o (by omega)] at hh)); (repeat (first | rw [xuI_o (by omega)] | rw [xuL_o (by omega)] | rw [va_up_o (by omega)])); exact hh)) (ht := he1.ht) (hg := fun c hc => by first | exact he1.hg c hc | (have hh := he1.hg c hc; (try unfold zq at hh); (try unfold zd at hh); (try unfold zf at hh); (try unfold zo at hh); (try unfold zo); (try unfold zh at hh); (try unfold zh); (try unfold zq); (try unfold zd); (try unfold zf); (try dsimp only at hh); (try dsimp only); (repeat (first | rw [xuI_o (by omega)] at hh | rw [xuL_o (by omega)] at hh | rw [va_up_o (by omega)] at hh)); (repeat (first | rw [xuI_o (by omega)] | rw [xuL_o (by omega)] | rw [va_up_o (by omega)])); exact hh)) (hgl := fun c hc => by first | exact he1.hgl c hc | (have hh := he1.hgl c hc; (try unfold zq at hh); (try unfold zd at hh); (try unfold zf at hh); (try unfold zo at hh); (try unfold zo); (try unfold zh at hh); (try unfold zh); (try unfold zq); (try unfold zd); (try unfold zf); (try dsimp only at hh); (try dsimp only); (repeat (first | rw [xuI_o (by omega)] at hh | rw [xuL_o (by omega)] at hh | rw [va_up_o (by omega)] at hh)); (repeat (first | rw [xuI_o (by omega)] | rw [xuL_o (by omega)] | rw [va_up_o (by omega)])); exact hh)) (thr := he1.thr) (row := he1.row) (itself := he1.itself) (now := he1.now) (term := he1.term) (voted := he1.voted) (base := he1.base) (last := he1.last) (baseTerm := he1.baseTerm) (baseCode := he1.baseCode) (snapshot := he1.snapshot) (dirty := he1.dirty) (role := he1.role) (leader := he1.leader) (commit := he1.commit) (applied := he1.applied) (synced := rfl) (heard := he1.heard) (alarm := he1.alarm) (votes := he1.votes) (handing := he1.handing) (handed := he1.handed) (first := he1.first) (round := he1.round) (assembly := he1.assembly) (described := he1.described) (toldBase := he1.toldBase) (toldTerm := he1.toldTerm) (toldCode := he1.toldCode) (toldSize := he1.toldSize) (told := he1.told) (waits := he1.waits) (went := he1.went) (done := he1.done) (calls := he1.calls) (next := he1.next) (mtch := he1.mtch) (flying := he1.flying) (offset := he1.offset) (ack := he1.ack) (seen := he1.seen) (probing := he1.probing) (answered := he1.answered) (toldTerms := he1.toldTerms) (toldKinds := he1.toldKinds) (toldValues := he1.toldValues) (doneNumbers := he1.doneNumbers) (doneValues := he1.doneValues) (callState := he1.callState) (callNumber := he1.callNumber) (got := he1.got) (log := he1.log) (kept := he1.kept) (wait := he1.wait) (cls := he1.cls))
  have hi2 : RI (n + (μ.2.1 1 4).toInt.toNat) (μ1.1, xuI (xuI (xuI μ1.2.1 1 4 0) 28 11 0) 28 10 (μ1.2.1 28 9), μ1.2.2) := (RI.mk (itself := hi1.itself) (role := hi1.role) (base := hi1.base) (ba := hi1.ba) (ac := hi1.ac) (cl := hi1.cl) (lb := hi1.lb) (last := hi1.last) (syn := ⟨by show 0 ≤ (μ1.2.1 28 9).toInt; have a1 : (μ1.2.1 0 11).toInt ≤ (μ1.2.1 28 9).toInt := hla; have a2 : (μ1.2.1 0 12).toInt ≤ (μ1.2.1 0 11).toInt := hlb; have a3 : (μ1.2.1 28 5).toInt ≤ (μ1.2.1 0 12).toInt := hlc; have a4 : 0 ≤ (μ1.2.1 28 5).toInt := hld; omega, Int.le_refl _⟩) (dirty := hi1.dirty) (desc := hi1.desc) (now := hi1.now) (term := hi1.term) (went := hi1.went) (waits := hi1.waits) (done := hi1.done) (calls := hi1.calls) (told := hi1.told) (round := hi1.round) (hand := hi1.hand) (heard := hi1.heard) (vote := hi1.vote) (lead := hi1.lead) (quiet := hi1.quiet) (cmd := hi1.cmd) (tt := hi1.tt) (tb := hi1.tb) (got := hi1.got) (mem := hi1.mem))
  have sl : ((μ1.1, xuI (xuI (xuI μ1.2.1 1 4 0) 28 11 0) 28 10 (μ1.2.1 28 9), μ1.2.2) : XMu).2.1 28 10 = (μ1.2.1 28 9) := rfl
  rw [q0, show (ν1.2.1 32 15) = ((μ1.1, xuI (xuI (xuI μ1.2.1 1 4 0) 28 11 0) 28 10 (μ1.2.1 28 9), μ1.2.2) : XMu).2.1 0 9 from he2.role, show (ν1.2.1 32 1) = ((μ1.1, xuI (xuI (xuI μ1.2.1 1 4 0) 28 11 0) 28 10 (μ1.2.1 28 9), μ1.2.2) : XMu).2.1 0 0 from he2.itself, show (ν1.2.1 32 22) = ((μ1.1, xuI (xuI (xuI μ1.2.1 1 4 0) 28 11 0) 28 10 (μ1.2.1 28 9), μ1.2.2) : XMu).2.1 0 15 from he2.votes, bit_eq]
  generalize hS : ((μ1.1, xuI (xuI (xuI μ1.2.1 1 4 0) 28 11 0) 28 10 (μ1.2.1 28 9), μ1.2.2) : XMu) = S at he2 hi2 sl ⊢
  have hS2 : (((μ1.1, xuI μ1.2.1 1 4 0, μ1.2.2) : XMu).1, xuI (xuI ((μ1.1, xuI μ1.2.1 1 4 0, μ1.2.2) : XMu).2.1 28 11 0) 28 10 (((μ1.1, xuI μ1.2.1 1 4 0, μ1.2.2) : XMu).2.1 28 9), ((μ1.1, xuI μ1.2.1 1 4 0, μ1.2.2) : XMu).2.2) = S := hS
  rw [hS2, ← sl]
  rw [← sl] at he2
  generalize hN : ((ν1.1, xuI ν1.2.1 32 19 (S.2.1 28 10), ν1.2.2) : XMu) = N at he2
  have n1 : ν1.1 = N.1 := by rw [← hN]
  have n2 : xuI ν1.2.1 32 19 (S.2.1 28 10) = N.2.1 := by rw [← hN]
  have n3 : ν1.2.2 = N.2.2 := by rw [← hN]
  rw [n1, n2, n3]
  have hsy : (S.2.1 28 10) = (S.2.1 28 9) := by rw [← hS]; rfl
  have hit := hi2.itself
  have xi := xin_of (i := (S.2.1 0 0)) (n := 7) hit.1 (by omega)
  by_cases h2 : (S.2.1 0 9) = 2
  · rw [if_neg (not_not_intro h2), if_neg (not_not_intro h2)]
    have he3 : RE g (zh h 0) (S.1, xuI S.2.1 0 15 ((S.2.1 0 15) ||| yC_bit (S.2.1 0 0)), S.2.2) (N.1, xuI N.2.1 32 22 ((S.2.1 0 15) ||| yC_bit (S.2.1 0 0)), N.2.2) := (RE.mk (ft := he2.ft) (fg := fun c hc => by first | exact he2.fg c hc | (have hh := he2.fg c hc; (try unfold zq at hh); (try unfold zd at hh); (try unfold zf at hh); (try unfold zo at hh); (try unfold zo); (try unfold zh at hh); (try unfold zh); (try unfold zq); (try unfold zd); (try unfold zf); (try dsimp only at hh); (try dsimp only); (repeat (first | rw [xuI_o (by omega)] at hh | rw [xuL_o (by omega)] at hh | rw [va_up_o (by omega)] at hh)); (repeat (first | rw [xuI_o (by omega)] | rw [xuL_o (by omega)] | rw [va_up_o (by omega)])); exact hh)) (fgl := fun c hc => by first | exact he2.fgl c hc | (have hh := he2.fgl c hc; (try unfold zq at hh); (try unfold zd at hh); (try unfold zf at hh); (try unfold zo at hh); (try unfold zo); (try unfold zh at hh); (try unfold zh); (try unfold zq); (try unfold zd); (try unfold zf); (try dsimp only at hh); (try dsimp only); (repeat (first | rw [xuI_o (by omega)] at hh | rw [xuL_o (by omega)] at hh | rw [va_up_o (by omega)] at hh)); (repeat (first | rw [xuI_o (by omega)] | rw [xuL_o (by omega)] | rw [va_up_o (by omega)])); exact hh)) (ht := he2.ht) (hg := fun c hc => by first | exact he2.hg c hc | (have hh := he2.hg c hc; (try unfold zq at hh); (try unfold zd at hh); (try unfold zf at hh); (try unfold zo at hh); (try unfold zo); (try unfold zh at hh); (try unfold zh); (try unfold zq); (try unfold zd); (try unfold zf); (try dsimp only at hh); (try dsimp only); (repeat (first | rw [xuI_o (by omega)] at hh | rw [xuL_o (by omega)] at hh | rw [va_up_o (by omega)] at hh)); (repeat (first | rw [xuI_o (by omega)] | rw [xuL_o (by omega)] | rw [va_up_o (by omega)])); exact hh)) (hgl := fun c hc => by first | exact he2.hgl c hc | (have hh := he2.hgl c hc; (try unfold zq at hh); (try unfold zd at hh); (try unfold zf at hh); (try unfold zo at hh); (try unfold zo); (try unfold zh at hh); (try unfold zh); (try unfold zq); (try unfold zd); (try unfold zf); (try dsimp only at hh); (try dsimp only); (repeat (first | rw [xuI_o (by omega)] at hh | rw [xuL_o (by omega)] at hh | rw [va_up_o (by omega)] at hh)); (repeat (first | rw [xuI_o (by omega)] | rw [xuL_o (by omega)] | rw [va_up_o (by omega)])); exact hh)) (thr := he2.thr) (row := he2.row) (itself := he2.itself) (now := he2.now) (term := he2.term) (voted := he2.voted) (base := he2.base) (last := he2.last) (baseTerm := he2.baseTerm) (baseCode := he2.baseCode) (snapshot := he2.snapshot) (dirty := he2.dirty) (role := he2.role) (leader := he2.leader) (commit := he2.commit) (applied := he2.applied) (synced := he2.synced) (heard := he2.heard) (alarm := he2.alarm) (votes := rfl) (handing := he2.handing) (handed := he2.handed) (first := he2.first) (round := he2.round) (assembly := he2.assembly) (described := he2.described) (toldBase := he2.toldBase) (toldTerm := he2.toldTerm) (toldCode := he2.toldCode) (toldSize := he2.toldSize) (told := he2.told) (waits := he2.waits) (went := he2.went) (done := he2.done) (calls := he2.calls) (next := he2.next) (mtch := he2.mtch) (flying := he2.flying) (offset := he2.offset) (ack := he2.ack) (seen := he2.seen) (probing := he2.probing) (answered := he2.answered) (toldTerms := he2.toldTerms) (toldKinds := he2.toldKinds) (toldValues := he2.toldValues) (doneNumbers := he2.doneNumbers) (doneValues := he2.doneValues) (callState := he2.callState) (callNumber := he2.callNumber) (got := he2.got) (log := he2.log) (kept := he2.kept) (wait := he2.wait) (cls := he2.cls))
    have hi3 : RI (n + (μ.2.1 1 4).toInt.toNat) (S.1, xuI S.2.1 0 15 ((S.2.1 0 15) ||| yC_bit (S.2.1 0 0)), S.2.2) := (RI.mk (itself := hi2.itself) (role := hi2.role) (base := hi2.base) (ba := hi2.ba) (ac := hi2.ac) (cl := hi2.cl) (lb := hi2.lb) (last := hi2.last) (syn := hi2.syn) (dirty := hi2.dirty) (desc := hi2.desc) (now := hi2.now) (term := hi2.term) (went := hi2.went) (waits := hi2.waits) (done := hi2.done) (calls := hi2.calls) (told := hi2.told) (round := hi2.round) (hand := hi2.hand) (heard := hi2.heard) (vote := hi2.vote) (lead := hi2.lead) (quiet := hi2.quiet) (cmd := hi2.cmd) (tt := hi2.tt) (tb := hi2.tb) (got := hi2.got) (mem := hi2.mem))
    rw [majority_m he3 (hi3.LB (by omega)) hi3.mem, xbi_s]
    by_cases h4 : yC_isMajority ((S.2.1 0 15) ||| yC_bit (S.2.1 0 0)) (S.1, xuI S.2.1 0 15 ((S.2.1 0 15) ||| yC_bit (S.2.1 0 0)), S.2.2) = 0
    · rw [if_pos h4, if_pos h4]
      exact Pub.i he3 hi3 (by omega)
    · rw [if_neg h4, if_neg h4]
      exact Pub.toI (P_lead he3 hi3 h2 (by omega)) (by omega)
  · rw [if_pos h2, if_pos h2]
    by_cases h3 : (S.2.1 0 9) = 3
    · rw [if_neg (not_not_intro h3), if_neg (not_not_intro h3), xgd_t xi, xgd_t xi]
      refine Pub.toI (n := n + (μ.2.1 1 4).toInt.toNat + 336) (P_count ?_ ?_ ?_ (by omega)).toPv (by omega)
      · exact (RE.mk (ft := he2.ft) (fg := fun c hc => by first | exact he2.fg c hc | (have hh := he2.fg c hc; (try unfold zq at hh); (try unfold zd at hh); (try unfold zf at hh); (try unfold zo at hh); (try unfold zo); (try unfold zh at hh); (try unfold zh); (try unfold zq); (try unfold zd); (try unfold zf); (try dsimp only at hh); (try dsimp only); (repeat (first | rw [xuI_o (by omega)] at hh | rw [xuL_o (by omega)] at hh | rw [va_up_o (by omega)] at hh)); (repeat (first | rw [xuI_o (by omega)] | rw [xuL_o (by omega)] | rw [va_up_o (by omega)])); exact hh)) (fgl := fun c hc => by first | exact he2.fgl c hc | (have hh := he2.fgl c hc; (try unfold zq at hh); (try unfold zd at hh); (try unfold zf at hh); (try unfold zo at hh); (try unfold zo); (try unfold zh at hh); (try unfold zh); (try unfold zq); (try unfold zd); (try unfold zf); (try dsimp only at hh); (try dsimp only); (repeat (first | rw [xuI_o (by omega)] at hh | rw [xuL_o (by omega)] at hh | rw [va_up_o (by omega)] at hh)); (repeat (first | rw [xuI_o (by omega)] | rw [xuL_o (by omega)] | rw [va_up_o (by omega)])); exact hh)) (ht := he2.ht) (hg := fun c hc => by first | exact he2.hg c hc | (have hh := he2.hg c hc; (try unfold zq at hh); (try unfold zd at hh); (try unfold zf at hh); (try unfold zo at hh); (try unfold zo); (try unfold zh at hh); (try unfold zh); (try unfold zq); (try unfold zd); (try unfold zf); (try dsimp only at hh); (try dsimp only); (repeat (first | rw [xuI_o (by omega)] at hh | rw [xuL_o (by omega)] at hh | rw [va_up_o (by omega)] at hh)); (repeat (first | rw [xuI_o (by omega)] | rw [xuL_o (by omega)] | rw [va_up_o (by omega)])); exact hh)) (hgl := fun c hc => by first | exact he2.hgl c hc | (have hh := he2.hgl c hc; (try unfold zq at hh); (try unfold zd at hh); (try unfold zf at hh); (try unfold zo at hh); (try unfold zo); (try unfold zh at hh); (try unfold zh); (try unfold zq); (try unfold zd); (try unfold zf); (try dsimp only at hh); (try dsimp only); (repeat (first | rw [xuI_o (by omega)] at hh | rw [xuL_o (by omega)] at hh | rw [va_up_o (by omega)] at hh)); (repeat (first | rw [xuI_o (by omega)] | rw [xuL_o (by omega)] | rw [va_up_o (by omega)])); exact hh)) (thr := he2.thr) (row := he2.row) (itself := he2.itself) (now := he2.now) (term := he2.term) (voted := he2.voted) (base := he2.base) (last := he2.last) (baseTerm := he2.baseTerm) (baseCode := he2.baseCode) (snapshot := he2.snapshot) (dirty := he2.dirty) (role := he2.role) (leader := he2.leader) (commit := he2.commit) (applied := he2.applied) (synced := he2.synced) (heard := he2.heard) (alarm := he2.alarm) (votes := he2.votes) (handing := he2.handing) (handed := he2.handed) (first := he2.first) (round := he2.round) (assembly := he2.assembly) (described := he2.described) (toldBase := he2.toldBase) (toldTerm := he2.toldTerm) (toldCode := he2.toldCode) (toldSize := he2.toldSize) (told := he2.told) (waits := he2.waits) (went := he2.went) (done := he2.done) (calls := he2.calls) (next := he2.next) (mtch := congrArg (fun F => upd F (S.2.1 0 0).toNatClampNeg (S.2.1 28 10)) he2.mtch) (flying := he2.flying) (offset := he2.offset) (ack := he2.ack) (seen := he2.seen) (probing := he2.probing) (answered := he2.answered) (toldTerms := he2.toldTerms) (toldKinds := he2.toldKinds) (toldValues := he2.toldValues) (doneNumbers := he2.doneNumbers) (doneValues := he2.doneValues) (callState := he2.callState) (callNumber := he2.callNumber) (got := he2.got) (log := he2.log) (kept := he2.kept) (wait := he2.wait) (cls := he2.cls))
      · refine (RI.mk (itself := hi2.itself) (role := hi2.role) (base := hi2.base) (ba := hi2.ba) (ac := hi2.ac) (cl := hi2.cl) (lb := hi2.lb) (last := hi2.last) (syn := hi2.syn) (dirty := hi2.dirty) (desc := hi2.desc) (now := hi2.now) (term := hi2.term) (went := hi2.went) (waits := hi2.waits) (done := hi2.done) (calls := hi2.calls) (told := hi2.told) (round := hi2.round) (hand := hi2.hand) (heard := hi2.heard) (vote := hi2.vote) (lead := fun _ j hj => ?_) (quiet := hi2.quiet) (cmd := hi2.cmd) (tt := hi2.tt) (tb := hi2.tb) (got := hi2.got) (mem := hi2.mem))
        have hz := hi2.lead h3 j hj
        refine ⟨hz.1, ?_, hz.2.2⟩
        show 0 ≤ (upd (S.2.1 13) (S.2.1 0 0).toNatClampNeg (S.2.1 28 10) j).toInt ∧ (upd (S.2.1 13) (S.2.1 0 0).toNatClampNeg (S.2.1 28 10) j).toInt ≤ (S.2.1 28 9).toInt
        by_cases hj2 : j = (S.2.1 0 0).toNatClampNeg
        · rw [hj2, upd_s]; exact hi2.syn
        · rw [upd_o hj2]; exact hz.2.1
      · exact h3
    · rw [if_pos h3, if_pos h3]
      exact Pub.i he2 hi2 (by omega)
theorem hand_lt {n : Nat} {μ : XMu} (hi : RI n μ) : (¬ (μ.2.1 0 16) = -1) ↔ (0 : Int32) ≤ (μ.2.1 0 16) := by
  rw [Int32.le_iff_toInt_le, il_0]
  rcases hi.hand with q | q
  · rw [q, il_m1]; exact ⟨fun k => absurd rfl k, fun k => by omega⟩
  · exact ⟨fun _ => q.1, fun _ k => by rw [k, il_m1] at q; omega⟩
theorem Q_hand {g h μ ν : XMu} {n : Nat} (he : RE g h μ ν) (hi : RI n μ) (hn : n + 1500 ≤ 1000000) (a : Int32) : Pub g h (n + 1500) En (yC_hand a μ) (yM_hand a ν) := by
  have he0 := RE_zh he 0
  unfold yC_hand yM_hand
  rw [zh_x, he.role, he.handing, he.itself]
  have r0 : Pub g h (n + 1500) En (some (.inl (some (.int 0)), μ)) (some (.inl (some (.int 0)), zh ν 0)) := Pub.i he0 hi (by omega)
  generalize zh ν 0 = N at he0 r0 ⊢
  by_cases h1 : (μ.2.1 0 9) = 3
  · rw [if_neg (not_not_intro h1), if_neg (not_not_intro h1)]
    by_cases h2 : (μ.2.1 0 16) = -1
    · rw [if_neg (not_not_intro h2), if_neg (fun k => (hand_lt hi).mpr k h2)]
      by_cases h3 : sok a (μ.2.1 0 0)
      · have xi := xin_of (i := a) (n := 7) h3.1.1 (by have := h3.1.2; omega)
        rw [other_1 h3, if_neg (show ¬ (1 : Int32) = 0 by decide), within_1 (show (0 : Int32).toInt ≤ _ from h3.1.1) (show _ ≤ (6 : Int32).toInt from h3.1.2), if_neg (show ¬ (1 : Int32) = 0 by decide), if_neg h3.2, voters_m he0 (hi.LB (by omega)) hi.mem, xbi_s, has_eq _ h3.1.1 h3.1.2]
        by_cases h4 : yC_has (yC_voters μ) a = 0
        · rw [if_neg (not_not_intro h4), if_neg (not_not_intro h4)]; exact r0
        · rw [if_pos h4, if_pos h4, xgd_t xi, xgd_t xi, he0.mtch, he0.last, he0.now, he0.term]
          have he1 : RE g (zh h 0) (μ.1, xuI (xuI μ.2.1 0 16 a) 0 17 (μ.2.1 0 8), μ.2.2) (N.1, xuI (xuI N.2.1 32 23 a) 32 24 (μ.2.1 0 8), N.2.2) := (RE.mk (ft := he0.ft) (fg := fun c hc => by first | exact he0.fg c hc | (have hh := he0.fg c hc; (try unfold zq at hh); (try unfold zd at hh); (try unfold zf at hh); (try unfold zo at hh); (try unfold zo); (try unfold zh at hh); (try unfold zh); (try unfold zq); (try unfold zd); (try unfold zf); (try dsimp only at hh); (try dsimp only); (repeat (first | rw [xuI_o (by omega)] at hh | rw [xuL_o (by omega)] at hh | rw [va_up_o (by omega)] at hh)); (repeat (first | rw [xuI_o (by omega)] | rw [xuL_o (by omega)] | rw [va_up_o (by omega)])); exact hh)) (fgl := fun c hc => by first | exact he0.fgl c hc | (have hh := he0.fgl c hc; (try unfold zq at hh); (try unfold zd at hh); (try unfold zf at hh); (try unfold zo at hh); (try unfold zo); (try unfold zh at hh); (try unfold zh); (try unfold zq); (try unfold zd); (try unfold zf); (try dsimp only at hh); (try dsimp only); (repeat (first | rw [xuI_o (by omega)] at hh | rw [xuL_o (by omega)] at hh | rw [va_up_o (by omega)] at hh)); (repeat (first | rw [xuI_o (by omega)] | rw [xuL_o (by omega)] | rw [va_up_o (by omega)])); exact hh)) (ht := he0.ht) (hg := fun c hc => by first | exact he0.hg c hc | (have hh := he0.hg c hc; (try unfold zq at hh); (try unfold zd at hh); (try unfold zf at hh); (try unfold zo at hh); (try unfold zo); (try unfold zh at hh); (try unfold zh); (try unfold zq); (try unfold zd); (try unfold zf); (try dsimp only at hh); (try dsimp only); (repeat (first | rw [xuI_o (by omega)] at hh | rw [xuL_o (by omega)] at hh | rw [va_up_o (by omega)] at hh)); (repeat (first | rw [xuI_o (by omega)] | rw [xuL_o (by omega)] | rw [va_up_o (by omega)])); exact hh)) (hgl := fun c hc => by first | exact he0.hgl c hc | (have hh := he0.hgl c hc; (try unfold zq at hh); (try unfold zd at hh); (try unfold zf at hh); (try unfold zo at hh); (try unfold zo); (try unfold zh at hh); (try unfold zh); (try unfold zq); (try unfold zd); (try unfold zf); (try dsimp only at hh); (try dsimp only); (repeat (first | rw [xuI_o (by omega)] at hh | rw [xuL_o (by omega)] at hh | rw [va_up_o (by omega)] at hh)); (repeat (first | rw [xuI_o (by omega)] | rw [xuL_o (by omega)] | rw [va_up_o (by omega)])); exact hh)) (thr := he0.thr) (row := he0.row) (itself := he0.itself) (now := he0.now) (term := he0.term) (voted := he0.voted) (base := he0.base) (last := he0.last) (baseTerm := he0.baseTerm) (baseCode := he0.baseCode) (snapshot := he0.snapshot) (dirty := he0.dirty) (role := he0.role) (leader := he0.leader) (commit := he0.commit) (applied := he0.applied) (synced := he0.synced) (heard := he0.heard) (alarm := he0.alarm) (votes := he0.votes) (handing := rfl) (handed := rfl) (first := he0.first) (round := he0.round) (assembly := he0.assembly) (described := he0.described) (toldBase := he0.toldBase) (toldTerm := he0.toldTerm) (toldCode := he0.toldCode) (toldSize := he0.toldSize) (told := he0.told) (waits := he0.waits) (went := he0.went) (done := he0.done) (calls := he0.calls) (next := he0.next) (mtch := he0.mtch) (flying := he0.flying) (offset := he0.offset) (ack := he0.ack) (seen := he0.seen) (probing := he0.probing) (answered := he0.answered) (toldTerms := he0.toldTerms) (toldKinds := he0.toldKinds) (toldValues := he0.toldValues) (doneNumbers := he0.doneNumbers) (doneValues := he0.doneValues) (callState := he0.callState) (callNumber := he0.callNumber) (got := he0.got) (log := he0.log) (kept := he0.kept) (wait := he0.wait) (cls := he0.cls))
          have hi1 : RI n (μ.1, xuI (xuI μ.2.1 0 16 a) 0 17 (μ.2.1 0 8), μ.2.2) := (RI.mk (itself := hi.itself) (role := hi.role) (base := hi.base) (ba := hi.ba) (ac := hi.ac) (cl := hi.cl) (lb := hi.lb) (last := hi.last) (syn := hi.syn) (dirty := hi.dirty) (desc := hi.desc) (now := hi.now) (term := hi.term) (went := hi.went) (waits := hi.waits) (done := hi.done) (calls := hi.calls) (told := hi.told) (round := hi.round) (hand := Or.inr h3.1) (heard := hi.heard) (vote := hi.vote) (lead := hi.lead) (quiet := hi.quiet) (cmd := hi.cmd) (tt := hi.tt) (tb := hi.tb) (got := hi.got) (mem := hi.mem))
          by_cases h5 : (μ.2.1 13) a.toNatClampNeg = (μ.2.1 28 9)
          · rw [if_neg (not_not_intro h5), if_neg (not_not_intro h5)]
            have p := P_sendGo he1 hi1 (by omega) a
            obtain ⟨μ', ν', p1, p2, p3, p4, _⟩ := p
            rw [p1, xbv_s]
            have qt : (N.1, xuI (xuI N.2.1 32 23 a) 32 24 (μ.2.1 0 8), N.2.2).2.1 32 4 = (μ.2.1 28 3) := he0.term
            rw [qt] at p2
            have fin : xbv (yM_begin a 9 (μ.2.1 28 3) (N.1, xuI (xuI N.2.1 32 23 a) 32 24 (μ.2.1 0 8), N.2.2)) (fun m4 => xbv (yM_send m4) (fun m5 => some (.inl (some (.int 1)), m5))) = some (.inl (some (.int 1)), ν') := by
              cases hb : yM_begin a 9 (μ.2.1 28 3) (N.1, xuI (xuI N.2.1 32 23 a) 32 24 (μ.2.1 0 8), N.2.2) with
              | none => rw [hb] at p2; cases p2
              | some q =>
                obtain ⟨o, m⟩ := q
                rw [hb] at p2
                match o, p2 with
                | .inl none, p2 =>
                  rw [xbv_s] at p2 ⊢
                  cases hs : yM_send m with
                  | none => rw [hs] at p2; cases p2
                  | some q2 =>
                    obtain ⟨o2, m2⟩ := q2
                    rw [hs] at p2
                    match o2, p2 with
                    | .inl none, p2 =>
                      rw [xbv_s] at p2 ⊢
                      cases p2; rfl
                    | .inl (some _), p2 => cases p2
                    | .inr _, p2 => cases p2
                | .inl (some _), p2 => cases p2
                | .inr _, p2 => cases p2
            rw [fin]
            exact Pub.i p3 p4 (by omega)
          · rw [if_pos h5, if_pos h5]
            exact Pub.toI (P_sendTo he1 hi1 h1 (by omega) h3.1.1 h3.1.2 0).toPv (by omega)
      · rw [other_0 h3, if_pos rfl]
        by_cases h4 : 0 ≤ a.toInt ∧ a.toInt ≤ 6
        · rw [within_1 (show (0 : Int32).toInt ≤ _ from h4.1) (show _ ≤ (6 : Int32).toInt from h4.2), if_neg (show ¬ (1 : Int32) = 0 by decide), if_pos (Decidable.byContradiction fun k => h3 ⟨h4, k⟩)]
          exact r0
        · rw [within_0 (show ¬ ((0 : Int32).toInt ≤ _ ∧ _ ≤ (6 : Int32).toInt) from h4), if_pos rfl]
          exact r0
    · rw [if_pos h2, if_pos ((hand_lt hi).mp h2)]; exact r0
  · rw [if_pos h1, if_pos h1]; exact r0
theorem can_pair {g h μ ν : XMu} {n : Nat} (he : RE g h μ ν) (hi : RI n μ) (hn : n ≤ 1000000) : ∃ r, yC_mayChangeMembers μ = r ∧ yM_canChange ν = some (.inl (some (.int r)), ν) ∧ (¬ r = 0 → (μ.2.1 0 9) = 3 ∧ (μ.2.1 28 9).toInt < (μ.2.1 28 5).toInt + 300) := by
  have hb := hi.LB hn
  obtain ⟨b1, b2, b3, b4⟩ := id hb
  obtain ⟨c1, c2⟩ := code_m he hb hi.mem
  have e2 : ((μ.2.1 28 9) - (μ.2.1 28 5)).toInt = (μ.2.1 28 9).toInt - (μ.2.1 28 5).toInt := i32_sub (by omega) (by omega)
  unfold yC_mayChangeMembers yC_takesEntries yM_canChange
  rw [c2, xbi_s, c1, xbi_s, he.role, he.handing, he.last, he.base, he.commit]
  by_cases h1 : (μ.2.1 0 9) = 3
  · rw [if_neg (not_not_intro h1), if_neg (not_not_intro h1)]
    by_cases h2 : (μ.2.1 0 16) = -1
    · rw [if_neg (not_not_intro h2), if_neg (fun k => (hand_lt hi).mpr k h2)]
      by_cases h3 : (200 : Int32) ≤ (μ.2.1 28 9) - (μ.2.1 28 5)
      · rw [if_pos h3, if_pos rfl, if_pos h3]
        exact ⟨0, rfl, rfl, fun k => absurd rfl k⟩
      · rw [if_neg h3, if_neg (show ¬ (1 : Int32) = 0 by decide), if_neg h3]
        rw [Int32.le_iff_toInt_le, il_200] at h3
        by_cases h4 : (μ.2.1 0 11) < (μ.2.1 28 12)
        · rw [if_pos h4, if_pos h4]
          exact ⟨0, rfl, rfl, fun k => absurd rfl k⟩
        · rw [if_neg h4, if_neg h4]
          by_cases h5 : yC_newOf (μ.2.1 28 13) = 0
          · rw [if_neg (not_not_intro h5), if_neg (not_not_intro (show yM_fresh (μ.2.1 28 13) = 0 from h5))]
            exact ⟨1, rfl, rfl, fun _ => ⟨h1, by omega⟩⟩
          · rw [if_pos h5, if_pos (show ¬ yM_fresh (μ.2.1 28 13) = 0 from h5)]
            exact ⟨0, rfl, rfl, fun k => absurd rfl k⟩
    · rw [if_pos h2, if_pos rfl, if_pos ((hand_lt hi).mp h2)]
      exact ⟨0, rfl, rfl, fun k => absurd rfl k⟩
  · rw [if_pos h1, if_pos rfl, if_pos h1]
    exact ⟨0, rfl, rfl, fun k => absurd rfl k⟩
theorem P_ws {g h μ ν : XMu} {n : Nat} (he : RE g (zh h 0) μ ν) (hi : RI n μ) (hr : (μ.2.1 0 9) = 3) (hroom : (μ.2.1 28 9).toInt < (μ.2.1 28 5).toInt + 300) (hn : n + 36 ≤ 1000000) (t k v : Int32) : Pub g h (n + 36) En (xbv (yDi_write t k v μ) (fun m1 => xbv (yC_sendToPeers (0 : Int32) m1) (fun m2 => some (.inl (some (.int (1 : Int32))), m2)))) (xbv (yM_write t k v ν) (fun m7 => xbv (yM_sendAll (0 : Int32) m7) (fun m8 => some (.inl (some (.int (1 : Int32))), m8)))) := by
  obtain ⟨μ1, ν1, p1, p2, he1, hi1, hw⟩ := P_write he hi (by omega) hroom t k v
  rw [p1, p2, xbv_s, xbv_s]
  exact Pub.toI (P_sendAll he1 hi1 (hw.1.trans hr) (by omega) 0).toPv (by omega)
theorem Pub.mono {g h : XMu} {n n' : Nat} {E : (Nat → Int32 → Prop) × (Option Value → Prop)} {P Q : XRes} (p : Pub g h n E P Q) (hn : n ≤ n') : Pub g h n' E P Q := by
  rcases p with ⟨o, μ, ν, a, b, c, d, x⟩ | ⟨k, z, o, μ, ν, e, a, b, c, d, x⟩
  · exact Or.inl ⟨o, μ, ν, a, b, c, d.mono hn, x⟩
  · exact Or.inr ⟨k, z, o, μ, ν, e, a, b, c, d.mono hn, x⟩
theorem Q_learners {g h μ ν : XMu} {n : Nat} (he : RE g h μ ν) (hi : RI n μ) (hn : n + 1500 ≤ 1000000) (a : Int32) : Pub g h (n + 1500) En (yC_learners a μ) (yM_learners a ν) := by
  have he0 := RE_zh he 0
  unfold yC_learners yM_learners
  rw [zh_x]
  have r0 : Pub g h (n + 1500) En (some (.inl (some (.int 0)), μ)) (some (.inl (some (.int 0)), zh ν 0)) := Pub.i he0 hi (by omega)
  generalize zh ν 0 = N at he0 r0 ⊢
  obtain ⟨r, c1, c2, c3⟩ := can_pair he0 hi (by omega)
  obtain ⟨d1, d2⟩ := code_m he0 (hi.LB (by omega)) hi.mem
  rw [c1, c2, xbi_s, d1, xbi_s, d1, xbi_s, he0.term]
  by_cases h0 : r = 0
  · rw [if_pos h0, if_pos h0]; exact r0
  · rw [if_neg h0, if_neg h0]
    by_cases h1 : a < 0
    · rw [if_pos h1, within_0 (by rw [Int32.lt_iff_toInt_lt, il_0] at h1; rw [il_0]; omega), if_pos rfl]; exact r0
    · rw [if_neg h1]
      rw [Int32.lt_iff_toInt_lt, il_0] at h1
      by_cases h2 : (127 : Int32) < a
      · rw [if_pos h2, within_0 (by rw [Int32.lt_iff_toInt_lt, il_127] at h2; rw [il_127]; omega), if_pos rfl]; exact r0
      · rw [if_neg h2]
        rw [Int32.lt_iff_toInt_lt, il_127] at h2
        rw [within_1 (by rw [il_0]; omega) (by rw [il_127]; omega), if_neg (show ¬ (1 : Int32) = 0 by decide)]
        by_cases h3 : a &&& yC_oldOf (μ.2.1 28 13) = 0
        · rw [if_pos h3, if_pos (show a &&& yM_old (μ.2.1 28 13) = 0 from h3), show yM_old (μ.2.1 28 13) + (16384 : Int32) * a = yC_codeOf (yC_oldOf (μ.2.1 28 13)) 0 a from code_add (z7_and _) ⟨by omega, by omega⟩]
          exact (P_ws he0 hi (c3 h0).1 (c3 h0).2 (by omega) _ _ _).mono (by omega)
        · rw [if_neg h3, if_neg (show ¬ a &&& yM_old (μ.2.1 28 13) = 0 from h3)]; exact r0
theorem mem_fail {a c : Int32} {ν : XMu} : ∀ (r f : Nat) (x : Int32), 0 ≤ x.toInt → x.toInt + r = 7 → r < f → yM_members_b34_L f a c 0 x ν = some (.inl (some (.int 0)), ν) := by
  intro r
  induction r with
  | zero =>
    intro f x hx hxr hf
    obtain ⟨f, rfl⟩ : ∃ f', f = f' + 1 := ⟨f - 1, by omega⟩
    unfold yM_members_b34_L yM_members_b34 yM_members_b104
    rw [if_pos (by rw [Int32.le_iff_toInt_le, il_7]; omega), if_neg (not_not_intro rfl)]
  | succ r ih =>
    intro f x hx hxr hf
    obtain ⟨f, rfl⟩ : ∃ f', f = f' + 1 := ⟨f - 1, by omega⟩
    have e5 := inc_i (n := x) (by omega)
    unfold yM_members_b34_L yM_members_b34
    rw [if_neg (by rw [Int32.le_iff_toInt_le, il_7]; omega), if_pos rfl]
    exact ih f (x + 1) (by omega) (by omega) (by omega)
theorem mem_loop {g h μ ν : XMu} (he : RE g h μ ν) {a c : Int32} : ∀ (r f : Nat) (x : Int32), 0 ≤ x.toInt → x.toInt + r = 7 → r < f → (yC_members_b45_L f a (yC_oldOf c) (yC_learnersOf c) x μ = some (.inl (some (.int 0)), μ) ∧ yM_members_b34_L f a c 1 x ν = some (.inl (some (.int 0)), ν)) ∨ (yC_members_b45_L f a (yC_oldOf c) (yC_learnersOf c) x μ = yC_members_b116 a (yC_oldOf c) (yC_learnersOf c) μ ∧ yM_members_b34_L f a c 1 x ν = yM_members_b104 a c 1 ν) := by
  intro r
  induction r with
  | zero =>
    intro f x hx hxr hf
    obtain ⟨f, rfl⟩ : ∃ f', f = f' + 1 := ⟨f - 1, by omega⟩
    unfold yM_members_b34_L yM_members_b34 yC_members_b45_L yC_members_b45
    have hc : (7 : Int32) ≤ x := by rw [Int32.le_iff_toInt_le, il_7]; omega
    rw [if_pos hc, if_pos hc]
    exact Or.inr ⟨rfl, rfl⟩
  | succ r ih =>
    intro f x hx hxr hf
    obtain ⟨f, rfl⟩ : ∃ f', f = f' + 1 := ⟨f - 1, by omega⟩
    have e5 := inc_i (n := x) (by omega)
    unfold yM_members_b34_L yM_members_b34 yC_members_b45_L yC_members_b45 yC_members_b82 yC_members_b83
    have hc : ¬ (7 : Int32) ≤ x := by rw [Int32.le_iff_toInt_le, il_7]; omega
    have xi := xin_of (i := x) (n := 7) hx (by omega)
    rw [if_neg hc, if_neg hc, if_neg (show ¬ (1 : Int32) = 0 by decide), xgd_t xi, xgd_t xi, has_eq _ hx (by omega), has_eq _ hx (by omega), has_eq _ hx (by omega), show yM_old c = yC_oldOf c from rfl, show yM_learning c = yC_learnersOf c from rfl, he.mtch, he.commit, if_neg (not_not_intro (show (0 : Int32) = 0 from rfl)), if_pos (show ¬ (1 : Int32) = 0 by decide)]
    have go := ih f (x + 1) (by omega) (by omega) (by omega)
    have no := mem_fail (a := a) (c := c) (ν := ν) r f (x + 1) (by omega) (by omega) (by omega)
    by_cases h1 : yC_has a x = 0
    · rw [if_pos h1, if_pos h1, if_pos h1]
      have : ∀ X : XRes, (if yC_has (yC_learnersOf c) x = 0 then X else if (μ.2.1 13) x.toNatClampNeg < (μ.2.1 0 11) then X else X) = X := fun X => by rw [ite_self, ite_self]
      rw [this]
      exact go
    · rw [if_neg h1, if_neg h1, if_neg h1]
      by_cases h2 : yC_has (yC_oldOf c) x = 0
      · rw [if_neg (not_not_intro h2), if_neg (not_not_intro h2), if_neg (not_not_intro h2)]
        by_cases h3 : yC_has (yC_learnersOf c) x = 0
        · rw [if_pos h3, if_pos h3]
          exact Or.inl ⟨rfl, no⟩
        · rw [if_neg h3, if_neg h3]
          by_cases h4 : (μ.2.1 13) x.toNatClampNeg < (μ.2.1 0 11)
          · rw [if_pos h4, if_pos h4]
            exact Or.inl ⟨rfl, no⟩
          · rw [if_neg h4, if_neg h4]
            exact go
      · rw [if_pos h2, if_pos h2, if_pos h2]
        have : ∀ X : XRes, (if yC_has (yC_learnersOf c) x = 0 then X else if (μ.2.1 13) x.toNatClampNeg < (μ.2.1 0 11) then X else X) = X := fun X => by rw [ite_self, ite_self]
        rw [this]
        exact go
theorem Q_members {g h μ ν : XMu} {n : Nat} (he : RE g h μ ν) (hi : RI n μ) (hn : n + 1500 ≤ 1000000) (a : Int32) : Pub g h (n + 1500) En (yC_members a μ) (yM_members a ν) := by
  have he0 := RE_zh he 0
  unfold yC_members yM_members
  rw [zh_x]
  have r0 : Pub g h (n + 1500) En (some (.inl (some (.int 0)), μ)) (some (.inl (some (.int 0)), zh ν 0)) := Pub.i he0 hi (by omega)
  generalize zh ν 0 = N at he0 r0 ⊢
  obtain ⟨r, c1, c2, c3⟩ := can_pair he0 hi (by omega)
  obtain ⟨d1, d2⟩ := code_m he0 (hi.LB (by omega)) hi.mem
  rw [c1, c2, xbi_s, d1, xbi_s]
  by_cases h0 : r = 0
  · rw [if_pos h0, if_pos h0]; exact r0
  · rw [if_neg h0, if_neg h0]
    by_cases h1 : a < 1
    · rw [if_pos h1, within_0 (by rw [Int32.lt_iff_toInt_lt, il_1] at h1; rw [il_1]; omega), if_neg (not_not_intro rfl)]; exact r0
    · rw [if_neg h1]
      rw [Int32.lt_iff_toInt_lt, il_1] at h1
      by_cases h2 : a ≤ (127 : Int32)
      · rw [if_pos h2]
        rw [Int32.le_iff_toInt_le, il_127] at h2
        rw [within_1 (by rw [il_1]; omega) (by rw [il_127]; omega), if_pos (show ¬ (1 : Int32) = 0 by decide)]
        rcases mem_loop he0 (a := a) (c := (μ.2.1 28 13)) 7 1000 0 (by decide) (by decide) (by omega) with ⟨p1, p2⟩ | ⟨p1, p2⟩
        · rw [p1, p2]; exact r0
        · rw [p1, p2]
          unfold yC_members_b116 yM_members_b104
          rw [if_pos (show ¬ (1 : Int32) = 0 by decide), he0.term, show yM_old (μ.2.1 28 13) + (128 : Int32) * a + (16384 : Int32) * (yM_learning (μ.2.1 28 13) &&& (a ^^^ (-1 : Int32))) = yC_codeOf (yC_oldOf (μ.2.1 28 13)) a (yC_learnersOf (μ.2.1 28 13) &&& (a ^^^ (-1 : Int32))) from code_add3 (z7_and _) ⟨by omega, by omega⟩ (by
            rw [Int32.and_comm]; exact z7_and2 (z7_and _))]
          exact (P_ws he0 hi (c3 h0).1 (c3 h0).2 (by omega) _ _ _).mono (by omega)
      · rw [if_neg h2]
        rw [Int32.le_iff_toInt_le, il_127] at h2
        rw [within_0 (by rw [il_127]; omega), if_neg (not_not_intro rfl)]; exact r0
