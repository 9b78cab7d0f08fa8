theorem reply_8 {a u v w : Int32} {ν : XMu} : yM_reply a 8 u v w ν = xbv (yM_begin a 8 (ν.2.1 32 4) ν) (fun m1 => xbv (yM_add u m1) (fun m2 => xbv (yM_add v m2) (fun m7 => xbv (yM_add w m7) (fun m8 => xbv (yM_send m8) (fun m9 => some (.inl none, m9)))))) := rfl
theorem reply_6 {a u v w : Int32} {ν : XMu} : yM_reply a 6 u v w ν = xbv (yM_begin a 6 (ν.2.1 32 4) ν) (fun m1 => xbv (yM_add u m1) (fun m2 => xbv (yM_add v m2) (fun m7 => xbv (yM_add w m7) (fun m8 => xbv (yM_send m8) (fun m9 => some (.inl none, m9)))))) := rfl
theorem P_rep8 {g h μ ν : XMu} {n : Nat} (he : RE g h μ ν) (hi : RI n μ) (hn : n ≤ 1000000) (a u v w : Int32) : Pv g h (n + 1) (yC_replyStored a u v w μ) (yM_reply a 8 u v w ν) := by
  unfold yC_replyStored
  rw [reply_8, he.term]
  exact P_mail3 he hi hn a 8 (μ.2.1 28 3) u v w
theorem P_rep6 {g h μ ν : XMu} {n : Nat} (he : RE g h μ ν) (hi : RI n μ) (hn : n ≤ 1000000) (a u v w : Int32) : Pv g h (n + 1) (yC_replyAppended a u v w μ) (yM_reply a 6 u v w ν) := by
  unfold yC_replyAppended
  rw [reply_6, he.term]
  exact P_mail3 he hi hn a 6 (μ.2.1 28 3) u v w
theorem P_followed {g h μ ν : XMu} {n : Nat} (he : RE g h μ ν) (hi : RI n μ) {b : Int32} (hb : nok b) (a k u w : Int32) : ∃ μ1 ν1, yC_yieldTo b μ = some (.inl none, μ1) ∧ RE g h μ1 ν1 ∧ RI n μ1 ∧ (μ1.2.1 7 5) = (μ.2.1 7 5) ∧ (((μ1.2.1 28 3) ≤ b ∧ (μ1.2.1 0 9) = 3 ∧ yM_followed a b k u w ν = some (.inl (some (.int 0)), ν1)) ∨ ((μ1.2.1 28 3) ≤ b ∧ ¬ (μ1.2.1 0 9) = 3 ∧ ∃ μ2 ν2, yC_follow a μ1 = some (.inl none, μ2) ∧ yM_followed a b k u w ν = some (.inl (some (.int 1)), ν2) ∧ RE g h μ2 ν2 ∧ RI n μ2 ∧ (μ2.2.1 0 9) = 0) ∨ (¬ (μ1.2.1 28 3) ≤ b ∧ yM_followed a b k u w ν = xbv (yM_reply a k u 0 w ν1) (fun m4 => some (.inl (some (.int 0)), m4)))) := by
  obtain ⟨μ1, ν1, y1, y2, he1, hi1, hk⟩ := P_yieldK he hi b (by have := hb.2; omega)
  refine ⟨μ1, ν1, y1, he1, hi1, hk.2, ?_⟩
  unfold yM_followed yC_follow
  rw [y2, xbv_s, he1.term, he1.role]
  by_cases h1 : (μ1.2.1 28 3) ≤ b
  · rw [if_pos h1]
    by_cases h2 : (μ1.2.1 0 9) = 3
    · rw [if_neg (not_not_intro h2)]
      exact Or.inl ⟨h1, h2, rfl⟩
    · rw [if_pos h2]
      refine Or.inr (Or.inl ⟨h1, h2, ?_⟩)
      obtain ⟨μ2, ν2, d1, d2, he2, hi2, hk2⟩ := P_stepDownK he1 hi1 (μ1.2.1 28 3) a hi1.term.2
      rw [d1, d2, xbv_s, xbv_s, he2.now]
      have hnw := hi2.now
      have he3 : RE g h (μ2.1, xuI μ2.2.1 0 13 (μ2.2.1 0 8), μ2.2.2) (ν2.1, xuI ν2.2.1 32 20 (μ2.2.1 0 8), ν2.2.2) := (RE.mk (ft := he2.ft) (fg := fun c hc => by first | exact he2.fg c hc | (have hh := he2.fg c hc; (try unfold zq at hh); (try unfold zd at hh); (try unfold zf at hh); (try unfold zo at hh); (try unfold zo); (try unfold zh at hh); (try unfold zh); (try unfold zq); (try unfold zd); (try unfold zf); (try dsimp only at hh); (try dsimp only); (repeat (first | rw [xuI_o (by omega)] at hh | rw [xuL_o (by omega)] at hh | rw [va_up_o (by omega)] at hh)); (repeat (first | rw [xuI_o (by omega)] | rw [xuL_o (by omega)] | rw [va_up_o (by omega)])); exact hh)) (fgl := fun c hc => by first | exact he2.fgl c hc | (have hh := he2.fgl c hc; (try unfold zq at hh); (try unfold zd at hh); (try unfold zf at hh); (try unfold zo at hh); (try unfold zo); (try unfold zh at hh); (try unfold zh); (try unfold zq); (try unfold zd); (try unfold zf); (try dsimp only at hh); (try dsimp only); (repeat (first | rw [xuI_o (by omega)] at hh | rw [xuL_o (by omega)] at hh | rw [va_up_o (by omega)] at hh)); (repeat (first | rw [xuI_o (by omega)] | rw [xuL_o (by omega)] | rw [va_up_o (by omega)])); exact hh)) (ht := he2.ht) (hg := fun c hc => by first | exact he2.hg c hc | (have hh := he2.hg c hc; (try unfold zq at hh); (try unfold zd at hh); (try unfold zf at hh); (try unfold zo at hh); (try unfold zo); (try unfold zh at hh); (try unfold zh); (try unfold zq); (try unfold zd); (try unfold zf); (try dsimp only at hh); (try dsimp only); (repeat (first | rw [xuI_o (by omega)] at hh | rw [xuL_o (by omega)] at hh | rw [va_up_o (by omega)] at hh)); (repeat (first | rw [xuI_o (by omega)] | rw [xuL_o (by omega)] | rw [va_up_o (by omega)])); exact hh)) (hgl := fun c hc => by first | exact he2.hgl c hc | (have hh := he2.hgl c hc; (try unfold zq at hh); (try unfold zd at hh); (try unfold zf at hh); (try unfold zo at hh); (try unfold zo); (try unfold zh at hh); (try unfold zh); (try unfold zq); (try unfold zd); (try unfold zf); (try dsimp only at hh); (try dsimp only); (repeat (first | rw [xuI_o (by omega)] at hh | rw [xuL_o (by omega)] at hh | rw [va_up_o (by omega)] at hh)); (repeat (first | rw [xuI_o (by omega)] | rw [xuL_o (by omega)] | rw [va_up_o (by omega)])); exact hh)) (thr := he2.thr) (row := he2.row) (itself := he2.itself) (now := he2.now) (term := he2.term) (voted := he2.voted) (base := he2.base) (last := he2.last) (baseTerm := he2.baseTerm) (baseCode := he2.baseCode) (snapshot := he2.snapshot) (dirty := he2.dirty) (role := he2.role) (leader := he2.leader) (commit := he2.commit) (applied := he2.applied) (synced := he2.synced) (heard := rfl) (alarm := he2.alarm) (votes := he2.votes) (handing := he2.handing) (handed := he2.handed) (first := he2.first) (round := he2.round) (assembly := he2.assembly) (described := he2.described) (toldBase := he2.toldBase) (toldTerm := he2.toldTerm) (toldCode := he2.toldCode) (toldSize := he2.toldSize) (told := he2.told) (waits := he2.waits) (went := he2.went) (done := he2.done) (calls := he2.calls) (next := he2.next) (mtch := he2.mtch) (flying := he2.flying) (offset := he2.offset) (ack := he2.ack) (seen := he2.seen) (probing := he2.probing) (answered := he2.answered) (toldTerms := he2.toldTerms) (toldKinds := he2.toldKinds) (toldValues := he2.toldValues) (doneNumbers := he2.doneNumbers) (doneValues := he2.doneValues) (callState := he2.callState) (callNumber := he2.callNumber) (got := he2.got) (log := he2.log) (kept := he2.kept) (wait := he2.wait) (cls := he2.cls))
      have hi3 : RI n (μ2.1, xuI μ2.2.1 0 13 (μ2.2.1 0 8), μ2.2.2) := (RI.mk (itself := hi2.itself) (role := hi2.role) (base := hi2.base) (ba := hi2.ba) (ac := hi2.ac) (cl := hi2.cl) (lb := hi2.lb) (last := hi2.last) (syn := hi2.syn) (dirty := hi2.dirty) (desc := hi2.desc) (now := hi2.now) (term := hi2.term) (went := hi2.went) (waits := hi2.waits) (done := hi2.done) (calls := hi2.calls) (told := hi2.told) (round := hi2.round) (hand := hi2.hand) (heard := ⟨by show -1 ≤ (μ2.2.1 0 8).toInt; omega, hnw.2⟩) (vote := hi2.vote) (lead := hi2.lead) (quiet := hi2.quiet) (cmd := hi2.cmd) (tt := hi2.tt) (tb := hi2.tb) (got := hi2.got) (mem := hi2.mem))
      obtain ⟨x, r, e1, e2⟩ := R_draw he3
      rw [e1, e2, xbv_s, xbv_s]
      exact ⟨_, _, rfl, rfl, RE_draw he3, RI_draw hi3, hk2.1⟩
  · rw [if_neg h1]
    exact Or.inr (Or.inr ⟨h1, rfl⟩)
theorem P_adopt {g h μ ν : XMu} {n : Nat} (he : RE g h μ ν) (hi : RI n μ) (hn : n ≤ 1000000) (hr : (μ.2.1 0 9) = 0) (hc : (μ.2.1 0 11).toInt < (μ.2.1 7 5).toInt) : ∃ m1 ν', yDi_install (μ.2.1 7 5) (μ.2.1 7 6) (μ.2.1 7 7) (μ.2.1 7 8) μ = some (.inl none, m1) ∧ (m1.2.1 7 5) = (μ.2.1 7 5) ∧ (m1.2.1 0 19) = (μ.2.1 0 19) ∧ yM_adopt ν = some (.inl none, ν') ∧ RE g h (m1.1, xuI (xuI (xuI m1.2.1 0 11 (μ.2.1 7 5)) 0 12 (μ.2.1 7 5)) 0 18 (-1), m1.2.2) ν' ∧ RI n (m1.1, xuI (xuI (xuI m1.2.1 0 11 (μ.2.1 7 5)) 0 12 (μ.2.1 7 5)) 0 18 (-1), m1.2.2) := by
  have hb := hi.LB hn
  obtain ⟨b1, b2, b3, b4⟩ := id hb
  have h1 := hi.ba
  have h2 := hi.ac
  have h3 := hi.cl
  have hs := hi.syn
  have tb := hi.tb
  have hq := hi.quiet (by rw [hr]; decide)
  by_cases hk : (μ.2.1 7 5).toInt ≤ (μ.2.1 28 9).toInt ∧ zt μ (μ.2.1 7 5) = (μ.2.1 7 6)
  · unfold yM_adopt yM_adopt_b41 yM_adopt_b42 yM_adopt_b59 yM_adopt_b81
    rw [he.last, he.toldBase, he.base, if_neg (by rw [Int32.lt_iff_toInt_lt]; omega), if_neg (by rw [Int32.lt_iff_toInt_lt]; omega), termAt_m he hb (by omega) hk.1, xbi_s, he.toldTerm, if_neg (not_not_intro hk.2), if_neg (show ¬ (1 : Int32) = 0 by decide), he.last, he.synced, if_pos (by rw [Int32.le_iff_toInt_le]; omega)]
    obtain ⟨A, B, C, m2, cd, i1, i2, i3⟩ := inst_keep hb (μ.2.1 7 7) (μ.2.1 7 8) (show (μ.2.1 28 5).toInt < (μ.2.1 7 5).toInt by omega) hk.1 hk.2
    refine ⟨_, _, i1, rfl, rfl, rfl, ?_, ?_⟩
    · exact (RE.mk (ft := he.ft) (fg := fun c hc => by first | exact he.fg c hc | (have hh := he.fg c hc; (try unfold zq at hh); (try unfold zd at hh); (try unfold zf at hh); (try unfold zo at hh); (try unfold zo); (try unfold zh at hh); (try unfold zh); (try unfold zq); (try unfold zd); (try unfold zf); (try dsimp only at hh); (try dsimp only); (repeat (first | rw [xuI_o (by omega)] at hh | rw [xuL_o (by omega)] at hh | rw [va_up_o (by omega)] at hh)); (repeat (first | rw [xuI_o (by omega)] | rw [xuL_o (by omega)] | rw [va_up_o (by omega)])); exact hh)) (fgl := fun c hc => by first | exact he.fgl c hc | (have hh := he.fgl c hc; (try unfold zq at hh); (try unfold zd at hh); (try unfold zf at hh); (try unfold zo at hh); (try unfold zo); (try unfold zh at hh); (try unfold zh); (try unfold zq); (try unfold zd); (try unfold zf); (try dsimp only at hh); (try dsimp only); (repeat (first | rw [xuI_o (by omega)] at hh | rw [xuL_o (by omega)] at hh | rw [va_up_o (by omega)] at hh)); (repeat (first | rw [xuI_o (by omega)] | rw [xuL_o (by omega)] | rw [va_up_o (by omega)])); exact hh)) (ht := he.ht) (hg := fun c hc => by first | exact he.hg c hc | (have hh := he.hg c hc; (try unfold zq at hh); (try unfold zd at hh); (try unfold zf at hh); (try unfold zo at hh); (try unfold zo); (try unfold zh at hh); (try unfold zh); (try unfold zq); (try unfold zd); (try unfold zf); (try dsimp only at hh); (try dsimp only); (repeat (first | rw [xuI_o (by omega)] at hh | rw [xuL_o (by omega)] at hh | rw [va_up_o (by omega)] at hh)); (repeat (first | rw [xuI_o (by omega)] | rw [xuL_o (by omega)] | rw [va_up_o (by omega)])); exact hh)) (hgl := fun c hc => by first | exact he.hgl c hc | (have hh := he.hgl c hc; (try unfold zq at hh); (try unfold zd at hh); (try unfold zf at hh); (try unfold zo at hh); (try unfold zo); (try unfold zh at hh); (try unfold zh); (try unfold zq); (try unfold zd); (try unfold zf); (try dsimp only at hh); (try dsimp only); (repeat (first | rw [xuI_o (by omega)] at hh | rw [xuL_o (by omega)] at hh | rw [va_up_o (by omega)] at hh)); (repeat (first | rw [xuI_o (by omega)] | rw [xuL_o (by omega)] | rw [va_up_o (by omega)])); exact hh)) (thr := he.thr) (row := he.row) (itself := he.itself) (now := he.now) (term := he.term) (voted := he.voted) (base := he.toldBase) (last := rfl) (baseTerm := he.toldTerm) (baseCode := he.toldCode) (snapshot := he.toldSize) (dirty := rfl) (role := he.role) (leader := he.leader) (commit := he.toldBase) (applied := he.toldBase) (synced := he.synced) (heard := he.heard) (alarm := he.alarm) (votes := he.votes) (handing := he.handing) (handed := he.handed) (first := he.first) (round := he.round) (assembly := rfl) (described := he.described) (toldBase := he.toldBase) (toldTerm := he.toldTerm) (toldCode := he.toldCode) (toldSize := he.toldSize) (told := he.told) (waits := he.waits) (went := he.went) (done := he.done) (calls := he.calls) (next := he.next) (mtch := he.mtch) (flying := he.flying) (offset := he.offset) (ack := he.ack) (seen := he.seen) (probing := he.probing) (answered := he.answered) (toldTerms := he.toldTerms) (toldKinds := he.toldKinds) (toldValues := he.toldValues) (doneNumbers := he.doneNumbers) (doneValues := he.doneValues) (callState := he.callState) (callNumber := he.callNumber) (got := fun k => absurd rfl k) (log := i3 _ _ _ he.log) (kept := he.kept) (wait := he.wait) (cls := he.cls))
    · exact (RI.mk (itself := hi.itself) (role := hi.role) (base := by show 0 ≤ (μ.2.1 7 5).toInt; omega) (ba := Int.le_refl _) (ac := Int.le_refl _) (cl := hk.1) (lb := by show (μ.2.1 28 9).toInt ≤ (μ.2.1 7 5).toInt + 300; omega) (last := hi.last) (syn := hi.syn) (dirty := rfl) (desc := hi.desc) (now := hi.now) (term := hi.term) (went := hi.went) (waits := hi.waits) (done := hi.done) (calls := hi.calls) (told := hi.told) (round := hi.round) (hand := hi.hand) (heard := hi.heard) (vote := hi.vote) (lead := hi.lead) (quiet := hi.quiet) (cmd := fun j k1 k2 k3 => absurd k3 (hq j k1 k2)) (tt := hi.tt) (tb := hi.tb) (got := hi.got) (mem := i2))
  · have sy : (if (μ.2.1 7 5) < (μ.2.1 28 10) then (μ.2.1 7 5) else (μ.2.1 28 10)).toInt ≤ (μ.2.1 7 5).toInt ∧ 0 ≤ (if (μ.2.1 7 5) < (μ.2.1 28 10) then (μ.2.1 7 5) else (μ.2.1 28 10)).toInt := by
      split
      · omega
      · next q => rw [Int32.lt_iff_toInt_lt] at q; omega
    obtain ⟨m2, cd, i1, i2⟩ := inst_cut hb (μ.2.1 7 7) (μ.2.1 7 8) (show (μ.2.1 28 5).toInt < (μ.2.1 7 5).toInt by omega) tb.2.1 hk
    have fin : ∀ S : Int32, S = (if (μ.2.1 7 5) < (μ.2.1 28 10) then (μ.2.1 7 5) else (μ.2.1 28 10)) → RE g h (μ.1, xuI (xuI (xuI (xuI (xuI (xuI (xuI (xuI (xuI (xuI (xuI (xuI μ.2.1 28 9 (μ.2.1 7 5)) 28 10 S) 28 5 (μ.2.1 7 5)) 28 6 (μ.2.1 7 6)) 28 7 (μ.2.1 7 7)) 28 8 (μ.2.1 7 8)) 28 11 1) 28 12 m2) 28 13 cd) 0 11 (μ.2.1 7 5)) 0 12 (μ.2.1 7 5)) 0 18 (-1), μ.2.2) (ν.1, xuI (xuI (xuI (xuI (xuI (xuI (xuI (xuI (xuI (xuI (xuI ν.2.1 32 10 (μ.2.1 7 5)) 32 19 S) 32 9 (ν.2.1 32 38)) 32 11 (ν.2.1 32 39)) 32 12 (ν.2.1 32 40)) 32 13 (ν.2.1 32 41)) 32 17 (ν.2.1 32 38)) 32 18 (ν.2.1 32 38)) 32 14 1) 32 35 (-1)) 32 36 0, ν.2.2) := fun S _ => (RE.mk (ft := he.ft) (fg := fun c hc => by first | exact he.fg c hc | (have hh := he.fg c hc; (try unfold zq at hh); (try unfold zd at hh); (try unfold zf at hh); (try unfold zo at hh); (try unfold zo); (try unfold zh at hh); (try unfold zh); (try unfold zq); (try unfold zd); (try unfold zf); (try dsimp only at hh); (try dsimp only); (repeat (first | rw [xuI_o (by omega)] at hh | rw [xuL_o (by omega)] at hh | rw [va_up_o (by omega)] at hh)); (repeat (first | rw [xuI_o (by omega)] | rw [xuL_o (by omega)] | rw [va_up_o (by omega)])); exact hh)) (fgl := fun c hc => by first | exact he.fgl c hc | (have hh := he.fgl c hc; (try unfold zq at hh); (try unfold zd at hh); (try unfold zf at hh); (try unfold zo at hh); (try unfold zo); (try unfold zh at hh); (try unfold zh); (try unfold zq); (try unfold zd); (try unfold zf); (try dsimp only at hh); (try dsimp only); (repeat (first | rw [xuI_o (by omega)] at hh | rw [xuL_o (by omega)] at hh | rw [va_up_o (by omega)] at hh)); (repeat (first | rw [xuI_o (by omega)] | rw [xuL_o (by omega)] | rw [va_up_o (by omega)])); exact hh)) (ht := he.ht) (hg := fun c hc => by first | exact he.hg c hc | (have hh := he.hg c hc; (try unfold zq at hh); (try unfold zd at hh); (try unfold zf at hh); (try unfold zo at hh); (try unfold zo); (try unfold zh at hh); (try unfold zh); (try unfold zq); (try unfold zd); (try unfold zf); (try dsimp only at hh); (try dsimp only); (repeat (first | rw [xuI_o (by omega)] at hh | rw [xuL_o (by omega)] at hh | rw [va_up_o (by omega)] at hh)); (repeat (first | rw [xuI_o (by omega)] | rw [xuL_o (by omega)] | rw [va_up_o (by omega)])); exact hh)) (hgl := fun c hc => by first | exact he.hgl c hc | (have hh := he.hgl c hc; (try unfold zq at hh); (try unfold zd at hh); (try unfold zf at hh); (try unfold zo at hh); (try unfold zo); (try unfold zh at hh); (try unfold zh); (try unfold zq); (try unfold zd); (try unfold zf); (try dsimp only at hh); (try dsimp only); (repeat (first | rw [xuI_o (by omega)] at hh | rw [xuL_o (by omega)] at hh | rw [va_up_o (by omega)] at hh)); (repeat (first | rw [xuI_o (by omega)] | rw [xuL_o (by omega)] | rw [va_up_o (by omega)])); exact hh)) (thr := he.thr) (row := he.row) (itself := he.itself) (now := he.now) (term := he.term) (voted := he.voted) (base := he.toldBase) (last := rfl) (baseTerm := he.toldTerm) (baseCode := he.toldCode) (snapshot := he.toldSize) (dirty := rfl) (role := he.role) (leader := he.leader) (commit := he.toldBase) (applied := he.toldBase) (synced := rfl) (heard := he.heard) (alarm := he.alarm) (votes := he.votes) (handing := he.handing) (handed := he.handed) (first := he.first) (round := he.round) (assembly := rfl) (described := he.described) (toldBase := he.toldBase) (toldTerm := he.toldTerm) (toldCode := he.toldCode) (toldSize := he.toldSize) (told := he.told) (waits := he.waits) (went := he.went) (done := he.done) (calls := he.calls) (next := he.next) (mtch := he.mtch) (flying := he.flying) (offset := he.offset) (ack := he.ack) (seen := he.seen) (probing := he.probing) (answered := he.answered) (toldTerms := he.toldTerms) (toldKinds := he.toldKinds) (toldValues := he.toldValues) (doneNumbers := he.doneNumbers) (doneValues := he.doneValues) (callState := he.callState) (callNumber := he.callNumber) (got := fun k => absurd rfl k) (log := fun n q1 q2 => by
      have q1' : (μ.2.1 7 5).toInt < n.toInt := q1
      have q2' : n.toInt ≤ (μ.2.1 7 5).toInt := q2
      omega) (kept := he.kept) (wait := he.wait) (cls := he.cls))
    have hiF : RI n (μ.1, xuI (xuI (xuI (xuI (xuI (xuI (xuI (xuI (xuI (xuI (xuI (xuI μ.2.1 28 9 (μ.2.1 7 5)) 28 10 (if (μ.2.1 7 5) < (μ.2.1 28 10) then (μ.2.1 7 5) else (μ.2.1 28 10))) 28 5 (μ.2.1 7 5)) 28 6 (μ.2.1 7 6)) 28 7 (μ.2.1 7 7)) 28 8 (μ.2.1 7 8)) 28 11 1) 28 12 m2) 28 13 cd) 0 11 (μ.2.1 7 5)) 0 12 (μ.2.1 7 5)) 0 18 (-1), μ.2.2) := (RI.mk (itself := hi.itself) (role := hi.role) (base := by show 0 ≤ (μ.2.1 7 5).toInt; omega) (ba := Int.le_refl _) (ac := Int.le_refl _) (cl := Int.le_refl _) (lb := by show (μ.2.1 7 5).toInt ≤ (μ.2.1 7 5).toInt + 300; omega) (last := by show (μ.2.1 7 5).toInt ≤ 1000000 + (n : Int); have := tb.2.1; omega) (syn := ⟨sy.2, sy.1⟩) (dirty := rfl) (desc := hi.desc) (now := hi.now) (term := hi.term) (went := hi.went) (waits := hi.waits) (done := hi.done) (calls := hi.calls) (told := hi.told) (round := hi.round) (hand := hi.hand) (heard := hi.heard) (vote := hi.vote) (lead := fun k => by have k2 : (μ.2.1 0 9) = 3 := k; rw [hr] at k2; cases k2) (quiet := hi.quiet) (cmd := fun j k1 k2 k3 => absurd k3 (hq j k1 k2)) (tt := hi.tt) (tb := hi.tb) (got := hi.got) (mem := i2))
    have hit : ∃ ν', yM_adopt_b59 (μ.2.1 7 5) ν = some (.inl none, ν') ∧ RE g h (μ.1, xuI (xuI (xuI (xuI (xuI (xuI (xuI (xuI (xuI (xuI (xuI (xuI μ.2.1 28 9 (μ.2.1 7 5)) 28 10 (if (μ.2.1 7 5) < (μ.2.1 28 10) then (μ.2.1 7 5) else (μ.2.1 28 10))) 28 5 (μ.2.1 7 5)) 28 6 (μ.2.1 7 6)) 28 7 (μ.2.1 7 7)) 28 8 (μ.2.1 7 8)) 28 11 1) 28 12 m2) 28 13 cd) 0 11 (μ.2.1 7 5)) 0 12 (μ.2.1 7 5)) 0 18 (-1), μ.2.2) ν' := by
      unfold yM_adopt_b59 yM_adopt_b81
      rw [he.synced]
      by_cases q : (μ.2.1 28 10) ≤ (μ.2.1 7 5)
      · rw [if_pos q]
        have q2 : ¬ (μ.2.1 7 5) < (μ.2.1 28 10) := by rw [Int32.le_iff_toInt_le] at q; rw [Int32.lt_iff_toInt_lt]; omega
        have f := fin _ rfl
        rw [if_neg q2] at f ⊢
        have es : xuI (xuI ν.2.1 32 10 (μ.2.1 7 5)) 32 19 (μ.2.1 28 10) = xuI ν.2.1 32 10 (μ.2.1 7 5) := xuI_id he.synced
        rw [es] at f
        exact ⟨_, rfl, f⟩
      · rw [if_neg q]
        have q2 : (μ.2.1 7 5) < (μ.2.1 28 10) := by rw [Int32.le_iff_toInt_le] at q; rw [Int32.lt_iff_toInt_lt]; omega
        have f := fin _ rfl
        rw [if_pos q2] at f ⊢
        exact ⟨_, rfl, f⟩
    obtain ⟨ν', n1, n2⟩ := hit
    have cas : yM_adopt ν = yM_adopt_b59 (μ.2.1 7 5) ν := by
      unfold yM_adopt yM_adopt_b41 yM_adopt_b42
      rw [he.last, he.toldBase, he.base, if_pos rfl]
      by_cases q : (μ.2.1 28 9) < (μ.2.1 7 5)
      · rw [if_pos q]
      · rw [if_neg q, if_neg (by rw [Int32.lt_iff_toInt_lt]; omega)]
        rw [Int32.lt_iff_toInt_lt] at q
        rw [termAt_m he hb (by omega) (by omega), xbi_s, he.toldTerm, if_pos (fun k => hk ⟨by omega, k⟩), he.toldBase, if_pos rfl]
    exact ⟨_, ν', i1, rfl, rfl, cas.trans n1, n2, hiF⟩
theorem P_b42 {g h μ ν : XMu} {n : Nat} (he : RE g h μ ν) (hi : RI n μ) (hn : n ≤ 1000000) (hr : (μ.2.1 0 9) = 0) (hc : (μ.2.1 0 11).toInt < (μ.2.1 7 5).toInt) {c d : Int32} (h_c : nok c) (h_d : 0 ≤ d.toInt ∧ d.toInt ≤ 200) (a e : Int32) : Pv g h (n + 1) (xbi (yC_takePiece_b42 c d μ) (fun r10 m9 => xbv (yC_replyStored a (μ.2.1 7 5) r10 e m9) (fun m11 => some (.inl none, m11)))) (yM_piece_b136 a c d e ν) := by
  unfold yC_takePiece_b42 yM_piece_b136 yM_piece_b155
  have tb := hi.tb
  rw [he.assembly, he.toldBase, he.toldSize]
  by_cases h1 : (μ.2.1 0 18) = (μ.2.1 7 5)
  · have hg : (ν.2.1 32 36) = (μ.2.1 0 19) := he.got (fun k => by
      rw [h1] at k
      have := tb.1
      rw [k, il_m1] at this
      omega)
    rw [if_pos h1, if_neg (not_not_intro h1), if_neg (not_not_intro h1), hg]
    by_cases h2 : c = (μ.2.1 0 19)
    · rw [if_pos h2, if_neg (not_not_intro h2)]
      have hgb := hi.got
      have eg : ((μ.2.1 0 19) + d).toInt = (μ.2.1 0 19).toInt + d.toInt := i32_add (by omega) (by omega)
      have hg2 : (μ.2.1 0 19).toInt ≤ 1000000 := by rw [← h2]; exact h_c.2
      have he1 : RE g h (μ.1, xuI μ.2.1 0 19 ((μ.2.1 0 19) + d), μ.2.2) (ν.1, xuI ν.2.1 32 36 ((μ.2.1 0 19) + d), ν.2.2) := (RE.mk (ft := he.ft) (fg := fun c hc => by first | exact he.fg c hc | (have hh := he.fg c hc; (try unfold zq at hh); (try unfold zd at hh); (try unfold zf at hh); (try unfold zo at hh); (try unfold zo); (try unfold zh at hh); (try unfold zh); (try unfold zq); (try unfold zd); (try unfold zf); (try dsimp only at hh); (try dsimp only); (repeat (first | rw [xuI_o (by omega)] at hh | rw [xuL_o (by omega)] at hh | rw [va_up_o (by omega)] at hh)); (repeat (first | rw [xuI_o (by omega)] | rw [xuL_o (by omega)] | rw [va_up_o (by omega)])); exact hh)) (fgl := fun c hc => by first | exact he.fgl c hc | (have hh := he.fgl c hc; (try unfold zq at hh); (try unfold zd at hh); (try unfold zf at hh); (try unfold zo at hh); (try unfold zo); (try unfold zh at hh); (try unfold zh); (try unfold zq); (try unfold zd); (try unfold zf); (try dsimp only at hh); (try dsimp only); (repeat (first | rw [xuI_o (by omega)] at hh | rw [xuL_o (by omega)] at hh | rw [va_up_o (by omega)] at hh)); (repeat (first | rw [xuI_o (by omega)] | rw [xuL_o (by omega)] | rw [va_up_o (by omega)])); exact hh)) (ht := he.ht) (hg := fun c hc => by first | exact he.hg c hc | (have hh := he.hg c hc; (try unfold zq at hh); (try unfold zd at hh); (try unfold zf at hh); (try unfold zo at hh); (try unfold zo); (try unfold zh at hh); (try unfold zh); (try unfold zq); (try unfold zd); (try unfold zf); (try dsimp only at hh); (try dsimp only); (repeat (first | rw [xuI_o (by omega)] at hh | rw [xuL_o (by omega)] at hh | rw [va_up_o (by omega)] at hh)); (repeat (first | rw [xuI_o (by omega)] | rw [xuL_o (by omega)] | rw [va_up_o (by omega)])); exact hh)) (hgl := fun c hc => by first | exact he.hgl c hc | (have hh := he.hgl c hc; (try unfold zq at hh); (try unfold zd at hh); (try unfold zf at hh); (try unfold zo at hh); (try unfold zo); (try unfold zh at hh); (try unfold zh); (try unfold zq); (try unfold zd); (try unfold zf); (try dsimp only at hh); (try dsimp only); (repeat (first | rw [xuI_o (by omega)] at hh | rw [xuL_o (by omega)] at hh | rw [va_up_o (by omega)] at hh)); (repeat (first | rw [xuI_o (by omega)] | rw [xuL_o (by omega)] | rw [va_up_o (by omega)])); exact hh)) (thr := he.thr) (row := he.row) (itself := he.itself) (now := he.now) (term := he.term) (voted := he.voted) (base := he.base) (last := he.last) (baseTerm := he.baseTerm) (baseCode := he.baseCode) (snapshot := he.snapshot) (dirty := he.dirty) (role := he.role) (leader := he.leader) (commit := he.commit) (applied := he.applied) (synced := he.synced) (heard := he.heard) (alarm := he.alarm) (votes := he.votes) (handing := he.handing) (handed := he.handed) (first := he.first) (round := he.round) (assembly := he.assembly) (described := he.described) (toldBase := he.toldBase) (toldTerm := he.toldTerm) (toldCode := he.toldCode) (toldSize := he.toldSize) (told := he.told) (waits := he.waits) (went := he.went) (done := he.done) (calls := he.calls) (next := he.next) (mtch := he.mtch) (flying := he.flying) (offset := he.offset) (ack := he.ack) (seen := he.seen) (probing := he.probing) (answered := he.answered) (toldTerms := he.toldTerms) (toldKinds := he.toldKinds) (toldValues := he.toldValues) (doneNumbers := he.doneNumbers) (doneValues := he.doneValues) (callState := he.callState) (callNumber := he.callNumber) (got := fun _ => rfl) (log := he.log) (kept := he.kept) (wait := he.wait) (cls := he.cls))
      have hi1 : RI n (μ.1, xuI μ.2.1 0 19 ((μ.2.1 0 19) + d), μ.2.2) := (RI.mk (itself := hi.itself) (role := hi.role) (base := hi.base) (ba := hi.ba) (ac := hi.ac) (cl := hi.cl) (lb := hi.lb) (last := hi.last) (syn := hi.syn) (dirty := hi.dirty) (desc := hi.desc) (now := hi.now) (term := hi.term) (went := hi.went) (waits := hi.waits) (done := hi.done) (calls := hi.calls) (told := hi.told) (round := hi.round) (hand := hi.hand) (heard := hi.heard) (vote := hi.vote) (lead := hi.lead) (quiet := hi.quiet) (cmd := hi.cmd) (tt := hi.tt) (tb := hi.tb) (got := ⟨by show 0 ≤ ((μ.2.1 0 19) + d).toInt; omega, by show ((μ.2.1 0 19) + d).toInt ≤ 1000200; omega⟩) (mem := hi.mem))
      by_cases h3 : (μ.2.1 0 19) + d < (μ.2.1 7 8)
      · rw [if_pos h3, if_pos h3, xbi_s]
        exact (P_rep8 he1 hi1 (by omega) a (μ.2.1 7 5) ((μ.2.1 0 19) + d) e).tail
      · rw [if_neg h3, if_neg h3]
        obtain ⟨m1, ν', p1, p2, p3, p4, p5, p6⟩ := P_adopt he1 hi1 hn hr hc
        have p1' : yDi_install (μ.2.1 7 5) (μ.2.1 7 6) (μ.2.1 7 7) (μ.2.1 7 8) (μ.1, xuI μ.2.1 0 19 ((μ.2.1 0 19) + d), μ.2.2) = some (.inl none, m1) := p1
        have p2' : (m1.2.1 7 5) = (μ.2.1 7 5) := p2
        have p3' : (m1.2.1 0 19) = (μ.2.1 0 19) + d := p3
        rw [p1', xbv_s, xbi_s, p4, xbv_s, p2', p3']
        have qt : (ν'.2.1 32 38) = (μ.2.1 7 5) := p5.toldBase.trans p2'
        rw [qt]
        exact (P_rep8 p5 p6 hn a (μ.2.1 7 5) ((μ.2.1 0 19) + d) e).tail
    · rw [if_neg h2, if_pos h2, xbi_s]
      exact (P_rep8 he hi (by omega) a (μ.2.1 7 5) (μ.2.1 0 19) e).tail
  · rw [if_neg h1, if_pos h1, if_pos h1, xbi_s]
    exact (P_rep8 he hi (by omega) a (μ.2.1 7 5) 0 e).tail
theorem B_piece {g h μ ν : XMu} {n : Nat} (he : RE g h μ ν) (hi : RI n μ) (hn : n + 2 ≤ 1000000) (a b c d e : Int32) (hb : nok b) (hc : nok c) (hd : 0 ≤ d.toInt ∧ d.toInt ≤ 200) : Pv g h (n + 2) (xbv (yC_yieldTo b μ) (fun m7 => (if (m7.2.1 28 3) ≤ b then (if (m7.2.1 0 9) = (3 : Int32) then some (.inl none, m7) else xbv (yC_follow a m7) (fun m8 => xbi (yC_takePiece c d m8) (fun r10 m9 => xbv (yC_replyStored a (m8.2.1 7 5) r10 e m9) (fun m11 => some (.inl none, m11))))) else xbv (yC_replyStored a (m7.2.1 7 5) (0 : Int32) e m7) (fun m12 => some (.inl none, m12))))) (xbi (yM_followed a b (8 : Int32) (ν.2.1 32 38) e ν) (fun r4 m3 => (if ¬ r4 = (0 : Int32) then (if (m3.2.1 32 17) < (m3.2.1 32 38) then (if ¬ c = (0 : Int32) then yM_piece_b136  a c d e m3 else yM_piece_b136  a c d e (m3.1, (xuI (xuI m3.2.1 32 35 (m3.2.1 32 38)) 32 36 (0 : Int32)), m3.2.2)) else xbv (yM_reply a (8 : Int32) (m3.2.1 32 38) (m3.2.1 32 41) e m3) (fun m10 => some (.inl none, m10))) else some (.inl none, m3)))) := by
  obtain ⟨μ1, ν1, y1, he1, hi1, htb, hcs⟩ := P_followed he hi hb a 8 (ν.2.1 32 38) e
  rw [y1, xbv_s]
  rcases hcs with ⟨c1, c2, c3⟩ | ⟨c1, c2, μ2, ν2, c3, c4, he2, hi2, hr⟩ | ⟨c1, c3⟩
  · rw [if_pos c1, if_pos c2, c3, xbi_s, if_neg (not_not_intro rfl)]
    exact Pv.ret he1 (hi1.mono (by omega))
  · rw [if_pos c1, if_neg c2, c3, c4, xbv_s, xbi_s, if_pos (show ¬ (1 : Int32) = 0 by decide)]
    unfold yC_takePiece
    rw [he2.commit, he2.toldBase, he2.toldSize]
    by_cases h1 : (μ2.2.1 0 11) < (μ2.2.1 7 5)
    · rw [if_pos h1, if_pos h1]
      rw [Int32.lt_iff_toInt_lt] at h1
      by_cases h2 : c = 0
      · rw [if_neg (not_not_intro h2), if_neg (not_not_intro h2)]
        refine (P_b42 (n := n) (μ := (μ2.1, xuI (xuI μ2.2.1 0 18 (μ2.2.1 7 5)) 0 19 0, μ2.2.2)) (ν := (ν2.1, xuI (xuI ν2.2.1 32 35 (μ2.2.1 7 5)) 32 36 0, ν2.2.2)) ?_ ?_ (by omega) hr h1 hc hd a e).mono (by omega)
        · exact (RE.mk (ft := he2.ft) (fg := fun c hc => by first | exact he2.fg c hc | (have hh := he2.fg c hc; (try unfold zq at hh); (try unfold zd at hh); (try unfold zf at hh); (try unfold zo at hh); (try unfold zo); (try unfold zh at hh); (try unfold zh); (try unfold zq); (try unfold zd); (try unfold zf); (try dsimp only at hh); (try dsimp only); (repeat (first | rw [xuI_o (by omega)] at hh | rw [xuL_o (by omega)] at hh | rw [va_up_o (by omega)] at hh)); (repeat (first | rw [xuI_o (by omega)] | rw [xuL_o (by omega)] | rw [va_up_o (by omega)])); exact hh)) (fgl := fun c hc => by first | exact he2.fgl c hc | (have hh := he2.fgl c hc; (try unfold zq at hh); (try unfold zd at hh); (try unfold zf at hh); (try unfold zo at hh); (try unfold zo); (try unfold zh at hh); (try unfold zh); (try unfold zq); (try unfold zd); (try unfold zf); (try dsimp only at hh); (try dsimp only); (repeat (first | rw [xuI_o (by omega)] at hh | rw [xuL_o (by omega)] at hh | rw [va_up_o (by omega)] at hh)); (repeat (first | rw [xuI_o (by omega)] | rw [xuL_o (by omega)] | rw [va_up_o (by omega)])); exact hh)) (ht := he2.ht) (hg := fun c hc => by first | exact he2.hg c hc | (have hh := he2.hg c hc; (try unfold zq at hh); (try unfold zd at hh); (try unfold zf at hh); (try unfold zo at hh); (try unfold zo); (try unfold zh at hh); (try unfold zh); (try unfold zq); (try unfold zd); (try unfold zf); (try dsimp only at hh); (try dsimp only); (repeat (first | rw [xuI_o (by omega)] at hh | rw [xuL_o (by omega)] at hh | rw [va_up_o (by omega)] at hh)); (repeat (first | rw [xuI_o (by omega)] | rw [xuL_o (by omega)] | rw [va_up_o (by omega)])); exact hh)) (hgl := fun c hc => by first | exact he2.hgl c hc | (have hh := he2.hgl c hc; (try unfold zq at hh); (try unfold zd at hh); (try unfold zf at hh); (try unfold zo at hh); (try unfold zo); (try unfold zh at hh); (try unfold zh); (try unfold zq); (try unfold zd); (try unfold zf); (try dsimp only at hh); (try dsimp only); (repeat (first | rw [xuI_o (by omega)] at hh | rw [xuL_o (by omega)] at hh | rw [va_up_o (by omega)] at hh)); (repeat (first | rw [xuI_o (by omega)] | rw [xuL_o (by omega)] | rw [va_up_o (by omega)])); exact hh)) (thr := he2.thr) (row := he2.row) (itself := he2.itself) (now := he2.now) (term := he2.term) (voted := he2.voted) (base := he2.base) (last := he2.last) (baseTerm := he2.baseTerm) (baseCode := he2.baseCode) (snapshot := he2.snapshot) (dirty := he2.dirty) (role := he2.role) (leader := he2.leader) (commit := he2.commit) (applied := he2.applied) (synced := he2.synced) (heard := he2.heard) (alarm := he2.alarm) (votes := he2.votes) (handing := he2.handing) (handed := he2.handed) (first := he2.first) (round := he2.round) (assembly := rfl) (described := he2.described) (toldBase := he2.toldBase) (toldTerm := he2.toldTerm) (toldCode := he2.toldCode) (toldSize := he2.toldSize) (told := he2.told) (waits := he2.waits) (went := he2.went) (done := he2.done) (calls := he2.calls) (next := he2.next) (mtch := he2.mtch) (flying := he2.flying) (offset := he2.offset) (ack := he2.ack) (seen := he2.seen) (probing := he2.probing) (answered := he2.answered) (toldTerms := he2.toldTerms) (toldKinds := he2.toldKinds) (toldValues := he2.toldValues) (doneNumbers := he2.doneNumbers) (doneValues := he2.doneValues) (callState := he2.callState) (callNumber := he2.callNumber) (got := fun _ => rfl) (log := he2.log) (kept := he2.kept) (wait := he2.wait) (cls := he2.cls))
        · exact (RI.mk (itself := hi2.itself) (role := hi2.role) (base := hi2.base) (ba := hi2.ba) (ac := hi2.ac) (cl := hi2.cl) (lb := hi2.lb) (last := hi2.last) (syn := hi2.syn) (dirty := hi2.dirty) (desc := hi2.desc) (now := hi2.now) (term := hi2.term) (went := hi2.went) (waits := hi2.waits) (done := hi2.done) (calls := hi2.calls) (told := hi2.told) (round := hi2.round) (hand := hi2.hand) (heard := hi2.heard) (vote := hi2.vote) (lead := hi2.lead) (quiet := hi2.quiet) (cmd := hi2.cmd) (tt := hi2.tt) (tb := hi2.tb) (got := ⟨by show 0 ≤ (0 : Int32).toInt; decide, by show (0 : Int32).toInt ≤ 1000200; decide⟩) (mem := hi2.mem))
      · rw [if_pos h2, if_pos h2]
        exact (P_b42 he2 hi2 (by omega) hr h1 hc hd a e).mono (by omega)
    · rw [if_neg h1, if_neg h1, xbi_s]
      exact ((P_rep8 he2 hi2 (by omega) a (μ2.2.1 7 5) (μ2.2.1 7 8) e).tail).mono (by omega)
  · rw [if_neg c1, c3, he.toldBase, ← htb]
    have p := P_rep8 he1 hi1 (by omega) a (μ1.2.1 7 5) 0 e
    obtain ⟨μ', ν', p1, p2, p3, p4⟩ := p
    rw [p1, p2, xbv_s, xbv_s, xbi_s, if_neg (not_not_intro rfl)]
    exact Pv.ret p3 (p4.mono (by omega))
theorem Qa_piece {g h μ ν : XMu} {n : Nat} (he : RE g h μ ν) (hi : RI n μ) (hn : n + 1500 ≤ 1000000) (ht : μ.1 < 1024) (a b c d e D : Int32) : Pub g h (n + 1500) El (xbv (yC_checkSender a μ) (fun m3 => xbv (yC_checkNumber b m3) (fun m4 => xbv (yC_checkNumber c m4) (fun m5 => xbv (yC_checkNumber e m5) (fun m6 => (if D = (0 : Int32) then xgd (Nat.blt m6.1 1024) (some (.inr 0, (m6.1 + 1, m6.2.1, m6.2.2))) else (if (m6.2.1 7 6) ≤ b then (if d < (0 : Int32) then xgd (Nat.blt m6.1 1024) (some (.inr 0, (m6.1 + 1, m6.2.1, m6.2.2))) else (if (200 : Int32) < d then xgd (Nat.blt m6.1 1024) (some (.inr 0, (m6.1 + 1, m6.2.1, m6.2.2))) else (if (c + d) ≤ (m6.2.1 7 8) then xbv (yC_yieldTo b m6) (fun m7 => (if (m7.2.1 28 3) ≤ b then (if (m7.2.1 0 9) = (3 : Int32) then some (.inl none, m7) else xbv (yC_follow a m7) (fun m8 => xbi (yC_takePiece c d m8) (fun r10 m9 => xbv (yC_replyStored a (m8.2.1 7 5) r10 e m9) (fun m11 => some (.inl none, m11))))) else xbv (yC_replyStored a (m7.2.1 7 5) (0 : Int32) e m7) (fun m12 => some (.inl none, m12)))) else xgd (Nat.blt m6.1 1024) (some (.inr 0, (m6.1 + 1, m6.2.1, m6.2.2)))))) else xgd (Nat.blt m6.1 1024) (some (.inr 0, (m6.1 + 1, m6.2.1, m6.2.2)))))))))) (xbi (yM_bad a b c e (0 : Int32) (zh ν 0)) (fun r2 m1 => (if r2 = (0 : Int32) then (if D = (0 : Int32) then some (.inl none, (m1.1, (xuI m1.2.1 32 0 (2 : Int32)), m1.2.2)) else (if b < (m1.2.1 32 39) then some (.inl none, (m1.1, (xuI m1.2.1 32 0 (2 : Int32)), m1.2.2)) else (if (yM_within d (0 : Int32) (200 : Int32)) = (0 : Int32) then some (.inl none, (m1.1, (xuI m1.2.1 32 0 (2 : Int32)), m1.2.2)) else (if (c + d) ≤ (m1.2.1 32 41) then xbi (yM_followed a b (8 : Int32) (m1.2.1 32 38) e m1) (fun r4 m3 => (if ¬ r4 = (0 : Int32) then (if (m3.2.1 32 17) < (m3.2.1 32 38) then (if ¬ c = (0 : Int32) then yM_piece_b136  a c d e m3 else yM_piece_b136  a c d e (m3.1, (xuI (xuI m3.2.1 32 35 (m3.2.1 32 38)) 32 36 (0 : Int32)), m3.2.2)) else xbv (yM_reply a (8 : Int32) (m3.2.1 32 38) (m3.2.1 32 41) e m3) (fun m10 => some (.inl none, m10))) else some (.inl none, m3))) else some (.inl none, (m1.1, (xuI m1.2.1 32 0 (2 : Int32)), m1.2.2)))))) else some (.inl none, m1)))) := by
  by_cases hs : sok a (μ.2.1 0 0)
  · rw [c_sen_1 hs, xbv_s]
    by_cases h_b : nok b
    · rw [c_num_1 h_b, xbv_s]
      by_cases h_c : nok c
      · rw [c_num_1 h_c, xbv_s]
        by_cases h_e : nok e
        · rw [c_num_1 h_e, xbv_s]
          rw [bad_0 (by show sok _ (ν.2.1 32 1); rw [he.itself]; exact hs) h_b h_c h_e nok_0 rfl, xbi_s, if_pos rfl]
          have th : Pub g h (n + 1500) El (some (.inr 0, (μ.1 + 1, μ.2.1, μ.2.2))) (some (.inl none, ((zh ν 0).1, xuI (zh ν 0).2.1 32 0 (2 : Int32), (zh ν 0).2.2))) := by
            rw [show (((zh ν 0).1, xuI (zh ν 0).2.1 32 0 (2 : Int32), (zh ν 0).2.2) : XMu) = zh (zh ν 0) 2 from rfl, zh_zh]
            exact Pub.thr he hi (by omega) (Or.inr ⟨rfl, rfl⟩)
          have he0 := RE_zh he 0
          generalize zh ν 0 = N at he0 th ⊢
          rw [xgd_t (blt_t ht), he0.toldTerm, he0.toldSize]
          by_cases k1 : D = 0
          · rw [if_pos k1, if_pos k1]; exact th
          · rw [if_neg k1, if_neg k1]
            by_cases k2 : (μ.2.1 7 6) ≤ b
            · rw [if_pos k2, if_neg (show ¬ b < (μ.2.1 7 6) by rw [Int32.le_iff_toInt_le] at k2; rw [Int32.lt_iff_toInt_lt]; omega)]
              by_cases k3 : d < 0
              · rw [if_pos k3, within_0 (by rw [Int32.lt_iff_toInt_lt, il_0] at k3; rw [il_0]; omega), if_pos rfl]; exact th
              · rw [if_neg k3]
                rw [Int32.lt_iff_toInt_lt, il_0] at k3
                by_cases k4 : (200 : Int32) < d
                · rw [if_pos k4, within_0 (by rw [Int32.lt_iff_toInt_lt, il_200] at k4; rw [il_200]; omega), if_pos rfl]; exact th
                · rw [if_neg k4]
                  rw [Int32.lt_iff_toInt_lt, il_200] at k4
                  rw [within_1 (by rw [il_0]; omega) (by rw [il_200]; omega), if_neg (show ¬ (1 : Int32) = 0 by decide)]
                  by_cases k5 : c + d ≤ (μ.2.1 7 8)
                  · rw [if_pos k5, if_pos k5]
                    exact Pub.ofPv (B_piece he0 hi (by omega) a b c d e h_b h_c ⟨by omega, by omega⟩) (by omega)
                  · rw [if_neg k5, if_neg k5]; exact th
            · rw [if_neg k2, if_pos (show b < (μ.2.1 7 6) by rw [Int32.le_iff_toInt_le] at k2; rw [Int32.lt_iff_toInt_lt]; omega)]; exact th
        · exact Thr_n he hi (by omega) ht hs h_e (fun k => h_e k.2.2.1) (Or.inr ⟨rfl, rfl⟩) isV (fun m => if_neg (by decide))
      · exact Thr_n he hi (by omega) ht hs h_c (fun k => h_c k.2.1) (Or.inr ⟨rfl, rfl⟩) isV (fun m => if_neg (by decide))
    · exact Thr_n he hi (by omega) ht hs h_b (fun k => h_b k.1) (Or.inr ⟨rfl, rfl⟩) isV (fun m => if_neg (by decide))
  · exact Thr_s he hi (by omega) ht hs (Or.inl ⟨rfl, rfl⟩) isV (fun m => if_neg (by decide))
theorem xu_comm {M : Nat → Nat → Int32} {j : Nat} {u v : Int32} (hj : ¬ j = 0) : xuI (xuI M 32 0 u) 32 j v = xuI (xuI M 32 j v) 32 0 u := by
  apply mem_ext
  intro c p
  unfold xuI va_up upd
  by_cases h1 : c = 32
  · rw [if_pos h1, if_pos h1, if_pos rfl, if_pos rfl]
    by_cases h2 : p = j
    · rw [if_pos h2, if_neg (fun k => hj (h2.symm.trans k)), if_pos h2]
    · rw [if_neg h2]
      by_cases h3 : p = 0
      · rw [if_pos h3, if_pos h3]
      · rw [if_neg h3, if_neg h3, if_neg h2]
  · rw [if_neg h1, if_neg h1, if_neg h1, if_neg h1]
theorem Q_piece {g h μ ν : XMu} {n : Nat} (he : RE g h μ ν) (hi : RI n μ) (hn : n + 1500 ≤ 1000000) (ht : μ.1 < 1024) (a b c d e : Int32) : Pub g h (n + 1500) El (yC_piece a b c d e μ) (yM_piece a b c d e ν) := by
  unfold yC_piece yM_piece yTo_takeDescribed
  rw [xgd_t hi.desc, xbi_s, he.described, xu_comm (by omega)]
  exact Qa_piece (μ := (μ.1, xuI μ.2.1 7 4 0, μ.2.2)) (ν := (ν.1, xuI ν.2.1 32 37 0, ν.2.2)) ((RE.mk (ft := he.ft) (fg := fun c hc => by first | exact he.fg c hc | (have hh := he.fg c hc; (try unfold zq at hh); (try unfold zd at hh); (try unfold zf at hh); (try unfold zo at hh); (try unfold zo); (try unfold zh at hh); (try unfold zh); (try unfold zq); (try unfold zd); (try unfold zf); (try dsimp only at hh); (try dsimp only); (repeat (first | rw [xuI_o (by omega)] at hh | rw [xuL_o (by omega)] at hh | rw [va_up_o (by omega)] at hh)); (repeat (first | rw [xuI_o (by omega)] | rw [xuL_o (by omega)] | rw [va_up_o (by omega)])); exact hh)) (fgl := fun c hc => by first | exact he.fgl c hc | (have hh := he.fgl c hc; (try unfold zq at hh); (try unfold zd at hh); (try unfold zf at hh); (try unfold zo at hh); (try unfold zo); (try unfold zh at hh); (try unfold zh); (try unfold zq); (try unfold zd); (try unfold zf); (try dsimp only at hh); (try dsimp only); (repeat (first | rw [xuI_o (by omega)] at hh | rw [xuL_o (by omega)] at hh | rw [va_up_o (by omega)] at hh)); (repeat (first | rw [xuI_o (by omega)] | rw [xuL_o (by omega)] | rw [va_up_o (by omega)])); exact hh)) (ht := he.ht) (hg := fun c hc => by first | exact he.hg c hc | (have hh := he.hg c hc; (try unfold zq at hh); (try unfold zd at hh); (try unfold zf at hh); (try unfold zo at hh); (try unfold zo); (try unfold zh at hh); (try unfold zh); (try unfold zq); (try unfold zd); (try unfold zf); (try dsimp only at hh); (try dsimp only); (repeat (first | rw [xuI_o (by omega)] at hh | rw [xuL_o (by omega)] at hh | rw [va_up_o (by omega)] at hh)); (repeat (first | rw [xuI_o (by omega)] | rw [xuL_o (by omega)] | rw [va_up_o (by omega)])); exact hh)) (hgl := fun c hc => by first | exact he.hgl c hc | (have hh := he.hgl c hc; (try unfold zq at hh); (try unfold zd at hh); (try unfold zf at hh); (try unfold zo at hh); (try unfold zo); (try unfold zh at hh); (try unfold zh); (try unfold zq); (try unfold zd); (try unfold zf); (try dsimp only at hh); (try dsimp only); (repeat (first | rw [xuI_o (by omega)] at hh | rw [xuL_o (by omega)] at hh | rw [va_up_o (by omega)] at hh)); (repeat (first | rw [xuI_o (by omega)] | rw [xuL_o (by omega)] | rw [va_up_o (by omega)])); exact hh)) (thr := he.thr) (row := he.row) (itself := he.itself) (now := he.now) (term := he.term) (voted := he.voted) (base := he.base) (last := he.last) (baseTerm := he.baseTerm) (baseCode := he.baseCode) (snapshot := he.snapshot) (dirty := he.dirty) (role := he.role) (leader := he.leader) (commit := he.commit) (applied := he.applied) (synced := he.synced) (heard := he.heard) (alarm := he.alarm) (votes := he.votes) (handing := he.handing) (handed := he.handed) (first := he.first) (round := he.round) (assembly := he.assembly) (described := rfl) (toldBase := he.toldBase) (toldTerm := he.toldTerm) (toldCode := he.toldCode) (toldSize := he.toldSize) (told := he.told) (waits := he.waits) (went := he.went) (done := he.done) (calls := he.calls) (next := he.next) (mtch := he.mtch) (flying := he.flying) (offset := he.offset) (ack := he.ack) (seen := he.seen) (probing := he.probing) (answered := he.answered) (toldTerms := he.toldTerms) (toldKinds := he.toldKinds) (toldValues := he.toldValues) (doneNumbers := he.doneNumbers) (doneValues := he.doneValues) (callState := he.callState) (callNumber := he.callNumber) (got := he.got) (log := he.log) (kept := he.kept) (wait := he.wait) (cls := he.cls))) ((RI.mk (itself := hi.itself) (role := hi.role) (base := hi.base) (ba := hi.ba) (ac := hi.ac) (cl := hi.cl) (lb := hi.lb) (last := hi.last) (syn := hi.syn) (dirty := hi.dirty) (desc := rfl) (now := hi.now) (term := hi.term) (went := hi.went) (waits := hi.waits) (done := hi.done) (calls := hi.calls) (told := hi.told) (round := hi.round) (hand := hi.hand) (heard := hi.heard) (vote := hi.vote) (lead := hi.lead) (quiet := hi.quiet) (cmd := hi.cmd) (tt := hi.tt) (tb := hi.tb) (got := hi.got) (mem := hi.mem))) hn ht a b c d e (μ.2.1 7 4)
theorem termOf_c {x : Int32} {μ : XMu} (h1 : 0 ≤ x.toInt) (h2 : x.toInt < 6) : yTo_termOf x μ = some (.inl (some (.int ((μ.2.1 8) x.toNatClampNeg))), μ) := by
  unfold yTo_termOf
  rw [if_neg (by rw [Int32.lt_iff_toInt_lt, il_0]; omega), if_neg (by rw [Int32.le_iff_toInt_le, il_6]; omega), xgd_t (xin_of h1 (by omega))]
theorem kindOf_c {x : Int32} {μ : XMu} (h1 : 0 ≤ x.toInt) (h2 : x.toInt < 6) : yTo_kindOf x μ = some (.inl (some (.int ((μ.2.1 9) x.toNatClampNeg))), μ) := by
  unfold yTo_kindOf
  rw [if_neg (by rw [Int32.lt_iff_toInt_lt, il_0]; omega), if_neg (by rw [Int32.le_iff_toInt_le, il_6]; omega), xgd_t (xin_of h1 (by omega))]
theorem valueOf_c {x : Int32} {μ : XMu} (h1 : 0 ≤ x.toInt) (h2 : x.toInt < 6) : yTo_valueOf x μ = some (.inl (some (.int ((μ.2.1 10) x.toNatClampNeg))), μ) := by
  unfold yTo_valueOf
  rw [if_neg (by rw [Int32.lt_iff_toInt_lt, il_0]; omega), if_neg (by rw [Int32.le_iff_toInt_le, il_6]; omega), xgd_t (xin_of h1 (by omega))]
theorem rise_fail {a b c d e f K : Int32} {ν : XMu} (hK : K.toInt ≤ 6) : ∀ (r fu : Nat) (y x : Int32), 0 ≤ x.toInt → x.toInt + r = K.toInt → r < fu → yM_append_b51_L fu a b c d e f K y x (zh ν 2) = some (.inl none, zh ν 2) := by
  intro r
  induction r with
  | zero =>
    intro fu y x hx hr hf
    obtain ⟨fu, rfl⟩ : ∃ f', fu = f' + 1 := ⟨fu - 1, by omega⟩
    unfold yM_append_b51_L yM_append_b51 yM_append_b101
    rw [if_pos (by rw [Int32.le_iff_toInt_le]; omega), if_pos (show (0 : Int32) < (zh ν 2).2.1 32 0 from (by decide : (0 : Int32) < 2))]
  | succ r ih =>
    intro fu y x hx hr hf
    obtain ⟨fu, rfl⟩ : ∃ f', fu = f' + 1 := ⟨fu - 1, by omega⟩
    have e5 := inc_i (n := x) (by omega)
    have xi := xin_of (i := x) (n := 6) hx (by omega)
    unfold yM_append_b51_L yM_append_b51
    rw [if_neg (by rw [Int32.le_iff_toInt_le]; omega)]
    repeat rw [xgd_t xi]
    rw [zh_x, zh_zh, ih fu _ (x + 1) (by omega) (by omega) (by omega), ite_self, ite_self]
theorem rise_loop {g h μ ν : XMu} (he : RE g h μ ν) {a b c d e f K : Int32} (hK : K.toInt ≤ 6) : ∀ (r fu : Nat) (y x : Int32), 0 ≤ x.toInt → x.toInt + r = K.toInt → r < fu → (yTo_termsRise_b6_L fu K b y x μ = some (.inl (some (.int 0)), μ) ∧ yM_append_b51_L fu a b c d e f K y x (zh ν 0) = some (.inl none, zh ν 2)) ∨ (yTo_termsRise_b6_L fu K b y x μ = some (.inl (some (.int 1)), μ) ∧ yM_append_b51_L fu a b c d e f K y x (zh ν 0) = yM_append_b101 a b c d e f K (zh ν 0)) := by
  intro r
  induction r with
  | zero =>
    intro fu y x hx hr hf
    obtain ⟨fu, rfl⟩ : ∃ f', fu = f' + 1 := ⟨fu - 1, by omega⟩
    unfold yM_append_b51_L yM_append_b51 yTo_termsRise_b6_L yTo_termsRise_b6
    have hc : K ≤ x := by rw [Int32.le_iff_toInt_le]; omega
    rw [if_pos hc, if_pos hc]
    exact Or.inr ⟨rfl, rfl⟩
  | succ r ih =>
    intro fu y x hx hr hf
    obtain ⟨fu, rfl⟩ : ∃ f', fu = f' + 1 := ⟨fu - 1, by omega⟩
    have e5 := inc_i (n := x) (by omega)
    have xi := xin_of (i := x) (n := 6) hx (by omega)
    unfold yM_append_b51_L yM_append_b51 yTo_termsRise_b6_L yTo_termsRise_b6
    have hc : ¬ K ≤ x := by rw [Int32.le_iff_toInt_le]; omega
    have q : (zh ν 0).2.1 44 = (μ.2.1 8) := he.toldTerms
    rw [if_neg hc, if_neg hc, termOf_c hx (by omega), xbi_s]
    rw [termOf_c hx (by omega), xbi_s, termOf_c hx (by omega), xbi_s]
    repeat rw [xgd_t xi]
    rw [zh_x, zh_zh, q]
    have no := fun z => rise_fail (a := a) (b := b) (c := c) (d := d) (e := e) (f := f) (ν := ν) hK r fu z (x + 1) (by omega) (by omega) (by omega)
    by_cases h1 : (μ.2.1 8) x.toNatClampNeg < y
    · rw [if_pos h1, if_pos h1]
      exact Or.inl ⟨rfl, no _⟩
    · rw [if_neg h1, if_neg h1]
      by_cases h2 : (μ.2.1 8) x.toNatClampNeg ≤ b
      · rw [if_pos h2, if_pos h2]
        exact ih fu _ (x + 1) (by omega) (by omega) (by omega)
      · rw [if_neg h2, if_neg h2]
        exact Or.inl ⟨rfl, no _⟩
theorem beg_loop {g h μ ν : XMu} (he : RE g h μ ν) (hb : LB μ) {a c f : Int32} (hc : c.toInt ≤ (μ.2.1 28 9).toInt) (hc0 : (μ.2.1 28 5).toInt ≤ c.toInt) : ∀ (r fu : Nat) (x : Int32), x.toInt = (μ.2.1 28 5).toInt + 1 + r → x.toInt ≤ c.toInt → r < fu → ∃ v, yDi_beginOfTermAt_b11_L fu c x μ = some (.inl (some (.int v)), μ) ∧ yM_append_b171_L fu a c f x ν = yM_append_b204 a c f v ν := by
  obtain ⟨b1, b2, b3, b4⟩ := id hb
  have ib := inc_i (n := (μ.2.1 28 5)) (by omega)
  intro r
  induction r with
  | zero =>
    intro fu x hx hxc hf
    obtain ⟨fu, rfl⟩ : ∃ f', fu = f' + 1 := ⟨fu - 1, by omega⟩
    have e1 : (x - 1).toInt = x.toInt - 1 := by rw [i32_sub (by rw [il_1]; omega) (by rw [il_1]; omega), il_1]
    unfold yDi_beginOfTermAt_b11_L yDi_beginOfTermAt_b11 yM_append_b171_L yM_append_b171
    rw [if_pos (by rw [Int32.le_iff_toInt_le]; omega), he.base, if_pos (by rw [Int32.le_iff_toInt_le]; omega)]
    exact ⟨x, rfl, rfl⟩
  | succ r ih =>
    intro fu x hx hxc hf
    obtain ⟨fu, rfl⟩ : ∃ f', fu = f' + 1 := ⟨fu - 1, by omega⟩
    have e1 : (x - 1).toInt = x.toInt - 1 := by rw [i32_sub (by rw [il_1]; omega) (by rw [il_1]; omega), il_1]
    have e2 := dec_i (n := x) (by omega)
    unfold yDi_beginOfTermAt_b11_L yDi_beginOfTermAt_b11 yM_append_b171_L yM_append_b171
    rw [if_neg (by rw [Int32.le_iff_toInt_le]; omega), he.base, if_neg (by rw [Int32.le_iff_toInt_le]; omega), termAt_c hb (by omega) (by omega), xbi_s, termAt_c hb hc0 hc, xbi_s, termAt_m he hb (by omega) (by omega), xbi_s, termAt_m he hb hc0 hc, xbi_s]
    by_cases h1 : zt μ (x - 1) = zt μ c
    · rw [if_neg (not_not_intro h1), if_neg (not_not_intro h1)]
      exact ih fu (x + (-1)) (by omega) (by omega) (by omega)
    · rw [if_pos h1, if_pos h1]
      exact ⟨x, rfl, rfl⟩
theorem num_i {c x : Int32} (hc0 : 0 ≤ c.toInt) (hc : c.toInt ≤ 3000000) (hx : 0 ≤ x.toInt) (hx6 : x.toInt ≤ 6) : (c + 1 + x).toInt = c.toInt + 1 + x.toInt := by
  have e := inc_i (n := c) (by omega)
  rw [i32_add (by omega) (by omega), e]
theorem con_loop {g h μ ν : XMu} {n : Nat} (he : RE g h μ ν) (hi : RI n μ) (hn : n ≤ 1000000) {a c e f F : Int32} (hc0 : 0 ≤ c.toInt) (hc : c.toInt ≤ (μ.2.1 28 9).toInt) (hF : F.toInt ≤ 6) : ∀ (r fu : Nat) (x : Int32), 0 ≤ x.toInt → x.toInt + r = F.toInt → r < fu → (yC_contradictsCommitted_b2_L fu c F x μ = some (.inl (some (.int 1)), μ) ∧ yM_take_b14_L fu a c e f F x ν = some (.inl none, ν)) ∨ (yC_contradictsCommitted_b2_L fu c F x μ = some (.inl (some (.int 0)), μ) ∧ yM_take_b14_L fu a c e f F x ν = yM_take_b70 a c e f F ν ∧ ∀ y : Int32, x.toInt ≤ y.toInt → y.toInt < F.toInt → (μ.2.1 28 5).toInt ≤ (c + 1 + y).toInt → (c + 1 + y).toInt ≤ (μ.2.1 0 11).toInt → zt μ (c + 1 + y) = (μ.2.1 8) y.toNatClampNeg) := by
  have hb := hi.LB hn
  obtain ⟨b1, b2, b3, b4⟩ := id hb
  have hcl := hi.cl
  intro r
  induction r with
  | zero =>
    intro fu x hx hr hf
    obtain ⟨fu, rfl⟩ : ∃ f', fu = f' + 1 := ⟨fu - 1, by omega⟩
    unfold yC_contradictsCommitted_b2_L yC_contradictsCommitted_b2 yM_take_b14_L yM_take_b14
    have hq : F ≤ x := by rw [Int32.le_iff_toInt_le]; omega
    rw [if_pos hq, if_pos hq]
    exact Or.inr ⟨rfl, rfl, fun y y1 y2 => by omega⟩
  | succ r ih =>
    intro fu x hx hr hf
    obtain ⟨fu, rfl⟩ : ∃ f', fu = f' + 1 := ⟨fu - 1, by omega⟩
    have e5 := inc_i (n := x) (by omega)
    have ni := num_i (c := c) (x := x) hc0 (by omega) hx (by omega)
    unfold yC_contradictsCommitted_b2_L yC_contradictsCommitted_b2 yM_take_b14_L yM_take_b14
    have hq : ¬ F ≤ x := by rw [Int32.le_iff_toInt_le]; omega
    rw [if_neg hq, if_neg hq, he.base, he.commit]
    have go := ih fu (x + 1) (by omega) (by omega) (by omega)
    have wrap : (∀ u : Int32, u = x → (μ.2.1 28 5).toInt ≤ (c + 1 + u).toInt → (c + 1 + u).toInt ≤ (μ.2.1 0 11).toInt → zt μ (c + 1 + u) = (μ.2.1 8) u.toNatClampNeg) → (yC_contradictsCommitted_b2_L fu c F (x + 1) μ = some (.inl (some (.int 1)), μ) ∧ yM_take_b14_L fu a c e f F (x + 1) ν = some (.inl none, ν)) ∨ (yC_contradictsCommitted_b2_L fu c F (x + 1) μ = some (.inl (some (.int 0)), μ) ∧ yM_take_b14_L fu a c e f F (x + 1) ν = yM_take_b70 a c e f F ν ∧ ∀ y : Int32, x.toInt ≤ y.toInt → y.toInt < F.toInt → (μ.2.1 28 5).toInt ≤ (c + 1 + y).toInt → (c + 1 + y).toInt ≤ (μ.2.1 0 11).toInt → zt μ (c + 1 + y) = (μ.2.1 8) y.toNatClampNeg) := by
      intro hu
      rcases go with q | ⟨q1, q2, q3⟩
      · exact Or.inl q
      · refine Or.inr ⟨q1, q2, fun y y1 y2 y3 y4 => ?_⟩
        by_cases hy : y = x
        · exact hu y hy y3 y4
        · refine q3 y ?_ y2 y3 y4
          have : ¬ y.toInt = x.toInt := fun k => hy (inj_i k)
          omega
    by_cases h1 : c + 1 + x < (μ.2.1 28 5)
    · rw [if_pos h1, if_pos h1]
      rw [Int32.lt_iff_toInt_lt] at h1
      exact wrap (fun u hu k1 k2 => by rw [hu] at k1; omega)
    · rw [if_neg h1, if_neg h1]
      rw [Int32.lt_iff_toInt_lt] at h1
      by_cases h2 : (μ.2.1 0 11) < c + 1 + x
      · rw [if_pos h2, if_pos h2]
        rw [Int32.lt_iff_toInt_lt] at h2
        exact wrap (fun u hu k1 k2 => by rw [hu] at k2; omega)
      · rw [if_neg h2, if_neg h2]
        rw [Int32.lt_iff_toInt_lt] at h2
        rw [termAt_c hb (by omega) (by omega), xbi_s, termOf_c hx (by omega), xbi_s, termAt_m he hb (by omega) (by omega), xbi_s, xgd_t (xin_of hx (by omega)), he.toldTerms]
        by_cases h3 : zt μ (c + 1 + x) = (μ.2.1 8) x.toNatClampNeg
        · rw [if_pos h3, if_pos h3]
          exact wrap (fun u hu k1 k2 => by rw [hu]; exact h3)
        · rw [if_neg h3, if_neg h3]
          exact Or.inl ⟨rfl, rfl⟩
theorem wr_dirty {t k v : Int32} {ν : XMu} : yM_write t k v (ν.1, xuI ν.2.1 32 14 1, ν.2.2) = yM_write t k v ν := by
  unfold yM_write
  have q : (xuI ν.2.1 32 14 1) 32 10 = (ν.2.1 32 10) := rfl
  have e : ∀ (l : Int32) (i : Nat), xuI (xuI (xuI (xuI (xuI (xuI ν.2.1 32 14 1) 32 10 l) 33 i t) 34 i k) 35 i v) 32 14 1 = xuI (xuI (xuI (xuI (xuI ν.2.1 32 10 l) 33 i t) 34 i k) 35 i v) 32 14 1 := by
    intro l i
    apply mem_ext
    intro c p
    unfold xuI va_up upd
    by_cases h1 : c = 32 <;> by_cases h5 : p = 14 <;> simp [h1, h5]
  dsimp only
  rw [q, e]
def Tw (μ m : XMu) : Prop := (m.2.1 28 5) = (μ.2.1 28 5) ∧ (m.2.1 0 11) = (μ.2.1 0 11) ∧ (m.2.1 8) = (μ.2.1 8) ∧ (m.2.1 9) = (μ.2.1 9) ∧ (m.2.1 10) = (μ.2.1 10) ∧ (m.2.1 0 9) = (μ.2.1 0 9)
theorem one_w {g h μ ν : XMu} {n : Nat} (he : RE g h μ (ν.1, xuI ν.2.1 32 14 1, ν.2.2)) (hi : RI n μ) (hn : n ≤ 1000000) (hroom : (μ.2.1 28 9).toInt < (μ.2.1 28 5).toInt + 300) (t k v : Int32) : ∃ μ1 ν1, yDi_write t k v μ = some (.inl none, μ1) ∧ yM_write t k v ν = some (.inl none, ν1) ∧ RE g h μ1 ν1 ∧ RI (n + 1) μ1 ∧ (μ1.2.1 28 9) = (μ.2.1 28 9) + 1 ∧ Tw μ μ1 := by
  obtain ⟨μ1, ν1, p1, p2, p3, p4, p5⟩ := P_write he hi hn hroom t k v
  rw [wr_dirty] at p2
  exact ⟨μ1, ν1, p1, p2, p3, p4, p5.2.2.1, p5.2.2.2.2.1, p5.2.2.2.2.2.1, p5.2.2.2.2.2.2.2.1, p5.2.2.2.2.2.2.2.2.1, p5.2.2.2.2.2.2.2.2.2, p5.1⟩
theorem one_p {g h μ ν : XMu} {n : Nat} (he : RE g h μ ν) (hi : RI n μ) (hn : n ≤ 1000000) (hroom : (μ.2.1 28 9).toInt < (μ.2.1 28 5).toInt + 300) (t k v : Int32) : ∃ μ1 ν1, yDi_write t k v μ = some (.inl none, μ1) ∧ yM_write t k v ν = some (.inl none, ν1) ∧ RE g h μ1 ν1 ∧ RI (n + 1) μ1 ∧ (μ1.2.1 28 9) = (μ.2.1 28 9) + 1 ∧ Tw μ μ1 := by
  obtain ⟨μ1, ν1, p1, p2, p3, p4, p5⟩ := P_write he hi hn hroom t k v
  exact ⟨μ1, ν1, p1, p2, p3, p4, p5.2.2.1, p5.2.2.2.2.1, p5.2.2.2.2.2.1, p5.2.2.2.2.2.2.2.1, p5.2.2.2.2.2.2.2.2.1, p5.2.2.2.2.2.2.2.2.2, p5.1⟩
theorem Tw.trans {a b c : XMu} (h : Tw a b) (k : Tw b c) : Tw a c := ⟨k.1.trans h.1, k.2.1.trans h.2.1, k.2.2.1.trans h.2.2.1, k.2.2.2.1.trans h.2.2.2.1, k.2.2.2.2.1.trans h.2.2.2.2.1, k.2.2.2.2.2.trans h.2.2.2.2.2⟩
theorem wr2 {g h : XMu} {a c e f F : Int32} (hc0 : 0 ≤ c.toInt) (hF : F.toInt ≤ 6) : ∀ (r fu : Nat) (x : Int32) (n : Nat) (μ ν : XMu), RE g h μ ν → RI n μ → n + r ≤ 1000000 → c.toInt + F.toInt ≤ (μ.2.1 28 5).toInt + 250 → 0 ≤ x.toInt → x.toInt + r = F.toInt → c.toInt + x.toInt = (μ.2.1 28 9).toInt → r < fu → ∃ μ' ν', yC_writeTold_b5_L fu c F 1 x μ = some (.inl none, μ') ∧ yM_take_b76_L fu a c e f F 1 x ν = yM_take_b196 a c e f F ν' ∧ RE g h μ' ν' ∧ RI (n + r) μ' ∧ c.toInt + F.toInt ≤ (μ'.2.1 28 9).toInt ∧ Tw μ μ' := by
  intro r
  induction r with
  | zero =>
    intro fu x n μ ν he hi hn hr250 hx hxr hl hf
    obtain ⟨fu, rfl⟩ : ∃ f', fu = f' + 1 := ⟨fu - 1, by omega⟩
    unfold yC_writeTold_b5_L yC_writeTold_b5 yM_take_b76_L yM_take_b76
    have hq : F ≤ x := by rw [Int32.le_iff_toInt_le]; omega
    rw [if_pos hq, if_pos hq]
    exact ⟨μ, ν, rfl, rfl, he, hi, by omega, rfl, rfl, rfl, rfl, rfl, rfl⟩
  | succ r ih =>
    intro fu x n μ ν he hi hn hr250 hx hxr hl hf
    obtain ⟨fu, rfl⟩ : ∃ f', fu = f' + 1 := ⟨fu - 1, by omega⟩
    have hb := hi.LB (by omega)
    obtain ⟨b1, b2, b3, b4⟩ := id hb
    have e5 := inc_i (n := x) (by omega)
    have ni := num_i (c := c) (x := x) hc0 (by omega) hx (by omega)
    have xi := xin_of (i := x) (n := 6) hx (by omega)
    have il := inc_i (n := (μ.2.1 28 9)) (by omega)
    unfold yC_writeTold_b5_L yC_writeTold_b5 yM_take_b76_L yM_take_b76 yC_writeTold_b52 yC_writeTold_b57 yM_take_b160 yC_writeTold_b79
    have hq : ¬ F ≤ x := by rw [Int32.le_iff_toInt_le]; omega
    have n1 : ¬ (1 : Int32) = 0 := by decide
    rw [if_neg hq, if_neg hq, if_neg (show ¬ c + 1 + x ≤ (μ.2.1 28 5) by rw [Int32.le_iff_toInt_le]; omega), termAt_n hb (by omega), xbi_s, termOf_c hx (by omega), xbi_s]
    repeat rw [if_pos n1]
    rw [ite_self]
    repeat rw [if_neg n1]
    rw [termOf_c hx (by omega), xbi_s, kindOf_c hx (by omega), xbi_s, valueOf_c hx (by omega), xbi_s]
    repeat rw [xgd_t xi]
    rw [he.toldTerms, he.toldKinds, he.toldValues]
    obtain ⟨μ1, ν1, p1, p2, p3, p4, p5⟩ := P_write he hi (by omega) (by omega) ((μ.2.1 8) x.toNatClampNeg) ((μ.2.1 9) x.toNatClampNeg) ((μ.2.1 10) x.toNatClampNeg)
    rw [p1, p2, xbv_s, xbv_s]
    have tw : Tw μ μ1 := ⟨p5.2.2.2.2.1, p5.2.2.2.2.2.1, p5.2.2.2.2.2.2.2.1, p5.2.2.2.2.2.2.2.2.1, p5.2.2.2.2.2.2.2.2.2, p5.1⟩
    obtain ⟨μ', ν', q1, q2, q3, q4, q5, q6⟩ := ih fu (x + 1) (n + 1) μ1 ν1 p3 p4 (by omega) (by rw [tw.1]; exact hr250) (by omega) (by omega) (by rw [p5.2.2.1]; omega) (by omega)
    exact ⟨μ', ν', q1, q2, q3, q4.mono (by omega), q5, tw.trans q6⟩
theorem cut_c {g h μ ν : XMu} {n : Nat} (he : RE g h μ ν) (hi : RI n μ) (hn : n ≤ 1000000) (hr : ¬ (μ.2.1 0 9) = 3) {i : Int32} (h1 : (μ.2.1 28 5).toInt < i.toInt) (h2 : i.toInt ≤ (μ.2.1 28 9).toInt) (h3 : (μ.2.1 0 11).toInt < i.toInt) : ∃ μ1 S, yDi_cutFrom i μ = some (.inl none, μ1) ∧ S = (if i - 1 < (μ.2.1 28 10) then i - 1 else (μ.2.1 28 10)) ∧ RE g h μ1 (ν.1, xuI (xuI (xuI ν.2.1 32 10 (i - 1)) 32 19 S) 32 14 1, ν.2.2) ∧ RI n μ1 ∧ (μ1.2.1 28 9) = i - 1 ∧ Tw μ μ1 := by
  have hb := hi.LB hn
  obtain ⟨b1, b2, b3, b4⟩ := id hb
  have hl := hi.last
  have hs := hi.syn
  have ha := hi.ac
  have e1 : (i - 1).toInt = i.toInt - 1 := by rw [i32_sub (by rw [il_1]; omega) (by rw [il_1]; omega), il_1]
  unfold yDi_cutFrom yDi_endAt
  rw [holds1 hb h1 h2, if_neg (show ¬ (1 : Int32) = 0 by decide), xbv_s]
  have sy : (if i - 1 < (μ.2.1 28 10) then i - 1 else (μ.2.1 28 10)).toInt ≤ i.toInt - 1 ∧ 0 ≤ (if i - 1 < (μ.2.1 28 10) then i - 1 else (μ.2.1 28 10)).toInt := by
    split
    · omega
    · next q => rw [Int32.lt_iff_toInt_lt] at q; omega
  generalize hS : (if i - 1 < (μ.2.1 28 10) then i - 1 else (μ.2.1 28 10)) = S at sy ⊢
  obtain ⟨m, f1, f2⟩ := R_find (μ := (μ.1, xuI (xuI (xuI μ.2.1 28 9 (i - 1)) 28 10 S) 28 11 1, μ.2.2)) ⟨b1, by show (μ.2.1 28 5).toInt ≤ (i - 1).toInt; omega, by show (i - 1).toInt ≤ (μ.2.1 28 5).toInt + 300; omega, by show (i - 1).toInt ≤ 3000000; omega⟩
  dsimp only at f1 ⊢
  rw [f1, xbv_s]
  refine ⟨_, S, rfl, rfl, ?_, ?_, rfl, rfl, rfl, rfl, rfl, rfl, rfl⟩
  · refine (RE.mk (ft := he.ft) (fg := fun c hc => by first | exact he.fg c hc | (have hh := he.fg c hc; (try unfold zq at hh); (try unfold zd at hh); (try unfold zf at hh); (try unfold zo at hh); (try unfold zo); (try unfold zh at hh); (try unfold zh); (try unfold zq); (try unfold zd); (try unfold zf); (try dsimp only at hh); (try dsimp only); (repeat (first | rw [xuI_o (by omega)] at hh | rw [xuL_o (by omega)] at hh | rw [va_up_o (by omega)] at hh)); (repeat (first | rw [xuI_o (by omega)] | rw [xuL_o (by omega)] | rw [va_up_o (by omega)])); exact hh)) (fgl := fun c hc => by first | exact he.fgl c hc | (have hh := he.fgl c hc; (try unfold zq at hh); (try unfold zd at hh); (try unfold zf at hh); (try unfold zo at hh); (try unfold zo); (try unfold zh at hh); (try unfold zh); (try unfold zq); (try unfold zd); (try unfold zf); (try dsimp only at hh); (try dsimp only); (repeat (first | rw [xuI_o (by omega)] at hh | rw [xuL_o (by omega)] at hh | rw [va_up_o (by omega)] at hh)); (repeat (first | rw [xuI_o (by omega)] | rw [xuL_o (by omega)] | rw [va_up_o (by omega)])); exact hh)) (ht := he.ht) (hg := fun c hc => by first | exact he.hg c hc | (have hh := he.hg c hc; (try unfold zq at hh); (try unfold zd at hh); (try unfold zf at hh); (try unfold zo at hh); (try unfold zo); (try unfold zh at hh); (try unfold zh); (try unfold zq); (try unfold zd); (try unfold zf); (try dsimp only at hh); (try dsimp only); (repeat (first | rw [xuI_o (by omega)] at hh | rw [xuL_o (by omega)] at hh | rw [va_up_o (by omega)] at hh)); (repeat (first | rw [xuI_o (by omega)] | rw [xuL_o (by omega)] | rw [va_up_o (by omega)])); exact hh)) (hgl := fun c hc => by first | exact he.hgl c hc | (have hh := he.hgl c hc; (try unfold zq at hh); (try unfold zd at hh); (try unfold zf at hh); (try unfold zo at hh); (try unfold zo); (try unfold zh at hh); (try unfold zh); (try unfold zq); (try unfold zd); (try unfold zf); (try dsimp only at hh); (try dsimp only); (repeat (first | rw [xuI_o (by omega)] at hh | rw [xuL_o (by omega)] at hh | rw [va_up_o (by omega)] at hh)); (repeat (first | rw [xuI_o (by omega)] | rw [xuL_o (by omega)] | rw [va_up_o (by omega)])); exact hh)) (thr := he.thr) (row := he.row) (itself := he.itself) (now := he.now) (term := he.term) (voted := he.voted) (base := he.base) (last := rfl) (baseTerm := he.baseTerm) (baseCode := he.baseCode) (snapshot := he.snapshot) (dirty := rfl) (role := he.role) (leader := he.leader) (commit := he.commit) (applied := he.applied) (synced := rfl) (heard := he.heard) (alarm := he.alarm) (votes := he.votes) (handing := he.handing) (handed := he.handed) (first := he.first) (round := he.round) (assembly := he.assembly) (described := he.described) (toldBase := he.toldBase) (toldTerm := he.toldTerm) (toldCode := he.toldCode) (toldSize := he.toldSize) (told := he.told) (waits := he.waits) (went := he.went) (done := he.done) (calls := he.calls) (next := he.next) (mtch := he.mtch) (flying := he.flying) (offset := he.offset) (ack := he.ack) (seen := he.seen) (probing := he.probing) (answered := he.answered) (toldTerms := he.toldTerms) (toldKinds := he.toldKinds) (toldValues := he.toldValues) (doneNumbers := he.doneNumbers) (doneValues := he.doneValues) (callState := he.callState) (callNumber := he.callNumber) (got := he.got) (log := fun k k1 k2 => ?_) (kept := he.kept) (wait := he.wait) (cls := he.cls))
    have k2' : k.toInt ≤ (i - 1).toInt := k2
    exact he.log k k1 (by omega)
  · exact (RI.mk (itself := hi.itself) (role := hi.role) (base := hi.base) (ba := hi.ba) (ac := hi.ac) (cl := by show (μ.2.1 0 11).toInt ≤ (i - 1).toInt; omega) (lb := by show (i - 1).toInt ≤ (μ.2.1 28 5).toInt + 300; omega) (last := by show (i - 1).toInt ≤ 1000000 + (n : Int); omega) (syn := ⟨sy.2, by show S.toInt ≤ (i - 1).toInt; omega⟩) (dirty := rfl) (desc := hi.desc) (now := hi.now) (term := hi.term) (went := hi.went) (waits := hi.waits) (done := hi.done) (calls := hi.calls) (told := hi.told) (round := hi.round) (hand := hi.hand) (heard := hi.heard) (vote := hi.vote) (lead := fun k => absurd k hr) (quiet := hi.quiet) (cmd := hi.cmd) (tt := hi.tt) (tb := hi.tb) (got := hi.got) (mem := f2))
theorem wr1 {g h μ ν : XMu} {n : Nat} (he : RE g h μ ν) (hi : RI n μ) (hn : n + 6 ≤ 1000000) (hr : ¬ (μ.2.1 0 9) = 3) {a c e f F : Int32} (hc0 : 0 ≤ c.toInt) (hF : F.toInt ≤ 6) (h250 : F.toInt = 0 ∨ c.toInt + F.toInt ≤ (μ.2.1 28 5).toInt + 250) (hcon : ∀ y : Int32, 0 ≤ y.toInt → y.toInt < F.toInt → (μ.2.1 28 5).toInt ≤ (c + 1 + y).toInt → (c + 1 + y).toInt ≤ (μ.2.1 0 11).toInt → zt μ (c + 1 + y) = (μ.2.1 8) y.toNatClampNeg) : ∀ (r fu : Nat) (x : Int32), 0 ≤ x.toInt → x.toInt + r = F.toInt → c.toInt + x.toInt ≤ (μ.2.1 28 9).toInt → r < fu → ∃ μ' ν', yC_writeTold_b5_L fu c F 0 x μ = some (.inl none, μ') ∧ yM_take_b76_L fu a c e f F 0 x ν = yM_take_b196 a c e f F ν' ∧ RE g h μ' ν' ∧ RI (n + 6) μ' ∧ c.toInt + F.toInt ≤ (μ'.2.1 28 9).toInt ∧ Tw μ μ' := by
  have hb := hi.LB (by omega)
  obtain ⟨b1, b2, b3, b4⟩ := id hb
  have hcl := hi.cl
  have hs := hi.syn
  intro r
  induction r with
  | zero =>
    intro fu x hx hxr hl hf
    obtain ⟨fu, rfl⟩ : ∃ f', fu = f' + 1 := ⟨fu - 1, by omega⟩
    unfold yC_writeTold_b5_L yC_writeTold_b5 yM_take_b76_L yM_take_b76
    have hq : F ≤ x := by rw [Int32.le_iff_toInt_le]; omega
    rw [if_pos hq, if_pos hq]
    exact ⟨μ, ν, rfl, rfl, he, hi.mono (by omega), by omega, rfl, rfl, rfl, rfl, rfl, rfl⟩
  | succ r ih =>
    intro fu x hx hxr hl hf
    obtain ⟨fu, rfl⟩ : ∃ f', fu = f' + 1 := ⟨fu - 1, by omega⟩
    have e5 := inc_i (n := x) (by omega)
    have tx := tn_of hx
    have ni := num_i (c := c) (x := x) hc0 (by omega) hx (by omega)
    have xi := xin_of (i := x) (n := 6) hx (by omega)
    have tt := hi.tt x.toNatClampNeg (by omega)
    have e1 : (c + 1 + x - 1).toInt = c.toInt + x.toInt := by rw [i32_sub (by rw [il_1]; omega) (by rw [il_1]; omega), il_1]; omega
    unfold yC_writeTold_b5_L yC_writeTold_b5 yM_take_b76_L yM_take_b76 yC_writeTold_b52 yC_writeTold_b57 yM_take_b130 yM_take_b160 yC_writeTold_b79
    have hq : ¬ F ≤ x := by rw [Int32.le_iff_toInt_le]; omega
    have n1 : ¬ (1 : Int32) = 0 := by decide
    have n0 : ¬ ¬ (0 : Int32) = 0 := not_not_intro rfl
    have z0 : (0 : Int32) = 0 := rfl
    rw [if_neg hq, if_neg hq]
    repeat rw [if_neg n0]
    repeat rw [if_pos n1]
    repeat rw [if_pos z0]
    rw [he.base, he.last]
    have begun : ∀ (μ1 ν1 : XMu), (∀ t k v : Int32, ∃ μ2 ν2, yDi_write t k v μ1 = some (.inl none, μ2) ∧ yM_write t k v ν1 = some (.inl none, ν2) ∧ RE g h μ2 ν2 ∧ RI (n + 1) μ2 ∧ (μ2.2.1 28 9) = (μ1.2.1 28 9) + 1 ∧ Tw μ1 μ2) → (μ1.2.1 28 9).toInt = c.toInt + x.toInt → Tw μ μ1 → (ν1.2.1 44) = (μ.2.1 8) → (ν1.2.1 45) = (μ.2.1 9) → (ν1.2.1 46) = (μ.2.1 10) → ∃ μ' ν', (xbi (yTo_termOf x μ1) (fun r2 m1 => xbi (yTo_kindOf x m1) (fun r4 m3 => xbi (yTo_valueOf x m3) (fun r6 m5 => xbv (yDi_write r2 r4 r6 m5) (fun m7 => yC_writeTold_b5_L fu c F 1 (x + (1 : Int32)) m7))))) = some (.inl none, μ') ∧ (xbv (yM_write ((ν1.2.1 44) x.toNatClampNeg) ((ν1.2.1 45) x.toNatClampNeg) ((ν1.2.1 46) x.toNatClampNeg) ν1) (fun m5 => yM_take_b76_L fu a c e f F 1 (x + (1 : Int32)) m5)) = yM_take_b196 a c e f F ν' ∧ RE g h μ' ν' ∧ RI (n + 6) μ' ∧ c.toInt + F.toInt ≤ (μ'.2.1 28 9).toInt ∧ Tw μ μ' := by
      intro μ1 ν1 hw hl1 tw1 t1 t2 t3
      rw [termOf_c hx (by omega), xbi_s, kindOf_c hx (by omega), xbi_s, valueOf_c hx (by omega), xbi_s, t1, t2, t3, tw1.2.2.1, tw1.2.2.2.1, tw1.2.2.2.2.1]
      obtain ⟨μ2, ν2, p1, p2, p3, p4, p5, p6⟩ := hw ((μ.2.1 8) x.toNatClampNeg) ((μ.2.1 9) x.toNatClampNeg) ((μ.2.1 10) x.toNatClampNeg)
      rw [p1, p2, xbv_s, xbv_s]
      have il := inc_i (n := (μ1.2.1 28 9)) (by omega)
      have bt : (μ2.2.1 28 5) = (μ.2.1 28 5) := p6.1.trans tw1.1
      obtain ⟨μ', ν', q1, q2, q3, q4, q5, q6⟩ := wr2 (g := g) (h := h) (a := a) (e := e) (f := f) hc0 hF r fu (x + 1) (n + 1) μ2 ν2 p3 p4 (by omega) (by rw [bt]; omega) (by omega) (by omega) (by rw [p5]; omega) (by omega)
      exact ⟨μ', ν', q1, q2, q3, q4.mono (by omega), q5, (tw1.trans p6).trans q6⟩
    repeat rw [xgd_t xi]
    by_cases h1 : c + 1 + x ≤ (μ.2.1 28 5)
    · rw [if_pos h1, if_pos h1]
      rw [Int32.le_iff_toInt_le] at h1
      exact ih fu (x + 1) (by omega) (by omega) (by omega) (by omega)
    · rw [if_neg h1, if_neg h1]
      rw [Int32.le_iff_toInt_le] at h1
      by_cases h2 : (μ.2.1 28 9) < c + 1 + x
      · rw [if_pos h2]
        rw [Int32.lt_iff_toInt_lt] at h2
        have el : c + 1 + x - 1 = (μ.2.1 28 9) := inj_i (by omega)
        have nd : ¬ (-1 : Int32) = (μ.2.1 8) x.toNatClampNeg := fun k => by rw [← k, il_m1] at tt; omega
        rw [termAt_n hb (by omega), xbi_s, termOf_c hx (by omega), xbi_s, if_pos nd]
        repeat rw [if_neg n0]
        unfold yDi_cutFrom
        rw [holds0 hb (by omega), if_pos z0, xbv_s, he.synced, el, if_pos (show (μ.2.1 28 10) ≤ (μ.2.1 28 9) by rw [Int32.le_iff_toInt_le]; exact hs.2)]
        repeat rw [if_neg n1]
        repeat rw [xgd_t xi]
        have es : xuI ν.2.1 32 10 (μ.2.1 28 9) = ν.2.1 := xuI_id he.last
        rw [es]
        exact begun μ ν (fun t k v => one_p he hi (by omega) (by omega) t k v) (by omega) ⟨rfl, rfl, rfl, rfl, rfl, rfl⟩ he.toldTerms he.toldKinds he.toldValues
      · rw [if_neg h2]
        rw [Int32.lt_iff_toInt_lt] at h2
        rw [termAt_c hb (by omega) (by omega), xbi_s, termOf_c hx (by omega), xbi_s, termAt_m he hb (by omega) (by omega), xbi_s]
        repeat rw [if_neg n0]
        repeat rw [if_pos n1]
        repeat rw [if_pos z0]
        repeat rw [xgd_t xi]
        have qT : (ν.2.1 44) x.toNatClampNeg = (μ.2.1 8) x.toNatClampNeg := congrFun he.toldTerms _
        by_cases h3 : zt μ (c + 1 + x) = (μ.2.1 8) x.toNatClampNeg
        · rw [if_neg (not_not_intro h3), if_pos (h3.trans qT.symm)]
          exact ih fu (x + 1) (by omega) (by omega) (by omega) (by omega)
        · rw [if_pos h3, if_neg (fun k => h3 (k.trans qT))]
          have hcm : (μ.2.1 0 11).toInt < (c + 1 + x).toInt := by
            rcases Int.lt_or_le (μ.2.1 0 11).toInt (c + 1 + x).toInt with q | q
            · exact q
            · exact absurd (hcon x hx (by omega) (by omega) q) h3
          obtain ⟨μ1, S, k1, k2, k3, k4, k5, k6⟩ := cut_c he hi (by omega) hr (i := c + 1 + x) (by omega) (by omega) hcm
          rw [k1, xbv_s, he.synced]
          repeat rw [if_neg n1]
          repeat rw [xgd_t xi]
          have kl : (μ1.2.1 28 9).toInt = c.toInt + x.toInt := by rw [k5]; exact e1
          have hroom : (μ1.2.1 28 9).toInt < (μ1.2.1 28 5).toInt + 300 := by rw [k6.1]; omega
          by_cases h4 : (μ.2.1 28 10) ≤ c + 1 + x - 1
          · rw [if_pos h4]
            have h5 : ¬ c + 1 + x - 1 < (μ.2.1 28 10) := by rw [Int32.le_iff_toInt_le] at h4; rw [Int32.lt_iff_toInt_lt]; omega
            rw [if_neg h5] at k2
            rw [k2, xuI_id (M := xuI ν.2.1 32 10 (c + 1 + x - 1)) (k := 32) (j := 19) he.synced] at k3
            exact begun μ1 (ν.1, xuI ν.2.1 32 10 (c + 1 + x - 1), ν.2.2) (fun t k v => one_w k3 k4 (by omega) hroom t k v) kl k6 he.toldTerms he.toldKinds he.toldValues
          · rw [if_neg h4]
            have h5 : c + 1 + x - 1 < (μ.2.1 28 10) := by rw [Int32.le_iff_toInt_le] at h4; rw [Int32.lt_iff_toInt_lt]; omega
            rw [if_pos h5] at k2
            rw [k2] at k3
            exact begun μ1 (ν.1, xuI (xuI ν.2.1 32 10 (c + 1 + x - 1)) 32 19 (c + 1 + x - 1), ν.2.2) (fun t k v => one_w k3 k4 (by omega) hroom t k v) kl k6 he.toldTerms he.toldKinds he.toldValues
theorem b196_eq {ν : XMu} {a c e f F R X : Int32} (hR : (if c + F < (ν.2.1 32 9) then (ν.2.1 32 9) else c + F) = R) (hX : (if (ν.2.1 32 17) < (if R < e then R else e) then (if R < e then R else e) else (ν.2.1 32 17)) = X) : yM_take_b196 a c e f F ν = xbv (yM_apply (ν.1, xuI ν.2.1 32 17 X, ν.2.2)) (fun m1 => xbv (yM_reply a (6 : Int32) (1 : Int32) R f m1) (fun m2 => some (.inl none, m2))) := by
  have h3 : ∀ R s : Int32, yM_take_b234 a f R s ν = xbv (yM_apply (ν.1, xuI ν.2.1 32 17 (if (ν.2.1 32 17) < s then s else (ν.2.1 32 17)), ν.2.2)) (fun m1 => xbv (yM_reply a (6 : Int32) (1 : Int32) R f m1) (fun m2 => some (.inl none, m2))) := by
    intro R s
    unfold yM_take_b234
    by_cases q : s ≤ (ν.2.1 32 17)
    · rw [if_pos q, if_neg (by rw [Int32.le_iff_toInt_le] at q; rw [Int32.lt_iff_toInt_lt]; omega), xuI_id rfl]
    · rw [if_neg q, if_pos (by rw [Int32.le_iff_toInt_le] at q; rw [Int32.lt_iff_toInt_lt]; omega)]
  have h2 : ∀ R : Int32, yM_take_b218 a e f R ν = yM_take_b234 a f R (if R < e then R else e) ν := by
    intro R
    unfold yM_take_b218
    by_cases q : R < e
    · rw [if_pos q, if_pos (by rw [Int32.lt_iff_toInt_lt] at q; rw [Int32.le_iff_toInt_le]; omega)]
    · rw [if_neg q]
      split
      · next q2 =>
        rw [Int32.lt_iff_toInt_lt] at q
        rw [Int32.le_iff_toInt_le] at q2
        rw [show R = e from inj_i (by omega)]
      · rfl
  have h1 : yM_take_b196 a c e f F ν = yM_take_b218 a e f R ν := by
    unfold yM_take_b196
    rw [← hR]
    by_cases q : c + F < (ν.2.1 32 9)
    · rw [if_pos q, if_pos (by rw [Int32.lt_iff_toInt_lt] at q; rw [Int32.le_iff_toInt_le]; omega)]
    · rw [if_neg q]
      split
      · next q2 =>
        rw [Int32.lt_iff_toInt_lt] at q
        rw [Int32.le_iff_toInt_le] at q2
        rw [show c + F = (ν.2.1 32 9) from inj_i (by omega)]
      · rfl
  rw [h1, h2, h3, hX]
theorem P_b69 {g h μ ν : XMu} {n : Nat} (he : RE g h μ ν) (hi : RI n μ) (hn : n + 307 ≤ 1000000) (hr : ¬ (μ.2.1 0 9) = 3) {a c K e f : Int32} (hc0 : 0 ≤ c.toInt) (hc : c.toInt ≤ (μ.2.1 28 9).toInt) (hK : 0 ≤ K.toInt ∧ K.toInt ≤ 6) : Pv g h (n + 307) (yC_takeAppend_b69 a c K e f μ) (yM_append_b236 a c e f K ν) := by
  have hb := hi.LB (by omega)
  obtain ⟨b1, b2, b3, b4⟩ := id hb
  have e1 : ((μ.2.1 28 5) + 250).toInt = (μ.2.1 28 5).toInt + 250 := by rw [i32_add (by rw [il_250]; omega) (by rw [il_250]; omega), il_250]
  have e2 : ((μ.2.1 28 5) + 250 - c).toInt = (μ.2.1 28 5).toInt + 250 - c.toInt := by rw [i32_sub (by omega) (by omega), e1]
  have e3 : (c + K).toInt = c.toInt + K.toInt := i32_add (by omega) (by omega)
  obtain ⟨F, hF, hFm, hF0, hF6, h250⟩ : ∃ F, (if (0 : Int32) < (if (((μ.2.1 28 5) + (250 : Int32)) - c) < K then (((μ.2.1 28 5) + (250 : Int32)) - c) else K) then (if (((μ.2.1 28 5) + (250 : Int32)) - c) < K then (((μ.2.1 28 5) + (250 : Int32)) - c) else K) else (0 : Int32)) = F ∧ yM_append_b236 a c e f K ν = xbv (yM_take_b14_L 1000 a c e f F 0 ν) (fun m7 => some (.inl none, m7)) ∧ 0 ≤ F.toInt ∧ F.toInt ≤ 6 ∧ (F.toInt = 0 ∨ c.toInt + F.toInt ≤ (μ.2.1 28 5).toInt + 250) := by
    unfold yM_append_b236 yM_take
    rw [he.base]
    by_cases q : (μ.2.1 28 5) + 250 - c < K
    · rw [if_pos q]
      rw [Int32.lt_iff_toInt_lt] at q
      rw [if_neg (show ¬ c + K ≤ (μ.2.1 28 5) + 250 by rw [Int32.le_iff_toInt_le]; omega)]
      by_cases q2 : (0 : Int32) < (μ.2.1 28 5) + 250 - c
      · rw [if_pos q2]
        rw [Int32.lt_iff_toInt_lt, il_0] at q2
        rw [if_pos (show (0 : Int32) ≤ (μ.2.1 28 5) + 250 - c by rw [Int32.le_iff_toInt_le, il_0]; omega)]
        exact ⟨_, rfl, rfl, by omega, by omega, by omega⟩
      · rw [if_neg q2]
        rw [Int32.lt_iff_toInt_lt, il_0] at q2
        refine ⟨0, rfl, ?_, by decide, by decide, Or.inl rfl⟩
        by_cases q3 : (0 : Int32) ≤ (μ.2.1 28 5) + 250 - c
        · rw [if_pos q3]
          rw [Int32.le_iff_toInt_le, il_0] at q3
          rw [show (μ.2.1 28 5) + 250 - c = 0 from inj_i (by rw [il_0]; omega)]
        · rw [if_neg q3]
    · rw [if_neg q]
      rw [Int32.lt_iff_toInt_lt] at q
      rw [if_pos (show c + K ≤ (μ.2.1 28 5) + 250 by rw [Int32.le_iff_toInt_le]; omega), if_pos (show (0 : Int32) ≤ K by rw [Int32.le_iff_toInt_le, il_0]; omega)]
      by_cases q2 : (0 : Int32) < K
      · rw [if_pos q2]
        exact ⟨K, rfl, rfl, hK.1, hK.2, by omega⟩
      · rw [if_neg q2]
        rw [Int32.lt_iff_toInt_lt, il_0] at q2
        have : K = 0 := inj_i (by rw [il_0]; omega)
        rw [this]
        exact ⟨0, rfl, rfl, by decide, by decide, Or.inl rfl⟩
  rw [hFm]
  unfold yC_takeAppend_b69 yC_contradictsCommitted
  rw [hF]
  rcases con_loop he hi (by omega) (a := a) (e := e) (f := f) hc0 hc hF6 F.toInt.toNat 1000 0 (by decide) (by rw [il_0]; omega) (by omega) with ⟨q1, q2⟩ | ⟨q1, q2, q3⟩
  · rw [q1, q2, xbi_s, if_neg (show ¬ (1 : Int32) = 0 by decide), xbv_s]
    exact Pv.ret he (hi.mono (by omega))
  · rw [q1, q2, xbi_s, if_pos rfl]
    unfold yM_take_b70 yC_writeTold
    obtain ⟨μ1, ν1, w1, w2, he1, hi1, hl1, tw⟩ := wr1 he hi (by omega) hr (a := a) (e := e) (f := f) hc0 hF6 h250 (fun y y1 y2 => q3 y (by rw [il_0]; omega) y2) F.toInt.toNat 1000 0 (by decide) (by rw [il_0]; omega) (by rw [il_0]; omega) (by omega)
    have hb1 := hi1.LB (by omega)
    obtain ⟨d1, d2, d3, d4⟩ := id hb1
    have e4 : (c + F).toInt = c.toInt + F.toInt := i32_add (by omega) (by omega)
    have hR : (if c + F < (μ1.2.1 28 5) then (μ1.2.1 28 5) else c + F).toInt ≤ (μ1.2.1 28 9).toInt := by
      split
      · exact d2
      · omega
    rw [w1, w2, xbv_s]
    rw [b196_eq (ν := ν1) rfl rfl, he1.base, he1.commit]
    generalize (if c + F < (μ1.2.1 28 5) then (μ1.2.1 28 5) else c + F) = R at hR ⊢
    have hX : (μ1.2.1 0 11).toInt ≤ (if (μ1.2.1 0 11) < (if R < e then R else e) then (if R < e then R else e) else (μ1.2.1 0 11)).toInt ∧ (if (μ1.2.1 0 11) < (if R < e then R else e) then (if R < e then R else e) else (μ1.2.1 0 11)).toInt ≤ (μ1.2.1 28 9).toInt := by
      have hm : (if R < e then R else e).toInt ≤ R.toInt := by
        split
        · exact Int.le_refl _
        · next q => rw [Int32.lt_iff_toInt_lt] at q; omega
      generalize (if R < e then R else e) = M at hm ⊢
      have := hi1.cl
      split
      · next q => rw [Int32.lt_iff_toInt_lt] at q; omega
      · omega
    generalize (if (μ1.2.1 0 11) < (if R < e then R else e) then (if R < e then R else e) else (μ1.2.1 0 11)) = X at hX ⊢
    have hac := hi1.ac
    have p := (P_apply (n := n + 6) (μ := (μ1.1, xuI μ1.2.1 0 11 X, μ1.2.2)) (ν := (ν1.1, xuI ν1.2.1 32 17 X, ν1.2.2)) ((RE.mk (ft := he1.ft) (fg := fun c hc => by first | exact he1.fg c hc | (have hh := he1.fg c hc; (try unfold zq at hh); (try unfold zd at hh); (try unfold zf at hh); (try unfold zo at hh); (try unfold zo); (try unfold zh at hh); (try unfold zh); (try unfold zq); (try unfold zd); (try unfold zf); (try dsimp only at hh); (try dsimp only); (repeat (first | rw [xuI_o (by omega)] at hh | rw [xuL_o (by omega)] at hh | rw [va_up_o (by omega)] at hh)); (repeat (first | rw [xuI_o (by omega)] | rw [xuL_o (by omega)] | rw [va_up_o (by omega)])); exact hh)) (fgl := fun c hc => by first | exact he1.fgl c hc | (have hh := he1.fgl c hc; (try unfold zq at hh); (try unfold zd at hh); (try unfold zf at hh); (try unfold zo at hh); (try unfold zo); (try unfold zh at hh); (try unfold zh); (try unfold zq); (try unfold zd); (try unfold zf); (try dsimp only at hh); (try dsimp only); (repeat (first | rw [xuI_o (by omega)] at hh | rw [xuL_o (by omega)] at hh | rw [va_up_o (by omega)] at hh)); (repeat (first | rw [xuI_o (by omega)] | rw [xuL_o (by omega)] | rw [va_up_o (by omega)])); exact hh)) (ht := he1.ht) (hg := fun c hc => by first | exact he1.hg c hc | (have hh := he1.hg c hc; (try unfold zq at hh); (try unfold zd at hh); (try unfold zf at hh); (try unfold zo at hh); (try unfold zo); (try unfold zh at hh); (try unfold zh); (try unfold zq); (try unfold zd); (try unfold zf); (try dsimp only at hh); (try dsimp only); (repeat (first | rw [xuI_o (by omega)] at hh | rw [xuL_o (by omega)] at hh | rw [va_up_o (by omega)] at hh)); (repeat (first | rw [xuI_o (by omega)] | rw [xuL_o (by omega)] | rw [va_up_o (by omega)])); exact hh)) (hgl := fun c hc => by first | exact he1.hgl c hc | (have hh := he1.hgl c hc; (try unfold zq at hh); (try unfold zd at hh); (try unfold zf at hh); (try unfold zo at hh); (try unfold zo); (try unfold zh at hh); (try unfold zh); (try unfold zq); (try unfold zd); (try unfold zf); (try dsimp only at hh); (try dsimp only); (repeat (first | rw [xuI_o (by omega)] at hh | rw [xuL_o (by omega)] at hh | rw [va_up_o (by omega)] at hh)); (repeat (first | rw [xuI_o (by omega)] | rw [xuL_o (by omega)] | rw [va_up_o (by omega)])); exact hh)) (thr := he1.thr) (row := he1.row) (itself := he1.itself) (now := he1.now) (term := he1.term) (voted := he1.voted) (base := he1.base) (last := he1.last) (baseTerm := he1.baseTerm) (baseCode := he1.baseCode) (snapshot := he1.snapshot) (dirty := he1.dirty) (role := he1.role) (leader := he1.leader) (commit := rfl) (applied := he1.applied) (synced := he1.synced) (heard := he1.heard) (alarm := he1.alarm) (votes := he1.votes) (handing := he1.handing) (handed := he1.handed) (first := he1.first) (round := he1.round) (assembly := he1.assembly) (described := he1.described) (toldBase := he1.toldBase) (toldTerm := he1.toldTerm) (toldCode := he1.toldCode) (toldSize := he1.toldSize) (told := he1.told) (waits := he1.waits) (went := he1.went) (done := he1.done) (calls := he1.calls) (next := he1.next) (mtch := he1.mtch) (flying := he1.flying) (offset := he1.offset) (ack := he1.ack) (seen := he1.seen) (probing := he1.probing) (answered := he1.answered) (toldTerms := he1.toldTerms) (toldKinds := he1.toldKinds) (toldValues := he1.toldValues) (doneNumbers := he1.doneNumbers) (doneValues := he1.doneValues) (callState := he1.callState) (callNumber := he1.callNumber) (got := he1.got) (log := he1.log) (kept := he1.kept) (wait := he1.wait) (cls := he1.cls))) ((RI.mk (itself := hi1.itself) (role := hi1.role) (base := hi1.base) (ba := hi1.ba) (ac := by show (μ1.2.1 0 12).toInt ≤ X.toInt; omega) (cl := hX.2) (lb := hi1.lb) (last := hi1.last) (syn := hi1.syn) (dirty := hi1.dirty) (desc := hi1.desc) (now := hi1.now) (term := hi1.term) (went := hi1.went) (waits := hi1.waits) (done := hi1.done) (calls := hi1.calls) (told := hi1.told) (round := hi1.round) (hand := hi1.hand) (heard := hi1.heard) (vote := hi1.vote) (lead := hi1.lead) (quiet := hi1.quiet) (cmd := hi1.cmd) (tt := hi1.tt) (tb := hi1.tb) (got := hi1.got) (mem := hi1.mem))) (by omega)).toPv
    obtain ⟨μ2, ν2, p1, p2, p3, p4⟩ := p
    rw [p1, p2, xbv_s, xbv_s]
    have r := (P_rep6 p3 p4 (by omega) a 1 R f).tail
    exact (r.tailM).mono (by omega)
theorem P_takeAppend {g h μ ν : XMu} {n : Nat} (he : RE g h μ ν) (hi : RI n μ) (hn : n + 307 ≤ 1000000) (hr : ¬ (μ.2.1 0 9) = 3) {a c d K e f : Int32} (hc0 : 0 ≤ c.toInt) (hK : 0 ≤ K.toInt ∧ K.toInt ≤ 6) : Pv g h (n + 307) (yC_takeAppend a c d K e f μ) (if c ≤ (ν.2.1 32 10) then (if c < (ν.2.1 32 9) then yM_append_b236 a c e f K ν else xbi (yM_termAt c ν) (fun r10 m9 => (if r10 = d then yM_append_b236 a c e f K m9 else yM_append_b171_L 1000 a c f c m9))) else xbv (yM_reply a (6 : Int32) (0 : Int32) ((ν.2.1 32 10) + (1 : Int32)) f ν) (fun m17 => some (.inl none, m17))) := by
  have hb := hi.LB (by omega)
  obtain ⟨b1, b2, b3, b4⟩ := id hb
  unfold yC_takeAppend
  rw [he.last, he.base]
  by_cases h1 : c ≤ (μ.2.1 28 9)
  · rw [if_pos h1, if_pos h1]
    rw [Int32.le_iff_toInt_le] at h1
    by_cases h2 : c < (μ.2.1 28 5)
    · rw [if_pos h2, if_pos h2]
      exact P_b69 he hi hn hr hc0 h1 hK
    · rw [if_neg h2, if_neg h2]
      rw [Int32.lt_iff_toInt_lt] at h2
      rw [termAt_c hb (by omega) h1, xbi_s, termAt_m he hb (by omega) h1, xbi_s]
      by_cases h3 : zt μ c = d
      · rw [if_pos h3, if_pos h3]
        exact P_b69 he hi hn hr hc0 h1 hK
      · rw [if_neg h3, if_neg h3]
        unfold yDi_beginOfTermAt
        have ib := inc_i (n := (μ.2.1 28 5)) (by omega)
        have fin : ∀ v : Int32, Pv g h (n + 307) (xbv (yC_replyAppended a (0 : Int32) v f μ) (fun m10 => some (.inl none, m10))) (xbv (yM_reply a (6 : Int32) (0 : Int32) v f ν) (fun m11 => some (.inl none, m11))) := fun v => ((P_rep6 he hi (by omega) a 0 v f).tail).mono (by omega)
        by_cases h4 : c = (μ.2.1 28 5)
        · rw [if_pos (show c < (μ.2.1 28 5) + 1 by rw [Int32.lt_iff_toInt_lt, h4]; omega)]
          have e1 : (c - 1).toInt = c.toInt - 1 := by rw [i32_sub (by rw [il_1]; omega) (by rw [il_1]; omega), il_1]
          have k1 : yDi_beginOfTermAt_b11_L 1000 c ((μ.2.1 28 5) + 1) μ = some (.inl (some (.int ((μ.2.1 28 5) + 1))), μ) := by
            unfold yDi_beginOfTermAt_b11_L yDi_beginOfTermAt_b11
            rw [if_pos (Int32.le_refl _)]
          have k2 : yM_append_b171_L 1000 a c f c ν = yM_append_b204 a c f c ν := by
            unfold yM_append_b171_L yM_append_b171
            rw [he.base, if_pos (show c - 1 ≤ (μ.2.1 28 5) by rw [Int32.le_iff_toInt_le, e1, h4]; omega)]
          rw [k1, k2, xbi_s]
          unfold yM_append_b204
          rw [he.base, if_neg (not_not_intro h4)]
          exact fin _
        · have h5 : (μ.2.1 28 5).toInt < c.toInt := by
            rcases Int.lt_or_eq_of_le (show (μ.2.1 28 5).toInt ≤ c.toInt by omega) with q | q
            · exact q
            · exact absurd (inj_i q.symm) h4
          rw [if_neg (show ¬ c < (μ.2.1 28 5) + 1 by rw [Int32.lt_iff_toInt_lt]; omega)]
          obtain ⟨v, k1, k2⟩ := beg_loop he hb (a := a) (f := f) h1 (by omega) (c.toInt - (μ.2.1 28 5).toInt - 1).toNat 1000 c (by omega) (Int.le_refl _) (by omega)
          rw [k1, k2, xbi_s]
          unfold yM_append_b204
          rw [he.base, if_pos h4]
          exact fin _
  · rw [if_neg h1, if_neg h1]
    exact ((P_rep6 he hi (by omega) a 0 ((μ.2.1 28 9) + 1) f).tail).mono (by omega)
theorem B_append {g h μ ν : XMu} {n : Nat} (he : RE g h μ ν) (hi : RI n μ) (hn : n + 308 ≤ 1000000) (a b c d e f K : Int32) (hb : nok b) (hc : nok c) (hK : 0 ≤ K.toInt ∧ K.toInt ≤ 6) : Pv g h (n + 308) (xbv (yC_yieldTo b μ) (fun m11 => (if (m11.2.1 28 3) ≤ b then (if (m11.2.1 0 9) = (3 : Int32) then some (.inl none, m11) else xbv (yC_follow a m11) (fun m12 => xbv (yC_takeAppend a c d K e f m12) (fun m13 => some (.inl none, m13)))) else xbv (yC_replyAppended a (0 : Int32) (0 : Int32) f m11) (fun m14 => some (.inl none, m14))))) (xbi (yM_followed a b (6 : Int32) (0 : Int32) f ν) (fun r6 m5 => (if ¬ r6 = (0 : Int32) then (if c ≤ (m5.2.1 32 10) then (if c < (m5.2.1 32 9) then yM_append_b236  a c e f K m5 else xbi (yM_termAt c m5) (fun r10 m9 => (if r10 = d then yM_append_b236  a c e f K m9 else yM_append_b171_L  1000 a c f c m9))) else xbv (yM_reply a (6 : Int32) (0 : Int32) ((m5.2.1 32 10) + (1 : Int32)) f m5) (fun m17 => some (.inl none, m17))) else some (.inl none, m5)))) := by
  obtain ⟨μ1, ν1, y1, he1, hi1, htb, hcs⟩ := P_followed he hi hb a 6 0 f
  rw [y1, xbv_s]
  rcases hcs with ⟨c1, c2, c3⟩ | ⟨c1, c2, μ2, ν2, c3, c4, he2, hi2, hr⟩ | ⟨c1, c3⟩
  · rw [if_pos c1, if_pos c2, c3, xbi_s, if_neg (not_not_intro rfl)]
    exact Pv.ret he1 (hi1.mono (by omega))
  · rw [if_pos c1, if_neg c2, c3, c4, xbv_s, xbi_s, if_pos (show ¬ (1 : Int32) = 0 by decide)]
    exact (P_takeAppend he2 hi2 (by omega) (by rw [hr]; decide) hc.1 hK).tailC.mono (by omega)
  · rw [if_neg c1, c3]
    have p := P_rep6 he1 hi1 (by omega) a 0 0 f
    obtain ⟨μ', ν', p1, p2, p3, p4⟩ := p
    rw [p1, p2, xbv_s, xbv_s, xbi_s, if_neg (not_not_intro rfl)]
    exact Pv.ret p3 (p4.mono (by omega))
theorem Qa_append {g h μ ν : XMu} {n : Nat} (he : RE g h μ ν) (hi : RI n μ) (hn : n + 1500 ≤ 1000000) (ht : μ.1 < 1024) (a b c d e f K : Int32) (hK : 0 ≤ K.toInt ∧ K.toInt ≤ 6) : Pub g h (n + 1500) El (xbv (yC_checkSender a μ) (fun m3 => xbv (yC_checkNumber b m3) (fun m4 => xbv (yC_checkNumber c m4) (fun m5 => xbv (yC_checkNumber d m5) (fun m6 => xbv (yC_checkNumber e m6) (fun m7 => xbv (yC_checkNumber f m7) (fun m8 => xbi (yTo_termsRise K d b m8) (fun r10 m9 => (if ¬ r10 = (0 : Int32) then xbv (yC_yieldTo b m9) (fun m11 => (if (m11.2.1 28 3) ≤ b then (if (m11.2.1 0 9) = (3 : Int32) then some (.inl none, m11) else xbv (yC_follow a m11) (fun m12 => xbv (yC_takeAppend a c d K e f m12) (fun m13 => some (.inl none, m13)))) else xbv (yC_replyAppended a (0 : Int32) (0 : Int32) f m11) (fun m14 => some (.inl none, m14)))) else xgd (Nat.blt m9.1 1024) (some (.inr 0, (m9.1 + 1, m9.2.1, m9.2.2)))))))))))) (xbi (yM_bad a b c d e (zh ν 0)) (fun r2 m1 => (if ¬ r2 = (0 : Int32) then some (.inl none, m1) else xbi (yM_bad a f (0 : Int32) (0 : Int32) (0 : Int32) m1) (fun r4 m3 => (if r4 = (0 : Int32) then yM_append_b51_L  1000 a b c d e f K d (0 : Int32) m3 else some (.inl none, m3)))))) := by
  by_cases hs : sok a (μ.2.1 0 0)
  · rw [c_sen_1 hs, xbv_s]
    by_cases h_b : nok b
    · rw [c_num_1 h_b, xbv_s]
      by_cases h_c : nok c
      · rw [c_num_1 h_c, xbv_s]
        by_cases h_d : nok d
        · rw [c_num_1 h_d, xbv_s]
          by_cases h_e : nok e
          · rw [c_num_1 h_e, xbv_s]
            by_cases h_f : nok f
            · rw [c_num_1 h_f, xbv_s, bad_0 (by show sok _ (ν.2.1 32 1); rw [he.itself]; exact hs) h_b h_c h_d h_e rfl, xbi_s, if_neg (not_not_intro rfl), bad_0 (by show sok _ (ν.2.1 32 1); rw [he.itself]; exact hs) h_f nok_0 nok_0 nok_0 rfl, xbi_s, if_pos rfl]
              unfold yTo_termsRise
              rcases rise_loop he (a := a) (b := b) (c := c) (d := d) (e := e) (f := f) hK.2 K.toInt.toNat 1000 d 0 (by decide) (by rw [il_0]; omega) (by omega) with ⟨q1, q2⟩ | ⟨q1, q2⟩
              · rw [q1, q2, xbi_s, if_neg (not_not_intro rfl), xgd_t (blt_t ht)]
                exact Pub.thr he hi (by omega) (Or.inr ⟨rfl, rfl⟩)
              · rw [q1, q2, xbi_s, if_pos (show ¬ (1 : Int32) = 0 by decide)]
                unfold yM_append_b101
                rw [if_neg (show ¬ (0 : Int32) < (zh ν 0).2.1 32 0 from (by decide : ¬ (0 : Int32) < 0))]
                exact Pub.ofPv (B_append (RE_zh he 0) hi (by omega) a b c d e f K h_b h_c hK) (by omega)
            · rw [bad_0 (by show sok _ (ν.2.1 32 1); rw [he.itself]; exact hs) h_b h_c h_d h_e rfl, xbi_s, if_neg (not_not_intro rfl)]
              exact Thr_n he hi (by omega) ht hs h_f (fun k => h_f k.1) (Or.inr ⟨rfl, rfl⟩) isV (fun m => if_neg (by decide))
          · exact Thr_n he hi (by omega) ht hs h_e (fun k => h_e k.2.2.2) (Or.inr ⟨rfl, rfl⟩) isV (fun m => if_pos (by decide))
        · exact Thr_n he hi (by omega) ht hs h_d (fun k => h_d k.2.2.1) (Or.inr ⟨rfl, rfl⟩) isV (fun m => if_pos (by decide))
      · exact Thr_n he hi (by omega) ht hs h_c (fun k => h_c k.2.1) (Or.inr ⟨rfl, rfl⟩) isV (fun m => if_pos (by decide))
    · exact Thr_n he hi (by omega) ht hs h_b (fun k => h_b k.1) (Or.inr ⟨rfl, rfl⟩) isV (fun m => if_pos (by decide))
  · exact Thr_s he hi (by omega) ht hs (Or.inl ⟨rfl, rfl⟩) isV (fun m => if_pos (by decide))
theorem Q_append {g h μ ν : XMu} {n : Nat} (he : RE g h μ ν) (hi : RI n μ) (hn : n + 1500 ≤ 1000000) (ht : μ.1 < 1024) (a b c d e f : Int32) : Pub g h (n + 1500) El (yC_append a b c d e f μ) (yM_append a b c d e f ν) := by
  unfold yC_append yM_append yTo_takeCount
  rw [xbi_s, he.told, xu_comm (by omega)]
  exact Qa_append (μ := (μ.1, xuI μ.2.1 7 3 0, μ.2.2)) (ν := (ν.1, xuI ν.2.1 32 42 0, ν.2.2)) ((RE.mk (ft := he.ft) (fg := fun c hc => by first | exact he.fg c hc | (have hh := he.fg c hc; (try unfold zq at hh); (try unfold zd at hh); (try unfold zf at hh); (try unfold zo at hh); (try unfold zo); (try unfold zh at hh); (try unfold zh); (try unfold zq); (try unfold zd); (try unfold zf); (try dsimp only at hh); (try dsimp only); (repeat (first | rw [xuI_o (by omega)] at hh | rw [xuL_o (by omega)] at hh | rw [va_up_o (by omega)] at hh)); (repeat (first | rw [xuI_o (by omega)] | rw [xuL_o (by omega)] | rw [va_up_o (by omega)])); exact hh)) (fgl := fun c hc => by first | exact he.fgl c hc | (have hh := he.fgl c hc; (try unfold zq at hh); (try unfold zd at hh); (try unfold zf at hh); (try unfold zo at hh); (try unfold zo); (try unfold zh at hh); (try unfold zh); (try unfold zq); (try unfold zd); (try unfold zf); (try dsimp only at hh); (try dsimp only); (repeat (first | rw [xuI_o (by omega)] at hh | rw [xuL_o (by omega)] at hh | rw [va_up_o (by omega)] at hh)); (repeat (first | rw [xuI_o (by omega)] | rw [xuL_o (by omega)] | rw [va_up_o (by omega)])); exact hh)) (ht := he.ht) (hg := fun c hc => by first | exact he.hg c hc | (have hh := he.hg c hc; (try unfold zq at hh); (try unfold zd at hh); (try unfold zf at hh); (try unfold zo at hh); (try unfold zo); (try unfold zh at hh); (try unfold zh); (try unfold zq); (try unfold zd); (try unfold zf); (try dsimp only at hh); (try dsimp only); (repeat (first | rw [xuI_o (by omega)] at hh | rw [xuL_o (by omega)] at hh | rw [va_up_o (by omega)] at hh)); (repeat (first | rw [xuI_o (by omega)] | rw [xuL_o (by omega)] | rw [va_up_o (by omega)])); exact hh)) (hgl := fun c hc => by first | exact he.hgl c hc | (have hh := he.hgl c hc; (try unfold zq at hh); (try unfold zd at hh); (try unfold zf at hh); (try unfold zo at hh); (try unfold zo); (try unfold zh at hh); (try unfold zh); (try unfold zq); (try unfold zd); (try unfold zf); (try dsimp only at hh); (try dsimp only); (repeat (first | rw [xuI_o (by omega)] at hh | rw [xuL_o (by omega)] at hh | rw [va_up_o (by omega)] at hh)); (repeat (first | rw [xuI_o (by omega)] | rw [xuL_o (by omega)] | rw [va_up_o (by omega)])); exact hh)) (thr := he.thr) (row := he.row) (itself := he.itself) (now := he.now) (term := he.term) (voted := he.voted) (base := he.base) (last := he.last) (baseTerm := he.baseTerm) (baseCode := he.baseCode) (snapshot := he.snapshot) (dirty := he.dirty) (role := he.role) (leader := he.leader) (commit := he.commit) (applied := he.applied) (synced := he.synced) (heard := he.heard) (alarm := he.alarm) (votes := he.votes) (handing := he.handing) (handed := he.handed) (first := he.first) (round := he.round) (assembly := he.assembly) (described := he.described) (toldBase := he.toldBase) (toldTerm := he.toldTerm) (toldCode := he.toldCode) (toldSize := he.toldSize) (told := rfl) (waits := he.waits) (went := he.went) (done := he.done) (calls := he.calls) (next := he.next) (mtch := he.mtch) (flying := he.flying) (offset := he.offset) (ack := he.ack) (seen := he.seen) (probing := he.probing) (answered := he.answered) (toldTerms := he.toldTerms) (toldKinds := he.toldKinds) (toldValues := he.toldValues) (doneNumbers := he.doneNumbers) (doneValues := he.doneValues) (callState := he.callState) (callNumber := he.callNumber) (got := he.got) (log := he.log) (kept := he.kept) (wait := he.wait) (cls := he.cls))) ((RI.mk (itself := hi.itself) (role := hi.role) (base := hi.base) (ba := hi.ba) (ac := hi.ac) (cl := hi.cl) (lb := hi.lb) (last := hi.last) (syn := hi.syn) (dirty := hi.dirty) (desc := hi.desc) (now := hi.now) (term := hi.term) (went := hi.went) (waits := hi.waits) (done := hi.done) (calls := hi.calls) (told := ⟨by show 0 ≤ (0 : Int32).toInt; decide, by show (0 : Int32).toInt ≤ 6; decide⟩) (round := hi.round) (hand := hi.hand) (heard := hi.heard) (vote := hi.vote) (lead := hi.lead) (quiet := hi.quiet) (cmd := hi.cmd) (tt := hi.tt) (tb := hi.tb) (got := hi.got) (mem := hi.mem))) hn ht a b c d e f (μ.2.1 7 3) hi.told
def zU (V : Nat → Nat → Int32) (μ : XMu) : XMu := (μ.1, fun c => bif Nat.ble 20 c && Nat.ble c 24 then V c else μ.2.1 c, μ.2.2)
def fU (V : Nat → Nat → Int32) (e : XRes) : XRes := match e with
  | some (o, μ) => some (o, zU V μ)
  | none => none
theorem fU_s {V : Nat → Nat → Int32} {o : XO} {μ : XMu} : fU V (some (o, μ)) = some (o, zU V μ) := rfl
theorem fU_v {V : Nat → Nat → Int32} {e : XRes} {K : XMu → XRes} : fU V (xbv e K) = xbv e (fun m => fU V (K m)) ∨ ∃ k μ, e = some (.inr k, μ) := by
  match e with
  | none => exact Or.inl rfl
  | some (.inl none, μ) => exact Or.inl rfl
  | some (.inl (some v), μ) => exact Or.inl rfl
  | some (.inr k, μ) => exact Or.inr ⟨k, μ, rfl⟩
theorem xbv_U {V : Nat → Nat → Int32} {e : XRes} {K K' : XMu → XRes} (h : ∀ m, K' (zU V m) = fU V (K m)) : xbv (fU V e) K' = fU V (xbv e K) := by
  match e with
  | none => rfl
  | some (.inl none, μ) => exact h μ
  | some (.inl (some v), μ) => rfl
  | some (.inr k, μ) => rfl
theorem xbi_U {V : Nat → Nat → Int32} {e : XRes} {K K' : Int32 → XMu → XRes} (h : ∀ v m, K' v (zU V m) = fU V (K v m)) : xbi (fU V e) K' = fU V (xbi e K) := by
  match e with
  | none => rfl
  | some (.inl none, μ) => rfl
  | some (.inl (some (.int v)), μ) => exact h v μ
  | some (.inl (some (.ref v)), μ) => rfl
  | some (.inl (some .null), μ) => rfl
  | some (.inl (some (.long v)), μ) => rfl
  | some (.inl (some (.float v)), μ) => rfl
  | some (.inl (some (.double v)), μ) => rfl
  | some (.inl (some (.retAddr v)), μ) => rfl
  | some (.inr k, μ) => rfl
theorem xgd_U {V : Nat → Nat → Int32} {b : Bool} {e e' : XRes} (h : e' = fU V e) : xgd b e' = fU V (xgd b e) := by
  cases b
  · rfl
  · exact h
theorem ite_U {V : Nat → Nat → Int32} {P : Prop} [Decidable P] {a a' b b' : XRes} (h : a' = fU V a) (k : b' = fU V b) : (if P then a' else b') = fU V (if P then a else b) := by
  split
  · exact h
  · exact k
theorem zU_x {V : Nat → Nat → Int32} {M : Nat → Nat → Int32} {k j : Nat} {v : Int32} (hk : (Nat.ble 20 k && Nat.ble k 24) = false) : xuI (fun c => bif Nat.ble 20 c && Nat.ble c 24 then V c else M c) k j v = fun c => bif Nat.ble 20 c && Nat.ble c 24 then V c else xuI M k j v c := by
  funext c
  unfold xuI va_up
  by_cases h : c = k
  · subst h
    rw [if_pos rfl, if_pos rfl]
    show upd (bif Nat.ble 20 c && Nat.ble c 24 then V c else M c) j v = _
    rw [hk]; rfl
  · rw [if_neg h, if_neg h]
theorem zU_v {V : Nat → Nat → Int32} {M : Nat → Nat → Int32} {k : Nat} {F : Nat → Int32} (hk : (Nat.ble 20 k && Nat.ble k 24) = false) : va_up (fun c => bif Nat.ble 20 c && Nat.ble c 24 then V c else M c) k F = fun c => bif Nat.ble 20 c && Nat.ble c 24 then V c else va_up M k F c := by
  funext c
  unfold va_up
  by_cases h : c = k
  · subst h
    rw [if_pos rfl, if_pos rfl, hk]; rfl
  · rw [if_neg h, if_neg h]
theorem add_U {V : Nat → Nat → Int32} (a : Int32) (μ : XMu) : yMa_add a (zU V μ) = fU V (yMa_add a μ) := by
  unfold yMa_add
  refine ite_U (P := (26 : Int32) ≤ μ.2.1 1 1) rfl (xgd_U ?_)
  show (some (.inl none, (μ.1, xuI (xuI (fun c => bif Nat.ble 20 c && Nat.ble c 24 then V c else μ.2.1 c) 2 _ a) 1 1 _, μ.2.2)) : XRes) = _
  rw [zU_x rfl, zU_x rfl]
  rfl
theorem begin_U {V : Nat → Nat → Int32} (a b c : Int32) (μ : XMu) : yMa_begin a b c (zU V μ) = fU V (yMa_begin a b c μ) := by
  unfold yMa_begin
  have e : ((zU V μ).1, xuI (zU V μ).2.1 1 1 0, (zU V μ).2.2) = zU V (μ.1, xuI μ.2.1 1 1 0, μ.2.2) := by
    unfold zU
    dsimp only
    rw [zU_x rfl]
  rw [e, add_U]
  refine xbv_U fun m1 => ?_
  rw [add_U]
  refine xbv_U fun m2 => ?_
  rw [add_U]
  exact xbv_U fun m3 => rfl
theorem post_U {V : Nat → Nat → Int32} (a : Int32) (μ : XMu) : yMa_post a (zU V μ) = fU V (yMa_post a μ) := by
  unfold yMa_post
  refine ite_U (ite_U (P := (200 : Int32) ≤ μ.2.1 1 4) rfl (xgd_U (xgd_U ?_))) (xgd_U (xgd_U ?_))
  · show (some (.inl none, (μ.1, xuI (xuI (va_up (fun c => bif Nat.ble 20 c && Nat.ble c 24 then V c else μ.2.1 c) 3 _) 4 _ _) 1 4 _, μ.2.2)) : XRes) = _
    rw [zU_v rfl, zU_x rfl, zU_x rfl]
    rfl
  · show (some (.inl none, (μ.1, xuI (xuI (va_up (fun c => bif Nat.ble 20 c && Nat.ble c 24 then V c else μ.2.1 c) 5 _) 6 _ _) 1 7 _, μ.2.2)) : XRes) = _
    rw [zU_v rfl, zU_x rfl, zU_x rfl]
    rfl
theorem term_U {V : Nat → Nat → Int32} (a : Int32) (μ : XMu) : yDi_termAt a (zU V μ) = fU V (yDi_termAt a μ) := by
  unfold yDi_termAt
  exact ite_U (P := ¬ a = μ.2.1 28 5) (ite_U (P := yDi_holds a μ = 0) rfl (xgd_U rfl)) rfl
theorem kind_U {V : Nat → Nat → Int32} (a : Int32) (μ : XMu) : yDi_kindAt a (zU V μ) = fU V (yDi_kindAt a μ) := by
  unfold yDi_kindAt
  exact ite_U (P := yDi_holds a μ = 0) rfl (xgd_U rfl)
theorem value_U {V : Nat → Nat → Int32} (a : Int32) (μ : XMu) : yDi_valueAt a (zU V μ) = fU V (yDi_valueAt a μ) := by
  unfold yDi_valueAt
  exact ite_U (P := yDi_holds a μ = 0) rfl (xgd_U rfl)
theorem sp_U {V : Nat → Nat → Int32} (a : Int32) (μ : XMu) : yC_sendPiece a (zU V μ) = fU V (yC_sendPiece a μ) := by
  unfold yC_sendPiece
  refine xgd_U (xgd_U ?_)
  have e : ((zU V μ).1, xuI (zU V μ).2.1 14 a.toNatClampNeg 1, (zU V μ).2.2) = zU V (μ.1, xuI μ.2.1 14 a.toNatClampNeg 1, μ.2.2) := by
    unfold zU
    dsimp only
    rw [zU_x rfl]
  rw [e, begin_U]
  refine xbv_U fun m1 => ?_
  rw [add_U]
  refine xbv_U fun m2 => ?_
  rw [add_U]
  refine xbv_U fun m3 => ?_
  rw [add_U]
  refine xbv_U fun m4 => ?_
  rw [add_U]
  refine xbv_U fun m5 => ?_
  rw [add_U]
  refine xbv_U fun m6 => ?_
  rw [add_U]
  refine xbv_U fun m7 => ?_
  rw [add_U]
  refine xbv_U fun m8 => ?_
  rw [post_U]
  exact xbv_U fun m9 => rfl
theorem b155_U {V : Nat → Nat → Int32} (a b c : Int32) (μ : XMu) : yC_sendAppend_b155 a b c (zU V μ) = fU V (yC_sendAppend_b155 a b c μ) := by
  unfold yC_sendAppend_b155
  rw [post_U]
  refine xbv_U fun m => xgd_U ?_
  show (some (.inl none, (m.1, xuI (fun c => bif Nat.ble 20 c && Nat.ble c 24 then V c else m.2.1 c) 12 _ _, m.2.2)) : XRes) = _
  rw [zU_x rfl]
  rfl
theorem b89_U {V : Nat → Nat → Int32} : ∀ (f : Nat) (a b c d : Int32) (μ : XMu), yC_sendAppend_b89_L f a b c d (zU V μ) = fU V (yC_sendAppend_b89_L f a b c d μ) := by
  intro f
  induction f with
  | zero => intro a b c d μ; rfl
  | succ f ih =>
    intro a b c d μ
    unfold yC_sendAppend_b89_L yC_sendAppend_b89
    refine ite_U (b155_U a b c μ) ?_
    rw [term_U]
    refine xbi_U fun v1 m1 => ?_
    rw [add_U]
    refine xbv_U fun m2 => ?_
    rw [kind_U]
    refine xbi_U fun v3 m3 => ?_
    rw [add_U]
    refine xbv_U fun m4 => ?_
    rw [value_U]
    refine xbi_U fun v5 m5 => ?_
    rw [add_U]
    exact xbv_U fun m6 => ih _ _ _ _ _
theorem sa_U {V : Nat → Nat → Int32} (a b : Int32) (μ : XMu) : yC_sendAppend a b (zU V μ) = fU V (yC_sendAppend a b μ) := by
  unfold yC_sendAppend
  refine xgd_U ?_
  rw [begin_U]
  refine xbv_U fun m1 => ?_
  rw [add_U]
  refine xbv_U fun m2 => ?_
  rw [term_U]
  refine xbi_U fun v3 m3 => ?_
  rw [add_U]
  refine xbv_U fun m4 => ?_
  rw [add_U]
  refine xbv_U fun m5 => ?_
  rw [add_U]
  refine xbv_U fun m6 => ?_
  rw [add_U]
  exact xbv_U fun m7 => b89_U _ _ _ _ _ _
theorem b153_U {V : Nat → Nat → Int32} (a b c : Int32) (μ : XMu) : yC_sendTo_b153 a b c (zU V μ) = fU V (yC_sendTo_b153 a b c μ) := by
  unfold yC_sendTo_b153
  refine ite_U rfl (ite_U rfl ?_)
  rw [sa_U]
  exact xbv_U fun m => rfl
theorem b61_U {V : Nat → Nat → Int32} : ∀ (f : Nat) (a b c d e : Int32) (μ : XMu), yC_sendTo_b61_L f a b c d e (zU V μ) = fU V (yC_sendTo_b61_L f a b c d e μ) := by
  intro f
  induction f with
  | zero => intro a b c d e μ; rfl
  | succ f ih =>
    intro a b c d e μ
    unfold yC_sendTo_b61_L yC_sendTo_b61 yC_sendTo_b99
    refine ite_U (b153_U a b d μ) (xgd_U (ite_U (P := (μ.2.1 28 9) < (μ.2.1 12) a.toNatClampNeg) (b153_U a b d μ) (xgd_U (ite_U (P := (μ.2.1 14) a.toNatClampNeg < c) (xgd_U (xgd_U (xgd_U ?_))) (b153_U a b d μ)))))
    have e : ((zU V μ).1, xuI (zU V μ).2.1 14 a.toNatClampNeg ((zU V μ).2.1 14 a.toNatClampNeg + 1), (zU V μ).2.2) = zU V (μ.1, xuI μ.2.1 14 a.toNatClampNeg ((μ.2.1 14) a.toNatClampNeg + 1), μ.2.2) := by
      show (μ.1, xuI (fun c => bif Nat.ble 20 c && Nat.ble c 24 then V c else μ.2.1 c) 14 a.toNatClampNeg ((μ.2.1 14) a.toNatClampNeg + 1), μ.2.2) = _
      rw [zU_x rfl]
      rfl
    rw [e, sa_U]
    exact xbv_U fun m => ih _ _ _ _ _ _
theorem st_U {V : Nat → Nat → Int32} (a b : Int32) (μ : XMu) : yC_sendTo a b (zU V μ) = fU V (yC_sendTo a b μ) := by
  unfold yC_sendTo
  refine xgd_U (ite_U (P := (μ.2.1 28 5) < (μ.2.1 12) a.toNatClampNeg) (xgd_U (ite_U (P := (μ.2.1 15) a.toNatClampNeg = 0) (b61_U _ _ _ _ _ _ _) (b61_U _ _ _ _ _ _ _))) (xgd_U (ite_U (P := ¬ (μ.2.1 14) a.toNatClampNeg = 0) rfl ?_)))
  rw [sp_U]
  exact xbv_U fun m => rfl
theorem b7_U {V : Nat → Nat → Int32} : ∀ (f : Nat) (a b c : Int32) (μ : XMu), yC_sendToPeers_b7_L f a b c (zU V μ) = fU V (yC_sendToPeers_b7_L f a b c μ) := by
  intro f
  induction f with
  | zero => intro a b c μ; rfl
  | succ f ih =>
    intro a b c μ
    unfold yC_sendToPeers_b7_L yC_sendToPeers_b7
    refine ite_U rfl (ite_U (ih _ _ _ _) ?_)
    rw [st_U]
    exact xbv_U fun m => ih _ _ _ _
theorem peers_U {V : Nat → Nat → Int32} (a : Int32) (μ : XMu) : yC_sendToPeers a (zU V μ) = fU V (yC_sendToPeers a μ) := b7_U 1000 a _ 0 μ
theorem Q_command {g h μ ν : XMu} {n : Nat} (he : RE g h μ ν) (hi : RI n μ) (hn : n + 1500 ≤ 1000000) (a : Int32) : Pub g h (n + 1500) En (yC_command a μ) (yM_command a ν) := by
  have he0 := RE_zh he 0
  unfold yC_command yM_command yC_takesEntries
  rw [zh_x, he.role, he.handing, he.last, he.base, he.term]
  have r0 : Pub g h (n + 1500) En (some (.inl (some (.int (-1))), μ)) (some (.inl (some (.int (-1))), zh ν 0)) := Pub.i he0 hi (by omega)
  generalize zh ν 0 = N at he0 r0 ⊢
  have hb := hi.LB (by omega)
  obtain ⟨b1, b2, b3, b4⟩ := id hb
  have e2 : ((μ.2.1 28 9) - (μ.2.1 28 5)).toInt = (μ.2.1 28 9).toInt - (μ.2.1 28 5).toInt := i32_sub (by omega) (by omega)
  by_cases h1 : (μ.2.1 0 9) = 3
  · rw [if_neg (not_not_intro h1), if_neg (not_not_intro h1)]
    by_cases h2 : (μ.2.1 0 16) = -1
    · rw [if_neg (not_not_intro h2), if_neg (fun k => (hand_lt hi).mpr k h2)]
      by_cases h3 : (200 : Int32) ≤ (μ.2.1 28 9) - (μ.2.1 28 5)
      · rw [if_pos h3, if_neg (not_not_intro rfl), if_neg (by rw [Int32.le_iff_toInt_le] at h3; rw [Int32.lt_iff_toInt_lt]; omega)]
        exact r0
      · rw [if_neg h3, if_pos (show ¬ (1 : Int32) = 0 by decide)]
        rw [Int32.le_iff_toInt_le, il_200] at h3
        rw [if_pos (show (μ.2.1 28 9) - (μ.2.1 28 5) < 200 by rw [Int32.lt_iff_toInt_lt, il_200]; omega)]
        obtain ⟨μ1, ν1, p1, p2, he1, hi1, hw⟩ := P_write he0 hi (by omega) (by omega) (μ.2.1 28 3) 2 a
        rw [p1, p2, xbv_s, xbv_s, he1.last]
        have hr1 : (μ1.2.1 0 9) = 3 := hw.1.trans h1
        have il := inc_i (n := (μ.2.1 28 9)) (by omega)
        have hap : (μ1.2.1 0 12).toInt < (μ1.2.1 28 9).toInt := by
          have k1 := hi1.ac
          have k2 := hi.cl
          rw [hw.2.2.2.2.2.1] at k1
          rw [hw.2.2.1]
          omega
        obtain ⟨v, μ2, ν2, o1, o2, he2, hi2⟩ := P_open he1 hi1 hr1 (by omega) 0 (μ1.2.1 28 9) (μ1.2.1 28 3) (-1) (Or.inl ⟨rfl, rfl, rfl, hap⟩)
        have sh : ∃ V, μ2 = zU V μ1 ∧ v = (μ1.2.1 20 4) ∧ ∀ m, (∀ c, 20 ≤ c → c ≤ 24 → m.2.1 c = μ1.2.1 c) → yCa_open 0 (μ1.2.1 28 9) (μ1.2.1 28 3) m = some (.inl (some (.int v)), zU V m) := by
          have hcl := hi1.calls
          have a1 : (yCa_slotOf (μ1.2.1 20 4)).toInt = (μ1.2.1 20 4).toInt % 32 := and31 hcl.1
          have xi := xin_of (i := yCa_slotOf (μ1.2.1 20 4)) (n := 32) (by omega) (by omega)
          have op : ∀ m, (∀ c, 20 ≤ c → c ≤ 24 → m.2.1 c = μ1.2.1 c) → yCa_open 0 (μ1.2.1 28 9) (μ1.2.1 28 3) m = some (.inl (some (.int (μ1.2.1 20 4))), zU (xuI (xuI (xuI (xuI (xuI μ1.2.1 21 (yCa_slotOf (μ1.2.1 20 4)).toNatClampNeg 0) 22 (yCa_slotOf (μ1.2.1 20 4)).toNatClampNeg (μ1.2.1 28 9)) 23 (yCa_slotOf (μ1.2.1 20 4)).toNatClampNeg (μ1.2.1 28 3)) 24 (yCa_slotOf (μ1.2.1 20 4)).toNatClampNeg 0) 20 4 ((μ1.2.1 20 4) + 1)) m) := by
            intro m hm
            unfold yCa_open
            rw [hm 20 (by omega) (by omega), xi]
            show (some (.inl (some (.int (μ1.2.1 20 4))), (m.1, _, m.2.2)) : XRes) = _
            have : (xuI (xuI (xuI (xuI (xuI m.2.1 21 (yCa_slotOf (μ1.2.1 20 4)).toNatClampNeg 0) 22 (yCa_slotOf (μ1.2.1 20 4)).toNatClampNeg (μ1.2.1 28 9)) 23 (yCa_slotOf (μ1.2.1 20 4)).toNatClampNeg (μ1.2.1 28 3)) 24 (yCa_slotOf (μ1.2.1 20 4)).toNatClampNeg 0) 20 4 ((μ1.2.1 20 4) + 1)) = fun c => bif Nat.ble 20 c && Nat.ble c 24 then (xuI (xuI (xuI (xuI (xuI μ1.2.1 21 (yCa_slotOf (μ1.2.1 20 4)).toNatClampNeg 0) 22 (yCa_slotOf (μ1.2.1 20 4)).toNatClampNeg (μ1.2.1 28 9)) 23 (yCa_slotOf (μ1.2.1 20 4)).toNatClampNeg (μ1.2.1 28 3)) 24 (yCa_slotOf (μ1.2.1 20 4)).toNatClampNeg 0) 20 4 ((μ1.2.1 20 4) + 1)) c else m.2.1 c := by
              funext c
              by_cases hc : 20 ≤ c ∧ c ≤ 24
              · have : (Nat.ble 20 c && Nat.ble c 24) = true := by rw [Nat.ble_eq_true_of_le hc.1, Nat.ble_eq_true_of_le hc.2]; rfl
                rw [this]
                unfold xuI va_up
                rw [hm 20 (by omega) (by omega), hm 21 (by omega) (by omega), hm 22 (by omega) (by omega), hm 23 (by omega) (by omega), hm 24 (by omega) (by omega), hm c hc.1 hc.2]
                rfl
              · have : (Nat.ble 20 c && Nat.ble c 24) = false := by
                  cases k1 : Nat.ble 20 c with
                  | false => rfl
                  | true =>
                    cases k2 : Nat.ble c 24 with
                    | false => rfl
                    | true => exact absurd ⟨Nat.le_of_ble_eq_true k1, Nat.le_of_ble_eq_true k2⟩ hc
                rw [this, xuI_o (by omega), xuI_o (by omega), xuI_o (by omega), xuI_o (by omega), xuI_o (by omega)]
                rfl
            unfold zU
            rw [← this]
          have o := op μ1 (fun _ _ _ => rfl)
          rw [o] at o1
          cases o1
          exact ⟨_, rfl, rfl, op⟩
        obtain ⟨V, s1, s2, s3⟩ := sh
        have hr2 : (μ2.2.1 0 9) = 3 := by rw [s1]; exact hr1
        obtain ⟨μ3, ν3, q1, q2, he3, hi3, _⟩ := P_sendAll he2 hi2 hr2 (by omega) 0
        obtain ⟨μ4, ν4, t1, t2, he4, hi4, hk⟩ := P_sendAll he1 hi1 hr1 (by omega) 0
        have hf : ∀ c, 20 ≤ c → c ≤ 24 → μ4.2.1 c = μ1.2.1 c := by
          have z1 : zU μ1.2.1 μ1 = μ1 := by
            unfold zU
            have : (fun c => bif Nat.ble 20 c && Nat.ble c 24 then μ1.2.1 c else μ1.2.1 c) = μ1.2.1 := funext fun c => by
              cases (Nat.ble 20 c && Nat.ble c 24) <;> rfl
            rw [this]
          have z2 := peers_U (V := μ1.2.1) 0 μ1
          rw [z1, t1, fU_s] at z2
          have z3 : μ4 = zU μ1.2.1 μ4 := by
            have := Option.some.inj z2
            exact congrArg Prod.snd this
          intro c c1 c2
          rw [z3]
          show (bif Nat.ble 20 c && Nat.ble c 24 then μ1.2.1 c else μ4.2.1 c) = _
          rw [Nat.ble_eq_true_of_le c1, Nat.ble_eq_true_of_le c2]
          rfl
        rw [s1, peers_U, t1, fU_s] at q1
        have q1' : zU V μ4 = μ3 := congrArg Prod.snd (Option.some.inj q1)
        rw [t1, xbv_s, o2, xbi_s, q2, xbv_s, hk.2.2.2.2.1, hk.2.2.2.2.2.2, s3 μ4 hf, xbi_s, q1']
        exact Pub.i he3 hi3 (by omega)
    · rw [if_pos h2, if_neg (not_not_intro rfl), if_pos ((hand_lt hi).mp h2)]
      exact r0
  · rw [if_pos h1, if_neg (not_not_intro rfl), if_pos h1]
    exact r0
