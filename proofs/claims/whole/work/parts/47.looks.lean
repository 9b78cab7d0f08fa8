theorem rem_64 {w : Int32} (h : 0 ≤ w.toInt) : w - w / (64 : Int32) * (64 : Int32) = w &&& 63 := inj_i (by rw [and63 h, i32_rem h (by rw [il_64]; omega), il_64])
theorem rem_32 {w : Int32} (h : 0 ≤ w.toInt) : w - w / (32 : Int32) * (32 : Int32) = w &&& 31 := inj_i (by rw [and31 h, i32_rem h (by rw [il_32]; omega), il_32])
theorem fail_s {ν : XMu} {c : Int32} : xbi (yM_fail c (zh ν 0)) (fun r m => some (.inl (some (.int r)), m)) = some (.inl (some (.int 0)), zh ν c) := by
  unfold yM_fail
  rw [xbi_s, zh_x, zh_zh]
theorem Pub.e {g h μ ν : XMu} {n n' : Nat} {E : (Nat → Int32 → Prop) × (Option Value → Prop)} {a b : Int32} (q : b = a) (he : RE g (zh h 0) μ ν) (hi : RI n μ) (hn : n ≤ n') (hT : E.2 (some (.int a)) := by first | exact isV | exact isI _) : Pub g h n' E (some (.inl (some (.int a)), μ)) (some (.inl (some (.int b)), ν)) := by
  rw [q]; exact Pub.i he hi hn hT
theorem P_open {g h μ ν : XMu} {n : Nat} (he : RE g h μ ν) (hi : RI n μ) (hr : (μ.2.1 0 9) = 3) (hn : n + 1 ≤ 1000000) (fl t m r : Int32) (hc : (fl = 0 ∧ r = -1 ∧ m = (μ.2.1 28 3) ∧ (μ.2.1 0 12).toInt < t.toInt) ∨ (fl = 1 ∧ r = m ∧ ¬ m = -1)) : Pi g h (n + 1) (yCa_open fl t m μ) (yM_asked t r ν) := by
  have hcl := hi.calls
  have e := inc_i (n := (μ.2.1 20 4)) (by omega)
  have a1 : (yCa_slotOf (μ.2.1 20 4)).toInt = (μ.2.1 20 4).toInt % 32 := and31 hcl.1
  have t1 := tn_of (i := yCa_slotOf (μ.2.1 20 4)) (by omega)
  have xi := xin_of (i := yCa_slotOf (μ.2.1 20 4)) (n := 32) (by omega) (by omega)
  have hf : x01 fl = true := by
    rcases hc with q | q
    · rw [q.1]; rfl
    · rw [q.1]; rfl
  unfold yCa_open yM_asked
  rw [he.calls, rem_32 hcl.1, show (μ.2.1 20 4) &&& 31 = yCa_slotOf (μ.2.1 20 4) from rfl, xi, hf]
  rw [xgd_t (show (true && true) = true from rfl)]
  rw [show ∀ z : XRes, xgd true z = z from fun z => rfl, show ∀ z : XRes, xgd true z = z from fun z => rfl, show ∀ z : XRes, xgd true z = z from fun z => rfl, Int32.add_sub_cancel, he.term]
  have sp : ∀ j : Nat, j < 32 → (j : Int) < (μ.2.1 20 4).toInt + 1 → j ≠ (yCa_slotOf (μ.2.1 20 4)).toNatClampNeg → (j : Int) < (μ.2.1 20 4).toInt := fun j h1 h2 h3 => by omega
  refine Pi.ret ?_ ?_
  · refine (RE.mk (ft := he.ft) (fg := fun c hc => by first | exact he.fg c hc | (have hh := he.fg c hc; (try unfold zq at hh); (try unfold zd at hh); (try unfold zf at hh); (try unfold zo at hh); (try unfold zo); (try unfold zh at hh); (try unfold zh); (try unfold zq); (try unfold zd); (try unfold zf); (try dsimp only at hh); (try dsimp only); (repeat (first | rw [xuI_o (by omega)] at hh | rw [xuL_o (by omega)] at hh | rw [va_up_o (by omega)] at hh)); (repeat (first | rw [xuI_o (by omega)] | rw [xuL_o (by omega)] | rw [va_up_o (by omega)])); exact hh)) (fgl := fun c hc => by first | exact he.fgl c hc | (have hh := he.fgl c hc; (try unfold zq at hh); (try unfold zd at hh); (try unfold zf at hh); (try unfold zo at hh); (try unfold zo); (try unfold zh at hh); (try unfold zh); (try unfold zq); (try unfold zd); (try unfold zf); (try dsimp only at hh); (try dsimp only); (repeat (first | rw [xuI_o (by omega)] at hh | rw [xuL_o (by omega)] at hh | rw [va_up_o (by omega)] at hh)); (repeat (first | rw [xuI_o (by omega)] | rw [xuL_o (by omega)] | rw [va_up_o (by omega)])); exact hh)) (ht := he.ht) (hg := fun c hc => by first | exact he.hg c hc | (have hh := he.hg c hc; (try unfold zq at hh); (try unfold zd at hh); (try unfold zf at hh); (try unfold zo at hh); (try unfold zo); (try unfold zh at hh); (try unfold zh); (try unfold zq); (try unfold zd); (try unfold zf); (try dsimp only at hh); (try dsimp only); (repeat (first | rw [xuI_o (by omega)] at hh | rw [xuL_o (by omega)] at hh | rw [va_up_o (by omega)] at hh)); (repeat (first | rw [xuI_o (by omega)] | rw [xuL_o (by omega)] | rw [va_up_o (by omega)])); exact hh)) (hgl := fun c hc => by first | exact he.hgl c hc | (have hh := he.hgl c hc; (try unfold zq at hh); (try unfold zd at hh); (try unfold zf at hh); (try unfold zo at hh); (try unfold zo); (try unfold zh at hh); (try unfold zh); (try unfold zq); (try unfold zd); (try unfold zf); (try dsimp only at hh); (try dsimp only); (repeat (first | rw [xuI_o (by omega)] at hh | rw [xuL_o (by omega)] at hh | rw [va_up_o (by omega)] at hh)); (repeat (first | rw [xuI_o (by omega)] | rw [xuL_o (by omega)] | rw [va_up_o (by omega)])); exact hh)) (thr := he.thr) (row := he.row) (itself := he.itself) (now := he.now) (term := he.term) (voted := he.voted) (base := he.base) (last := he.last) (baseTerm := he.baseTerm) (baseCode := he.baseCode) (snapshot := he.snapshot) (dirty := he.dirty) (role := he.role) (leader := he.leader) (commit := he.commit) (applied := he.applied) (synced := he.synced) (heard := he.heard) (alarm := he.alarm) (votes := he.votes) (handing := he.handing) (handed := he.handed) (first := he.first) (round := he.round) (assembly := he.assembly) (described := he.described) (toldBase := he.toldBase) (toldTerm := he.toldTerm) (toldCode := he.toldCode) (toldSize := he.toldSize) (told := he.told) (waits := he.waits) (went := he.went) (done := he.done) (calls := rfl) (next := he.next) (mtch := he.mtch) (flying := he.flying) (offset := he.offset) (ack := he.ack) (seen := he.seen) (probing := he.probing) (answered := he.answered) (toldTerms := he.toldTerms) (toldKinds := he.toldKinds) (toldValues := he.toldValues) (doneNumbers := he.doneNumbers) (doneValues := he.doneValues) (callState := congrArg (fun F => upd F (yCa_slotOf (μ.2.1 20 4)).toNatClampNeg 0) he.callState) (callNumber := congrArg (fun F => upd F (yCa_slotOf (μ.2.1 20 4)).toNatClampNeg t) he.callNumber) (got := he.got) (log := he.log) (kept := he.kept) (wait := he.wait) (cls := fun j h1 h2 => ?_))
    have h2' : (j : Int) < ((μ.2.1 20 4) + 1).toInt := h2
    rw [e] at h2'
    show (upd (μ.2.1 21) _ fl j = 0 ∧ upd (ν.2.1 55) _ r j = -1 ∧ upd (ν.2.1 54) _ (μ.2.1 28 3) j = upd (μ.2.1 23) _ m j) ∨ (upd (μ.2.1 21) _ fl j = 1 ∧ upd (ν.2.1 55) _ r j = upd (μ.2.1 23) _ m j ∧ ¬ upd (μ.2.1 23) _ m j = -1)
    by_cases hj : j = (yCa_slotOf (μ.2.1 20 4)).toNatClampNeg
    · rw [hj, upd_s, upd_s, upd_s, upd_s]
      rcases hc with q | q
      · exact Or.inl ⟨q.1, q.2.1, q.2.2.1.symm⟩
      · exact Or.inr ⟨q.1, q.2.1, q.2.2⟩
    · rw [upd_o hj, upd_o hj, upd_o hj, upd_o hj]
      exact he.cls j h1 (sp j h1 h2' hj)
  · have hi1 := hi.mono (Nat.le_add_right n 1)
    refine (RI.mk (itself := hi1.itself) (role := hi1.role) (base := hi1.base) (ba := hi1.ba) (ac := hi1.ac) (cl := hi1.cl) (lb := hi1.lb) (last := hi1.last) (syn := hi1.syn) (dirty := hi1.dirty) (desc := hi1.desc) (now := hi1.now) (term := hi1.term) (went := hi1.went) (waits := hi1.waits) (done := hi1.done) (calls := ⟨by show 0 ≤ ((μ.2.1 20 4) + 1).toInt; omega, by show ((μ.2.1 20 4) + 1).toInt ≤ ((n + 1 : Nat) : Int); omega⟩) (told := hi1.told) (round := hi1.round) (hand := hi1.hand) (heard := hi1.heard) (vote := hi1.vote) (lead := hi1.lead) (quiet := fun k => absurd hr k) (cmd := fun j h1 h2 h3 h4 => ?_) (tt := hi1.tt) (tb := hi1.tb) (got := hi1.got) (mem := hi1.mem))
    have h2' : (j : Int) < ((μ.2.1 20 4) + 1).toInt := h2
    rw [e] at h2'
    have h3' : upd (μ.2.1 24) (yCa_slotOf (μ.2.1 20 4)).toNatClampNeg 0 j = 0 := h3
    have h4' : upd (μ.2.1 21) (yCa_slotOf (μ.2.1 20 4)).toNatClampNeg fl j = 0 := h4
    show (μ.2.1 0 12).toInt < (upd (μ.2.1 22) (yCa_slotOf (μ.2.1 20 4)).toNatClampNeg t j).toInt
    by_cases hj : j = (yCa_slotOf (μ.2.1 20 4)).toNatClampNeg
    · rw [hj, upd_s] at h4'
      rw [hj, upd_s]
      rcases hc with q | q
      · exact q.2.2.2
      · rw [q.1] at h4'; cases h4'
    · rw [upd_o hj] at h3' h4' ⊢
      exact hi.cmd j h1 (sp j h1 h2' hj) h3' h4'
theorem Q_read {g h μ ν : XMu} {n : Nat} (he : RE g h μ ν) (hi : RI n μ) (hn : n + 1500 ≤ 1000000) : Pub g h (n + 1500) En (yC_read μ) (yM_read ν) := by
  have he0 := RE_zh he 0
  unfold yC_read yM_read yC_read_b44
  rw [zh_x, he.role, he.handing, he.commit]
  have r0 : Pub g h (n + 1500) En (some (.inl (some (.int (-1))), μ)) (some (.inl (some (.int (-1))), zh ν 0)) := Pub.i he0 hi (by omega)
  generalize zh ν 0 = N at he0 r0 ⊢
  have hb := hi.LB (by omega)
  have b1 := hi.ba
  have b2 := hi.ac
  have b3 := hi.cl
  have hrd := hi.round
  by_cases h1 : (μ.2.1 0 9) = 3
  · rw [if_neg (not_not_intro h1), if_neg (not_not_intro h1)]
    by_cases h2 : (μ.2.1 0 16) = -1
    · rw [if_pos h2, if_pos (show (μ.2.1 0 16) < 0 by rw [h2]; decide), termAt_c hb (by omega) b3, termAt_m he0 hb (by omega) b3, xbi_s, xbi_s, he0.term, he0.first, he0.round, he0.commit]
      have e := inc_i (n := (μ.2.1 11 9)) (by omega)
      have ne : ¬ (μ.2.1 11 9) + 1 = -1 := fun k => by rw [k, il_m1] at e; omega
      have key : ∀ t : Int32, Pub g h (n + 1500) En (xbi (yCa_open (1 : Int32) t ((μ.2.1 11 9) + 1) μ) (fun r4 m3 => some (.inl (some (.int r4)), m3))) (xbi (yM_asked t ((μ.2.1 11 9) + 1) N) (fun r4 m3 => some (.inl (some (.int r4)), m3))) := fun t => by
        obtain ⟨v, μ', ν', p1, p2, p3, p4⟩ := P_open he0 hi h1 (by omega) 1 t ((μ.2.1 11 9) + 1) ((μ.2.1 11 9) + 1) (Or.inr ⟨rfl, rfl, ne⟩)
        rw [p1, p2, xbi_s, xbi_s]
        exact Pub.i p3 p4 (by omega)
      by_cases h3 : zt μ (μ.2.1 0 11) = (μ.2.1 28 3)
      · rw [if_neg (not_not_intro h3), if_neg (not_not_intro h3), if_neg (show ¬ (1 : Int32) = 0 by decide)]
        exact key _
      · rw [if_pos h3, if_pos h3, if_pos rfl]
        exact key _
    · rw [if_neg h2, if_neg (fun k => by have := (hand_lt hi).mp h2; rw [Int32.le_iff_toInt_le] at this; rw [Int32.lt_iff_toInt_lt] at k; omega)]
      exact r0
  · rw [if_pos h1, if_pos h1]; exact r0
theorem Q_state {g h μ ν : XMu} {n : Nat} (he : RE g h μ ν) (hi : RI n μ) (hn : n + 1500 ≤ 1000000) (ht : μ.1 < 1024) (a : Int32) : Pub g h (n + 1500) Ei (yC_state a μ) (yM_state a ν) := by
  have he0 := RE_zh he 0
  by_cases h1 : 0 ≤ a.toInt ∧ a.toInt ≤ 19
  · have hc : a.toInt = 0 ∨ a.toInt = 1 ∨ a.toInt = 2 ∨ a.toInt = 3 ∨ a.toInt = 4 ∨ a.toInt = 5 ∨ a.toInt = 6 ∨ a.toInt = 7 ∨ a.toInt = 8 ∨ a.toInt = 9 ∨ a.toInt = 10 ∨ a.toInt = 11 ∨ a.toInt = 12 ∨ a.toInt = 13 ∨ a.toInt = 14 ∨ a.toInt = 15 ∨ a.toInt = 16 ∨ a.toInt = 17 ∨ a.toInt = 18 ∨ a.toInt = 19 := by omega
    rcases hc with k | k | k | k | k | k | k | k | k | k | k | k | k | k | k | k | k | k | k | k
    · have e : a = 0 := inj_i (by rw [k]; rfl)
      subst e
      exact Pub.e he.role he0 hi (by omega)
    · have e : a = 1 := inj_i (by rw [k]; rfl)
      subst e
      exact Pub.e he.term he0 hi (by omega)
    · have e : a = 2 := inj_i (by rw [k]; rfl)
      subst e
      exact Pub.e he.voted he0 hi (by omega)
    · have e : a = 3 := inj_i (by rw [k]; rfl)
      subst e
      exact Pub.e he.leader he0 hi (by omega)
    · have e : a = 4 := inj_i (by rw [k]; rfl)
      subst e
      exact Pub.e he.commit he0 hi (by omega)
    · have e : a = 5 := inj_i (by rw [k]; rfl)
      subst e
      exact Pub.e he.applied he0 hi (by omega)
    · have e : a = 6 := inj_i (by rw [k]; rfl)
      subst e
      exact Pub.e he.synced he0 hi (by omega)
    · have e : a = 7 := inj_i (by rw [k]; rfl)
      subst e
      exact Pub.e he.base he0 hi (by omega)
    · have e : a = 8 := inj_i (by rw [k]; rfl)
      subst e
      exact Pub.e he.last he0 hi (by omega)
    · have e : a = 9 := inj_i (by rw [k]; rfl)
      subst e
      have c1 := (code_m he0 (hi.LB (by omega)) hi.mem).1
      have q : yM_state 9 ν = some (.inl (some (.int (μ.2.1 28 13))), zh ν 0) := by
        show xbi (yM_code (zh ν 0)) (fun r2 m1 => some (.inl (some (.int r2)), m1)) = _
        rw [c1, xbi_s]
      rw [q]
      exact Pub.i he0 hi (by omega)
    · have e : a = 10 := inj_i (by rw [k]; rfl)
      subst e
      exact Pub.e he.votes he0 hi (by omega)
    · have e : a = 11 := inj_i (by rw [k]; rfl)
      subst e
      exact Pub.e he.handing he0 hi (by omega)
    · have e : a = 12 := inj_i (by rw [k]; rfl)
      subst e
      exact Pub.e he.alarm he0 hi (by omega)
    · have e : a = 13 := inj_i (by rw [k]; rfl)
      subst e
      exact Pub.e he.now he0 hi (by omega)
    · have e : a = 14 := inj_i (by rw [k]; rfl)
      subst e
      have q : yM_state 14 ν = (if (ν.2.1 32 14) = (0 : Int32) then some (.inl (some (.int (0 : Int32))), zh ν 0) else some (.inl (some (.int (1 : Int32))), zh ν 0)) := rfl
      have q2 : yC_state 14 μ = (if (μ.2.1 28 11) = (0 : Int32) then some (.inl (some (.int (0 : Int32))), μ) else some (.inl (some (.int (1 : Int32))), μ)) := rfl
      rw [q, q2, he.dirty]
      by_cases h2 : (μ.2.1 28 11) = 0
      · rw [if_pos h2, if_pos h2]; exact Pub.i he0 hi (by omega)
      · rw [if_neg h2, if_neg h2]; exact Pub.i he0 hi (by omega)
    · have e : a = 15 := inj_i (by rw [k]; rfl)
      subst e
      have q : yM_state 15 ν = (if ¬ (ν.2.1 32 15) = (3 : Int32) then some (.inl (some (.int (0 : Int32))), zh ν 0) else some (.inl (some (.int (ν.2.1 32 26))), zh ν 0)) := rfl
      have q2 : yC_state 15 μ = (if ¬ (μ.2.1 0 9) = (3 : Int32) then some (.inl (some (.int (0 : Int32))), μ) else some (.inl (some (.int (μ.2.1 11 9))), μ)) := rfl
      rw [q, q2, he.role, he.round]
      by_cases h2 : (μ.2.1 0 9) = 3
      · rw [if_neg (not_not_intro h2), if_neg (not_not_intro h2)]; exact Pub.i he0 hi (by omega)
      · rw [if_pos h2, if_pos h2]; exact Pub.i he0 hi (by omega)
    · have e : a = 16 := inj_i (by rw [k]; rfl)
      subst e
      exact Pub.e he.went he0 hi (by omega)
    · have e : a = 17 := inj_i (by rw [k]; rfl)
      subst e
      exact Pub.e he.waits he0 hi (by omega)
    · have e : a = 18 := inj_i (by rw [k]; rfl)
      subst e
      exact Pub.e he.done he0 hi (by omega)
    · have e : a = 19 := inj_i (by rw [k]; rfl)
      subst e
      exact Pub.e he.calls he0 hi (by omega)
  · have hne : ∀ c : Int32, 0 ≤ c.toInt → c.toInt ≤ 19 → ¬ a = c := fun c k1 k2 k => h1 (by rw [k]; exact ⟨k1, k2⟩)
    unfold yC_state yM_state
    rw [within_0 (show ¬ ((0 : Int32).toInt ≤ _ ∧ _ ≤ (19 : Int32).toInt) from h1), if_neg (not_not_intro rfl), zh_x, fail_s, if_neg (hne 0 (by decide) (by decide)), if_neg (hne 1 (by decide) (by decide)), if_neg (hne 2 (by decide) (by decide)), if_neg (hne 3 (by decide) (by decide)), if_neg (hne 4 (by decide) (by decide)), if_neg (hne 5 (by decide) (by decide)), if_neg (hne 6 (by decide) (by decide)), if_neg (hne 7 (by decide) (by decide)), if_neg (hne 8 (by decide) (by decide)), if_neg (hne 9 (by decide) (by decide)), if_neg (hne 10 (by decide) (by decide)), if_neg (hne 11 (by decide) (by decide)), if_neg (hne 12 (by decide) (by decide)), if_neg (hne 13 (by decide) (by decide)), if_neg (hne 14 (by decide) (by decide)), if_neg (hne 15 (by decide) (by decide)), if_neg (hne 16 (by decide) (by decide)), if_neg (hne 17 (by decide) (by decide)), if_neg (hne 18 (by decide) (by decide)), if_neg (hne 19 (by decide) (by decide)), xgd_t (blt_t ht)]
    exact Pub.thr he hi (by omega) ⟨rfl, rfl⟩
theorem Q_log {g h μ ν : XMu} {n : Nat} (he : RE g h μ ν) (hi : RI n μ) (hn : n + 1500 ≤ 1000000) (ht : μ.1 < 1024) (a b : Int32) : Pub g h (n + 1500) Ei (yC_log a b μ) (yM_log a b ν) := by
  have he0 := RE_zh he 0
  have hb := hi.LB (by omega)
  obtain ⟨b1, b2, b3, b4⟩ := id hb
  have ib := inc_i (n := (μ.2.1 28 5)) (by omega)
  have th : Pub g h (n + 1500) Ei (some (.inr 2, (μ.1 + 1, μ.2.1, μ.2.2))) (some (.inl (some (.int 0)), zh ν 1)) := Pub.thr he hi (by omega) ⟨rfl, rfl⟩
  unfold yC_log yM_log yC_log_b35 yM_log_b32
  rw [zh_x, fail_s, he.base, xgd_t (blt_t ht), show (zh ν 0).2.1 32 10 = (μ.2.1 28 9) from he.last]
  by_cases h2 : 0 ≤ b.toInt ∧ b.toInt ≤ 2
  · rw [within_1 (show (0 : Int32).toInt ≤ _ from h2.1) (show _ ≤ (2 : Int32).toInt from h2.2), if_neg (show ¬ (1 : Int32) = 0 by decide)]
    have hc : b.toInt = 0 ∨ b.toInt = 1 ∨ b.toInt = 2 := by omega
    rcases hc with k | k | k
    · have e : b = 0 := inj_i (by rw [k]; rfl)
      subst e
      rw [if_neg (not_not_intro rfl), if_neg (not_not_intro rfl), if_neg (not_not_intro rfl)]
      rw [if_pos (show ¬ (0 : Int32) = 1 by decide), if_pos (show ¬ (0 : Int32) = 2 by decide)]
      by_cases h3 : (μ.2.1 28 5).toInt ≤ a.toInt ∧ a.toInt ≤ (μ.2.1 28 9).toInt
      · rw [within_1 h3.1 h3.2, if_pos (show ¬ (1 : Int32) = 0 by decide), termAt_c hb h3.1 h3.2, termAt_m he0 hb h3.1 h3.2, xbi_s, xbi_s]
        have r0 : Pub g h (n + 1500) Ei (some (.inl (some (.int (zt μ a))), μ)) (some (.inl (some (.int (zt μ a))), zh ν 0)) := Pub.i he0 hi (by omega)
        by_cases h4 : a = (μ.2.1 28 5)
        · rw [if_pos h4]; exact r0
        · rw [if_neg h4]
          have h5 : (μ.2.1 28 5).toInt < a.toInt := by
            rcases Int.lt_or_eq_of_le h3.1 with q | q
            · exact q
            · exact absurd (inj_i q.symm) h4
          rw [holds1 hb h5 h3.2, if_neg (show ¬ (1 : Int32) = 0 by decide)]
          exact r0
      · rw [within_0 h3, if_neg (not_not_intro rfl), if_neg (fun q => h3 (by rw [q]; exact ⟨Int.le_refl _, b2⟩)), holds0 hb (fun q => h3 ⟨by omega, q.2⟩), if_pos rfl]
        exact th
    · have e : b = 1 := inj_i (by rw [k]; rfl)
      subst e
      rw [if_pos (show ¬ (1 : Int32) = 0 by decide), if_pos (show ¬ (1 : Int32) = 0 by decide), if_pos (show ¬ (1 : Int32) = 0 by decide), if_neg (not_not_intro rfl), if_neg (not_not_intro rfl), if_pos (show ¬ (1 : Int32) = 2 by decide)]
      by_cases h3 : (μ.2.1 28 5).toInt < a.toInt ∧ a.toInt ≤ (μ.2.1 28 9).toInt
      · rw [within_1 (by omega) h3.2, if_pos (show ¬ (1 : Int32) = 0 by decide), holds1 hb h3.1 h3.2, if_neg (show ¬ (1 : Int32) = 0 by decide), kindAt_c hb h3.1 h3.2, xbi_s, xgd_t (zr_in (by omega))]
        exact Pub.e (he.log a h3.1 h3.2).2.1 he0 hi (by omega)
      · rw [within_0 (fun q => h3 ⟨by omega, q.2⟩), if_neg (not_not_intro rfl), holds0 hb h3, if_pos rfl]
        exact th
    · have e : b = 2 := inj_i (by rw [k]; rfl)
      subst e
      rw [if_pos (show ¬ (2 : Int32) = 0 by decide), if_pos (show ¬ (2 : Int32) = 0 by decide), if_pos (show ¬ (2 : Int32) = 0 by decide), if_pos (show ¬ (2 : Int32) = 1 by decide), if_pos (show ¬ (2 : Int32) = 1 by decide), if_neg (not_not_intro rfl)]
      by_cases h3 : (μ.2.1 28 5).toInt < a.toInt ∧ a.toInt ≤ (μ.2.1 28 9).toInt
      · rw [within_1 (by omega) h3.2, if_pos (show ¬ (1 : Int32) = 0 by decide), holds1 hb h3.1 h3.2, if_neg (show ¬ (1 : Int32) = 0 by decide), valueAt_c hb h3.1 h3.2, xbi_s, xgd_t (zr_in (by omega))]
        exact Pub.e (he.log a h3.1 h3.2).2.2 he0 hi (by omega)
      · rw [within_0 (fun q => h3 ⟨by omega, q.2⟩), if_neg (not_not_intro rfl), holds0 hb h3, if_pos rfl]
        exact th
  · have hne : ∀ c : Int32, 0 ≤ c.toInt → c.toInt ≤ 2 → ¬ b = c := fun c k1 k2 k => h2 (by rw [k]; exact ⟨k1, k2⟩)
    rw [within_0 (show ¬ ((0 : Int32).toInt ≤ _ ∧ _ ≤ (2 : Int32).toInt) from h2), if_pos rfl, if_pos (hne 0 (by decide) (by decide)), if_pos (hne 1 (by decide) (by decide)), if_pos (hne 2 (by decide) (by decide))]
    exact th
theorem Q_peer {g h μ ν : XMu} {n : Nat} (he : RE g h μ ν) (hi : RI n μ) (hn : n + 1500 ≤ 1000000) (ht : μ.1 < 1024) (a b : Int32) : Pub g h (n + 1500) Ei (yC_peer a b μ) (yM_peer a b ν) := by
  have he0 := RE_zh he 0
  have th : Pub g h (n + 1500) Ei (some (.inr 2, (μ.1 + 1, μ.2.1, μ.2.2))) (some (.inl (some (.int 0)), zh ν 1)) := Pub.thr he hi (by omega) ⟨rfl, rfl⟩
  unfold yC_peer yM_peer
  rw [zh_x, fail_s, he.role, xgd_t (blt_t ht)]
  by_cases h1 : (μ.2.1 0 9) = 3
  · rw [if_neg (not_not_intro h1), if_neg (not_not_intro h1)]
    by_cases h2 : 0 ≤ a.toInt ∧ a.toInt ≤ 6
    · have xi := xin_of (i := a) (n := 7) h2.1 (by omega)
      rw [if_neg (show ¬ a < 0 by rw [Int32.lt_iff_toInt_lt, il_0]; omega), if_pos (show a < 7 by rw [Int32.lt_iff_toInt_lt, il_7]; omega), within_1 (show (0 : Int32).toInt ≤ _ from h2.1) (show _ ≤ (6 : Int32).toInt from h2.2), if_neg (show ¬ (1 : Int32) = 0 by decide)]
      repeat rw [xgd_t xi]
      by_cases h3 : 0 ≤ b.toInt ∧ b.toInt ≤ 6
      · have hc : b.toInt = 0 ∨ b.toInt = 1 ∨ b.toInt = 2 ∨ b.toInt = 3 ∨ b.toInt = 4 ∨ b.toInt = 5 ∨ b.toInt = 6 := by omega
        rcases hc with k | k | k | k | k | k | k
        · have e : b = 0 := inj_i (by rw [k]; rfl)
          subst e
          exact Pub.e (congrFun he.next _) he0 hi (by omega)
        · have e : b = 1 := inj_i (by rw [k]; rfl)
          subst e
          exact Pub.e (congrFun he.mtch _) he0 hi (by omega)
        · have e : b = 2 := inj_i (by rw [k]; rfl)
          subst e
          exact Pub.e (congrFun he.flying _) he0 hi (by omega)
        · have e : b = 3 := inj_i (by rw [k]; rfl)
          subst e
          show Pub g h (n + 1500) Ei (if (μ.2.1 15) a.toNatClampNeg = (0 : Int32) then some (.inl (some (.int (0 : Int32))), μ) else some (.inl (some (.int (1 : Int32))), μ)) (if (ν.2.1 42) a.toNatClampNeg = (0 : Int32) then some (.inl (some (.int (0 : Int32))), zh ν 0) else some (.inl (some (.int (1 : Int32))), zh ν 0))
          rw [he.probing]
          by_cases h4 : (μ.2.1 15) a.toNatClampNeg = 0
          · rw [if_pos h4, if_pos h4]; exact Pub.i he0 hi (by omega)
          · rw [if_neg h4, if_neg h4]; exact Pub.i he0 hi (by omega)
        · have e : b = 4 := inj_i (by rw [k]; rfl)
          subst e
          exact Pub.e (congrFun he.offset _) he0 hi (by omega)
        · have e : b = 5 := inj_i (by rw [k]; rfl)
          subst e
          exact Pub.e (congrFun he.ack _) he0 hi (by omega)
        · have e : b = 6 := inj_i (by rw [k]; rfl)
          subst e
          exact Pub.e (congrFun he.seen _) he0 hi (by omega)
      · have hne : ∀ c : Int32, 0 ≤ c.toInt → c.toInt ≤ 6 → ¬ b = c := fun c k1 k2 k => h3 (by rw [k]; exact ⟨k1, k2⟩)
        rw [within_0 (show ¬ ((0 : Int32).toInt ≤ _ ∧ _ ≤ (6 : Int32).toInt) from h3), if_neg (not_not_intro rfl), if_neg (hne 0 (by decide) (by decide)), if_neg (hne 1 (by decide) (by decide)), if_neg (hne 2 (by decide) (by decide)), if_neg (hne 3 (by decide) (by decide)), if_neg (hne 4 (by decide) (by decide)), if_neg (hne 5 (by decide) (by decide)), if_neg (hne 6 (by decide) (by decide))]
        exact th
    · rw [within_0 (show ¬ ((0 : Int32).toInt ≤ _ ∧ _ ≤ (6 : Int32).toInt) from h2), if_pos rfl]
      by_cases h4 : a < 0
      · rw [if_pos h4]; exact th
      · rw [if_neg h4]
        rw [Int32.lt_iff_toInt_lt, il_0] at h4
        rw [if_neg (show ¬ a < 7 by rw [Int32.lt_iff_toInt_lt, il_7]; omega)]
        exact th
  · rw [if_pos h1, if_pos h1]; exact th
theorem Q_letter {g h μ ν : XMu} {n : Nat} (he : RE g h μ ν) (hi : RI n μ) (hn : n + 1500 ≤ 1000000) (ht : μ.1 < 1024) (a b : Int32) : Pub g h (n + 1500) Ei (yC_letter a b μ) (yM_letter a b ν) := by
  have he0 := RE_zh he 0
  have th : Pub g h (n + 1500) Ei (some (.inr 2, (μ.1 + 1, μ.2.1, μ.2.2))) (some (.inl (some (.int 0)), zh ν 1)) := Pub.thr he hi (by omega) ⟨rfl, rfl⟩
  have hw := hi.went
  have t0 : xbi (some (.inl (some (.int (0 : Int32))), μ)) (fun r2 m1 => (if ¬ r2 = (0 : Int32) then xbi (yMa_numberOf a b m1) (fun r4 m3 => some (.inl (some (.int r4)), m3)) else xgd (Nat.blt m1.1 1024) (some (.inr 2, (m1.1 + 1, m1.2.1, m1.2.2))))) = some (.inr 2, (μ.1 + 1, μ.2.1, μ.2.2)) := by
    rw [xbi_s, if_neg (not_not_intro rfl), xgd_t (blt_t ht)]
  unfold yC_letter yM_letter
  rw [zh_x, fail_s, he.went]
  by_cases h1 : 0 ≤ a.toInt ∧ a.toInt ≤ 63
  · rw [within_1 (show (0 : Int32).toInt ≤ _ from h1.1) (show _ ≤ (63 : Int32).toInt from h1.2), if_neg (show ¬ (1 : Int32) = 0 by decide)]
    by_cases h2 : a < (μ.2.1 1 7)
    · rw [if_pos h2]
      rw [Int32.lt_iff_toInt_lt] at h2
      have e1 : ((μ.2.1 1 7) - 1).toInt = (μ.2.1 1 7).toInt - 1 := by rw [i32_sub (by rw [il_1]; omega) (by rw [il_1]; omega), il_1]
      have e2 : ((μ.2.1 1 7) - 1 - a).toInt = (μ.2.1 1 7).toInt - 1 - a.toInt := by rw [i32_sub (by rw [e1]; omega) (by rw [e1]; omega), e1]
      rw [rem_64 (show 0 ≤ ((μ.2.1 1 7) - 1 - a).toInt by omega), show (μ.2.1 1 7) - 1 - a &&& 63 = yMa_slotOf ((μ.2.1 1 7) - 1 - a) from rfl]
      have s1 : (yMa_slotOf ((μ.2.1 1 7) - 1 - a)).toInt = ((μ.2.1 1 7) - 1 - a).toInt % 64 := and63 (by omega)
      have kn : yMa_knows a b μ = (if b < (0 : Int32) then some (.inl (some (.int (0 : Int32))), μ) else xgd (xin (yMa_slotOf ((μ.2.1 1 7) - 1 - a)) 64) ((if (μ.2.1 6) (yMa_slotOf ((μ.2.1 1 7) - 1 - a)).toNatClampNeg ≤ b then some (.inl (some (.int (0 : Int32))), μ) else some (.inl (some (.int (1 : Int32))), μ)))) := by
        unfold yMa_knows
        rw [if_neg (show ¬ a < 0 by rw [Int32.lt_iff_toInt_lt, il_0]; omega), if_neg (show ¬ (64 : Int32) ≤ a by rw [Int32.le_iff_toInt_le, il_64]; omega), if_neg (show ¬ (μ.2.1 1 7) ≤ a by rw [Int32.le_iff_toInt_le]; omega)]
      have nu : yMa_numberOf a b μ = xbi (yMa_knows a b μ) (fun r2 m1 => (if r2 = (0 : Int32) then some (.inl (some (.int (-1 : Int32))), m1) else xgd (xin (((yMa_slotOf (((m1.2.1 1 7) - (1 : Int32)) - a)) * (26 : Int32)) + b) 1664) (some (.inl (some (.int ((m1.2.1 5) ((((yMa_slotOf (((m1.2.1 1 7) - (1 : Int32)) - a)) * (26 : Int32)) + b)).toNatClampNeg))), m1)))) := rfl
      generalize hsl : yMa_slotOf ((μ.2.1 1 7) - 1 - a) = s at s1 kn ⊢
      have ts := tn_of (i := s) (by omega)
      have xs1 := xin_of (i := s) (n := 64) (by omega) (by omega)
      have m1 : (s * (32 : Int32)).toInt = s.toInt * 32 := by
        rw [mul_i (k := 32) rfl (by omega) (by omega) (by omega)]; omega
      have m2 : (s * (32 : Int32)).toNatClampNeg = s.toNatClampNeg * 32 := by
        have := tn_of (i := s * (32 : Int32)) (by omega)
        omega
      have m3 : (s * (26 : Int32)).toInt = s.toInt * 26 := by
        rw [mul_i (k := 26) rfl (by omega) (by omega) (by omega)]; omega
      obtain ⟨z0, z1, z2, z3⟩ := he.kept s.toNatClampNeg (by omega)
      rw [xgd_t (xin_of (i := s * (32 : Int32)) (n := 2048) (by omega) (by omega)), m2, z2]
      have z4 : ((μ.2.1 6) s.toNatClampNeg - 1).toInt = ((μ.2.1 6) s.toNatClampNeg).toInt - 1 := by rw [i32_sub (by rw [il_1]; omega) (by rw [il_1]; omega), il_1]
      by_cases h3 : b < 0
      · rw [if_pos h3] at kn
        rw [Int32.lt_iff_toInt_lt, il_0] at h3
        rw [within_0 (by rw [il_0]; omega), if_pos rfl, kn, t0]
        exact th
      · rw [if_neg h3, xgd_t xs1] at kn
        rw [Int32.lt_iff_toInt_lt, il_0] at h3
        by_cases h4 : (μ.2.1 6) s.toNatClampNeg ≤ b
        · rw [if_pos h4] at kn
          rw [Int32.le_iff_toInt_le] at h4
          rw [within_0 (by omega), if_pos rfl, kn, t0]
          exact th
        · rw [if_neg h4] at kn
          rw [Int32.le_iff_toInt_le] at h4
          have tb := tn_of (i := b) (by omega)
          have m4 : (s * (26 : Int32) + b).toInt = s.toInt * 26 + b.toInt := by rw [i32_add (by omega) (by omega), m3]
          have m5 : (s * (26 : Int32) + b).toNatClampNeg = s.toNatClampNeg * 26 + b.toNatClampNeg := by
            have := tn_of (i := s * (26 : Int32) + b) (by omega)
            omega
          have m6 : (s * (32 : Int32) + 1).toInt = s.toInt * 32 + 1 := by rw [inc_i (by omega), m1]
          have m7 : (s * (32 : Int32) + 1 + b).toInt = s.toInt * 32 + 1 + b.toInt := by rw [i32_add (by omega) (by omega), m6]
          have m8 : (s * (32 : Int32) + 1 + b).toNatClampNeg = s.toNatClampNeg * 32 + 1 + b.toNatClampNeg := by
            have := tn_of (i := s * (32 : Int32) + 1 + b) (by omega)
            omega
          rw [within_1 (by rw [il_0]; omega) (by omega), if_neg (show ¬ (1 : Int32) = 0 by decide), kn, xbi_s, if_pos (show ¬ (1 : Int32) = 0 by decide), xgd_t (xin_of (i := s * (32 : Int32) + 1 + b) (n := 2048) (by omega) (by omega)), m8]
          rw [nu, kn, xbi_s, if_neg (show ¬ (1 : Int32) = 0 by decide), hsl, xgd_t (xin_of (i := s * (26 : Int32) + b) (n := 1664) (by omega) (by omega)), m5, xbi_s]
          exact Pub.e (z3 b.toNatClampNeg (by omega)) he0 hi (by omega)
    · rw [if_neg h2]
      have : yMa_knows a b μ = some (.inl (some (.int 0)), μ) := by
        unfold yMa_knows
        rw [Int32.lt_iff_toInt_lt] at h2
        rw [if_neg (show ¬ a < 0 by rw [Int32.lt_iff_toInt_lt, il_0]; omega), if_neg (show ¬ (64 : Int32) ≤ a by rw [Int32.le_iff_toInt_le, il_64]; omega), if_pos (show (μ.2.1 1 7) ≤ a by rw [Int32.le_iff_toInt_le]; omega)]
      rw [this, t0]
      exact th
  · rw [within_0 (show ¬ ((0 : Int32).toInt ≤ _ ∧ _ ≤ (63 : Int32).toInt) from h1), if_pos rfl]
    have : yMa_knows a b μ = some (.inl (some (.int 0)), μ) := by
      unfold yMa_knows
      by_cases q : a < 0
      · rw [if_pos q]
      · rw [if_neg q]
        rw [Int32.lt_iff_toInt_lt, il_0] at q
        rw [if_pos (show (64 : Int32) ≤ a by rw [Int32.le_iff_toInt_le, il_64]; omega)]
    rw [this, t0]
    exact th
theorem Q_done {g h μ ν : XMu} {n : Nat} (he : RE g h μ ν) (hi : RI n μ) (hn : n + 1500 ≤ 1000000) (ht : μ.1 < 1024) (a b : Int32) : Pub g h (n + 1500) Ei (yC_done a b μ) (yM_done a b ν) := by
  have he0 := RE_zh he 0
  have th : Pub g h (n + 1500) Ei (some (.inr 2, (μ.1 + 1, μ.2.1, μ.2.2))) (some (.inl (some (.int 0)), zh ν 1)) := Pub.thr he hi (by omega) ⟨rfl, rfl⟩
  have hw := hi.done
  unfold yC_done yM_done yDe_knows yDe_valueOf yDe_numberOf
  rw [zh_x, fail_s, he.done, xgd_t (blt_t ht)]
  by_cases h1 : 0 ≤ a.toInt ∧ a.toInt ≤ 63
  · rw [within_1 (show (0 : Int32).toInt ≤ _ from h1.1) (show _ ≤ (63 : Int32).toInt from h1.2), if_neg (show ¬ (1 : Int32) = 0 by decide), if_neg (show ¬ a < 0 by rw [Int32.lt_iff_toInt_lt, il_0]; omega), if_neg (show ¬ (64 : Int32) ≤ a by rw [Int32.le_iff_toInt_le, il_64]; omega)]
    by_cases h2 : (μ.2.1 25 2) ≤ a
    · rw [if_pos h2, if_pos h2, if_pos rfl]; exact th
    · rw [if_neg h2, if_neg h2, if_neg (show ¬ (1 : Int32) = 0 by decide)]
      rw [Int32.le_iff_toInt_le] at h2
      have e1 : ((μ.2.1 25 2) - 1).toInt = (μ.2.1 25 2).toInt - 1 := by rw [i32_sub (by rw [il_1]; omega) (by rw [il_1]; omega), il_1]
      have e2 : ((μ.2.1 25 2) - 1 - a).toInt = (μ.2.1 25 2).toInt - 1 - a.toInt := by rw [i32_sub (by rw [e1]; omega) (by rw [e1]; omega), e1]
      rw [rem_64 (show 0 ≤ ((μ.2.1 25 2) - 1 - a).toInt by omega), show (μ.2.1 25 2) - 1 - a &&& 63 = yDe_slotOf ((μ.2.1 25 2) - 1 - a) from rfl]
      have s1 : (yDe_slotOf ((μ.2.1 25 2) - 1 - a)).toInt = ((μ.2.1 25 2) - 1 - a).toInt % 64 := and63 (by omega)
      have xs1 := xin_of (i := yDe_slotOf ((μ.2.1 25 2) - 1 - a)) (n := 64) (by omega) (by omega)
      repeat rw [xgd_t xs1]
      rw [xbi_s, xbi_s, he.doneNumbers, he.doneValues]
      by_cases h3 : b < 0
      · rw [if_pos h3]
        rw [Int32.lt_iff_toInt_lt, il_0] at h3
        rw [within_0 (by rw [il_0]; omega), if_neg (not_not_intro rfl)]; exact th
      · rw [if_neg h3]
        rw [Int32.lt_iff_toInt_lt, il_0] at h3
        by_cases h4 : b ≤ 1
        · rw [if_pos h4]
          rw [Int32.le_iff_toInt_le, il_1] at h4
          rw [within_1 (by rw [il_0]; omega) (by rw [il_1]; omega), if_pos (show ¬ (1 : Int32) = 0 by decide)]
          by_cases h5 : b = 0
          · rw [if_neg (not_not_intro h5), if_neg (not_not_intro h5)]; exact Pub.i he0 hi (by omega)
          · rw [if_pos h5, if_pos h5]; exact Pub.i he0 hi (by omega)
        · rw [if_neg h4]
          rw [Int32.le_iff_toInt_le, il_1] at h4
          rw [within_0 (by rw [il_1]; omega), if_neg (not_not_intro rfl)]; exact th
  · rw [within_0 (show ¬ ((0 : Int32).toInt ≤ _ ∧ _ ≤ (63 : Int32).toInt) from h1), if_pos rfl]
    have : (if a < (0 : Int32) then (0 : Int32) else (if (64 : Int32) ≤ a then (0 : Int32) else (if (μ.2.1 25 2) ≤ a then (0 : Int32) else (1 : Int32)))) = 0 := by
      by_cases q : a < 0
      · rw [if_pos q]
      · rw [if_neg q]
        rw [Int32.lt_iff_toInt_lt, il_0] at q
        rw [if_pos (show (64 : Int32) ≤ a by rw [Int32.le_iff_toInt_le, il_64]; omega)]
    rw [this, if_pos rfl]
    exact th
theorem no_call {g h μ ν : XMu} (he : RE g h μ ν) (a : Int32) : (yCa_knows a μ = 0 ∧ yM_noCall a (zh ν 0) = 1) ∨ (yCa_knows a μ = 1 ∧ yM_noCall a (zh ν 0) = 0 ∧ 0 ≤ a.toInt) := by
  unfold yCa_knows yM_noCall
  rw [show (zh ν 0).2.1 32 55 = (μ.2.1 20 4) from he.calls]
  by_cases h1 : a < 0
  · rw [if_pos h1, if_pos h1]; exact Or.inl ⟨rfl, rfl⟩
  · rw [if_neg h1, if_neg h1]
    rw [Int32.lt_iff_toInt_lt, il_0] at h1
    by_cases h2 : (μ.2.1 20 4) ≤ a
    · rw [if_pos h2, if_pos h2]; exact Or.inl ⟨rfl, rfl⟩
    · rw [if_neg h2, if_neg h2]
      by_cases h3 : a < (μ.2.1 20 4) - 32
      · rw [if_pos h3, if_neg (by rw [Int32.lt_iff_toInt_lt] at h3; rw [Int32.le_iff_toInt_le]; omega)]; exact Or.inl ⟨rfl, rfl⟩
      · rw [if_neg h3, if_pos (by rw [Int32.lt_iff_toInt_lt] at h3; rw [Int32.le_iff_toInt_le]; omega)]; exact Or.inr ⟨rfl, rfl, by omega⟩
theorem Q_call {g h μ ν : XMu} {n : Nat} (he : RE g h μ ν) (hi : RI n μ) (hn : n + 1500 ≤ 1000000) (ht : μ.1 < 1024) (a : Int32) : Pub g h (n + 1500) Ei (yC_call a μ) (yM_call a ν) := by
  have he0 := RE_zh he 0
  unfold yC_call yM_call yC_checkCall yCa_outcomeOf
  rw [zh_x, fail_s, xgd_t (blt_t ht)]
  rcases no_call he a with ⟨k1, k2⟩ | ⟨k1, k2, k3⟩
  · rw [k1, k2, if_neg (not_not_intro rfl), if_neg (show ¬ (1 : Int32) = 0 by decide), xbv_r]
    exact Pub.thr he hi (by omega) ⟨rfl, rfl⟩
  · have s1 : (yCa_slotOf a).toInt = a.toInt % 32 := and31 k3
    have xs1 := xin_of (i := yCa_slotOf a) (n := 32) (by omega) (by omega)
    rw [k1, k2, if_pos rfl, if_pos (show ¬ (1 : Int32) = 0 by decide), xbv_s, rem_32 k3, show a &&& 31 = yCa_slotOf a from rfl, xgd_t xs1, xgd_t xs1, xbi_s]
    exact Pub.e (congrFun he.callState _) he0 hi (by omega)
theorem Q_callFor {g h μ ν : XMu} {n : Nat} (he : RE g h μ ν) (hi : RI n μ) (hn : n + 1500 ≤ 1000000) (ht : μ.1 < 1024) (a : Int32) : Pub g h (n + 1500) Ei (yC_callFor a μ) (yM_callFor a ν) := by
  have he0 := RE_zh he 0
  unfold yC_callFor yM_callFor yC_checkCall yCa_targetOf
  rw [zh_x, fail_s, xgd_t (blt_t ht)]
  rcases no_call he a with ⟨k1, k2⟩ | ⟨k1, k2, k3⟩
  · rw [k1, k2, if_neg (not_not_intro rfl), if_neg (show ¬ (1 : Int32) = 0 by decide), xbv_r]
    exact Pub.thr he hi (by omega) ⟨rfl, rfl⟩
  · have s1 : (yCa_slotOf a).toInt = a.toInt % 32 := and31 k3
    have xs1 := xin_of (i := yCa_slotOf a) (n := 32) (by omega) (by omega)
    rw [k1, k2, if_pos rfl, if_pos (show ¬ (1 : Int32) = 0 by decide), xbv_s, rem_32 k3, show a &&& 31 = yCa_slotOf a from rfl, xgd_t xs1, xgd_t xs1, xbi_s]
    exact Pub.e (congrFun he.callNumber _) he0 hi (by omega)
def shF (T : Nat → Int32) (x e d : Nat) : Nat → Int32 := fun j => if x ≤ j ∧ j < e then T (j + d) else T j
theorem shF_end {T : Nat → Int32} {x d : Nat} : shF T x x d = T := by
  funext j
  unfold shF
  rw [if_neg (by omega)]
theorem shF_step {T : Nat → Int32} {x e d : Nat} (h : x < e) (hd : 1 ≤ d) : shF (upd T x (T (x + d))) (x + 1) e d = shF T x e d := by
  funext j
  unfold shF
  by_cases h1 : j = x
  · rw [if_neg (by omega), if_pos (by omega), h1, upd_s]
  · by_cases h2 : x ≤ j ∧ j < e
    · rw [if_pos (by omega), if_pos h2, upd_o (by omega)]
    · rw [if_neg (by omega), if_neg h2, upd_o h1]
theorem va3 {M : Nat → Nat → Int32} {a : Nat} {u v w : Int32} {A B C : Nat → Int32} : va_up (va_up (va_up (xuI (xuI (xuI M 29 a u) 30 a v) 31 a w) 29 A) 30 B) 31 C = va_up (va_up (va_up M 29 A) 30 B) 31 C := by
  funext c
  unfold va_up xuI va_up
  by_cases h1 : c = 31 <;> by_cases h2 : c = 30 <;> by_cases h3 : c = 29 <;> simp [h1, h2, h3]
theorem dropUp {G : Int32} (hG : 1 ≤ G.toInt) (hG2 : G.toInt ≤ 300) : ∀ (r f : Nat) (x : Int32) (μ : XMu), LB μ → 0 ≤ x.toInt → x.toInt + G.toInt + r = (μ.2.1 28 9).toInt - (μ.2.1 28 5).toInt → r < f → yDi_dropUpTo_b9_L f G x μ = some (.inl none, (μ.1, va_up (va_up (va_up μ.2.1 29 (shF (μ.2.1 29) x.toNatClampNeg (x.toNatClampNeg + r) G.toNatClampNeg)) 30 (shF (μ.2.1 30) x.toNatClampNeg (x.toNatClampNeg + r) G.toNatClampNeg)) 31 (shF (μ.2.1 31) x.toNatClampNeg (x.toNatClampNeg + r) G.toNatClampNeg), μ.2.2)) := by
  intro r
  induction r with
  | zero =>
    intro f x μ hb hx hr hf
    obtain ⟨f, rfl⟩ : ∃ f', f = f' + 1 := ⟨f - 1, by omega⟩
    obtain ⟨b1, b2, b3, b4⟩ := hb
    have e2 : ((μ.2.1 28 9) - (μ.2.1 28 5)).toInt = (μ.2.1 28 9).toInt - (μ.2.1 28 5).toInt := i32_sub (by omega) (by omega)
    have e3 : (x + G).toInt = x.toInt + G.toInt := i32_add (by omega) (by omega)
    unfold yDi_dropUpTo_b9_L yDi_dropUpTo_b9
    rw [if_pos (by rw [Int32.le_iff_toInt_le]; omega), Nat.add_zero, shF_end, shF_end, shF_end, va_up_id, va_up_id, va_up_id]
  | succ r ih =>
    intro f x μ hb hx hr hf
    obtain ⟨f, rfl⟩ : ∃ f', f = f' + 1 := ⟨f - 1, by omega⟩
    obtain ⟨b1, b2, b3, b4⟩ := id hb
    have e2 : ((μ.2.1 28 9) - (μ.2.1 28 5)).toInt = (μ.2.1 28 9).toInt - (μ.2.1 28 5).toInt := i32_sub (by omega) (by omega)
    have e3 : (x + G).toInt = x.toInt + G.toInt := i32_add (by omega) (by omega)
    have e5 := inc_i (n := x) (by omega)
    have t1 := tn_of hx
    have t2 := tn_of (i := G) (by omega)
    have t3 := tn_of (i := x + G) (by omega)
    have t4 := tn_of (i := x + 1) (by omega)
    have x1 := xin_of (i := x) (n := 300) hx (by omega)
    have x2 := xin_of (i := x + G) (n := 300) (by omega) (by omega)
    have n1 : (x + G).toNatClampNeg = x.toNatClampNeg + G.toNatClampNeg := by omega
    have n2 : (x + 1).toNatClampNeg = x.toNatClampNeg + 1 := by omega
    unfold yDi_dropUpTo_b9_L yDi_dropUpTo_b9
    rw [if_neg (by rw [Int32.le_iff_toInt_le]; omega), if_neg (by rw [Int32.le_iff_toInt_le, il_300]; omega)]
    repeat rw [xgd_t x1, xgd_t x2]
    repeat rw [xgd_t x2]
    repeat rw [xgd_t x1]
    rw [ih f (x + 1) (μ.1, xuI (xuI (xuI μ.2.1 29 x.toNatClampNeg ((μ.2.1 29) (x + G).toNatClampNeg)) 30 x.toNatClampNeg ((μ.2.1 30) (x + G).toNatClampNeg)) 31 x.toNatClampNeg ((μ.2.1 31) (x + G).toNatClampNeg), μ.2.2) hb (by omega) (by show (x + 1).toInt + G.toInt + r = (μ.2.1 28 9).toInt - (μ.2.1 28 5).toInt; omega) (by omega), n1, n2]
    dsimp only
    rw [va3]
    have q1 : (xuI (xuI (xuI μ.2.1 29 x.toNatClampNeg ((μ.2.1 29) (x.toNatClampNeg + G.toNatClampNeg))) 30 x.toNatClampNeg ((μ.2.1 30) (x.toNatClampNeg + G.toNatClampNeg))) 31 x.toNatClampNeg ((μ.2.1 31) (x.toNatClampNeg + G.toNatClampNeg))) 29 = upd (μ.2.1 29) x.toNatClampNeg ((μ.2.1 29) (x.toNatClampNeg + G.toNatClampNeg)) := rfl
    have q2 : (xuI (xuI (xuI μ.2.1 29 x.toNatClampNeg ((μ.2.1 29) (x.toNatClampNeg + G.toNatClampNeg))) 30 x.toNatClampNeg ((μ.2.1 30) (x.toNatClampNeg + G.toNatClampNeg))) 31 x.toNatClampNeg ((μ.2.1 31) (x.toNatClampNeg + G.toNatClampNeg))) 30 = upd (μ.2.1 30) x.toNatClampNeg ((μ.2.1 30) (x.toNatClampNeg + G.toNatClampNeg)) := rfl
    have q3 : (xuI (xuI (xuI μ.2.1 29 x.toNatClampNeg ((μ.2.1 29) (x.toNatClampNeg + G.toNatClampNeg))) 30 x.toNatClampNeg ((μ.2.1 30) (x.toNatClampNeg + G.toNatClampNeg))) 31 x.toNatClampNeg ((μ.2.1 31) (x.toNatClampNeg + G.toNatClampNeg))) 31 = upd (μ.2.1 31) x.toNatClampNeg ((μ.2.1 31) (x.toNatClampNeg + G.toNatClampNeg)) := rfl
    rw [q1, q2, q3, show x.toNatClampNeg + 1 + r = x.toNatClampNeg + (r + 1) by omega, shF_step (by omega) (by omega), shF_step (by omega) (by omega), shF_step (by omega) (by omega)]
theorem ZL_shift {b p l : Int32} {t k v t' k' v' : Nat → Int32} (h : ZL b l t k v t' k' v') (h0 : 0 ≤ b.toInt) (h1 : b.toInt < p.toInt) (h2 : p.toInt ≤ l.toInt) {e d : Nat} (he : (e : Int) = l.toInt - p.toInt) (hd : (d : Int) = p.toInt - b.toInt) : ZL p l (shF t 0 e d) (shF k 0 e d) (shF v 0 e d) t' k' v' := by
  intro n n1 n2
  have z1 := zs_n (b := b) (n := n) h0 (by omega)
  have z2 := zs_n (b := p) (n := n) (by omega) n1
  have z3 : zs p n + d = zs b n := by omega
  unfold shF
  rw [if_pos (by omega), if_pos (by omega), if_pos (by omega), z3]
  exact h n (by omega) n2
theorem R_find {μ : XMu} (hb : LB μ) : ∃ m, yDi_findMembers μ = some (.inl none, (μ.1, xuI (xuI μ.2.1 28 12 m) 28 13 (zc μ m), μ.2.2)) ∧ ZM (μ.2.1 28 5) (μ.2.1 28 9) (μ.2.1 30) (μ.2.1 31) (μ.2.1 28 7) m (zc μ m) := by
  obtain ⟨b1, b2, b3, b4⟩ := id hb
  unfold yDi_findMembers yDi_membersUpTo
  obtain ⟨m, p1, p2⟩ := membersUpTo_c hb 1000 (μ.2.1 28 9) b2 (Int.le_refl _) (by omega)
  rw [p1, xbi_s, codeOf_c (μ := (μ.1, xuI μ.2.1 28 12 m, μ.2.2)) hb p2.1 p2.2.1, xbi_s]
  exact ⟨m, rfl, p2, rfl⟩
theorem inst_keep {μ : XMu} (hb : LB μ) {p t : Int32} (c s : Int32) (h1 : (μ.2.1 28 5).toInt < p.toInt) (h2 : p.toInt ≤ (μ.2.1 28 9).toInt) (ht : zt μ p = t) : ∃ A B C m cd, yDi_install p t c s μ = some (.inl none, (μ.1, xuI (xuI (xuI (xuI (xuI (xuI (xuI (va_up (va_up (va_up μ.2.1 29 A) 30 B) 31 C) 28 5 p) 28 6 t) 28 7 c) 28 8 s) 28 11 1) 28 12 m) 28 13 cd, μ.2.2)) ∧ ZM p (μ.2.1 28 9) B C c m cd ∧ ∀ t' k' v', ZL (μ.2.1 28 5) (μ.2.1 28 9) (μ.2.1 29) (μ.2.1 30) (μ.2.1 31) t' k' v' → ZL p (μ.2.1 28 9) A B C t' k' v' := by
  obtain ⟨b1, b2, b3, b4⟩ := id hb
  unfold yDi_install yDi_install_b30 yDi_dropUpTo
  rw [holds1 hb h1 h2, if_neg (show ¬ (1 : Int32) = 0 by decide), termAt_c hb (by omega) h2, xbi_s, if_neg (not_not_intro ht)]
  have eG : (p - (μ.2.1 28 5)).toInt = p.toInt - (μ.2.1 28 5).toInt := i32_sub (by omega) (by omega)
  have tG := tn_of (i := p - (μ.2.1 28 5)) (by omega)
  rw [dropUp (G := p - (μ.2.1 28 5)) (by omega) (by omega) ((μ.2.1 28 9).toInt - p.toInt).toNat 1000 0 μ hb (by decide) (by rw [il_0]; omega) (by omega), xbv_s]
  rw [show (0 : Int32).toNatClampNeg = 0 from rfl, Nat.zero_add]
  obtain ⟨m, f1, f2⟩ := R_find (μ := (μ.1, xuI (xuI (xuI (xuI (xuI (va_up (va_up (va_up μ.2.1 29 (shF (μ.2.1 29) 0 ((μ.2.1 28 9).toInt - p.toInt).toNat (p - (μ.2.1 28 5)).toNatClampNeg)) 30 (shF (μ.2.1 30) 0 ((μ.2.1 28 9).toInt - p.toInt).toNat (p - (μ.2.1 28 5)).toNatClampNeg)) 31 (shF (μ.2.1 31) 0 ((μ.2.1 28 9).toInt - p.toInt).toNat (p - (μ.2.1 28 5)).toNatClampNeg)) 28 5 p) 28 6 t) 28 7 c) 28 8 s) 28 11 1, μ.2.2)) ⟨show 0 ≤ p.toInt by omega, show p.toInt ≤ (μ.2.1 28 9).toInt from h2, show (μ.2.1 28 9).toInt ≤ p.toInt + 300 by omega, b4⟩
  dsimp only at f1 ⊢
  rw [f1, xbv_s]
  exact ⟨_, _, _, m, _, rfl, f2, fun t' k' v' h => ZL_shift h b1 h1 h2 (by omega) (by omega)⟩
theorem inst_cut {μ : XMu} (hb : LB μ) {p t : Int32} (c s : Int32) (h1 : (μ.2.1 28 5).toInt < p.toInt) (h3 : p.toInt ≤ 1000000) (ht : ¬ (p.toInt ≤ (μ.2.1 28 9).toInt ∧ zt μ p = t)) : ∃ m cd, yDi_install p t c s μ = some (.inl none, (μ.1, xuI (xuI (xuI (xuI (xuI (xuI (xuI (xuI (xuI μ.2.1 28 9 p) 28 10 (if p < (μ.2.1 28 10) then p else (μ.2.1 28 10))) 28 5 p) 28 6 t) 28 7 c) 28 8 s) 28 11 1) 28 12 m) 28 13 cd, μ.2.2)) ∧ ZM p p (μ.2.1 30) (μ.2.1 31) c m cd := by
  obtain ⟨b1, b2, b3, b4⟩ := id hb
  unfold yDi_install yDi_install_b25 yDi_install_b30 yDi_endAt
  obtain ⟨m, f1, f2⟩ := R_find (μ := (μ.1, xuI (xuI (xuI (xuI (xuI (xuI (xuI μ.2.1 28 9 p) 28 10 (if p < (μ.2.1 28 10) then p else (μ.2.1 28 10))) 28 5 p) 28 6 t) 28 7 c) 28 8 s) 28 11 1, μ.2.2)) ⟨show 0 ≤ p.toInt by omega, Int.le_refl _, show p.toInt ≤ p.toInt + 300 by omega, show p.toInt ≤ 3000000 by omega⟩
  refine ⟨m, _, ?_, f2⟩
  by_cases h2 : p.toInt ≤ (μ.2.1 28 9).toInt
  · rw [holds1 hb h1 h2, if_neg (show ¬ (1 : Int32) = 0 by decide), termAt_c hb (by omega) h2, xbi_s, if_pos (fun k => ht ⟨h2, k⟩), xbv_s]
    dsimp only at f1 ⊢
    rw [f1, xbv_s]
  · rw [holds0 hb (fun k => h2 k.2), if_pos rfl, xbv_s]
    dsimp only at f1 ⊢
    rw [f1, xbv_s]
def z0F (F : Nat → Int32) (x : Nat) : Nat → Int32 := fun j => if x ≤ j ∧ j < 7 then 0 else F j
theorem z0F_end {F : Nat → Int32} {x : Nat} (h : 7 ≤ x) : z0F F x = F := by
  funext j
  unfold z0F
  rw [if_neg (by omega)]
theorem z0F_step {F : Nat → Int32} {x : Nat} (h : x < 7) : z0F (upd F x 0) (x + 1) = z0F F x := by
  funext j
  unfold z0F
  by_cases h1 : j = x
  · rw [if_neg (by omega), if_pos (by omega), h1, upd_s]
  · by_cases h2 : x ≤ j ∧ j < 7
    · rw [if_pos (by omega), if_pos h2]
    · rw [if_neg (by omega), if_neg h2, upd_o h1]
theorem off_c : ∀ (r f : Nat) (x : Int32) (μ : XMu), 0 ≤ x.toInt → x.toInt + r = 7 → r < f → yLe_forgetOffsets_b2_L f x μ = some (.inl none, (μ.1, va_up μ.2.1 16 (z0F (μ.2.1 16) x.toNatClampNeg), μ.2.2)) := by
  intro r
  induction r with
  | zero =>
    intro f x μ hx hr hf
    obtain ⟨f, rfl⟩ : ∃ f', f = f' + 1 := ⟨f - 1, by omega⟩
    have t1 := tn_of hx
    unfold yLe_forgetOffsets_b2_L yLe_forgetOffsets_b2
    rw [if_pos (by rw [Int32.le_iff_toInt_le, il_7]; omega), z0F_end (by omega), va_up_id]
  | succ r ih =>
    intro f x μ hx hr hf
    obtain ⟨f, rfl⟩ : ∃ f', f = f' + 1 := ⟨f - 1, by omega⟩
    have e5 := inc_i (n := x) (by omega)
    have t1 := tn_of hx
    have t4 := tn_of (i := x + 1) (by omega)
    unfold yLe_forgetOffsets_b2_L yLe_forgetOffsets_b2
    rw [if_neg (by rw [Int32.le_iff_toInt_le, il_7]; omega), xgd_t (xin_of hx (by omega)), ih f (x + 1) _ (by omega) (by omega) (by omega)]
    dsimp only
    rw [va_up_xu, xuI_s, show (x + 1).toNatClampNeg = x.toNatClampNeg + 1 by omega, z0F_step (by omega)]
theorem off_m : ∀ (r f : Nat) (x : Int32) (ν : XMu), 0 ≤ x.toInt → x.toInt + r = 7 → r < f → yM_compact_b69_L f x ν = yM_compact_b88 (ν.1, va_up ν.2.1 39 (z0F (ν.2.1 39) x.toNatClampNeg), ν.2.2) := by
  intro r
  induction r with
  | zero =>
    intro f x ν hx hr hf
    obtain ⟨f, rfl⟩ : ∃ f', f = f' + 1 := ⟨f - 1, by omega⟩
    have t1 := tn_of hx
    unfold yM_compact_b69_L yM_compact_b69
    rw [if_pos (by rw [Int32.le_iff_toInt_le, il_7]; omega), z0F_end (by omega), va_up_id]
  | succ r ih =>
    intro f x ν hx hr hf
    obtain ⟨f, rfl⟩ : ∃ f', f = f' + 1 := ⟨f - 1, by omega⟩
    have e5 := inc_i (n := x) (by omega)
    have t1 := tn_of hx
    have t4 := tn_of (i := x + 1) (by omega)
    unfold yM_compact_b69_L yM_compact_b69
    rw [if_neg (by rw [Int32.le_iff_toInt_le, il_7]; omega), xgd_t (xin_of hx (by omega)), ih f (x + 1) _ (by omega) (by omega) (by omega)]
    dsimp only
    rw [va_up_xu, xuI_s, show (x + 1).toNatClampNeg = x.toNatClampNeg + 1 by omega, z0F_step (by omega)]
theorem Q_compact {g h μ ν : XMu} {n : Nat} (he : RE g h μ ν) (hi : RI n μ) (hn : n + 1500 ≤ 1000000) (a : Int32) : Pub g h (n + 1500) En (yC_compact a μ) (yM_compact a ν) := by
  have he0 := RE_zh he 0
  unfold yC_compact yM_compact
  rw [zh_x, he.applied, he.base, ← pos_eq]
  have r0 : Pub g h (n + 1500) En (some (.inl (some (.int 0)), μ)) (some (.inl (some (.int 0)), zh ν 0)) := Pub.i he0 hi (by omega)
  generalize zh ν 0 = N at he0 r0 ⊢
  have hb := hi.LB (by omega)
  obtain ⟨b1, b2, b3, b4⟩ := id hb
  have h1 := hi.ba
  have h2 := hi.ac
  have h3 := hi.cl
  by_cases c1 : (μ.2.1 0 12) = (μ.2.1 28 5)
  · rw [if_pos c1, if_pos c1]; exact r0
  · rw [if_neg c1, if_neg c1]
    by_cases c2 : yC_isPositive a = 0
    · rw [if_neg (not_not_intro c2), if_neg (not_not_intro c2)]; exact r0
    · rw [if_pos c2, if_pos c2]
      have hlt : (μ.2.1 28 5).toInt < (μ.2.1 0 12).toInt := by
        rcases Int.lt_or_eq_of_le h1 with q | q
        · exact q
        · exact absurd (inj_i q.symm) c1
      obtain ⟨m, d1, d2, _, _⟩ := codeAt_pair he0 hb (n := (μ.2.1 0 12)) h1 (by omega)
      rw [termAt_c hb h1 (by omega), xbi_s, d1, xbi_s, d2, xbi_s, he0.applied, termAt_m he0 hb h1 (by omega), xbi_s, he0.applied]
      obtain ⟨A, B, C, m2, cd, i1, i2, i3⟩ := inst_keep hb (zc μ m) a hlt (show (μ.2.1 0 12).toInt ≤ (μ.2.1 28 9).toInt by omega) rfl
      unfold yLe_forgetOffsets
      rw [i1, xbv_s, off_c 7 1000 0 _ (by decide) (by decide) (by omega), xbv_s, off_m 7 1000 0 _ (by decide) (by decide) (by omega)]
      unfold yM_compact_b88
      have qo : (xuI (xuI (xuI (xuI N.2.1 32 11 (zt μ (μ.2.1 0 12))) 32 12 (zc μ m)) 32 9 (μ.2.1 0 12)) 32 13 a) 39 = (μ.2.1 16) := he0.offset
      dsimp only
      rw [qo]
      refine Or.inl ⟨_, _, _, rfl, rfl, ?_, ?_, isI _⟩
      · exact (RE.mk (ft := he0.ft) (fg := fun c hc => by first | exact he0.fg c hc | (have hh := he0.fg c hc; (try unfold zq at hh); (try unfold zd at hh); (try unfold zf at hh); (try unfold zo at hh); (try unfold zo); (try unfold zh at hh); (try unfold zh); (try unfold zq); (try unfold zd); (try unfold zf); (try dsimp only at hh); (try dsimp only); (repeat (first | rw [xuI_o (by omega)] at hh | rw [xuL_o (by omega)] at hh | rw [va_up_o (by omega)] at hh)); (repeat (first | rw [xuI_o (by omega)] | rw [xuL_o (by omega)] | rw [va_up_o (by omega)])); exact hh)) (fgl := fun c hc => by first | exact he0.fgl c hc | (have hh := he0.fgl c hc; (try unfold zq at hh); (try unfold zd at hh); (try unfold zf at hh); (try unfold zo at hh); (try unfold zo); (try unfold zh at hh); (try unfold zh); (try unfold zq); (try unfold zd); (try unfold zf); (try dsimp only at hh); (try dsimp only); (repeat (first | rw [xuI_o (by omega)] at hh | rw [xuL_o (by omega)] at hh | rw [va_up_o (by omega)] at hh)); (repeat (first | rw [xuI_o (by omega)] | rw [xuL_o (by omega)] | rw [va_up_o (by omega)])); exact hh)) (ht := he0.ht) (hg := fun c hc => by first | exact he0.hg c hc | (have hh := he0.hg c hc; (try unfold zq at hh); (try unfold zd at hh); (try unfold zf at hh); (try unfold zo at hh); (try unfold zo); (try unfold zh at hh); (try unfold zh); (try unfold zq); (try unfold zd); (try unfold zf); (try dsimp only at hh); (try dsimp only); (repeat (first | rw [xuI_o (by omega)] at hh | rw [xuL_o (by omega)] at hh | rw [va_up_o (by omega)] at hh)); (repeat (first | rw [xuI_o (by omega)] | rw [xuL_o (by omega)] | rw [va_up_o (by omega)])); exact hh)) (hgl := fun c hc => by first | exact he0.hgl c hc | (have hh := he0.hgl c hc; (try unfold zq at hh); (try unfold zd at hh); (try unfold zf at hh); (try unfold zo at hh); (try unfold zo); (try unfold zh at hh); (try unfold zh); (try unfold zq); (try unfold zd); (try unfold zf); (try dsimp only at hh); (try dsimp only); (repeat (first | rw [xuI_o (by omega)] at hh | rw [xuL_o (by omega)] at hh | rw [va_up_o (by omega)] at hh)); (repeat (first | rw [xuI_o (by omega)] | rw [xuL_o (by omega)] | rw [va_up_o (by omega)])); exact hh)) (thr := he0.thr) (row := he0.row) (itself := he0.itself) (now := he0.now) (term := he0.term) (voted := he0.voted) (base := rfl) (last := he0.last) (baseTerm := rfl) (baseCode := rfl) (snapshot := rfl) (dirty := rfl) (role := he0.role) (leader := he0.leader) (commit := he0.commit) (applied := he0.applied) (synced := he0.synced) (heard := he0.heard) (alarm := he0.alarm) (votes := he0.votes) (handing := he0.handing) (handed := he0.handed) (first := he0.first) (round := he0.round) (assembly := he0.assembly) (described := he0.described) (toldBase := he0.toldBase) (toldTerm := he0.toldTerm) (toldCode := he0.toldCode) (toldSize := he0.toldSize) (told := he0.told) (waits := he0.waits) (went := he0.went) (done := he0.done) (calls := he0.calls) (next := he0.next) (mtch := he0.mtch) (flying := he0.flying) (offset := rfl) (ack := he0.ack) (seen := he0.seen) (probing := he0.probing) (answered := he0.answered) (toldTerms := he0.toldTerms) (toldKinds := he0.toldKinds) (toldValues := he0.toldValues) (doneNumbers := he0.doneNumbers) (doneValues := he0.doneValues) (callState := he0.callState) (callNumber := he0.callNumber) (got := he0.got) (log := i3 _ _ _ he0.log) (kept := he0.kept) (wait := he0.wait) (cls := he0.cls))
      · have hiM := hi.mono (show n ≤ n + 1500 by omega)
        exact (RI.mk (itself := hiM.itself) (role := hiM.role) (base := by show 0 ≤ (μ.2.1 0 12).toInt; omega) (ba := Int.le_refl _) (ac := hiM.ac) (cl := hiM.cl) (lb := by show (μ.2.1 28 9).toInt ≤ (μ.2.1 0 12).toInt + 300; omega) (last := hiM.last) (syn := hiM.syn) (dirty := rfl) (desc := hiM.desc) (now := hiM.now) (term := hiM.term) (went := hiM.went) (waits := hiM.waits) (done := hiM.done) (calls := hiM.calls) (told := hiM.told) (round := hiM.round) (hand := hiM.hand) (heard := hiM.heard) (vote := hiM.vote) (lead := hiM.lead) (quiet := hiM.quiet) (cmd := hiM.cmd) (tt := hiM.tt) (tb := hiM.tb) (got := hiM.got) (mem := i2))
