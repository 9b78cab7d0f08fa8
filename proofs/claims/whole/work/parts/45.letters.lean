def zh (h : XMu) (c : Int32) : XMu := (h.1, xuI h.2.1 32 0 c, h.2.2)
theorem zh_zh {h : XMu} {a b : Int32} : zh (zh h a) b = zh h b := by
  unfold zh
  have : xuI (xuI h.2.1 32 0 a) 32 0 b = xuI h.2.1 32 0 b := by
    apply mem_ext
    intro c p
    unfold xuI va_up upd
    by_cases h1 : c = 32
    · rw [if_pos h1, if_pos h1]
      by_cases h2 : p = 0
      · rw [if_pos h2, if_pos h2]
      · rw [if_neg h2, if_neg h2, if_pos rfl, if_neg h2]
    · rw [if_neg h1, if_neg h1, if_neg h1]
  rw [this]
theorem RE_zh {g h μ ν : XMu} (he : RE g h μ ν) (c : Int32) : RE g (zh h c) μ (zh ν c) := by
  refine (RE.mk (ft := he.ft) (fg := fun c hc => by first | exact he.fg c hc | (have hh := he.fg c hc; (try unfold zq at hh); (try unfold zd at hh); (try unfold zf at hh); (try unfold zo at hh); (try unfold zo); (try unfold zh at hh); (try unfold zh); (try unfold zq); (try unfold zd); (try unfold zf); (try dsimp only at hh); (try dsimp only); (repeat (first | rw [xuI_o (by omega)] at hh | rw [xuL_o (by omega)] at hh | rw [va_up_o (by omega)] at hh)); (repeat (first | rw [xuI_o (by omega)] | rw [xuL_o (by omega)] | rw [va_up_o (by omega)])); exact hh)) (fgl := fun c hc => by first | exact he.fgl c hc | (have hh := he.fgl c hc; (try unfold zq at hh); (try unfold zd at hh); (try unfold zf at hh); (try unfold zo at hh); (try unfold zo); (try unfold zh at hh); (try unfold zh); (try unfold zq); (try unfold zd); (try unfold zf); (try dsimp only at hh); (try dsimp only); (repeat (first | rw [xuI_o (by omega)] at hh | rw [xuL_o (by omega)] at hh | rw [va_up_o (by omega)] at hh)); (repeat (first | rw [xuI_o (by omega)] | rw [xuL_o (by omega)] | rw [va_up_o (by omega)])); exact hh)) (ht := he.ht) (hg := fun k hk => ?_) (hgl := fun c hc => by first | exact he.hgl c hc | (have hh := he.hgl c hc; (try unfold zq at hh); (try unfold zd at hh); (try unfold zf at hh); (try unfold zo at hh); (try unfold zo); (try unfold zh at hh); (try unfold zh); (try unfold zq); (try unfold zd); (try unfold zf); (try dsimp only at hh); (try dsimp only); (repeat (first | rw [xuI_o (by omega)] at hh | rw [xuL_o (by omega)] at hh | rw [va_up_o (by omega)] at hh)); (repeat (first | rw [xuI_o (by omega)] | rw [xuL_o (by omega)] | rw [va_up_o (by omega)])); exact hh)) (thr := rfl) (row := he.row) (itself := he.itself) (now := he.now) (term := he.term) (voted := he.voted) (base := he.base) (last := he.last) (baseTerm := he.baseTerm) (baseCode := he.baseCode) (snapshot := he.snapshot) (dirty := he.dirty) (role := he.role) (leader := he.leader) (commit := he.commit) (applied := he.applied) (synced := he.synced) (heard := he.heard) (alarm := he.alarm) (votes := he.votes) (handing := he.handing) (handed := he.handed) (first := he.first) (round := he.round) (assembly := he.assembly) (described := he.described) (toldBase := he.toldBase) (toldTerm := he.toldTerm) (toldCode := he.toldCode) (toldSize := he.toldSize) (told := he.told) (waits := he.waits) (went := he.went) (done := he.done) (calls := he.calls) (next := he.next) (mtch := he.mtch) (flying := he.flying) (offset := he.offset) (ack := he.ack) (seen := he.seen) (probing := he.probing) (answered := he.answered) (toldTerms := he.toldTerms) (toldKinds := he.toldKinds) (toldValues := he.toldValues) (doneNumbers := he.doneNumbers) (doneValues := he.doneValues) (callState := he.callState) (callNumber := he.callNumber) (got := he.got) (log := he.log) (kept := he.kept) (wait := he.wait) (cls := he.cls))
  unfold zh
  dsimp only
  rw [xuI_o (by omega), xuI_o (by omega)]
  exact he.hg k hk
def zx (g : XMu) : XMu := (g.1 + 1, g.2.1, g.2.2)
theorem RE_zx {g h μ ν : XMu} (he : RE g h μ ν) : RE (zx g) h (zx μ) ν := (RE.mk (ft := congrArg (fun k => k + 1) he.ft) (fg := fun c hc => by first | exact he.fg c hc | (have hh := he.fg c hc; (try unfold zq at hh); (try unfold zd at hh); (try unfold zf at hh); (try unfold zo at hh); (try unfold zo); (try unfold zh at hh); (try unfold zh); (try unfold zq); (try unfold zd); (try unfold zf); (try dsimp only at hh); (try dsimp only); (repeat (first | rw [xuI_o (by omega)] at hh | rw [xuL_o (by omega)] at hh | rw [va_up_o (by omega)] at hh)); (repeat (first | rw [xuI_o (by omega)] | rw [xuL_o (by omega)] | rw [va_up_o (by omega)])); exact hh)) (fgl := fun c hc => by first | exact he.fgl c hc | (have hh := he.fgl c hc; (try unfold zq at hh); (try unfold zd at hh); (try unfold zf at hh); (try unfold zo at hh); (try unfold zo); (try unfold zh at hh); (try unfold zh); (try unfold zq); (try unfold zd); (try unfold zf); (try dsimp only at hh); (try dsimp only); (repeat (first | rw [xuI_o (by omega)] at hh | rw [xuL_o (by omega)] at hh | rw [va_up_o (by omega)] at hh)); (repeat (first | rw [xuI_o (by omega)] | rw [xuL_o (by omega)] | rw [va_up_o (by omega)])); exact hh)) (ht := he.ht) (hg := fun c hc => by first | exact he.hg c hc | (have hh := he.hg c hc; (try unfold zq at hh); (try unfold zd at hh); (try unfold zf at hh); (try unfold zo at hh); (try unfold zo); (try unfold zh at hh); (try unfold zh); (try unfold zq); (try unfold zd); (try unfold zf); (try dsimp only at hh); (try dsimp only); (repeat (first | rw [xuI_o (by omega)] at hh | rw [xuL_o (by omega)] at hh | rw [va_up_o (by omega)] at hh)); (repeat (first | rw [xuI_o (by omega)] | rw [xuL_o (by omega)] | rw [va_up_o (by omega)])); exact hh)) (hgl := fun c hc => by first | exact he.hgl c hc | (have hh := he.hgl c hc; (try unfold zq at hh); (try unfold zd at hh); (try unfold zf at hh); (try unfold zo at hh); (try unfold zo); (try unfold zh at hh); (try unfold zh); (try unfold zq); (try unfold zd); (try unfold zf); (try dsimp only at hh); (try dsimp only); (repeat (first | rw [xuI_o (by omega)] at hh | rw [xuL_o (by omega)] at hh | rw [va_up_o (by omega)] at hh)); (repeat (first | rw [xuI_o (by omega)] | rw [xuL_o (by omega)] | rw [va_up_o (by omega)])); exact hh)) (thr := he.thr) (row := he.row) (itself := he.itself) (now := he.now) (term := he.term) (voted := he.voted) (base := he.base) (last := he.last) (baseTerm := he.baseTerm) (baseCode := he.baseCode) (snapshot := he.snapshot) (dirty := he.dirty) (role := he.role) (leader := he.leader) (commit := he.commit) (applied := he.applied) (synced := he.synced) (heard := he.heard) (alarm := he.alarm) (votes := he.votes) (handing := he.handing) (handed := he.handed) (first := he.first) (round := he.round) (assembly := he.assembly) (described := he.described) (toldBase := he.toldBase) (toldTerm := he.toldTerm) (toldCode := he.toldCode) (toldSize := he.toldSize) (told := he.told) (waits := he.waits) (went := he.went) (done := he.done) (calls := he.calls) (next := he.next) (mtch := he.mtch) (flying := he.flying) (offset := he.offset) (ack := he.ack) (seen := he.seen) (probing := he.probing) (answered := he.answered) (toldTerms := he.toldTerms) (toldKinds := he.toldKinds) (toldValues := he.toldValues) (doneNumbers := he.doneNumbers) (doneValues := he.doneValues) (callState := he.callState) (callNumber := he.callNumber) (got := he.got) (log := he.log) (kept := he.kept) (wait := he.wait) (cls := he.cls))
theorem RI_zx {n : Nat} {μ : XMu} (hi : RI n μ) : RI n (zx μ) := (RI.mk (itself := hi.itself) (role := hi.role) (base := hi.base) (ba := hi.ba) (ac := hi.ac) (cl := hi.cl) (lb := hi.lb) (last := hi.last) (syn := hi.syn) (dirty := hi.dirty) (desc := hi.desc) (now := hi.now) (term := hi.term) (went := hi.went) (waits := hi.waits) (done := hi.done) (calls := hi.calls) (told := hi.told) (round := hi.round) (hand := hi.hand) (heard := hi.heard) (vote := hi.vote) (lead := hi.lead) (quiet := hi.quiet) (cmd := hi.cmd) (tt := hi.tt) (tb := hi.tb) (got := hi.got) (mem := hi.mem))
theorem isV : (none : Option Value) = none := rfl
theorem isI (v : Int32) : ∃ w : Int32, (some (Value.int v) : Option Value) = some (.int w) := ⟨v, rfl⟩
def Pub (g h : XMu) (n : Nat) (E : (Nat → Int32 → Prop) × (Option Value → Prop)) (P Q : XRes) : Prop := (∃ o μ' ν', P = some (.inl o, μ') ∧ Q = some (.inl o, ν') ∧ RE g (zh h 0) μ' ν' ∧ RI n μ' ∧ E.2 o) ∨ (∃ k c o μ' ν', E.1 k c ∧ P = some (.inr k, μ') ∧ Q = some (.inl o, ν') ∧ RE (zx g) (zh h c) μ' ν' ∧ RI n μ' ∧ E.2 o)
theorem Pub.ofPv {g h : XMu} {n n' : Nat} {E : (Nat → Int32 → Prop) × (Option Value → Prop)} {P Q : XRes} (p : Pv g (zh h 0) n P Q) (hn : n ≤ n') (hT : E.2 none := by first | exact isV | exact isI _) : Pub g h n' E P Q := by
  obtain ⟨μ, ν, a, b, c, d⟩ := p
  exact Or.inl ⟨_, μ, ν, a, b, c, d.mono hn, hT⟩
theorem Pub.thr {g h μ ν : XMu} {n n' : Nat} {E : (Nat → Int32 → Prop) × (Option Value → Prop)} {k : Nat} {c : Int32} {o : Option Value} (he : RE g h μ ν) (hi : RI n μ) (hn : n ≤ n') (hE : E.1 k c) (hT : E.2 o := by first | exact isV | exact isI _) : Pub g h n' E (some (.inr k, (μ.1 + 1, μ.2.1, μ.2.2))) (some (.inl o, zh ν c)) := Or.inr ⟨k, c, o, zx μ, _, hE, rfl, rfl, RE_zh (RE_zx he) c, RI_zx (hi.mono hn), hT⟩
def nok (a : Int32) : Prop := 0 ≤ a.toInt ∧ a.toInt ≤ 1000000
def sok (a b : Int32) : Prop := (0 ≤ a.toInt ∧ a.toInt ≤ 6) ∧ ¬ a = b
theorem within_1 {a b c : Int32} (h1 : b.toInt ≤ a.toInt) (h2 : a.toInt ≤ c.toInt) : yM_within a b c = 1 := by
  unfold yM_within
  rw [if_neg (by rw [Int32.lt_iff_toInt_lt]; omega), if_neg (by rw [Int32.lt_iff_toInt_lt]; omega)]
theorem within_0 {a b c : Int32} (h : ¬ (b.toInt ≤ a.toInt ∧ a.toInt ≤ c.toInt)) : yM_within a b c = 0 := by
  unfold yM_within
  by_cases h1 : a < b
  · rw [if_pos h1]
  · rw [if_neg h1]
    rw [Int32.lt_iff_toInt_lt] at h1
    rw [if_pos (by rw [Int32.lt_iff_toInt_lt]; omega)]
theorem num_1 {a : Int32} (h : nok a) : yM_isNumber a = 1 := within_1 h.1 h.2
theorem num_0 {a : Int32} (h : ¬ nok a) : yM_isNumber a = 0 := within_0 h
theorem blt_t {a : Nat} (h : a < 1024) : Nat.blt a 1024 = true := by
  unfold Nat.blt
  exact Nat.ble_eq_true_of_le h
theorem c_num_1 {a : Int32} {μ : XMu} (h : nok a) : yC_checkNumber a μ = some (.inl none, μ) := by
  unfold yC_checkNumber
  rw [if_neg (by rw [Int32.lt_iff_toInt_lt, il_0]; have := h.1; omega), if_pos (by rw [Int32.le_iff_toInt_le, il_1000000]; exact h.2)]
theorem c_num_0 {a : Int32} {μ : XMu} (h : ¬ nok a) (ht : μ.1 < 1024) : yC_checkNumber a μ = some (.inr 0, (μ.1 + 1, μ.2.1, μ.2.2)) := by
  unfold yC_checkNumber nok at *
  rw [xgd_t (blt_t ht)]
  by_cases h1 : a < 0
  · rw [if_pos h1]
  · rw [if_neg h1]
    rw [Int32.lt_iff_toInt_lt, il_0] at h1
    rw [if_neg (by rw [Int32.le_iff_toInt_le, il_1000000]; omega)]
theorem other_1 {a : Int32} {μ : XMu} (h : sok a (μ.2.1 0 0)) : yC_isOtherServer a μ = 1 := by
  unfold yC_isOtherServer
  have := h.1
  rw [if_neg (by rw [Int32.lt_iff_toInt_lt, il_0]; omega), if_neg (by rw [Int32.le_iff_toInt_le, il_7]; omega), if_neg h.2]
theorem other_0 {a : Int32} {μ : XMu} (h : ¬ sok a (μ.2.1 0 0)) : yC_isOtherServer a μ = 0 := by
  unfold yC_isOtherServer
  by_cases h1 : a < 0
  · rw [if_pos h1]
  · rw [if_neg h1]
    by_cases h2 : (7 : Int32) ≤ a
    · rw [if_pos h2]
    · rw [if_neg h2]
      rw [Int32.lt_iff_toInt_lt, il_0] at h1
      rw [Int32.le_iff_toInt_le, il_7] at h2
      rw [if_pos]
      exact Decidable.byContradiction fun k => h ⟨by omega, k⟩
theorem c_sen_1 {a : Int32} {μ : XMu} (h : sok a (μ.2.1 0 0)) : yC_checkSender a μ = some (.inl none, μ) := by
  unfold yC_checkSender
  rw [other_1 h, if_pos (show ¬ (1 : Int32) = 0 by decide)]
theorem c_sen_0 {a : Int32} {μ : XMu} (h : ¬ sok a (μ.2.1 0 0)) (ht : μ.1 < 1024) : yC_checkSender a μ = some (.inr 2, (μ.1 + 1, μ.2.1, μ.2.2)) := by
  unfold yC_checkSender
  rw [other_0 h, if_neg (not_not_intro rfl), xgd_t (blt_t ht)]
theorem bad_0 {a b c d e : Int32} {ν : XMu} (h0 : sok a (ν.2.1 32 1)) (h1 : nok b) (h2 : nok c) (h3 : nok d) (h4 : nok e) (ht : (ν.2.1 32 0) = 0) : yM_bad a b c d e ν = some (.inl (some (.int 0)), ν) := by
  unfold yM_bad
  rw [within_1 (show (0 : Int32).toInt ≤ _ from h0.1.1) (show _ ≤ (6 : Int32).toInt from h0.1.2), if_neg (show ¬ (1 : Int32) = 0 by decide), if_pos h0.2, num_1 h1, num_1 h2, num_1 h3, num_1 h4, if_neg (show ¬ (1 : Int32) = 0 by decide), if_neg (show ¬ (1 : Int32) = 0 by decide), if_neg (show ¬ (1 : Int32) = 0 by decide), if_pos (show ¬ (1 : Int32) = 0 by decide), if_pos (by rw [ht]; decide)]
theorem bad_1 {a b c d e : Int32} {ν : XMu} (h0 : ¬ sok a (ν.2.1 32 1)) : yM_bad a b c d e ν = some (.inl (some (.int 1)), zh ν 1) := by
  unfold yM_bad
  by_cases h1 : 0 ≤ a.toInt ∧ a.toInt ≤ 6
  · rw [within_1 (show (0 : Int32).toInt ≤ _ from h1.1) (show _ ≤ (6 : Int32).toInt from h1.2), if_neg (show ¬ (1 : Int32) = 0 by decide), if_neg (fun k => h0 ⟨h1, k⟩)]
    rfl
  · rw [within_0 (show ¬ ((0 : Int32).toInt ≤ _ ∧ _ ≤ (6 : Int32).toInt) from h1), if_pos rfl]
    rfl
theorem bad_2 {a b c d e : Int32} {ν : XMu} (h0 : sok a (ν.2.1 32 1)) (h1 : ¬ (nok b ∧ nok c ∧ nok d ∧ nok e)) : yM_bad a b c d e ν = some (.inl (some (.int 1)), zh ν 2) := by
  unfold yM_bad
  rw [within_1 (show (0 : Int32).toInt ≤ _ from h0.1.1) (show _ ≤ (6 : Int32).toInt from h0.1.2), if_neg (show ¬ (1 : Int32) = 0 by decide), if_pos h0.2]
  by_cases k1 : nok b
  · rw [num_1 k1, if_neg (show ¬ (1 : Int32) = 0 by decide)]
    by_cases k2 : nok c
    · rw [num_1 k2, if_neg (show ¬ (1 : Int32) = 0 by decide)]
      by_cases k3 : nok d
      · rw [num_1 k3, if_neg (show ¬ (1 : Int32) = 0 by decide), num_0 (fun k4 => h1 ⟨k1, k2, k3, k4⟩), if_neg (not_not_intro rfl)]
        rfl
      · rw [num_0 k3, if_pos rfl]
        rfl
    · rw [num_0 k2, if_pos rfl]
      rfl
  · rw [num_0 k1, if_pos rfl]
    rfl
theorem nok_0 : nok 0 := ⟨by decide, by decide⟩
def El : (Nat → Int32 → Prop) × (Option Value → Prop) := (fun k c => (k = 2 ∧ c = 1) ∨ (k = 0 ∧ c = 2), fun o => o = none)
theorem Thr_s {g h μ ν : XMu} {n n' : Nat} {E : (Nat → Int32 → Prop) × (Option Value → Prop)} {a b c d e : Int32} {K : XMu → XRes} {M : Int32 → XMu → XRes} (he : RE g h μ ν) (hi : RI n μ) (hn : n ≤ n') (ht : μ.1 < 1024) (hs : ¬ sok a (μ.2.1 0 0)) (hE : E.1 2 1) (hT : E.2 none) (hM : ∀ m, M 1 m = some (.inl none, m)) : Pub g h n' E (xbv (yC_checkSender a μ) K) (xbi (yM_bad a b c d e (zh ν 0)) M) := by
  rw [c_sen_0 hs ht, xbv_r, bad_1 (by show ¬ sok a (ν.2.1 32 1); rw [he.itself]; exact hs), xbi_s, hM, zh_zh]
  exact Pub.thr he hi hn hE hT
theorem Thr_n {g h μ ν : XMu} {n n' : Nat} {E : (Nat → Int32 → Prop) × (Option Value → Prop)} {z a b c d e : Int32} {K : XMu → XRes} {M : Int32 → XMu → XRes} (he : RE g h μ ν) (hi : RI n μ) (hn : n ≤ n') (ht : μ.1 < 1024) (hs : sok a (μ.2.1 0 0)) (hz : ¬ nok z) (hb : ¬ (nok b ∧ nok c ∧ nok d ∧ nok e)) (hE : E.1 0 2) (hT : E.2 none) (hM : ∀ m, M 1 m = some (.inl none, m)) : Pub g h n' E (xbv (yC_checkNumber z μ) K) (xbi (yM_bad a b c d e (zh ν 0)) M) := by
  rw [c_num_0 hz ht, xbv_r, bad_2 (by show sok a (ν.2.1 32 1); rw [he.itself]; exact hs) hb, xbi_s, hM, zh_zh]
  exact Pub.thr he hi hn hE hT
theorem asNew_pair {g h μ ν : XMu} (he : RE g h μ ν) (hb : LB μ) (a b : Int32) : ∃ r, yC_isAsNew a b μ = some (.inl (some (.int r)), μ) ∧ yM_asNew a b ν = some (.inl (some (.int r)), ν) ∧ (r = 0 ∨ r = 1) := by
  unfold yC_isAsNew yM_asNew
  rw [lastTerm_c hb, xbi_s, he.last, termAt_m he hb hb.2.1 (Int.le_refl _), xbi_s, he.last, termAt_m he hb hb.2.1 (Int.le_refl _), xbi_s, he.last]
  by_cases h1 : zt μ (μ.2.1 28 9) < b
  · rw [if_pos h1, if_pos h1]; exact ⟨1, rfl, rfl, Or.inr rfl⟩
  · rw [if_neg h1, if_neg h1]
    by_cases h2 : b = zt μ (μ.2.1 28 9)
    · rw [if_neg (not_not_intro h2), if_neg (not_not_intro h2)]
      by_cases h3 : a < (μ.2.1 28 9)
      · rw [if_pos h3, if_pos h3]; exact ⟨0, rfl, rfl, Or.inl rfl⟩
      · rw [if_neg h3, if_neg h3]; exact ⟨1, rfl, rfl, Or.inr rfl⟩
    · rw [if_pos h2, if_pos h2]; exact ⟨0, rfl, rfl, Or.inl rfl⟩
theorem P_mail1 {g h μ ν : XMu} {n : Nat} (he : RE g h μ ν) (hi : RI n μ) (hn : n ≤ 1000000) (a k t v : Int32) : Pv g h (n + 1) (xbv (yMa_begin a k t μ) (fun m5 => xbv (yMa_add v m5) (fun m6 => xbv (yMa_post (m6.2.1 28 11) m6) (fun m7 => some (.inl none, m7))))) (xbv (yM_begin a k t ν) (fun m3 => xbv (yM_add v m3) (fun m4 => xbv (yM_send m4) (fun m5 => some (.inl none, m5))))) := by
  obtain ⟨d, d', p1, p2, z⟩ := L_begin μ ν a k t
  rw [p1, p2, xbv_s, xbv_s]
  obtain ⟨d1, d1', a1, a2, z1⟩ := L_add (μ := μ) (ν := ν) z (by decide) v
  rw [a1, a2, xbv_s, xbv_s, zμ_28]
  obtain ⟨X, Y, Z, w1, w2, w3, w4⟩ := L_post he hi hn z1
  rw [w1, w2, xbv_s, xbv_s]
  exact Pv.ret w3 w4
theorem P_mail3 {g h μ ν : XMu} {n : Nat} (he : RE g h μ ν) (hi : RI n μ) (hn : n ≤ 1000000) (a k t u v w : Int32) : Pv g h (n + 1) (xbv (yMa_begin a k t μ) (fun m1 => xbv (yMa_add u m1) (fun m2 => xbv (yMa_add v m2) (fun m3 => xbv (yMa_add w m3) (fun m4 => xbv (yMa_post (m4.2.1 28 11) m4) (fun m5 => some (.inl none, m5))))))) (xbv (yM_begin a k t ν) (fun m1 => xbv (yM_add u m1) (fun m2 => xbv (yM_add v m2) (fun m3 => xbv (yM_add w m3) (fun m4 => xbv (yM_send m4) (fun m5 => some (.inl none, m5))))))) := by
  obtain ⟨d, d', p1, p2, z⟩ := L_begin μ ν a k t
  rw [p1, p2, xbv_s, xbv_s]
  obtain ⟨d1, d1', a1, a2, z1⟩ := L_add (μ := μ) (ν := ν) z (by decide) u
  obtain ⟨d2, d2', a3, a4, z2⟩ := L_add (μ := μ) (ν := ν) z1 (by decide) v
  obtain ⟨d3, d3', a5, a6, z3⟩ := L_add (μ := μ) (ν := ν) z2 (by decide) w
  rw [a1, a2, xbv_s, xbv_s, a3, a4, xbv_s, xbv_s, a5, a6, xbv_s, xbv_s, zμ_28]
  obtain ⟨X, Y, Z, w1, w2, w3, w4⟩ := L_post he hi hn z3
  rw [w1, w2, xbv_s, xbv_s]
  exact Pv.ret w3 w4
theorem pre_end {g h μ ν : XMu} {n : Nat} (he : RE g h μ ν) (hi : RI n μ) (hn : n ≤ 1000000) (a b s : Int32) : Pv g h (n + 1) (yC_preask_b86 a b s μ) (yM_preask_b72 a b s ν) := by
  unfold yC_preask_b86 yM_preask_b72 yC_preask_b110
  rw [he.term]
  by_cases h1 : s = 0
  · rw [if_pos h1, if_pos h1]
    have : ∀ (X Y : XMu → XRes), (fun m => if s = 0 then X m else Y m) = X := fun X Y => funext fun m => if_pos h1
    rw [this, this]
    exact P_mail1 he hi hn a 2 (μ.2.1 28 3) 0
  · rw [if_neg h1, if_neg h1]
    have : ∀ (X Y : XMu → XRes), (fun m => if s = 0 then X m else Y m) = Y := fun X Y => funext fun m => if_neg h1
    rw [this, this]
    exact P_mail1 he hi hn a 2 b 1
theorem B_preask {g h μ ν : XMu} {n : Nat} (he : RE g h μ ν) (hi : RI n μ) (hn : n + 1 ≤ 1000000) (a b c d : Int32) : Pv g h (n + 1) (if (μ.2.1 0 13) = (-1 : Int32) then yC_preask_b40 a b c d μ else (if ((μ.2.1 0 8) - (50 : Int32)) < (μ.2.1 0 13) then yC_preask_b45 a b c d (0 : Int32) μ else yC_preask_b40 a b c d μ)) (if b ≤ (ν.2.1 32 4) then yM_preask_b71 a b ν else xbi (yM_asNew c d ν) (fun r14 m13 => (if r14 = (0 : Int32) then yM_preask_b71 a b m13 else (if (m13.2.1 32 15) = (3 : Int32) then yM_preask_b71 a b m13 else (if (m13.2.1 32 20) = (-1 : Int32) then yM_preask_b67 a b m13 else (if ((m13.2.1 32 3) - (50 : Int32)) < (m13.2.1 32 20) then yM_preask_b71 a b m13 else yM_preask_b67 a b m13)))))) := by
  have hb := hi.LB (by omega)
  have p0 := pre_end he hi (by omega) a b 0
  have p1 := pre_end he hi (by omega) a b 1
  obtain ⟨r, r1, r2, r3⟩ := asNew_pair he hb c d
  unfold yC_preask_b40 yC_preask_b45 yM_preask_b71 yM_preask_b67 yC_preask_b85
  rw [he.term, r1, r2, xbi_s, xbi_s, xbi_s, he.role, he.heard, he.now]
  by_cases h1 : b ≤ (μ.2.1 28 3)
  · rw [if_pos h1, if_pos h1, if_pos h1]
    split
    · exact p0
    · split <;> exact p0
  · rw [if_neg h1, if_neg h1, if_neg h1]
    by_cases h2 : r = 0
    · rw [if_pos h2, if_pos h2, if_pos h2]
      split
      · exact p0
      · split <;> exact p0
    · rw [if_neg h2, if_neg h2, if_neg h2]
      by_cases h3 : (μ.2.1 0 9) = 3
      · rw [if_pos h3, if_pos h3, if_pos h3]
        split
        · exact p0
        · split <;> exact p0
      · rw [if_neg h3, if_neg h3, if_neg h3, if_pos rfl, if_neg (show ¬ (1 : Int32) = 0 by decide)]
        by_cases h4 : (μ.2.1 0 13) = -1
        · rw [if_pos h4, if_pos h4]; exact p1
        · rw [if_neg h4, if_neg h4]
          split
          · exact p0
          · exact p1
theorem bit_eq (a : Int32) : (1 : Int32) <<< (a &&& 31) = yC_bit a := rfl
theorem B_preanswer {g h μ ν : XMu} {n : Nat} (he : RE g h μ ν) (hi : RI n μ) (hn : n + 8 ≤ 1000000) (a b c : Int32) (hs : sok a (μ.2.1 0 0)) (hb : nok b) : Pv g h (n + 8) (if ¬ c = (0 : Int32) then (if ¬ b = ((μ.2.1 28 3) + (1 : Int32)) then some (.inl none, μ) else (if ¬ (μ.2.1 0 9) = (1 : Int32) then some (.inl none, μ) else (if (yC_isMajority ((μ.2.1 0 15) ||| (yC_bit a)) (μ.1, (xuI μ.2.1 0 15 ((μ.2.1 0 15) ||| (yC_bit a))), μ.2.2)) = (0 : Int32) then some (.inl none, (μ.1, (xuI μ.2.1 0 15 ((μ.2.1 0 15) ||| (yC_bit a))), μ.2.2)) else xbv (yC_campaign (μ.1, (xuI μ.2.1 0 15 ((μ.2.1 0 15) ||| (yC_bit a))), μ.2.2)) (fun m3 => some (.inl none, m3))))) else xbv (yC_yieldTo b μ) (fun m4 => some (.inl none, m4))) (if ¬ c = (0 : Int32) then yM_preanswer_b27 a b c ν else xbv (yM_above b ν) (fun m6 => yM_preanswer_b27 a b c m6)) := by
  have hlb := hi.LB (by omega)
  have hiM := hi.mono (show n ≤ n + 8 by omega)
  by_cases h1 : c = 0
  · rw [if_neg (not_not_intro h1), if_neg (not_not_intro h1)]
    refine (P_yield he hi b (by have := hb.2; omega)).bind fun μ1 ν1 he1 hi1 => ?_
    unfold yM_preanswer_b27
    rw [if_pos h1]
    exact Pv.ret he1 (hi1.mono (by omega))
  · rw [if_pos h1, if_pos h1]
    unfold yM_preanswer_b27
    rw [if_neg h1, he.term, he.role, he.votes, bit_eq]
    by_cases h2 : b = (μ.2.1 28 3) + 1
    · rw [if_neg (not_not_intro h2), if_neg (not_not_intro h2)]
      by_cases h3 : (μ.2.1 0 9) = 1
      · rw [if_neg (not_not_intro h3), if_neg (not_not_intro h3)]
        have he1 : RE g h (μ.1, xuI μ.2.1 0 15 ((μ.2.1 0 15) ||| yC_bit a), μ.2.2) (ν.1, xuI ν.2.1 32 22 ((μ.2.1 0 15) ||| yC_bit a), ν.2.2) := (RE.mk (ft := he.ft) (fg := fun c hc => by first | exact he.fg c hc | (have hh := he.fg c hc; (try unfold zq at hh); (try unfold zd at hh); (try unfold zf at hh); (try unfold zo at hh); (try unfold zo); (try unfold zh at hh); (try unfold zh); (try unfold zq); (try unfold zd); (try unfold zf); (try dsimp only at hh); (try dsimp only); (repeat (first | rw [xuI_o (by omega)] at hh | rw [xuL_o (by omega)] at hh | rw [va_up_o (by omega)] at hh)); (repeat (first | rw [xuI_o (by omega)] | rw [xuL_o (by omega)] | rw [va_up_o (by omega)])); exact hh)) (fgl := fun c hc => by first | exact he.fgl c hc | (have hh := he.fgl c hc; (try unfold zq at hh); (try unfold zd at hh); (try unfold zf at hh); (try unfold zo at hh); (try unfold zo); (try unfold zh at hh); (try unfold zh); (try unfold zq); (try unfold zd); (try unfold zf); (try dsimp only at hh); (try dsimp only); (repeat (first | rw [xuI_o (by omega)] at hh | rw [xuL_o (by omega)] at hh | rw [va_up_o (by omega)] at hh)); (repeat (first | rw [xuI_o (by omega)] | rw [xuL_o (by omega)] | rw [va_up_o (by omega)])); exact hh)) (ht := he.ht) (hg := fun c hc => by first | exact he.hg c hc | (have hh := he.hg c hc; (try unfold zq at hh); (try unfold zd at hh); (try unfold zf at hh); (try unfold zo at hh); (try unfold zo); (try unfold zh at hh); (try unfold zh); (try unfold zq); (try unfold zd); (try unfold zf); (try dsimp only at hh); (try dsimp only); (repeat (first | rw [xuI_o (by omega)] at hh | rw [xuL_o (by omega)] at hh | rw [va_up_o (by omega)] at hh)); (repeat (first | rw [xuI_o (by omega)] | rw [xuL_o (by omega)] | rw [va_up_o (by omega)])); exact hh)) (hgl := fun c hc => by first | exact he.hgl c hc | (have hh := he.hgl c hc; (try unfold zq at hh); (try unfold zd at hh); (try unfold zf at hh); (try unfold zo at hh); (try unfold zo); (try unfold zh at hh); (try unfold zh); (try unfold zq); (try unfold zd); (try unfold zf); (try dsimp only at hh); (try dsimp only); (repeat (first | rw [xuI_o (by omega)] at hh | rw [xuL_o (by omega)] at hh | rw [va_up_o (by omega)] at hh)); (repeat (first | rw [xuI_o (by omega)] | rw [xuL_o (by omega)] | rw [va_up_o (by omega)])); exact hh)) (thr := he.thr) (row := he.row) (itself := he.itself) (now := he.now) (term := he.term) (voted := he.voted) (base := he.base) (last := he.last) (baseTerm := he.baseTerm) (baseCode := he.baseCode) (snapshot := he.snapshot) (dirty := he.dirty) (role := he.role) (leader := he.leader) (commit := he.commit) (applied := he.applied) (synced := he.synced) (heard := he.heard) (alarm := he.alarm) (votes := rfl) (handing := he.handing) (handed := he.handed) (first := he.first) (round := he.round) (assembly := he.assembly) (described := he.described) (toldBase := he.toldBase) (toldTerm := he.toldTerm) (toldCode := he.toldCode) (toldSize := he.toldSize) (told := he.told) (waits := he.waits) (went := he.went) (done := he.done) (calls := he.calls) (next := he.next) (mtch := he.mtch) (flying := he.flying) (offset := he.offset) (ack := he.ack) (seen := he.seen) (probing := he.probing) (answered := he.answered) (toldTerms := he.toldTerms) (toldKinds := he.toldKinds) (toldValues := he.toldValues) (doneNumbers := he.doneNumbers) (doneValues := he.doneValues) (callState := he.callState) (callNumber := he.callNumber) (got := he.got) (log := he.log) (kept := he.kept) (wait := he.wait) (cls := he.cls))
        have hi1 : RI n (μ.1, xuI μ.2.1 0 15 ((μ.2.1 0 15) ||| yC_bit a), μ.2.2) := (RI.mk (itself := hi.itself) (role := hi.role) (base := hi.base) (ba := hi.ba) (ac := hi.ac) (cl := hi.cl) (lb := hi.lb) (last := hi.last) (syn := hi.syn) (dirty := hi.dirty) (desc := hi.desc) (now := hi.now) (term := hi.term) (went := hi.went) (waits := hi.waits) (done := hi.done) (calls := hi.calls) (told := hi.told) (round := hi.round) (hand := hi.hand) (heard := hi.heard) (vote := hi.vote) (lead := hi.lead) (quiet := hi.quiet) (cmd := hi.cmd) (tt := hi.tt) (tb := hi.tb) (got := hi.got) (mem := hi.mem))
        rw [majority_m he1 (hi1.LB (by omega)) hi1.mem, xbi_s]
        by_cases h4 : yC_isMajority ((μ.2.1 0 15) ||| yC_bit a) (μ.1, xuI μ.2.1 0 15 ((μ.2.1 0 15) ||| yC_bit a), μ.2.2) = 0
        · rw [if_pos h4, if_pos h4]
          exact Pv.ret he1 (hi1.mono (by omega))
        · rw [if_neg h4, if_neg h4]
          exact (P_campaign he1 hi1 (fun k => by have k2 : (μ.2.1 0 9) = 3 := k; rw [h3] at k2; cases k2) hn).tail
      · rw [if_pos h3, if_pos h3]; exact Pv.ret he hiM
    · rw [if_pos h2, if_pos h2]; exact Pv.ret he hiM
theorem P_ans {g h μ ν : XMu} {n : Nat} (he : RE g h μ ν) (hi : RI n μ) (hn : n ≤ 1000000) (a s : Int32) : Pv g h (n + 1) (yC_ask_b107 a s μ) (if s = (0 : Int32) then xbv (yM_reply a (4 : Int32) (0 : Int32) (0 : Int32) (0 : Int32) ν) (fun m4 => some (.inl none, m4)) else xbv (yM_reply a (4 : Int32) (1 : Int32) (0 : Int32) (0 : Int32) ν) (fun m5 => some (.inl none, m5))) := by
  unfold yC_ask_b107 yM_reply
  rw [he.term]
  have e4 : ∀ (X Y Z : XMu → XRes), (fun m2 => if (4 : Int32) = 6 then X m2 else if ¬ (4 : Int32) = 8 then Y m2 else Z m2) = Y := fun X Y Z => funext fun m => by rw [if_neg (by decide), if_pos (by decide)]
  rw [e4]
  by_cases h1 : s = 0
  · rw [if_pos h1]
    have : ∀ (X Y : XMu → XRes), (fun m => if s = 0 then X m else Y m) = X := fun X Y => funext fun m => if_pos h1
    rw [this]
    exact (P_mail1 he hi hn a 4 (μ.2.1 28 3) 0).tailM
  · rw [if_neg h1]
    have : ∀ (X Y : XMu → XRes), (fun m => if s = 0 then X m else Y m) = Y := fun X Y => funext fun m => if_neg h1
    rw [this]
    exact (P_mail1 he hi hn a 4 (μ.2.1 28 3) 1).tailM
theorem ask_1 {g h μ ν : XMu} {n : Nat} (he : RE g h μ ν) (hi : RI n μ) (hn : n + 1 ≤ 1000000) (a : Int32) (hs : sok a (μ.2.1 0 0)) (hv : (μ.2.1 28 4) = -1 ∨ (μ.2.1 28 4) = a) : Pv g h (n + 1) (yC_ask_b83 a 1 μ) (yM_ask_b63 a 1 ν) := by
  unfold yC_ask_b83 yM_ask_b63 yM_ask_b86 yM_ask_b91 yDi_voteFor
  have n1 : ¬ (1 : Int32) = 0 := by decide
  have hr : ¬ (μ.2.1 0 9) = 3 := fun k => by
    have q := hi.vote (Or.inr k)
    have it := hi.itself
    rcases hv with v | v
    · rw [v] at q; rw [← q, il_m1] at it; omega
    · exact hs.2 (v.symm.trans q)
  rw [if_neg n1, if_neg n1, he.dirty, he.voted]
  have key : ∀ (v dd : Int32) (A : Nat → Nat → Int32), x01 dd = true → A = xuI (xuI μ.2.1 28 4 v) 28 11 dd → v = a → Pv g h (n + 1) (xbv (yC_drawAlarm (μ.1, xuI A 0 9 0, μ.2.2)) (fun m12 => yC_ask_b107 a 1 m12)) (xgd (x01 dd) (xbv (yM_draw (ν.1, (xuI (xuI (xuI ν.2.1 32 14 dd) 32 5 a) 32 15 (0 : Int32)), ν.2.2)) (fun m6 => (if (1 : Int32) = (0 : Int32) then xbv (yM_reply a (4 : Int32) (0 : Int32) (0 : Int32) (0 : Int32) m6) (fun m7 => some (.inl none, m7)) else xbv (yM_reply a (4 : Int32) (1 : Int32) (0 : Int32) (0 : Int32) m6) (fun m8 => some (.inl none, m8)))))) := by
    intro v dd A hd hA hv2
    subst hA hv2
    rw [xgd_t hd]
    refine (P_draw (n := n) ?_ ?_).bind fun μ1 ν1 he1 hi1 => P_ans he1 hi1 (by omega) v 1
    · exact (RE.mk (ft := he.ft) (fg := fun c hc => by first | exact he.fg c hc | (have hh := he.fg c hc; (try unfold zq at hh); (try unfold zd at hh); (try unfold zf at hh); (try unfold zo at hh); (try unfold zo); (try unfold zh at hh); (try unfold zh); (try unfold zq); (try unfold zd); (try unfold zf); (try dsimp only at hh); (try dsimp only); (repeat (first | rw [xuI_o (by omega)] at hh | rw [xuL_o (by omega)] at hh | rw [va_up_o (by omega)] at hh)); (repeat (first | rw [xuI_o (by omega)] | rw [xuL_o (by omega)] | rw [va_up_o (by omega)])); exact hh)) (fgl := fun c hc => by first | exact he.fgl c hc | (have hh := he.fgl c hc; (try unfold zq at hh); (try unfold zd at hh); (try unfold zf at hh); (try unfold zo at hh); (try unfold zo); (try unfold zh at hh); (try unfold zh); (try unfold zq); (try unfold zd); (try unfold zf); (try dsimp only at hh); (try dsimp only); (repeat (first | rw [xuI_o (by omega)] at hh | rw [xuL_o (by omega)] at hh | rw [va_up_o (by omega)] at hh)); (repeat (first | rw [xuI_o (by omega)] | rw [xuL_o (by omega)] | rw [va_up_o (by omega)])); exact hh)) (ht := he.ht) (hg := fun c hc => by first | exact he.hg c hc | (have hh := he.hg c hc; (try unfold zq at hh); (try unfold zd at hh); (try unfold zf at hh); (try unfold zo at hh); (try unfold zo); (try unfold zh at hh); (try unfold zh); (try unfold zq); (try unfold zd); (try unfold zf); (try dsimp only at hh); (try dsimp only); (repeat (first | rw [xuI_o (by omega)] at hh | rw [xuL_o (by omega)] at hh | rw [va_up_o (by omega)] at hh)); (repeat (first | rw [xuI_o (by omega)] | rw [xuL_o (by omega)] | rw [va_up_o (by omega)])); exact hh)) (hgl := fun c hc => by first | exact he.hgl c hc | (have hh := he.hgl c hc; (try unfold zq at hh); (try unfold zd at hh); (try unfold zf at hh); (try unfold zo at hh); (try unfold zo); (try unfold zh at hh); (try unfold zh); (try unfold zq); (try unfold zd); (try unfold zf); (try dsimp only at hh); (try dsimp only); (repeat (first | rw [xuI_o (by omega)] at hh | rw [xuL_o (by omega)] at hh | rw [va_up_o (by omega)] at hh)); (repeat (first | rw [xuI_o (by omega)] | rw [xuL_o (by omega)] | rw [va_up_o (by omega)])); exact hh)) (thr := he.thr) (row := he.row) (itself := he.itself) (now := he.now) (term := he.term) (voted := rfl) (base := he.base) (last := he.last) (baseTerm := he.baseTerm) (baseCode := he.baseCode) (snapshot := he.snapshot) (dirty := rfl) (role := rfl) (leader := he.leader) (commit := he.commit) (applied := he.applied) (synced := he.synced) (heard := he.heard) (alarm := he.alarm) (votes := he.votes) (handing := he.handing) (handed := he.handed) (first := he.first) (round := he.round) (assembly := he.assembly) (described := he.described) (toldBase := he.toldBase) (toldTerm := he.toldTerm) (toldCode := he.toldCode) (toldSize := he.toldSize) (told := he.told) (waits := he.waits) (went := he.went) (done := he.done) (calls := he.calls) (next := he.next) (mtch := he.mtch) (flying := he.flying) (offset := he.offset) (ack := he.ack) (seen := he.seen) (probing := he.probing) (answered := he.answered) (toldTerms := he.toldTerms) (toldKinds := he.toldKinds) (toldValues := he.toldValues) (doneNumbers := he.doneNumbers) (doneValues := he.doneValues) (callState := he.callState) (callNumber := he.callNumber) (got := he.got) (log := he.log) (kept := he.kept) (wait := he.wait) (cls := he.cls))
    · exact (RI.mk (itself := hi.itself) (role := Or.inl rfl) (base := hi.base) (ba := hi.ba) (ac := hi.ac) (cl := hi.cl) (lb := hi.lb) (last := hi.last) (syn := hi.syn) (dirty := hd) (desc := hi.desc) (now := hi.now) (term := hi.term) (went := hi.went) (waits := hi.waits) (done := hi.done) (calls := hi.calls) (told := hi.told) (round := hi.round) (hand := hi.hand) (heard := hi.heard) (vote := fun k => by rcases k with k | k <;> cases k) (lead := fun k => by cases k) (quiet := fun _ => hi.quiet hr) (cmd := hi.cmd) (tt := hi.tt) (tb := hi.tb) (got := hi.got) (mem := hi.mem))
  have id2 : ∀ {v : Int32}, (μ.2.1 28 4) = v → xuI (xuI μ.2.1 28 4 v) 28 11 (μ.2.1 28 11) = μ.2.1 := by
    intro v hv2
    apply mem_ext
    intro c p
    unfold xuI va_up upd
    by_cases h1 : c = 28
    · subst h1
      rw [if_pos rfl, if_pos rfl]
      by_cases h2 : p = 11
      · rw [if_pos h2, h2]
      · rw [if_neg h2]
        by_cases h3 : p = 4
        · rw [if_pos h3, h3]; exact hv2.symm
        · rw [if_neg h3]
    · rw [if_neg h1, if_neg h1]
  by_cases hva : (μ.2.1 28 4) = a
  · rw [if_pos hva, xbv_s]
    by_cases hd : (μ.2.1 28 11) = 0
    · rw [if_neg (not_not_intro hd), if_pos hva]
      refine key a 0 _ (by rfl) ?_ rfl
      rw [← hd]; exact (id2 hva).symm
    · rw [if_pos hd]
      have d1 := x01_0 hi.dirty hd
      refine key a 1 _ (by rfl) ?_ rfl
      rw [← d1]; exact (id2 hva).symm
  · rw [if_neg hva, xbv_s, if_neg hva]
    have e : (if ¬ (μ.2.1 28 11) = 0 then xgd (x01 (1 : Int32)) (xbv (yM_draw (ν.1, (xuI (xuI (xuI ν.2.1 32 14 1) 32 5 a) 32 15 (0 : Int32)), ν.2.2)) (fun m6 => (if (1 : Int32) = (0 : Int32) then xbv (yM_reply a (4 : Int32) (0 : Int32) (0 : Int32) (0 : Int32) m6) (fun m7 => some (.inl none, m7)) else xbv (yM_reply a (4 : Int32) (1 : Int32) (0 : Int32) (0 : Int32) m6) (fun m8 => some (.inl none, m8))))) else xgd (x01 (1 : Int32)) (xbv (yM_draw (ν.1, (xuI (xuI (xuI ν.2.1 32 14 1) 32 5 a) 32 15 (0 : Int32)), ν.2.2)) (fun m6 => (if (1 : Int32) = (0 : Int32) then xbv (yM_reply a (4 : Int32) (0 : Int32) (0 : Int32) (0 : Int32) m6) (fun m7 => some (.inl none, m7)) else xbv (yM_reply a (4 : Int32) (1 : Int32) (0 : Int32) (0 : Int32) m6) (fun m8 => some (.inl none, m8)))))) = xgd (x01 (1 : Int32)) (xbv (yM_draw (ν.1, (xuI (xuI (xuI ν.2.1 32 14 1) 32 5 a) 32 15 (0 : Int32)), ν.2.2)) (fun m6 => (if (1 : Int32) = (0 : Int32) then xbv (yM_reply a (4 : Int32) (0 : Int32) (0 : Int32) (0 : Int32) m6) (fun m7 => some (.inl none, m7)) else xbv (yM_reply a (4 : Int32) (1 : Int32) (0 : Int32) (0 : Int32) m6) (fun m8 => some (.inl none, m8))))) := by split <;> rfl
    rw [e]
    exact key a 1 _ (by rfl) rfl rfl
theorem B_ask {g h μ ν : XMu} {n : Nat} (he : RE g h μ ν) (hi : RI n μ) (hn : n + 1 ≤ 1000000) (a b c d : Int32) (hs : sok a (μ.2.1 0 0)) (hb : nok b) : Pv g h (n + 1) (xbv (yC_yieldTo b μ) (fun m5 => (if (m5.2.1 28 4) = (-1 : Int32) then yC_ask_b45 a b c d m5 else (if ¬ (m5.2.1 28 4) = a then yC_ask_b50 a b c d (0 : Int32) m5 else yC_ask_b45 a b c d m5)))) (xbv (yM_above b ν) (fun m3 => (if ¬ b = (m3.2.1 32 4) then yM_ask_b62 a m3 else (if (m3.2.1 32 5) = (-1 : Int32) then yM_ask_b48 a c d m3 else (if ¬ (m3.2.1 32 5) = a then yM_ask_b62 a m3 else yM_ask_b48 a c d m3))))) := by
  refine (P_yieldK he hi b (by have := hb.2; omega)).bindv fun μ1 ν1 he1 hi1 hk => ?_
  have hlb := hi1.LB (by omega)
  have hs1 : sok a (μ1.2.1 0 0) := by rw [hk.1]; exact hs
  have p0 : Pv g h (n + 1) (yC_ask_b83 a 0 μ1) (yM_ask_b63 a 0 ν1) := by
    unfold yC_ask_b83 yM_ask_b63
    rw [if_pos rfl, if_pos rfl]
    exact P_ans he1 hi1 (by omega) a 0
  obtain ⟨r, r1, r2, r3⟩ := asNew_pair he1 hlb c d
  unfold yC_ask_b45 yC_ask_b50 yM_ask_b48 yM_ask_b62 yC_ask_b82
  rw [he1.term, he1.voted, r1, r2, xbi_s, xbi_s, if_pos rfl, if_neg (show ¬ (1 : Int32) = 0 by decide)]
  by_cases h1 : b = (μ1.2.1 28 3)
  · rw [if_neg (not_not_intro h1), if_neg (not_not_intro h1), if_neg (not_not_intro h1)]
    by_cases h2 : r = 0
    · rw [if_pos h2, if_pos h2]
      split
      · exact p0
      · split <;> exact p0
    · rw [if_neg h2, if_neg h2]
      by_cases h3 : (μ1.2.1 28 4) = -1
      · rw [if_pos h3, if_pos h3]
        exact ask_1 he1 hi1 hn a hs1 (Or.inl h3)
      · rw [if_neg h3, if_neg h3]
        by_cases h4 : (μ1.2.1 28 4) = a
        · rw [if_neg (not_not_intro h4), if_neg (not_not_intro h4)]
          exact ask_1 he1 hi1 hn a hs1 (Or.inr h4)
        · rw [if_pos h4, if_pos h4]
          exact p0
  · rw [if_pos h1, if_pos h1, if_pos h1]
    split
    · exact p0
    · split <;> exact p0
theorem B_answer {g h μ ν : XMu} {n : Nat} (he : RE g h μ ν) (hi : RI n μ) (hn : n + 38 ≤ 1000000) (a b c : Int32) (hs : sok a (μ.2.1 0 0)) (hb : nok b) : Pv g h (n + 38) (xbv (yC_yieldTo b μ) (fun m3 => (if c = (0 : Int32) then some (.inl none, m3) else (if ¬ b = (m3.2.1 28 3) then some (.inl none, m3) else (if ¬ (m3.2.1 0 9) = (2 : Int32) then some (.inl none, m3) else (if (yC_isMajority ((m3.2.1 0 15) ||| (yC_bit a)) (m3.1, (xuI m3.2.1 0 15 ((m3.2.1 0 15) ||| (yC_bit a))), m3.2.2)) = (0 : Int32) then some (.inl none, (m3.1, (xuI m3.2.1 0 15 ((m3.2.1 0 15) ||| (yC_bit a))), m3.2.2)) else xbv (yC_takeLead (m3.1, (xuI m3.2.1 0 15 ((m3.2.1 0 15) ||| (yC_bit a))), m3.2.2)) (fun m4 => some (.inl none, m4)))))))) (xbv (yM_above b ν) (fun m3 => (if c = (0 : Int32) then some (.inl none, m3) else (if ¬ b = (m3.2.1 32 4) then some (.inl none, m3) else (if ¬ (m3.2.1 32 15) = (2 : Int32) then some (.inl none, m3) else xbi (yM_majority ((m3.2.1 32 22) ||| ((1 : Int32) <<< (a &&& 31))) (m3.1, (xuI m3.2.1 32 22 ((m3.2.1 32 22) ||| ((1 : Int32) <<< (a &&& 31)))), m3.2.2)) (fun r5 m4 => (if r5 = (0 : Int32) then some (.inl none, m4) else xbv (yM_lead m4) (fun m6 => some (.inl none, m6))))))))) := by
  refine (P_yield he hi b (by have := hb.2; omega)).bind fun μ1 ν1 he1 hi1 => ?_
  have hiM := hi1.mono (show n ≤ n + 38 by omega)
  rw [he1.term, he1.role, he1.votes, bit_eq]
  by_cases h1 : c = 0
  · rw [if_pos h1, if_pos h1]; exact Pv.ret he1 hiM
  · rw [if_neg h1, if_neg h1]
    by_cases h2 : b = (μ1.2.1 28 3)
    · rw [if_neg (not_not_intro h2), if_neg (not_not_intro h2)]
      by_cases h3 : (μ1.2.1 0 9) = 2
      · rw [if_neg (not_not_intro h3), if_neg (not_not_intro h3)]
        have he2 : RE g h (μ1.1, xuI μ1.2.1 0 15 ((μ1.2.1 0 15) ||| yC_bit a), μ1.2.2) (ν1.1, xuI ν1.2.1 32 22 ((μ1.2.1 0 15) ||| yC_bit a), ν1.2.2) := (RE.mk (ft := he1.ft) (fg := fun c hc => by first | exact he1.fg c hc | (have hh := he1.fg c hc; (try unfold zq at hh); (try unfold zd at hh); (try unfold zf at hh); (try unfold zo at hh); (try unfold zo); (try unfold zh at hh); (try unfold zh); (try unfold zq); (try unfold zd); (try unfold zf); (try dsimp only at hh); (try dsimp only); (repeat (first | rw [xuI_o (by omega)] at hh | rw [xuL_o (by omega)] at hh | rw [va_up_o (by omega)] at hh)); (repeat (first | rw [xuI_o (by omega)] | rw [xuL_o (by omega)] | rw [va_up_o (by omega)])); exact hh)) (fgl := fun c hc => by first | exact he1.fgl c hc | (have hh := he1.fgl c hc; (try unfold zq at hh); (try unfold zd at hh); (try unfold zf at hh); (try unfold zo at hh); (try unfold zo); (try unfold zh at hh); (try unfold zh); (try unfold zq); (try unfold zd); (try unfold zf); (try dsimp only at hh); (try dsimp only); (repeat (first | rw [xuI_o (by omega)] at hh | rw [xuL_o (by omega)] at hh | rw [va_up_o (by omega)] at hh)); (repeat (first | rw [xuI_o (by omega)] | rw [xuL_o (by omega)] | rw [va_up_o (by omega)])); exact hh)) (ht := he1.ht) (hg := fun c hc => by first | exact he1.hg c hc | (have hh := he1.hg c hc; (try unfold zq at hh); (try unfold zd at hh); (try unfold zf at hh); (try unfold zo at hh); (try unfold zo); (try unfold zh at hh); (try unfold zh); (try unfold zq); (try unfold zd); (try unfold zf); (try dsimp only at hh); (try dsimp only); (repeat (first | rw [xuI_o (by omega)] at hh | rw [xuL_o (by omega)] at hh | rw [va_up_o (by omega)] at hh)); (repeat (first | rw [xuI_o (by omega)] | rw [xuL_o (by omega)] | rw [va_up_o (by omega)])); exact hh)) (hgl := fun c hc => by first | exact he1.hgl c hc | (have hh := he1.hgl c hc; (try unfold zq at hh); (try unfold zd at hh); (try unfold zf at hh); (try unfold zo at hh); (try unfold zo); (try unfold zh at hh); (try unfold zh); (try unfold zq); (try unfold zd); (try unfold zf); (try dsimp only at hh); (try dsimp only); (repeat (first | rw [xuI_o (by omega)] at hh | rw [xuL_o (by omega)] at hh | rw [va_up_o (by omega)] at hh)); (repeat (first | rw [xuI_o (by omega)] | rw [xuL_o (by omega)] | rw [va_up_o (by omega)])); exact hh)) (thr := he1.thr) (row := he1.row) (itself := he1.itself) (now := he1.now) (term := he1.term) (voted := he1.voted) (base := he1.base) (last := he1.last) (baseTerm := he1.baseTerm) (baseCode := he1.baseCode) (snapshot := he1.snapshot) (dirty := he1.dirty) (role := he1.role) (leader := he1.leader) (commit := he1.commit) (applied := he1.applied) (synced := he1.synced) (heard := he1.heard) (alarm := he1.alarm) (votes := rfl) (handing := he1.handing) (handed := he1.handed) (first := he1.first) (round := he1.round) (assembly := he1.assembly) (described := he1.described) (toldBase := he1.toldBase) (toldTerm := he1.toldTerm) (toldCode := he1.toldCode) (toldSize := he1.toldSize) (told := he1.told) (waits := he1.waits) (went := he1.went) (done := he1.done) (calls := he1.calls) (next := he1.next) (mtch := he1.mtch) (flying := he1.flying) (offset := he1.offset) (ack := he1.ack) (seen := he1.seen) (probing := he1.probing) (answered := he1.answered) (toldTerms := he1.toldTerms) (toldKinds := he1.toldKinds) (toldValues := he1.toldValues) (doneNumbers := he1.doneNumbers) (doneValues := he1.doneValues) (callState := he1.callState) (callNumber := he1.callNumber) (got := he1.got) (log := he1.log) (kept := he1.kept) (wait := he1.wait) (cls := he1.cls))
        have hi2 : RI n (μ1.1, xuI μ1.2.1 0 15 ((μ1.2.1 0 15) ||| yC_bit a), μ1.2.2) := (RI.mk (itself := hi1.itself) (role := hi1.role) (base := hi1.base) (ba := hi1.ba) (ac := hi1.ac) (cl := hi1.cl) (lb := hi1.lb) (last := hi1.last) (syn := hi1.syn) (dirty := hi1.dirty) (desc := hi1.desc) (now := hi1.now) (term := hi1.term) (went := hi1.went) (waits := hi1.waits) (done := hi1.done) (calls := hi1.calls) (told := hi1.told) (round := hi1.round) (hand := hi1.hand) (heard := hi1.heard) (vote := hi1.vote) (lead := hi1.lead) (quiet := hi1.quiet) (cmd := hi1.cmd) (tt := hi1.tt) (tb := hi1.tb) (got := hi1.got) (mem := hi1.mem))
        rw [majority_m he2 (hi2.LB (by omega)) hi2.mem, xbi_s]
        by_cases h4 : yC_isMajority ((μ1.2.1 0 15) ||| yC_bit a) (μ1.1, xuI μ1.2.1 0 15 ((μ1.2.1 0 15) ||| yC_bit a), μ1.2.2) = 0
        · rw [if_pos h4, if_pos h4]
          exact Pv.ret he2 (hi2.mono (by omega))
        · rw [if_neg h4, if_neg h4]
          exact (P_lead he2 hi2 h3 hn).tail
      · rw [if_pos h3, if_pos h3]; exact Pv.ret he1 hiM
    · rw [if_pos h2, if_pos h2]; exact Pv.ret he1 hiM
theorem B_go {g h μ ν : XMu} {n : Nat} (he : RE g h μ ν) (hi : RI n μ) (hn : n + 8 ≤ 1000000) (a b : Int32) (hb : nok b) : Pv g h (n + 8) (xbv (yC_yieldTo b μ) (fun m3 => (if (m3.2.1 0 9) = (0 : Int32) then yC_go_b29 b m3 else (if ¬ (m3.2.1 0 9) = (1 : Int32) then yC_go_b34 b (0 : Int32) m3 else yC_go_b29 b m3)))) (xbv (yM_above b ν) (fun m3 => (if ¬ b = (m3.2.1 32 4) then some (.inl none, m3) else (if (2 : Int32) ≤ (m3.2.1 32 15) then some (.inl none, m3) else xbi (yM_voters m3) (fun r5 m4 => (if (yM_has r5 (m4.2.1 32 1)) = (0 : Int32) then some (.inl none, m4) else xbv (yM_campaign m4) (fun m6 => some (.inl none, m6)))))))) := by
  refine (P_yield he hi b (by have := hb.2; omega)).bind fun μ1 ν1 he1 hi1 => ?_
  have hiM := hi1.mono (show n ≤ n + 8 by omega)
  unfold yC_go_b29 yC_go_b34
  rw [he1.term, he1.role, voters_m he1 (hi1.LB (by omega)) hi1.mem, xbi_s, has_eq _ (by rw [he1.itself]; exact hi1.itself.1) (by rw [he1.itself]; exact hi1.itself.2), he1.itself, if_pos rfl, if_neg (show ¬ (1 : Int32) = 0 by decide)]
  have r0 := Pv.ret he1 hiM
  by_cases h1 : b = (μ1.2.1 28 3)
  · rw [if_neg (not_not_intro h1), if_neg (not_not_intro h1), if_neg (not_not_intro h1)]
    rcases hi1.role with h2 | h2 | h2 | h2
    · rw [if_pos h2, if_neg (show ¬ (2 : Int32) ≤ (μ1.2.1 0 9) by rw [h2]; decide)]
      split
      · exact r0
      · exact (P_campaign he1 hi1 (by rw [h2]; decide) hn).tail
    · rw [if_neg (show ¬ (μ1.2.1 0 9) = 0 by rw [h2]; decide), if_neg (not_not_intro h2), if_neg (show ¬ (2 : Int32) ≤ (μ1.2.1 0 9) by rw [h2]; decide)]
      split
      · exact r0
      · exact (P_campaign he1 hi1 (by rw [h2]; decide) hn).tail
    · rw [if_neg (show ¬ (μ1.2.1 0 9) = 0 by rw [h2]; decide), if_pos (show ¬ (μ1.2.1 0 9) = 1 by rw [h2]; decide), if_pos (show (2 : Int32) ≤ (μ1.2.1 0 9) by rw [h2]; decide)]
      exact r0
    · rw [if_neg (show ¬ (μ1.2.1 0 9) = 0 by rw [h2]; decide), if_pos (show ¬ (μ1.2.1 0 9) = 1 by rw [h2]; decide), if_pos (show (2 : Int32) ≤ (μ1.2.1 0 9) by rw [h2]; decide)]
      exact r0
  · rw [if_pos h1, if_pos h1, if_pos h1]
    split
    · exact r0
    · split <;> exact r0
theorem Q_preask {g h μ ν : XMu} {n : Nat} (he : RE g h μ ν) (hi : RI n μ) (hn : n + 1500 ≤ 1000000) (ht : μ.1 < 1024) (a b c d : Int32) : Pub g h (n + 1500) El (yC_preask a b c d μ) (yM_preask a b c d ν) := by
  unfold yC_preask yM_preask
  rw [show ((ν.1, xuI ν.2.1 32 0 0, ν.2.2) : XMu) = zh ν 0 from rfl]
  by_cases hs : sok a (μ.2.1 0 0)
  · rw [c_sen_1 hs, xbv_s]
    by_cases h_b : nok b
    · rw [c_num_1 h_b, xbv_s]
      by_cases h_c : nok c
      · rw [c_num_1 h_c, xbv_s]
        by_cases h_d : nok d
        · rw [c_num_1 h_d, xbv_s]
          rw [bad_0 (by show sok _ (ν.2.1 32 1); rw [he.itself]; exact hs) h_b h_c h_d nok_0 rfl, xbi_s, if_pos rfl]
          have he0 := RE_zh he 0
          generalize zh ν 0 = N at he0 ⊢
          exact Pub.ofPv (B_preask he0 hi (by omega) a b c d) (by omega)
        · exact Thr_n he hi (by omega) ht hs h_d (fun k => h_d k.2.2.1) (Or.inr ⟨rfl, rfl⟩) isV (fun m => if_neg (by decide))
      · exact Thr_n he hi (by omega) ht hs h_c (fun k => h_c k.2.1) (Or.inr ⟨rfl, rfl⟩) isV (fun m => if_neg (by decide))
    · exact Thr_n he hi (by omega) ht hs h_b (fun k => h_b k.1) (Or.inr ⟨rfl, rfl⟩) isV (fun m => if_neg (by decide))
  · exact Thr_s he hi (by omega) ht hs (Or.inl ⟨rfl, rfl⟩) isV (fun m => if_neg (by decide))
theorem Q_preanswer {g h μ ν : XMu} {n : Nat} (he : RE g h μ ν) (hi : RI n μ) (hn : n + 1500 ≤ 1000000) (ht : μ.1 < 1024) (a b c : Int32) : Pub g h (n + 1500) El (yC_preanswer a b c μ) (yM_preanswer a b c ν) := by
  unfold yC_preanswer yM_preanswer
  rw [show ((ν.1, xuI ν.2.1 32 0 0, ν.2.2) : XMu) = zh ν 0 from rfl]
  by_cases hs : sok a (μ.2.1 0 0)
  · rw [c_sen_1 hs, xbv_s]
    by_cases h_b : nok b
    · rw [c_num_1 h_b, xbv_s]
      rw [bad_0 (by show sok _ (ν.2.1 32 1); rw [he.itself]; exact hs) h_b nok_0 nok_0 nok_0 rfl, xbi_s, if_pos rfl]
      have he0 := RE_zh he 0
      generalize zh ν 0 = N at he0 ⊢
      exact Pub.ofPv (B_preanswer he0 hi (by omega) a b c hs h_b) (by omega)
    · exact Thr_n he hi (by omega) ht hs h_b (fun k => h_b k.1) (Or.inr ⟨rfl, rfl⟩) isV (fun m => if_neg (by decide))
  · exact Thr_s he hi (by omega) ht hs (Or.inl ⟨rfl, rfl⟩) isV (fun m => if_neg (by decide))
theorem Q_ask {g h μ ν : XMu} {n : Nat} (he : RE g h μ ν) (hi : RI n μ) (hn : n + 1500 ≤ 1000000) (ht : μ.1 < 1024) (a b c d : Int32) : Pub g h (n + 1500) El (yC_ask a b c d μ) (yM_ask a b c d ν) := by
  unfold yC_ask yM_ask
  rw [show ((ν.1, xuI ν.2.1 32 0 0, ν.2.2) : XMu) = zh ν 0 from rfl]
  by_cases hs : sok a (μ.2.1 0 0)
  · rw [c_sen_1 hs, xbv_s]
    by_cases h_b : nok b
    · rw [c_num_1 h_b, xbv_s]
      by_cases h_c : nok c
      · rw [c_num_1 h_c, xbv_s]
        by_cases h_d : nok d
        · rw [c_num_1 h_d, xbv_s]
          rw [bad_0 (by show sok _ (ν.2.1 32 1); rw [he.itself]; exact hs) h_b h_c h_d nok_0 rfl, xbi_s, if_pos rfl]
          have he0 := RE_zh he 0
          generalize zh ν 0 = N at he0 ⊢
          exact Pub.ofPv (B_ask he0 hi (by omega) a b c d hs h_b) (by omega)
        · exact Thr_n he hi (by omega) ht hs h_d (fun k => h_d k.2.2.1) (Or.inr ⟨rfl, rfl⟩) isV (fun m => if_neg (by decide))
      · exact Thr_n he hi (by omega) ht hs h_c (fun k => h_c k.2.1) (Or.inr ⟨rfl, rfl⟩) isV (fun m => if_neg (by decide))
    · exact Thr_n he hi (by omega) ht hs h_b (fun k => h_b k.1) (Or.inr ⟨rfl, rfl⟩) isV (fun m => if_neg (by decide))
  · exact Thr_s he hi (by omega) ht hs (Or.inl ⟨rfl, rfl⟩) isV (fun m => if_neg (by decide))
theorem Q_answer {g h μ ν : XMu} {n : Nat} (he : RE g h μ ν) (hi : RI n μ) (hn : n + 1500 ≤ 1000000) (ht : μ.1 < 1024) (a b c : Int32) : Pub g h (n + 1500) El (yC_answer a b c μ) (yM_answer a b c ν) := by
  unfold yC_answer yM_answer
  rw [show ((ν.1, xuI ν.2.1 32 0 0, ν.2.2) : XMu) = zh ν 0 from rfl]
  by_cases hs : sok a (μ.2.1 0 0)
  · rw [c_sen_1 hs, xbv_s]
    by_cases h_b : nok b
    · rw [c_num_1 h_b, xbv_s]
      rw [bad_0 (by show sok _ (ν.2.1 32 1); rw [he.itself]; exact hs) h_b nok_0 nok_0 nok_0 rfl, xbi_s, if_pos rfl]
      have he0 := RE_zh he 0
      generalize zh ν 0 = N at he0 ⊢
      exact Pub.ofPv (B_answer he0 hi (by omega) a b c hs h_b) (by omega)
    · exact Thr_n he hi (by omega) ht hs h_b (fun k => h_b k.1) (Or.inr ⟨rfl, rfl⟩) isV (fun m => if_neg (by decide))
  · exact Thr_s he hi (by omega) ht hs (Or.inl ⟨rfl, rfl⟩) isV (fun m => if_neg (by decide))
theorem Q_go {g h μ ν : XMu} {n : Nat} (he : RE g h μ ν) (hi : RI n μ) (hn : n + 1500 ≤ 1000000) (ht : μ.1 < 1024) (a b : Int32) : Pub g h (n + 1500) El (yC_go a b μ) (yM_go a b ν) := by
  unfold yC_go yM_go
  rw [show ((ν.1, xuI ν.2.1 32 0 0, ν.2.2) : XMu) = zh ν 0 from rfl]
  by_cases hs : sok a (μ.2.1 0 0)
  · rw [c_sen_1 hs, xbv_s]
    by_cases h_b : nok b
    · rw [c_num_1 h_b, xbv_s]
      rw [bad_0 (by show sok _ (ν.2.1 32 1); rw [he.itself]; exact hs) h_b nok_0 nok_0 nok_0 rfl, xbi_s, if_pos rfl]
      have he0 := RE_zh he 0
      generalize zh ν 0 = N at he0 ⊢
      exact Pub.ofPv (B_go he0 hi (by omega) a b h_b) (by omega)
    · exact Thr_n he hi (by omega) ht hs h_b (fun k => h_b k.1) (Or.inr ⟨rfl, rfl⟩) isV (fun m => if_neg (by decide))
  · exact Thr_s he hi (by omega) ht hs (Or.inl ⟨rfl, rfl⟩) isV (fun m => if_neg (by decide))
theorem xuI_id {M : Nat → Nat → Int32} {k j : Nat} {v : Int32} (h : M k j = v) : xuI M k j v = M := by
  unfold xuI
  rw [← h, show upd (M k) j (M k j) = M k from upd_id, va_up_id]
theorem peers_eq {μ μ' : XMu} (h1 : (μ'.2.1 28 13) = (μ.2.1 28 13)) (h2 : (μ'.2.1 0 0) = (μ.2.1 0 0)) : yC_peers μ' = yC_peers μ := by
  unfold yC_peers yC_voters
  rw [h1, h2]
theorem P_heard {g h μ ν : XMu} {n : Nat} (he : RE g h μ ν) (hi : RI n μ) (hn : n ≤ 1000000) {a b e : Int32} (hs : sok a (μ.2.1 0 0)) (hb : nok b) (hq : nok e) : ∃ μ1 ν1, yC_yieldTo b μ = some (.inl none, μ1) ∧ RE g h μ1 ν1 ∧ RI n μ1 ∧ ((yC_isOwnPeer a b μ1 = 0 ∧ yM_heardOf a b e ν = some (.inl (some (.int 0)), ν1)) ∨ (yC_isOwnPeer a b μ1 = 1 ∧ ∃ μ2 ν2, yLe_hear a (μ1.2.1 0 8) e μ1 = some (.inl none, μ2) ∧ yM_heardOf a b e ν = some (.inl (some (.int 1)), ν2) ∧ RE g h μ2 ν2 ∧ RI n μ2 ∧ (μ2.2.1 0 9) = 3 ∧ ¬ yC_has (yC_peers μ2) a = 0)) := by
  obtain ⟨μ1, ν1, y1, y2, he1, hi1, hk⟩ := P_yieldK he hi b (by have := hb.2; omega)
  refine ⟨μ1, ν1, y1, he1, hi1, ?_⟩
  have hs1 : sok a (μ1.2.1 0 0) := by rw [hk.1]; exact hs
  have xi := xin_of (i := a) (n := 7) hs.1.1 (by have := hs.1.2; omega)
  have t1 := tn_of hs.1.1
  unfold yM_heardOf yC_isOwnPeer yLe_hear
  rw [y2, xbv_s, he1.term, he1.role, peers_m he1 (hi1.LB hn) hi1.mem, xbi_s, has_eq _ hs.1.1 hs.1.2]
  by_cases h3 : (μ1.2.1 0 9) = 3
  · rw [if_neg (not_not_intro h3), if_neg (not_not_intro h3)]
    by_cases h1 : b = (μ1.2.1 28 3)
    · rw [if_neg (not_not_intro h1), if_neg (not_not_intro h1)]
      by_cases h2 : yC_has (yC_peers μ1) a = 0
      · rw [if_pos h2, if_neg (not_not_intro h2)]
        exact Or.inl ⟨rfl, rfl⟩
      · rw [if_neg h2, if_pos h2]
        refine Or.inr ⟨rfl, ?_⟩
        repeat rw [xgd_t xi]
        rw [he1.ack, he1.now]
        have hnw := hi1.now
        have RI2 : RI n (μ1.1, xuI (xuI (xuI μ1.2.1 18 a.toNatClampNeg (μ1.2.1 0 8)) 19 a.toNatClampNeg 1) 17 a.toNatClampNeg (if (μ1.2.1 17) a.toNatClampNeg < e then e else (μ1.2.1 17) a.toNatClampNeg), μ1.2.2) := by
          refine (RI.mk (itself := hi1.itself) (role := hi1.role) (base := hi1.base) (ba := hi1.ba) (ac := hi1.ac) (cl := hi1.cl) (lb := hi1.lb) (last := hi1.last) (syn := hi1.syn) (dirty := hi1.dirty) (desc := hi1.desc) (now := hi1.now) (term := hi1.term) (went := hi1.went) (waits := hi1.waits) (done := hi1.done) (calls := hi1.calls) (told := hi1.told) (round := hi1.round) (hand := hi1.hand) (heard := hi1.heard) (vote := hi1.vote) (lead := fun _ j hj => ?_) (quiet := hi1.quiet) (cmd := hi1.cmd) (tt := hi1.tt) (tb := hi1.tb) (got := hi1.got) (mem := hi1.mem))
          have hz := hi1.lead h3 j hj
          have hza := hi1.lead h3 a.toNatClampNeg (by have := hs.1.2; omega)
          refine ⟨hz.1, hz.2.1, hz.2.2.1, ?_, ?_⟩
          · show 0 ≤ (upd (μ1.2.1 17) a.toNatClampNeg _ j).toInt ∧ (upd (μ1.2.1 17) a.toNatClampNeg _ j).toInt ≤ _
            by_cases hj2 : j = a.toNatClampNeg
            · rw [hj2, upd_s]
              split
              · have := hq.1; have := hq.2; omega
              · exact hza.2.2.2.1
            · rw [upd_o hj2]; exact hz.2.2.2.1
          · show 0 ≤ (upd (μ1.2.1 18) a.toNatClampNeg _ j).toInt ∧ (upd (μ1.2.1 18) a.toNatClampNeg _ j).toInt ≤ _
            by_cases hj2 : j = a.toNatClampNeg
            · rw [hj2, upd_s]; exact hnw
            · rw [upd_o hj2]; exact hz.2.2.2.2
        by_cases h4 : e ≤ (μ1.2.1 17) a.toNatClampNeg
        · rw [if_pos h4]
          have h5 : ¬ (μ1.2.1 17) a.toNatClampNeg < e := by
            rw [Int32.le_iff_toInt_le] at h4
            rw [Int32.lt_iff_toInt_lt]; omega
          rw [if_neg h5] at RI2 ⊢
          exact ⟨_, _, rfl, rfl, (RE.mk (ft := he1.ft) (fg := fun c hc => by first | exact he1.fg c hc | (have hh := he1.fg c hc; (try unfold zq at hh); (try unfold zd at hh); (try unfold zf at hh); (try unfold zo at hh); (try unfold zo); (try unfold zh at hh); (try unfold zh); (try unfold zq); (try unfold zd); (try unfold zf); (try dsimp only at hh); (try dsimp only); (repeat (first | rw [xuI_o (by omega)] at hh | rw [xuL_o (by omega)] at hh | rw [va_up_o (by omega)] at hh)); (repeat (first | rw [xuI_o (by omega)] | rw [xuL_o (by omega)] | rw [va_up_o (by omega)])); exact hh)) (fgl := fun c hc => by first | exact he1.fgl c hc | (have hh := he1.fgl c hc; (try unfold zq at hh); (try unfold zd at hh); (try unfold zf at hh); (try unfold zo at hh); (try unfold zo); (try unfold zh at hh); (try unfold zh); (try unfold zq); (try unfold zd); (try unfold zf); (try dsimp only at hh); (try dsimp only); (repeat (first | rw [xuI_o (by omega)] at hh | rw [xuL_o (by omega)] at hh | rw [va_up_o (by omega)] at hh)); (repeat (first | rw [xuI_o (by omega)] | rw [xuL_o (by omega)] | rw [va_up_o (by omega)])); exact hh)) (ht := he1.ht) (hg := fun c hc => by first | exact he1.hg c hc | (have hh := he1.hg c hc; (try unfold zq at hh); (try unfold zd at hh); (try unfold zf at hh); (try unfold zo at hh); (try unfold zo); (try unfold zh at hh); (try unfold zh); (try unfold zq); (try unfold zd); (try unfold zf); (try dsimp only at hh); (try dsimp only); (repeat (first | rw [xuI_o (by omega)] at hh | rw [xuL_o (by omega)] at hh | rw [va_up_o (by omega)] at hh)); (repeat (first | rw [xuI_o (by omega)] | rw [xuL_o (by omega)] | rw [va_up_o (by omega)])); exact hh)) (hgl := fun c hc => by first | exact he1.hgl c hc | (have hh := he1.hgl c hc; (try unfold zq at hh); (try unfold zd at hh); (try unfold zf at hh); (try unfold zo at hh); (try unfold zo); (try unfold zh at hh); (try unfold zh); (try unfold zq); (try unfold zd); (try unfold zf); (try dsimp only at hh); (try dsimp only); (repeat (first | rw [xuI_o (by omega)] at hh | rw [xuL_o (by omega)] at hh | rw [va_up_o (by omega)] at hh)); (repeat (first | rw [xuI_o (by omega)] | rw [xuL_o (by omega)] | rw [va_up_o (by omega)])); exact hh)) (thr := he1.thr) (row := he1.row) (itself := he1.itself) (now := he1.now) (term := he1.term) (voted := he1.voted) (base := he1.base) (last := he1.last) (baseTerm := he1.baseTerm) (baseCode := he1.baseCode) (snapshot := he1.snapshot) (dirty := he1.dirty) (role := he1.role) (leader := he1.leader) (commit := he1.commit) (applied := he1.applied) (synced := he1.synced) (heard := he1.heard) (alarm := he1.alarm) (votes := he1.votes) (handing := he1.handing) (handed := he1.handed) (first := he1.first) (round := he1.round) (assembly := he1.assembly) (described := he1.described) (toldBase := he1.toldBase) (toldTerm := he1.toldTerm) (toldCode := he1.toldCode) (toldSize := he1.toldSize) (told := he1.told) (waits := he1.waits) (went := he1.went) (done := he1.done) (calls := he1.calls) (next := he1.next) (mtch := he1.mtch) (flying := he1.flying) (offset := he1.offset) (ack := by show (ν1.2.1 40) = upd (μ1.2.1 17) a.toNatClampNeg ((μ1.2.1 17) a.toNatClampNeg); rw [upd_id]; exact he1.ack) (seen := congrArg (fun F => upd F a.toNatClampNeg (μ1.2.1 0 8)) he1.seen) (probing := he1.probing) (answered := congrArg (fun F => upd F a.toNatClampNeg 1) he1.answered) (toldTerms := he1.toldTerms) (toldKinds := he1.toldKinds) (toldValues := he1.toldValues) (doneNumbers := he1.doneNumbers) (doneValues := he1.doneValues) (callState := he1.callState) (callNumber := he1.callNumber) (got := he1.got) (log := he1.log) (kept := he1.kept) (wait := he1.wait) (cls := he1.cls)), RI2, h3, h2⟩
        · rw [if_neg h4]
          have h5 : (μ1.2.1 17) a.toNatClampNeg < e := by
            rw [Int32.le_iff_toInt_le] at h4
            rw [Int32.lt_iff_toInt_lt]; omega
          rw [if_pos h5] at RI2 ⊢
          exact ⟨_, _, rfl, rfl, (RE.mk (ft := he1.ft) (fg := fun c hc => by first | exact he1.fg c hc | (have hh := he1.fg c hc; (try unfold zq at hh); (try unfold zd at hh); (try unfold zf at hh); (try unfold zo at hh); (try unfold zo); (try unfold zh at hh); (try unfold zh); (try unfold zq); (try unfold zd); (try unfold zf); (try dsimp only at hh); (try dsimp only); (repeat (first | rw [xuI_o (by omega)] at hh | rw [xuL_o (by omega)] at hh | rw [va_up_o (by omega)] at hh)); (repeat (first | rw [xuI_o (by omega)] | rw [xuL_o (by omega)] | rw [va_up_o (by omega)])); exact hh)) (fgl := fun c hc => by first | exact he1.fgl c hc | (have hh := he1.fgl c hc; (try unfold zq at hh); (try unfold zd at hh); (try unfold zf at hh); (try unfold zo at hh); (try unfold zo); (try unfold zh at hh); (try unfold zh); (try unfold zq); (try unfold zd); (try unfold zf); (try dsimp only at hh); (try dsimp only); (repeat (first | rw [xuI_o (by omega)] at hh | rw [xuL_o (by omega)] at hh | rw [va_up_o (by omega)] at hh)); (repeat (first | rw [xuI_o (by omega)] | rw [xuL_o (by omega)] | rw [va_up_o (by omega)])); exact hh)) (ht := he1.ht) (hg := fun c hc => by first | exact he1.hg c hc | (have hh := he1.hg c hc; (try unfold zq at hh); (try unfold zd at hh); (try unfold zf at hh); (try unfold zo at hh); (try unfold zo); (try unfold zh at hh); (try unfold zh); (try unfold zq); (try unfold zd); (try unfold zf); (try dsimp only at hh); (try dsimp only); (repeat (first | rw [xuI_o (by omega)] at hh | rw [xuL_o (by omega)] at hh | rw [va_up_o (by omega)] at hh)); (repeat (first | rw [xuI_o (by omega)] | rw [xuL_o (by omega)] | rw [va_up_o (by omega)])); exact hh)) (hgl := fun c hc => by first | exact he1.hgl c hc | (have hh := he1.hgl c hc; (try unfold zq at hh); (try unfold zd at hh); (try unfold zf at hh); (try unfold zo at hh); (try unfold zo); (try unfold zh at hh); (try unfold zh); (try unfold zq); (try unfold zd); (try unfold zf); (try dsimp only at hh); (try dsimp only); (repeat (first | rw [xuI_o (by omega)] at hh | rw [xuL_o (by omega)] at hh | rw [va_up_o (by omega)] at hh)); (repeat (first | rw [xuI_o (by omega)] | rw [xuL_o (by omega)] | rw [va_up_o (by omega)])); exact hh)) (thr := he1.thr) (row := he1.row) (itself := he1.itself) (now := he1.now) (term := he1.term) (voted := he1.voted) (base := he1.base) (last := he1.last) (baseTerm := he1.baseTerm) (baseCode := he1.baseCode) (snapshot := he1.snapshot) (dirty := he1.dirty) (role := he1.role) (leader := he1.leader) (commit := he1.commit) (applied := he1.applied) (synced := he1.synced) (heard := he1.heard) (alarm := he1.alarm) (votes := he1.votes) (handing := he1.handing) (handed := he1.handed) (first := he1.first) (round := he1.round) (assembly := he1.assembly) (described := he1.described) (toldBase := he1.toldBase) (toldTerm := he1.toldTerm) (toldCode := he1.toldCode) (toldSize := he1.toldSize) (told := he1.told) (waits := he1.waits) (went := he1.went) (done := he1.done) (calls := he1.calls) (next := he1.next) (mtch := he1.mtch) (flying := he1.flying) (offset := he1.offset) (ack := congrArg (fun F => upd F a.toNatClampNeg e) he1.ack) (seen := congrArg (fun F => upd F a.toNatClampNeg (μ1.2.1 0 8)) he1.seen) (probing := he1.probing) (answered := congrArg (fun F => upd F a.toNatClampNeg 1) he1.answered) (toldTerms := he1.toldTerms) (toldKinds := he1.toldKinds) (toldValues := he1.toldValues) (doneNumbers := he1.doneNumbers) (doneValues := he1.doneValues) (callState := he1.callState) (callNumber := he1.callNumber) (got := he1.got) (log := he1.log) (kept := he1.kept) (wait := he1.wait) (cls := he1.cls)), RI2, h3, h2⟩
    · rw [if_pos h1, if_pos h1]
      exact Or.inl ⟨rfl, rfl⟩
  · rw [if_pos h3, if_pos h3]
    refine Or.inl ⟨rfl, ?_⟩
    split <;> rfl
theorem b53_eq {a x : Int32} {ν : XMu} (xi : xin a 7 = true) : yM_appended_b53 a x ν = yM_appended_b74 a x (ν.1, xuI ν.2.1 37 a.toNatClampNeg (if (ν.2.1 37) a.toNatClampNeg < x then x else (ν.2.1 37) a.toNatClampNeg), ν.2.2) := by
  unfold yM_appended_b53
  repeat rw [xgd_t xi]
  by_cases h : x ≤ (ν.2.1 37) a.toNatClampNeg
  · rw [if_pos h, if_neg (by rw [Int32.le_iff_toInt_le] at h; rw [Int32.lt_iff_toInt_lt]; omega), xuI_id rfl]
  · rw [if_neg h, if_pos (by rw [Int32.le_iff_toInt_le] at h; rw [Int32.lt_iff_toInt_lt]; omega)]
theorem b74_eq {a x : Int32} {ν : XMu} (xi : xin a 7 = true) (h0 : 0 ≤ ((ν.2.1 38) a.toNatClampNeg).toInt) : yM_appended_b74 a x ν = yM_appended_b100 a x (ν.1, xuI (xuI ν.2.1 42 a.toNatClampNeg 0) 38 a.toNatClampNeg (if (0 : Int32) < (ν.2.1 38) a.toNatClampNeg - 1 then (ν.2.1 38) a.toNatClampNeg - 1 else 0), ν.2.2) := by
  unfold yM_appended_b74
  repeat rw [xgd_t xi]
  have e1 : ((ν.2.1 38) a.toNatClampNeg - 1).toInt = ((ν.2.1 38) a.toNatClampNeg).toInt - 1 := by
    have := Int32.toInt_lt ((ν.2.1 38) a.toNatClampNeg)
    rw [i32_sub (by rw [il_1]; omega) (by rw [il_1]; omega), il_1]
  by_cases h : (ν.2.1 38) a.toNatClampNeg ≤ 0
  · rw [if_pos h]
    rw [Int32.le_iff_toInt_le, il_0] at h
    rw [if_neg (by rw [Int32.lt_iff_toInt_lt, il_0]; omega), xuI_id (show (xuI ν.2.1 42 a.toNatClampNeg 0) 38 a.toNatClampNeg = 0 from inj_i (by show ((ν.2.1 38) a.toNatClampNeg).toInt = (0 : Int32).toInt; rw [il_0]; omega))]
  · rw [if_neg h]
    rw [Int32.le_iff_toInt_le, il_0] at h
    by_cases h2 : (0 : Int32) < (ν.2.1 38) a.toNatClampNeg - 1
    · rw [if_pos h2]
    · rw [if_neg h2]
      rw [Int32.lt_iff_toInt_lt, il_0] at h2
      rw [show (ν.2.1 38) a.toNatClampNeg - 1 = 0 from inj_i (by rw [il_0]; omega)]
theorem b100_eq {a x : Int32} {ν : XMu} (xi : xin a 7 = true) : yM_appended_b100 a x ν = xbv (yM_goOn a (ν.1, xuI ν.2.1 36 a.toNatClampNeg (if (ν.2.1 36) a.toNatClampNeg < x + 1 then x + 1 else (ν.2.1 36) a.toNatClampNeg), ν.2.2)) (fun m => some (.inl none, m)) := by
  unfold yM_appended_b100
  repeat rw [xgd_t xi]
  by_cases h : x + 1 ≤ (ν.2.1 36) a.toNatClampNeg
  · rw [if_pos h, if_neg (by rw [Int32.le_iff_toInt_le] at h; rw [Int32.lt_iff_toInt_lt]; omega), xuI_id rfl]
  · rw [if_neg h, if_pos (by rw [Int32.le_iff_toInt_le] at h; rw [Int32.lt_iff_toInt_lt]; omega)]
theorem b166_eq {a x l : Int32} {ν : XMu} (xi : xin a 7 = true) (hl : (ν.2.1 32 10) + 1 = l) : yM_appended_b166 a x ν = xbv (yM_goOn a (ν.1, xuI ν.2.1 36 a.toNatClampNeg (if l < x then l else x), ν.2.2)) (fun m => some (.inl none, m)) := by
  unfold yM_appended_b166
  repeat rw [xgd_t xi]
  rw [hl]
  by_cases h : x ≤ l
  · rw [if_pos h, if_neg (by rw [Int32.le_iff_toInt_le] at h; rw [Int32.lt_iff_toInt_lt]; omega)]
  · rw [if_neg h, if_pos (by rw [Int32.le_iff_toInt_le] at h; rw [Int32.lt_iff_toInt_lt]; omega)]
theorem B_appended {g h μ ν : XMu} {n : Nat} (he : RE g h μ ν) (hi : RI n μ) (hn : n + 342 ≤ 1000000) (a b c d e : Int32) (hs : sok a (μ.2.1 0 0)) (hb : nok b) (hd : nok d) (hq : nok e) : Pv g h (n + 342) (xbv (yC_yieldTo b μ) (fun m5 => (if ¬ (yC_isOwnPeer a b m5) = (0 : Int32) then xbv (yLe_hear a (m5.2.1 0 8) e m5) (fun m6 => (if c = (0 : Int32) then xbv (yLe_refuse a d (m6.2.1 28 9) m6) (fun m7 => xbv (yC_goOnWith a m7) (fun m8 => some (.inl none, m8))) else xbv (yLe_accept a (if (m6.2.1 28 9) < d then (m6.2.1 28 9) else d) m6) (fun m9 => xbv (yC_goOnWith a m9) (fun m10 => some (.inl none, m10))))) else some (.inl none, m5)))) (xbi (yM_heardOf a b e ν) (fun r4 m3 => (if ¬ r4 = (0 : Int32) then (if c = (0 : Int32) then xgd (xin a 7) (xgd (xin a 7) (xgd (xin a 7) ((if d ≤ ((m3.2.1 37) a.toNatClampNeg + (1 : Int32)) then xgd (xin a 7) (yM_appended_b166 a ((m3.2.1 37) a.toNatClampNeg + (1 : Int32)) (m3.1, (xuI (xuI m3.2.1 38 a.toNatClampNeg (0 : Int32)) 42 a.toNatClampNeg (1 : Int32)), m3.2.2)) else yM_appended_b166 a d (m3.1, (xuI (xuI m3.2.1 38 a.toNatClampNeg (0 : Int32)) 42 a.toNatClampNeg (1 : Int32)), m3.2.2))))) else (if (m3.2.1 32 10) ≤ d then yM_appended_b53 a (m3.2.1 32 10) m3 else yM_appended_b53 a d m3)) else some (.inl none, m3)))) := by
  have xi := xin_of (i := a) (n := 7) hs.1.1 (by have := hs.1.2; omega)
  have t1 := tn_of hs.1.1
  obtain ⟨μ1, ν1, y1, he1, hi1, hc⟩ := P_heard he hi (by omega) hs hb hq
  rw [y1, xbv_s]
  rcases hc with ⟨c1, c2⟩ | ⟨c1, μ2, ν2, c2, c3, he2, hi2, hr, hp⟩
  · rw [c1, c2, xbi_s, if_neg (not_not_intro rfl), if_neg (not_not_intro rfl)]
    exact Pv.ret he1 (hi1.mono (by omega))
  · rw [c1, c2, c3, xbi_s, if_pos (show ¬ (1 : Int32) = 0 by decide), if_pos (show ¬ (1 : Int32) = 0 by decide), xbv_s]
    have hz := hi2.lead hr a.toNatClampNeg (by have := hs.1.2; omega)
    obtain ⟨b1, b2, b3, b4⟩ := hi2.LB (by omega)
    have il := inc_i (n := (μ2.2.1 28 9)) (by omega)
    by_cases hok : c = 0
    · rw [if_pos hok, if_pos hok]
      have q1 : (xuI (xuI ν2.2.1 38 a.toNatClampNeg 0) 42 a.toNatClampNeg 1) 32 10 + 1 = (μ2.2.1 28 9) + 1 := congrArg (· + 1) he2.last
      unfold yLe_refuse
      repeat rw [xgd_t xi]
      rw [xbv_s, b166_eq (l := (μ2.2.1 28 9) + 1) (ν := (ν2.1, xuI (xuI ν2.2.1 38 a.toNatClampNeg 0) 42 a.toNatClampNeg 1, ν2.2.2)) xi q1, b166_eq (l := (μ2.2.1 28 9) + 1) (ν := (ν2.1, xuI (xuI ν2.2.1 38 a.toNatClampNeg 0) 42 a.toNatClampNeg 1, ν2.2.2)) xi q1, he2.mtch]
      have im := inc_i (n := (μ2.2.1 13) a.toNatClampNeg) (by omega)
      have eq : ∀ K : Int32 → XRes, (if d ≤ (μ2.2.1 13) a.toNatClampNeg + 1 then K ((μ2.2.1 13) a.toNatClampNeg + 1) else K d) = K (if d < (μ2.2.1 13) a.toNatClampNeg + 1 then (μ2.2.1 13) a.toNatClampNeg + 1 else d) := by
        intro K
        by_cases q : d < (μ2.2.1 13) a.toNatClampNeg + 1
        · rw [if_pos q, if_pos (by rw [Int32.lt_iff_toInt_lt] at q; rw [Int32.le_iff_toInt_le]; omega)]
        · rw [if_neg q]
          split
          · next q2 =>
            rw [Int32.lt_iff_toInt_lt] at q
            rw [Int32.le_iff_toInt_le] at q2
            rw [show d = (μ2.2.1 13) a.toNatClampNeg + 1 from inj_i (by omega)]
          · rfl
      rw [eq (fun H => xbv (yM_goOn a (ν2.1, xuI (xuI (xuI ν2.2.1 38 a.toNatClampNeg 0) 42 a.toNatClampNeg 1) 36 a.toNatClampNeg (if (μ2.2.1 28 9) + 1 < H then (μ2.2.1 28 9) + 1 else H), ν2.2.2)) (fun m => some (.inl none, m)))]
      have hH : 1 ≤ (if d < (μ2.2.1 13) a.toNatClampNeg + 1 then (μ2.2.1 13) a.toNatClampNeg + 1 else d).toInt := by
        split
        · omega
        · next q => rw [Int32.lt_iff_toInt_lt] at q; omega
      generalize (if d < (μ2.2.1 13) a.toNatClampNeg + 1 then (μ2.2.1 13) a.toNatClampNeg + 1 else d) = H at hH ⊢
      have hH2 : 1 ≤ (if (μ2.2.1 28 9) + 1 < H then (μ2.2.1 28 9) + 1 else H).toInt ∧ (if (μ2.2.1 28 9) + 1 < H then (μ2.2.1 28 9) + 1 else H).toInt ≤ (μ2.2.1 28 9).toInt + 1 := by
        split
        · omega
        · next q => rw [Int32.lt_iff_toInt_lt] at q; omega
      generalize (if (μ2.2.1 28 9) + 1 < H then (μ2.2.1 28 9) + 1 else H) = H2 at hH2 ⊢
      refine (P_goOn (n := n) ?_ ?_ ?_ hn hs.1.1 hs.1.2 ?_).tail
      · exact (RE.mk (ft := he2.ft) (fg := fun c hc => by first | exact he2.fg c hc | (have hh := he2.fg c hc; (try unfold zq at hh); (try unfold zd at hh); (try unfold zf at hh); (try unfold zo at hh); (try unfold zo); (try unfold zh at hh); (try unfold zh); (try unfold zq); (try unfold zd); (try unfold zf); (try dsimp only at hh); (try dsimp only); (repeat (first | rw [xuI_o (by omega)] at hh | rw [xuL_o (by omega)] at hh | rw [va_up_o (by omega)] at hh)); (repeat (first | rw [xuI_o (by omega)] | rw [xuL_o (by omega)] | rw [va_up_o (by omega)])); exact hh)) (fgl := fun c hc => by first | exact he2.fgl c hc | (have hh := he2.fgl c hc; (try unfold zq at hh); (try unfold zd at hh); (try unfold zf at hh); (try unfold zo at hh); (try unfold zo); (try unfold zh at hh); (try unfold zh); (try unfold zq); (try unfold zd); (try unfold zf); (try dsimp only at hh); (try dsimp only); (repeat (first | rw [xuI_o (by omega)] at hh | rw [xuL_o (by omega)] at hh | rw [va_up_o (by omega)] at hh)); (repeat (first | rw [xuI_o (by omega)] | rw [xuL_o (by omega)] | rw [va_up_o (by omega)])); exact hh)) (ht := he2.ht) (hg := fun c hc => by first | exact he2.hg c hc | (have hh := he2.hg c hc; (try unfold zq at hh); (try unfold zd at hh); (try unfold zf at hh); (try unfold zo at hh); (try unfold zo); (try unfold zh at hh); (try unfold zh); (try unfold zq); (try unfold zd); (try unfold zf); (try dsimp only at hh); (try dsimp only); (repeat (first | rw [xuI_o (by omega)] at hh | rw [xuL_o (by omega)] at hh | rw [va_up_o (by omega)] at hh)); (repeat (first | rw [xuI_o (by omega)] | rw [xuL_o (by omega)] | rw [va_up_o (by omega)])); exact hh)) (hgl := fun c hc => by first | exact he2.hgl c hc | (have hh := he2.hgl c hc; (try unfold zq at hh); (try unfold zd at hh); (try unfold zf at hh); (try unfold zo at hh); (try unfold zo); (try unfold zh at hh); (try unfold zh); (try unfold zq); (try unfold zd); (try unfold zf); (try dsimp only at hh); (try dsimp only); (repeat (first | rw [xuI_o (by omega)] at hh | rw [xuL_o (by omega)] at hh | rw [va_up_o (by omega)] at hh)); (repeat (first | rw [xuI_o (by omega)] | rw [xuL_o (by omega)] | rw [va_up_o (by omega)])); exact hh)) (thr := he2.thr) (row := he2.row) (itself := he2.itself) (now := he2.now) (term := he2.term) (voted := he2.voted) (base := he2.base) (last := he2.last) (baseTerm := he2.baseTerm) (baseCode := he2.baseCode) (snapshot := he2.snapshot) (dirty := he2.dirty) (role := he2.role) (leader := he2.leader) (commit := he2.commit) (applied := he2.applied) (synced := he2.synced) (heard := he2.heard) (alarm := he2.alarm) (votes := he2.votes) (handing := he2.handing) (handed := he2.handed) (first := he2.first) (round := he2.round) (assembly := he2.assembly) (described := he2.described) (toldBase := he2.toldBase) (toldTerm := he2.toldTerm) (toldCode := he2.toldCode) (toldSize := he2.toldSize) (told := he2.told) (waits := he2.waits) (went := he2.went) (done := he2.done) (calls := he2.calls) (next := congrArg (fun F => upd F a.toNatClampNeg H2) he2.next) (mtch := he2.mtch) (flying := congrArg (fun F => upd F a.toNatClampNeg 0) he2.flying) (offset := he2.offset) (ack := he2.ack) (seen := he2.seen) (probing := congrArg (fun F => upd F a.toNatClampNeg 1) he2.probing) (answered := he2.answered) (toldTerms := he2.toldTerms) (toldKinds := he2.toldKinds) (toldValues := he2.toldValues) (doneNumbers := he2.doneNumbers) (doneValues := he2.doneValues) (callState := he2.callState) (callNumber := he2.callNumber) (got := he2.got) (log := he2.log) (kept := he2.kept) (wait := he2.wait) (cls := he2.cls))
      · refine (RI.mk (itself := hi2.itself) (role := hi2.role) (base := hi2.base) (ba := hi2.ba) (ac := hi2.ac) (cl := hi2.cl) (lb := hi2.lb) (last := hi2.last) (syn := hi2.syn) (dirty := hi2.dirty) (desc := hi2.desc) (now := hi2.now) (term := hi2.term) (went := hi2.went) (waits := hi2.waits) (done := hi2.done) (calls := hi2.calls) (told := hi2.told) (round := hi2.round) (hand := hi2.hand) (heard := hi2.heard) (vote := hi2.vote) (lead := fun _ j hj => ?_) (quiet := hi2.quiet) (cmd := hi2.cmd) (tt := hi2.tt) (tb := hi2.tb) (got := hi2.got) (mem := hi2.mem))
        have hzj := hi2.lead hr j hj
        refine ⟨?_, hzj.2.1, ?_, hzj.2.2.2⟩
        · show 1 ≤ (upd (μ2.2.1 12) a.toNatClampNeg H2 j).toInt ∧ (upd (μ2.2.1 12) a.toNatClampNeg H2 j).toInt ≤ (μ2.2.1 28 9).toInt + 1
          by_cases hj2 : j = a.toNatClampNeg
          · rw [hj2, upd_s]; exact hH2
          · rw [upd_o hj2]; exact hzj.1
        · show 0 ≤ (upd (μ2.2.1 14) a.toNatClampNeg 0 j).toInt ∧ (upd (μ2.2.1 14) a.toNatClampNeg 0 j).toInt ≤ 4
          by_cases hj2 : j = a.toNatClampNeg
          · rw [hj2, upd_s, il_0]; omega
          · rw [upd_o hj2]; exact hzj.2.2.1
      · exact hr
      · exact hp
    · rw [if_neg hok, if_neg hok, he2.last]
      have eq : (if (μ2.2.1 28 9) ≤ d then yM_appended_b53 a (μ2.2.1 28 9) ν2 else yM_appended_b53 a d ν2) = yM_appended_b53 a (if (μ2.2.1 28 9) < d then (μ2.2.1 28 9) else d) ν2 := by
        by_cases q : (μ2.2.1 28 9) < d
        · rw [if_pos q, if_pos (by rw [Int32.lt_iff_toInt_lt] at q; rw [Int32.le_iff_toInt_le]; omega)]
        · rw [if_neg q]
          split
          · next q2 =>
            rw [Int32.lt_iff_toInt_lt] at q
            rw [Int32.le_iff_toInt_le] at q2
            rw [show d = (μ2.2.1 28 9) from inj_i (by omega)]
          · rfl
      rw [eq]
      have hm : 0 ≤ (if (μ2.2.1 28 9) < d then (μ2.2.1 28 9) else d).toInt ∧ (if (μ2.2.1 28 9) < d then (μ2.2.1 28 9) else d).toInt ≤ (μ2.2.1 28 9).toInt := by
        split
        · omega
        · next q => rw [Int32.lt_iff_toInt_lt] at q; have := hd.1; omega
      generalize (if (μ2.2.1 28 9) < d then (μ2.2.1 28 9) else d) = m at hm ⊢
      unfold yLe_accept
      repeat rw [xgd_t xi]
      have f0 : 0 ≤ ((ν2.2.1 38) a.toNatClampNeg).toInt := by rw [he2.flying]; exact hz.2.2.1.1
      rw [xbv_s, b53_eq xi, b74_eq (ν := (ν2.1, xuI ν2.2.1 37 a.toNatClampNeg (if (ν2.2.1 37) a.toNatClampNeg < m then m else (ν2.2.1 37) a.toNatClampNeg), ν2.2.2)) xi f0, b100_eq xi]
      have im := inc_i (n := m) (by omega)
      refine (P_goOn (n := n) ?_ ?_ ?_ hn hs.1.1 hs.1.2 ?_).tail
      · refine (RE.mk (ft := he2.ft) (fg := fun c hc => by first | exact he2.fg c hc | (have hh := he2.fg c hc; (try unfold zq at hh); (try unfold zd at hh); (try unfold zf at hh); (try unfold zo at hh); (try unfold zo); (try unfold zh at hh); (try unfold zh); (try unfold zq); (try unfold zd); (try unfold zf); (try dsimp only at hh); (try dsimp only); (repeat (first | rw [xuI_o (by omega)] at hh | rw [xuL_o (by omega)] at hh | rw [va_up_o (by omega)] at hh)); (repeat (first | rw [xuI_o (by omega)] | rw [xuL_o (by omega)] | rw [va_up_o (by omega)])); exact hh)) (fgl := fun c hc => by first | exact he2.fgl c hc | (have hh := he2.fgl c hc; (try unfold zq at hh); (try unfold zd at hh); (try unfold zf at hh); (try unfold zo at hh); (try unfold zo); (try unfold zh at hh); (try unfold zh); (try unfold zq); (try unfold zd); (try unfold zf); (try dsimp only at hh); (try dsimp only); (repeat (first | rw [xuI_o (by omega)] at hh | rw [xuL_o (by omega)] at hh | rw [va_up_o (by omega)] at hh)); (repeat (first | rw [xuI_o (by omega)] | rw [xuL_o (by omega)] | rw [va_up_o (by omega)])); exact hh)) (ht := he2.ht) (hg := fun c hc => by first | exact he2.hg c hc | (have hh := he2.hg c hc; (try unfold zq at hh); (try unfold zd at hh); (try unfold zf at hh); (try unfold zo at hh); (try unfold zo); (try unfold zh at hh); (try unfold zh); (try unfold zq); (try unfold zd); (try unfold zf); (try dsimp only at hh); (try dsimp only); (repeat (first | rw [xuI_o (by omega)] at hh | rw [xuL_o (by omega)] at hh | rw [va_up_o (by omega)] at hh)); (repeat (first | rw [xuI_o (by omega)] | rw [xuL_o (by omega)] | rw [va_up_o (by omega)])); exact hh)) (hgl := fun c hc => by first | exact he2.hgl c hc | (have hh := he2.hgl c hc; (try unfold zq at hh); (try unfold zd at hh); (try unfold zf at hh); (try unfold zo at hh); (try unfold zo); (try unfold zh at hh); (try unfold zh); (try unfold zq); (try unfold zd); (try unfold zf); (try dsimp only at hh); (try dsimp only); (repeat (first | rw [xuI_o (by omega)] at hh | rw [xuL_o (by omega)] at hh | rw [va_up_o (by omega)] at hh)); (repeat (first | rw [xuI_o (by omega)] | rw [xuL_o (by omega)] | rw [va_up_o (by omega)])); exact hh)) (thr := he2.thr) (row := he2.row) (itself := he2.itself) (now := he2.now) (term := he2.term) (voted := he2.voted) (base := he2.base) (last := he2.last) (baseTerm := he2.baseTerm) (baseCode := he2.baseCode) (snapshot := he2.snapshot) (dirty := he2.dirty) (role := he2.role) (leader := he2.leader) (commit := he2.commit) (applied := he2.applied) (synced := he2.synced) (heard := he2.heard) (alarm := he2.alarm) (votes := he2.votes) (handing := he2.handing) (handed := he2.handed) (first := he2.first) (round := he2.round) (assembly := he2.assembly) (described := he2.described) (toldBase := he2.toldBase) (toldTerm := he2.toldTerm) (toldCode := he2.toldCode) (toldSize := he2.toldSize) (told := he2.told) (waits := he2.waits) (went := he2.went) (done := he2.done) (calls := he2.calls) (next := ?_) (mtch := ?_) (flying := ?_) (offset := he2.offset) (ack := he2.ack) (seen := he2.seen) (probing := congrArg (fun F => upd F a.toNatClampNeg 0) he2.probing) (answered := he2.answered) (toldTerms := he2.toldTerms) (toldKinds := he2.toldKinds) (toldValues := he2.toldValues) (doneNumbers := he2.doneNumbers) (doneValues := he2.doneValues) (callState := he2.callState) (callNumber := he2.callNumber) (got := he2.got) (log := he2.log) (kept := he2.kept) (wait := he2.wait) (cls := he2.cls))
        · show upd (ν2.2.1 36) a.toNatClampNeg (if (ν2.2.1 36) a.toNatClampNeg < m + 1 then m + 1 else (ν2.2.1 36) a.toNatClampNeg) = upd (μ2.2.1 12) a.toNatClampNeg (if (μ2.2.1 12) a.toNatClampNeg < m + 1 then m + 1 else (μ2.2.1 12) a.toNatClampNeg)
          rw [he2.next]
        · show upd (ν2.2.1 37) a.toNatClampNeg (if (ν2.2.1 37) a.toNatClampNeg < m then m else (ν2.2.1 37) a.toNatClampNeg) = upd (μ2.2.1 13) a.toNatClampNeg (if (μ2.2.1 13) a.toNatClampNeg < m then m else (μ2.2.1 13) a.toNatClampNeg)
          rw [he2.mtch]
        · show upd (ν2.2.1 38) a.toNatClampNeg (if (0 : Int32) < (ν2.2.1 38) a.toNatClampNeg - 1 then (ν2.2.1 38) a.toNatClampNeg - 1 else 0) = upd (μ2.2.1 14) a.toNatClampNeg (if (0 : Int32) < (μ2.2.1 14) a.toNatClampNeg - 1 then (μ2.2.1 14) a.toNatClampNeg - 1 else 0)
          rw [he2.flying]
      · refine (RI.mk (itself := hi2.itself) (role := hi2.role) (base := hi2.base) (ba := hi2.ba) (ac := hi2.ac) (cl := hi2.cl) (lb := hi2.lb) (last := hi2.last) (syn := hi2.syn) (dirty := hi2.dirty) (desc := hi2.desc) (now := hi2.now) (term := hi2.term) (went := hi2.went) (waits := hi2.waits) (done := hi2.done) (calls := hi2.calls) (told := hi2.told) (round := hi2.round) (hand := hi2.hand) (heard := hi2.heard) (vote := hi2.vote) (lead := fun _ j hj => ?_) (quiet := hi2.quiet) (cmd := hi2.cmd) (tt := hi2.tt) (tb := hi2.tb) (got := hi2.got) (mem := hi2.mem))
        have hzj := hi2.lead hr j hj
        refine ⟨?_, ?_, ?_, hzj.2.2.2⟩
        · show 1 ≤ (upd (μ2.2.1 12) a.toNatClampNeg (if (μ2.2.1 12) a.toNatClampNeg < m + 1 then m + 1 else (μ2.2.1 12) a.toNatClampNeg) j).toInt ∧ (upd (μ2.2.1 12) a.toNatClampNeg (if (μ2.2.1 12) a.toNatClampNeg < m + 1 then m + 1 else (μ2.2.1 12) a.toNatClampNeg) j).toInt ≤ (μ2.2.1 28 9).toInt + 1
          by_cases hj2 : j = a.toNatClampNeg
          · rw [hj2, upd_s]
            split
            · omega
            · exact hz.1
          · rw [upd_o hj2]; exact hzj.1
        · show 0 ≤ (upd (μ2.2.1 13) a.toNatClampNeg (if (μ2.2.1 13) a.toNatClampNeg < m then m else (μ2.2.1 13) a.toNatClampNeg) j).toInt ∧ (upd (μ2.2.1 13) a.toNatClampNeg (if (μ2.2.1 13) a.toNatClampNeg < m then m else (μ2.2.1 13) a.toNatClampNeg) j).toInt ≤ (μ2.2.1 28 9).toInt
          by_cases hj2 : j = a.toNatClampNeg
          · rw [hj2, upd_s]
            split
            · exact hm
            · exact hz.2.1
          · rw [upd_o hj2]; exact hzj.2.1
        · show 0 ≤ (upd (μ2.2.1 14) a.toNatClampNeg (if (0 : Int32) < (μ2.2.1 14) a.toNatClampNeg - 1 then (μ2.2.1 14) a.toNatClampNeg - 1 else 0) j).toInt ∧ (upd (μ2.2.1 14) a.toNatClampNeg (if (0 : Int32) < (μ2.2.1 14) a.toNatClampNeg - 1 then (μ2.2.1 14) a.toNatClampNeg - 1 else 0) j).toInt ≤ 4
          by_cases hj2 : j = a.toNatClampNeg
          · rw [hj2, upd_s]
            have e1 : ((μ2.2.1 14) a.toNatClampNeg - 1).toInt = ((μ2.2.1 14) a.toNatClampNeg).toInt - 1 := by
              rw [i32_sub (by rw [il_1]; omega) (by rw [il_1]; omega), il_1]
            split
            · next q => rw [Int32.lt_iff_toInt_lt, il_0] at q; omega
            · rw [il_0]; omega
          · rw [upd_o hj2]; exact hzj.2.2.1
      · exact hr
      · exact hp
theorem B_stored {g h μ ν : XMu} {n : Nat} (he : RE g h μ ν) (hi : RI n μ) (hn : n + 342 ≤ 1000000) (a b c d e : Int32) (hs : sok a (μ.2.1 0 0)) (hb : nok b) (hq : nok e) : Pv g h (n + 342) (xbv (yC_yieldTo b μ) (fun m6 => (if ¬ (yC_isOwnPeer a b m6) = (0 : Int32) then xbv (yLe_hear a (m6.2.1 0 8) e m6) (fun m7 => xgd (xin a 7) ((if c = (m7.2.1 28 5) then (if (m7.2.1 28 8) ≤ d then xbv (yLe_holdSnapshot a (m7.2.1 28 5) (m7.1, (xuI m7.2.1 14 a.toNatClampNeg (0 : Int32)), m7.2.2)) (fun m8 => xbv (yC_goOnWith a m8) (fun m9 => some (.inl none, m9))) else xgd (xin a 7) (xbv (yC_goOnWith a (m7.1, (xuI (xuI m7.2.1 14 a.toNatClampNeg (0 : Int32)) 16 a.toNatClampNeg d), m7.2.2)) (fun m10 => some (.inl none, m10)))) else xgd (xin a 7) (xbv (yC_goOnWith a (m7.1, (xuI (xuI m7.2.1 14 a.toNatClampNeg (0 : Int32)) 16 a.toNatClampNeg (0 : Int32)), m7.2.2)) (fun m11 => some (.inl none, m11)))))) else some (.inl none, m6)))) (xbi (yM_heardOf a b e ν) (fun r4 m3 => (if ¬ r4 = (0 : Int32) then xgd (xin a 7) ((if c = (m3.2.1 32 9) then (if (m3.2.1 32 13) ≤ d then xgd (xin a 7) ((if (m3.2.1 32 9) ≤ (m3.2.1 37) a.toNatClampNeg then yM_stored_b99 a (m3.1, (xuI m3.2.1 38 a.toNatClampNeg (0 : Int32)), m3.2.2) else xgd (xin a 7) (yM_stored_b99 a (m3.1, (xuI (xuI m3.2.1 38 a.toNatClampNeg (0 : Int32)) 37 a.toNatClampNeg (m3.2.1 32 9)), m3.2.2)))) else xgd (xin a 7) (xbv (yM_goOn a (m3.1, (xuI (xuI m3.2.1 38 a.toNatClampNeg (0 : Int32)) 39 a.toNatClampNeg d), m3.2.2)) (fun m6 => some (.inl none, m6)))) else xgd (xin a 7) (xbv (yM_goOn a (m3.1, (xuI (xuI m3.2.1 38 a.toNatClampNeg (0 : Int32)) 39 a.toNatClampNeg (0 : Int32)), m3.2.2)) (fun m7 => some (.inl none, m7))))) else some (.inl none, m3)))) := by
  have xi := xin_of (i := a) (n := 7) hs.1.1 (by have := hs.1.2; omega)
  have t1 := tn_of hs.1.1
  obtain ⟨μ1, ν1, y1, he1, hi1, hc⟩ := P_heard he hi (by omega) hs hb hq
  rw [y1, xbv_s]
  rcases hc with ⟨c1, c2⟩ | ⟨c1, μ2, ν2, c2, c3, he2, hi2, hr, hp⟩
  · rw [c1, c2, xbi_s, if_neg (not_not_intro rfl), if_neg (not_not_intro rfl)]
    exact Pv.ret he1 (hi1.mono (by omega))
  · rw [c1, c2, c3, xbi_s, if_pos (show ¬ (1 : Int32) = 0 by decide), if_pos (show ¬ (1 : Int32) = 0 by decide), xbv_s]
    have hz := hi2.lead hr a.toNatClampNeg (by have := hs.1.2; omega)
    obtain ⟨b1, b2, b3, b4⟩ := hi2.LB (by omega)
    repeat rw [xgd_t xi]
    rw [he2.base, he2.snapshot, he2.mtch]
    have fl0 : ∀ j : Nat, j < 7 → 0 ≤ (upd (μ2.2.1 14) a.toNatClampNeg 0 j).toInt ∧ (upd (μ2.2.1 14) a.toNatClampNeg 0 j).toInt ≤ 4 := by
      intro j hj
      by_cases hj2 : j = a.toNatClampNeg
      · rw [hj2, upd_s, il_0]; omega
      · rw [upd_o hj2]; exact (hi2.lead hr j hj).2.2.1
    have off : ∀ v : Int32, Pv g h (n + 342) (xbv (yC_goOnWith a (μ2.1, (xuI (xuI μ2.2.1 14 a.toNatClampNeg (0 : Int32)) 16 a.toNatClampNeg v), μ2.2.2)) (fun m11 => some (.inl none, m11))) (xbv (yM_goOn a (ν2.1, (xuI (xuI ν2.2.1 38 a.toNatClampNeg (0 : Int32)) 39 a.toNatClampNeg v), ν2.2.2)) (fun m7 => some (.inl none, m7))) := by
      intro v
      refine (P_goOn (n := n) ?_ ?_ ?_ hn hs.1.1 hs.1.2 ?_).tail
      · exact (RE.mk (ft := he2.ft) (fg := fun c hc => by first | exact he2.fg c hc | (have hh := he2.fg c hc; (try unfold zq at hh); (try unfold zd at hh); (try unfold zf at hh); (try unfold zo at hh); (try unfold zo); (try unfold zh at hh); (try unfold zh); (try unfold zq); (try unfold zd); (try unfold zf); (try dsimp only at hh); (try dsimp only); (repeat (first | rw [xuI_o (by omega)] at hh | rw [xuL_o (by omega)] at hh | rw [va_up_o (by omega)] at hh)); (repeat (first | rw [xuI_o (by omega)] | rw [xuL_o (by omega)] | rw [va_up_o (by omega)])); exact hh)) (fgl := fun c hc => by first | exact he2.fgl c hc | (have hh := he2.fgl c hc; (try unfold zq at hh); (try unfold zd at hh); (try unfold zf at hh); (try unfold zo at hh); (try unfold zo); (try unfold zh at hh); (try unfold zh); (try unfold zq); (try unfold zd); (try unfold zf); (try dsimp only at hh); (try dsimp only); (repeat (first | rw [xuI_o (by omega)] at hh | rw [xuL_o (by omega)] at hh | rw [va_up_o (by omega)] at hh)); (repeat (first | rw [xuI_o (by omega)] | rw [xuL_o (by omega)] | rw [va_up_o (by omega)])); exact hh)) (ht := he2.ht) (hg := fun c hc => by first | exact he2.hg c hc | (have hh := he2.hg c hc; (try unfold zq at hh); (try unfold zd at hh); (try unfold zf at hh); (try unfold zo at hh); (try unfold zo); (try unfold zh at hh); (try unfold zh); (try unfold zq); (try unfold zd); (try unfold zf); (try dsimp only at hh); (try dsimp only); (repeat (first | rw [xuI_o (by omega)] at hh | rw [xuL_o (by omega)] at hh | rw [va_up_o (by omega)] at hh)); (repeat (first | rw [xuI_o (by omega)] | rw [xuL_o (by omega)] | rw [va_up_o (by omega)])); exact hh)) (hgl := fun c hc => by first | exact he2.hgl c hc | (have hh := he2.hgl c hc; (try unfold zq at hh); (try unfold zd at hh); (try unfold zf at hh); (try unfold zo at hh); (try unfold zo); (try unfold zh at hh); (try unfold zh); (try unfold zq); (try unfold zd); (try unfold zf); (try dsimp only at hh); (try dsimp only); (repeat (first | rw [xuI_o (by omega)] at hh | rw [xuL_o (by omega)] at hh | rw [va_up_o (by omega)] at hh)); (repeat (first | rw [xuI_o (by omega)] | rw [xuL_o (by omega)] | rw [va_up_o (by omega)])); exact hh)) (thr := he2.thr) (row := he2.row) (itself := he2.itself) (now := he2.now) (term := he2.term) (voted := he2.voted) (base := he2.base) (last := he2.last) (baseTerm := he2.baseTerm) (baseCode := he2.baseCode) (snapshot := he2.snapshot) (dirty := he2.dirty) (role := he2.role) (leader := he2.leader) (commit := he2.commit) (applied := he2.applied) (synced := he2.synced) (heard := he2.heard) (alarm := he2.alarm) (votes := he2.votes) (handing := he2.handing) (handed := he2.handed) (first := he2.first) (round := he2.round) (assembly := he2.assembly) (described := he2.described) (toldBase := he2.toldBase) (toldTerm := he2.toldTerm) (toldCode := he2.toldCode) (toldSize := he2.toldSize) (told := he2.told) (waits := he2.waits) (went := he2.went) (done := he2.done) (calls := he2.calls) (next := he2.next) (mtch := he2.mtch) (flying := congrArg (fun F => upd F a.toNatClampNeg 0) he2.flying) (offset := congrArg (fun F => upd F a.toNatClampNeg v) he2.offset) (ack := he2.ack) (seen := he2.seen) (probing := he2.probing) (answered := he2.answered) (toldTerms := he2.toldTerms) (toldKinds := he2.toldKinds) (toldValues := he2.toldValues) (doneNumbers := he2.doneNumbers) (doneValues := he2.doneValues) (callState := he2.callState) (callNumber := he2.callNumber) (got := he2.got) (log := he2.log) (kept := he2.kept) (wait := he2.wait) (cls := he2.cls))
      · exact (RI.mk (itself := hi2.itself) (role := hi2.role) (base := hi2.base) (ba := hi2.ba) (ac := hi2.ac) (cl := hi2.cl) (lb := hi2.lb) (last := hi2.last) (syn := hi2.syn) (dirty := hi2.dirty) (desc := hi2.desc) (now := hi2.now) (term := hi2.term) (went := hi2.went) (waits := hi2.waits) (done := hi2.done) (calls := hi2.calls) (told := hi2.told) (round := hi2.round) (hand := hi2.hand) (heard := hi2.heard) (vote := hi2.vote) (lead := fun _ j hj => ⟨(hi2.lead hr j hj).1, (hi2.lead hr j hj).2.1, fl0 j hj, (hi2.lead hr j hj).2.2.2⟩) (quiet := hi2.quiet) (cmd := hi2.cmd) (tt := hi2.tt) (tb := hi2.tb) (got := hi2.got) (mem := hi2.mem))
      · exact hr
      · exact hp
    by_cases h1 : c = (μ2.2.1 28 5)
    · rw [if_pos h1, if_pos h1]
      by_cases h2 : (μ2.2.1 28 8) ≤ d
      · rw [if_pos h2, if_pos h2]
        unfold yLe_holdSnapshot yM_stored_b99
        repeat rw [xgd_t xi]
        rw [xbv_s]
        have ib := inc_i (n := (μ2.2.1 28 5)) (by omega)
        have fin : ∀ X : Int32, 0 ≤ X.toInt → X.toInt ≤ (μ2.2.1 28 9).toInt → Pv g h (n + 342) (xbv (yC_goOnWith a (μ2.1, xuI (xuI (xuI (xuI (xuI μ2.2.1 14 a.toNatClampNeg 0) 13 a.toNatClampNeg X) 12 a.toNatClampNeg ((μ2.2.1 28 5) + 1)) 15 a.toNatClampNeg 1) 16 a.toNatClampNeg 0, μ2.2.2)) (fun m11 => some (.inl none, m11))) (xbv (yM_goOn a (ν2.1, xuI (xuI (xuI (xuI (xuI ν2.2.1 38 a.toNatClampNeg 0) 37 a.toNatClampNeg X) 36 a.toNatClampNeg ((μ2.2.1 28 5) + 1)) 42 a.toNatClampNeg 1) 39 a.toNatClampNeg 0, ν2.2.2)) (fun m7 => some (.inl none, m7))) := by
          intro X hx1 hx2
          refine (P_goOn (n := n) ?_ ?_ ?_ hn hs.1.1 hs.1.2 ?_).tail
          · exact (RE.mk (ft := he2.ft) (fg := fun c hc => by first | exact he2.fg c hc | (have hh := he2.fg c hc; (try unfold zq at hh); (try unfold zd at hh); (try unfold zf at hh); (try unfold zo at hh); (try unfold zo); (try unfold zh at hh); (try unfold zh); (try unfold zq); (try unfold zd); (try unfold zf); (try dsimp only at hh); (try dsimp only); (repeat (first | rw [xuI_o (by omega)] at hh | rw [xuL_o (by omega)] at hh | rw [va_up_o (by omega)] at hh)); (repeat (first | rw [xuI_o (by omega)] | rw [xuL_o (by omega)] | rw [va_up_o (by omega)])); exact hh)) (fgl := fun c hc => by first | exact he2.fgl c hc | (have hh := he2.fgl c hc; (try unfold zq at hh); (try unfold zd at hh); (try unfold zf at hh); (try unfold zo at hh); (try unfold zo); (try unfold zh at hh); (try unfold zh); (try unfold zq); (try unfold zd); (try unfold zf); (try dsimp only at hh); (try dsimp only); (repeat (first | rw [xuI_o (by omega)] at hh | rw [xuL_o (by omega)] at hh | rw [va_up_o (by omega)] at hh)); (repeat (first | rw [xuI_o (by omega)] | rw [xuL_o (by omega)] | rw [va_up_o (by omega)])); exact hh)) (ht := he2.ht) (hg := fun c hc => by first | exact he2.hg c hc | (have hh := he2.hg c hc; (try unfold zq at hh); (try unfold zd at hh); (try unfold zf at hh); (try unfold zo at hh); (try unfold zo); (try unfold zh at hh); (try unfold zh); (try unfold zq); (try unfold zd); (try unfold zf); (try dsimp only at hh); (try dsimp only); (repeat (first | rw [xuI_o (by omega)] at hh | rw [xuL_o (by omega)] at hh | rw [va_up_o (by omega)] at hh)); (repeat (first | rw [xuI_o (by omega)] | rw [xuL_o (by omega)] | rw [va_up_o (by omega)])); exact hh)) (hgl := fun c hc => by first | exact he2.hgl c hc | (have hh := he2.hgl c hc; (try unfold zq at hh); (try unfold zd at hh); (try unfold zf at hh); (try unfold zo at hh); (try unfold zo); (try unfold zh at hh); (try unfold zh); (try unfold zq); (try unfold zd); (try unfold zf); (try dsimp only at hh); (try dsimp only); (repeat (first | rw [xuI_o (by omega)] at hh | rw [xuL_o (by omega)] at hh | rw [va_up_o (by omega)] at hh)); (repeat (first | rw [xuI_o (by omega)] | rw [xuL_o (by omega)] | rw [va_up_o (by omega)])); exact hh)) (thr := he2.thr) (row := he2.row) (itself := he2.itself) (now := he2.now) (term := he2.term) (voted := he2.voted) (base := he2.base) (last := he2.last) (baseTerm := he2.baseTerm) (baseCode := he2.baseCode) (snapshot := he2.snapshot) (dirty := he2.dirty) (role := he2.role) (leader := he2.leader) (commit := he2.commit) (applied := he2.applied) (synced := he2.synced) (heard := he2.heard) (alarm := he2.alarm) (votes := he2.votes) (handing := he2.handing) (handed := he2.handed) (first := he2.first) (round := he2.round) (assembly := he2.assembly) (described := he2.described) (toldBase := he2.toldBase) (toldTerm := he2.toldTerm) (toldCode := he2.toldCode) (toldSize := he2.toldSize) (told := he2.told) (waits := he2.waits) (went := he2.went) (done := he2.done) (calls := he2.calls) (next := congrArg (fun F => upd F a.toNatClampNeg ((μ2.2.1 28 5) + 1)) he2.next) (mtch := congrArg (fun F => upd F a.toNatClampNeg X) he2.mtch) (flying := congrArg (fun F => upd F a.toNatClampNeg 0) he2.flying) (offset := congrArg (fun F => upd F a.toNatClampNeg 0) he2.offset) (ack := he2.ack) (seen := he2.seen) (probing := congrArg (fun F => upd F a.toNatClampNeg 1) he2.probing) (answered := he2.answered) (toldTerms := he2.toldTerms) (toldKinds := he2.toldKinds) (toldValues := he2.toldValues) (doneNumbers := he2.doneNumbers) (doneValues := he2.doneValues) (callState := he2.callState) (callNumber := he2.callNumber) (got := he2.got) (log := he2.log) (kept := he2.kept) (wait := he2.wait) (cls := he2.cls))
          · refine (RI.mk (itself := hi2.itself) (role := hi2.role) (base := hi2.base) (ba := hi2.ba) (ac := hi2.ac) (cl := hi2.cl) (lb := hi2.lb) (last := hi2.last) (syn := hi2.syn) (dirty := hi2.dirty) (desc := hi2.desc) (now := hi2.now) (term := hi2.term) (went := hi2.went) (waits := hi2.waits) (done := hi2.done) (calls := hi2.calls) (told := hi2.told) (round := hi2.round) (hand := hi2.hand) (heard := hi2.heard) (vote := hi2.vote) (lead := fun _ j hj => ?_) (quiet := hi2.quiet) (cmd := hi2.cmd) (tt := hi2.tt) (tb := hi2.tb) (got := hi2.got) (mem := hi2.mem))
            have hzj := hi2.lead hr j hj
            refine ⟨?_, ?_, fl0 j hj, hzj.2.2.2⟩
            · show 1 ≤ (upd (μ2.2.1 12) a.toNatClampNeg ((μ2.2.1 28 5) + 1) j).toInt ∧ (upd (μ2.2.1 12) a.toNatClampNeg ((μ2.2.1 28 5) + 1) j).toInt ≤ (μ2.2.1 28 9).toInt + 1
              by_cases hj2 : j = a.toNatClampNeg
              · rw [hj2, upd_s]; omega
              · rw [upd_o hj2]; exact hzj.1
            · show 0 ≤ (upd (μ2.2.1 13) a.toNatClampNeg X j).toInt ∧ (upd (μ2.2.1 13) a.toNatClampNeg X j).toInt ≤ (μ2.2.1 28 9).toInt
              by_cases hj2 : j = a.toNatClampNeg
              · rw [hj2, upd_s]; omega
              · rw [upd_o hj2]; exact hzj.2.1
          · exact hr
          · exact hp
        have qb : (xuI (xuI ν2.2.1 38 a.toNatClampNeg 0) 37 a.toNatClampNeg (μ2.2.1 28 5)) 32 9 = (μ2.2.1 28 5) := he2.base
        have qb2 : (xuI ν2.2.1 38 a.toNatClampNeg 0) 32 9 = (μ2.2.1 28 5) := he2.base
        dsimp only
        rw [qb, qb2]
        by_cases h3 : (μ2.2.1 28 5) ≤ (μ2.2.1 13) a.toNatClampNeg
        · rw [if_pos h3]
          have h4 : ¬ (xuI μ2.2.1 14 a.toNatClampNeg 0) 13 a.toNatClampNeg < (μ2.2.1 28 5) := by
            show ¬ (μ2.2.1 13) a.toNatClampNeg < (μ2.2.1 28 5)
            rw [Int32.le_iff_toInt_le] at h3; rw [Int32.lt_iff_toInt_lt]; omega
          rw [if_neg h4]
          have := fin ((μ2.2.1 13) a.toNatClampNeg) hz.2.1.1 hz.2.1.2
          rw [xuI_id (M := xuI ν2.2.1 38 a.toNatClampNeg 0) (k := 37) (show (ν2.2.1 37) a.toNatClampNeg = (μ2.2.1 13) a.toNatClampNeg by rw [he2.mtch])] at this
          exact this
        · rw [if_neg h3]
          have h4 : (xuI μ2.2.1 14 a.toNatClampNeg 0) 13 a.toNatClampNeg < (μ2.2.1 28 5) := by
            show (μ2.2.1 13) a.toNatClampNeg < (μ2.2.1 28 5)
            rw [Int32.le_iff_toInt_le] at h3; rw [Int32.lt_iff_toInt_lt]; omega
          rw [if_pos h4]
          exact fin (μ2.2.1 28 5) b1 b2
      · rw [if_neg h2, if_neg h2]
        exact off d
    · rw [if_neg h1, if_neg h1]
      exact off 0
theorem Q_appended {g h μ ν : XMu} {n : Nat} (he : RE g h μ ν) (hi : RI n μ) (hn : n + 1500 ≤ 1000000) (ht : μ.1 < 1024) (a b c d e : Int32) : Pub g h (n + 1500) El (yC_appended a b c d e μ) (yM_appended a b c d e ν) := by
  unfold yC_appended yM_appended
  rw [show ((ν.1, xuI ν.2.1 32 0 0, ν.2.2) : XMu) = zh ν 0 from rfl]
  by_cases hs : sok a (μ.2.1 0 0)
  · rw [c_sen_1 hs, xbv_s]
    by_cases h_b : nok b
    · rw [c_num_1 h_b, xbv_s]
      by_cases h_d : nok d
      · rw [c_num_1 h_d, xbv_s]
        by_cases h_e : nok e
        · rw [c_num_1 h_e, xbv_s]
          rw [bad_0 (by show sok _ (ν.2.1 32 1); rw [he.itself]; exact hs) h_b h_d h_e nok_0 rfl, xbi_s, if_neg (not_not_intro rfl)]
          have he0 := RE_zh he 0
          generalize zh ν 0 = N at he0 ⊢
          exact Pub.ofPv (B_appended he0 hi (by omega) a b c d e hs h_b h_d h_e) (by omega)
        · exact Thr_n he hi (by omega) ht hs h_e (fun k => h_e k.2.2.1) (Or.inr ⟨rfl, rfl⟩) isV (fun m => if_pos (by decide))
      · exact Thr_n he hi (by omega) ht hs h_d (fun k => h_d k.2.1) (Or.inr ⟨rfl, rfl⟩) isV (fun m => if_pos (by decide))
    · exact Thr_n he hi (by omega) ht hs h_b (fun k => h_b k.1) (Or.inr ⟨rfl, rfl⟩) isV (fun m => if_pos (by decide))
  · exact Thr_s he hi (by omega) ht hs (Or.inl ⟨rfl, rfl⟩) isV (fun m => if_pos (by decide))
theorem Q_stored {g h μ ν : XMu} {n : Nat} (he : RE g h μ ν) (hi : RI n μ) (hn : n + 1500 ≤ 1000000) (ht : μ.1 < 1024) (a b c d e : Int32) : Pub g h (n + 1500) El (yC_stored a b c d e μ) (yM_stored a b c d e ν) := by
  unfold yC_stored yM_stored
  rw [show ((ν.1, xuI ν.2.1 32 0 0, ν.2.2) : XMu) = zh ν 0 from rfl]
  by_cases hs : sok a (μ.2.1 0 0)
  · rw [c_sen_1 hs, xbv_s]
    by_cases h_b : nok b
    · rw [c_num_1 h_b, xbv_s]
      by_cases h_c : nok c
      · rw [c_num_1 h_c, xbv_s]
        by_cases h_d : nok d
        · rw [c_num_1 h_d, xbv_s]
          by_cases h_e : nok e
          · rw [c_num_1 h_e, xbv_s]
            rw [bad_0 (by show sok _ (ν.2.1 32 1); rw [he.itself]; exact hs) h_b h_c h_d h_e rfl, xbi_s, if_neg (not_not_intro rfl)]
            have he0 := RE_zh he 0
            generalize zh ν 0 = N at he0 ⊢
            exact Pub.ofPv (B_stored he0 hi (by omega) a b c d e hs h_b h_e) (by omega)
          · exact Thr_n he hi (by omega) ht hs h_e (fun k => h_e k.2.2.2) (Or.inr ⟨rfl, rfl⟩) isV (fun m => if_pos (by decide))
        · exact Thr_n he hi (by omega) ht hs h_d (fun k => h_d k.2.2.1) (Or.inr ⟨rfl, rfl⟩) isV (fun m => if_pos (by decide))
      · exact Thr_n he hi (by omega) ht hs h_c (fun k => h_c k.2.1) (Or.inr ⟨rfl, rfl⟩) isV (fun m => if_pos (by decide))
    · exact Thr_n he hi (by omega) ht hs h_b (fun k => h_b k.1) (Or.inr ⟨rfl, rfl⟩) isV (fun m => if_pos (by decide))
  · exact Thr_s he hi (by omega) ht hs (Or.inl ⟨rfl, rfl⟩) isV (fun m => if_pos (by decide))
