def mapF (c : Int) (a : Nat) (N : Nat → Int32 → Int32) (F : Nat → Int32) : Nat → Int32 := fun j => if a ≤ j ∧ j < 32 ∧ (j : Int) < c then N j (F j) else F j
theorem mapF_end {c : Int} {a : Nat} {N : Nat → Int32 → Int32} {F : Nat → Int32} (h : 32 ≤ a ∨ c ≤ a) : mapF c a N F = F := by
  funext j
  unfold mapF
  rw [if_neg (by omega)]
theorem mapF_step {c : Int} {a : Nat} {N : Nat → Int32 → Int32} {F : Nat → Int32} (h1 : a < 32) (h2 : (a : Int) < c) : mapF c a N F = mapF c (a + 1) N (upd F a (N a (F a))) := by
  funext j
  unfold mapF upd
  by_cases hj : j = a
  · subst hj
    rw [if_pos (by omega), if_neg (by omega), if_pos rfl]
  · rw [if_neg hj]
    by_cases hk : a ≤ j ∧ j < 32 ∧ (j : Int) < c
    · rw [if_pos hk, if_pos (by omega)]
    · rw [if_neg hk, if_neg (by omega)]
theorem mapF_cong {c : Int} {N N' : Nat → Int32 → Int32} {F : Nat → Int32} (h : ∀ j : Nat, j < 32 → (j : Int) < c → N j (F j) = N' j (F j)) : mapF c 0 N F = mapF c 0 N' F := by
  funext j
  unfold mapF
  by_cases hk : 0 ≤ j ∧ j < 32 ∧ (j : Int) < c
  · rw [if_pos hk, if_pos hk, h j hk.2.1 hk.2.2]
  · rw [if_neg hk, if_neg hk]
theorem upd_id {F : Nat → Int32} {a : Nat} : upd F a (F a) = F := by
  funext j
  unfold upd
  by_cases h : j = a
  · rw [if_pos h, h]
  · rw [if_neg h]
def Nr (rd tg mk : Nat → Int32) (a b : Int32) (j : Nat) (x : Int32) : Int32 := if ¬ x = 0 then x else if rd j = 0 then x else if a < tg j then x else if b < mk j then x else 1
theorem Nr_def {rd tg mk : Nat → Int32} {a b : Int32} {j : Nat} {x : Int32} : Nr rd tg mk a b j x = if ¬ x = 0 then x else if rd j = 0 then x else if a < tg j then x else if b < mk j then x else 1 := rfl
def Ns (tg cr : Nat → Int32) (a b : Int32) (j : Nat) (x : Int32) : Int32 := if ¬ x = 0 then x else if cr j = -1 then x else if a < tg j then x else if b < cr j then x else 1
theorem Ns_def {tg cr : Nat → Int32} {a b : Int32} {j : Nat} {x : Int32} : Ns tg cr a b j x = if ¬ x = 0 then x else if cr j = -1 then x else if a < tg j then x else if b < cr j then x else 1 := rfl
theorem reads_c : ∀ (r f : Nat) (a b x : Int32) (μ : XMu), 0 ≤ x.toInt → x.toInt + r = 32 → r < f → yCa_answerReads_b2_L f a b x μ = some (.inl none, (μ.1, va_up μ.2.1 24 (mapF (μ.2.1 20 4).toInt x.toNatClampNeg (Nr (μ.2.1 21) (μ.2.1 22) (μ.2.1 23) a b) (μ.2.1 24)), μ.2.2)) := by
  intro r
  induction r with
  | zero =>
    intro f a b x μ hx hr hf
    obtain ⟨f, rfl⟩ : ∃ f', f = f' + 1 := ⟨f - 1, by omega⟩
    unfold yCa_answerReads_b2_L yCa_answerReads_b2
    have t1 := tn_of hx
    rw [if_pos (by rw [Int32.le_iff_toInt_le, il_32]; omega), mapF_end (by omega), va_up_id]
  | succ r ih =>
    intro f a b x μ hx hr hf
    obtain ⟨f, rfl⟩ : ∃ f', f = f' + 1 := ⟨f - 1, by omega⟩
    unfold yCa_answerReads_b2_L yCa_answerReads_b2
    have e5 := inc_i (n := x) (by omega)
    have t1 := tn_of hx
    have t2 : (x + 1).toNatClampNeg = x.toNatClampNeg + 1 := by have := tn_of (i := x + 1) (by omega); omega
    rw [if_neg (by rw [Int32.le_iff_toInt_le, il_32]; omega)]
    by_cases hc : (μ.2.1 20 4) ≤ x
    · rw [if_pos hc]
      rw [Int32.le_iff_toInt_le] at hc
      rw [mapF_end (by omega), va_up_id]
    · rw [if_neg hc]
      rw [Int32.le_iff_toInt_le] at hc
      have xi := xin_of (i := x) (n := 32) hx (by omega)
      rw [xgd_t xi, xgd_t xi, xgd_t xi, xgd_t xi, xgd_t xi, mapF_step (by omega) (by omega)]
      have go := ih f a b (x + 1) μ (by omega) (by omega) (by omega)
      have go2 := ih f a b (x + 1) (μ.1, xuI μ.2.1 24 x.toNatClampNeg 1, μ.2.2) (by omega) (by omega) (by omega)
      rw [t2] at go go2
      rw [Nr_def]
      by_cases h1 : (μ.2.1 24) x.toNatClampNeg = 0
      · rw [if_neg (not_not_intro h1), if_neg (not_not_intro h1)]
        by_cases h2 : (μ.2.1 21) x.toNatClampNeg = 0
        · rw [if_pos h2, if_pos h2, upd_id]; exact go
        · rw [if_neg h2, if_neg h2]
          by_cases h3 : a < (μ.2.1 22) x.toNatClampNeg
          · rw [if_pos h3, if_pos h3, upd_id]; exact go
          · rw [if_neg h3, if_neg h3]
            by_cases h4 : b < (μ.2.1 23) x.toNatClampNeg
            · rw [if_pos h4, if_pos h4, upd_id]; exact go
            · rw [if_neg h4, if_neg h4, go2]
              dsimp only
              rw [va_up_xu, xuI_s]
              rfl
      · rw [if_pos h1, if_pos h1, upd_id]; exact go
theorem reads_m : ∀ (r f : Nat) (b x : Int32) (ν : XMu), 0 ≤ x.toInt → x.toInt + r = 32 → r < f → yM_reads_b17_L f b x ν = some (.inl none, (ν.1, va_up ν.2.1 52 (mapF (ν.2.1 32 55).toInt x.toNatClampNeg (Ns (ν.2.1 53) (ν.2.1 55) (ν.2.1 32 18) b) (ν.2.1 52)), ν.2.2)) := by
  intro r
  induction r with
  | zero =>
    intro f b x ν hx hr hf
    obtain ⟨f, rfl⟩ : ∃ f', f = f' + 1 := ⟨f - 1, by omega⟩
    unfold yM_reads_b17_L yM_reads_b17
    have t1 := tn_of hx
    rw [if_pos (by rw [Int32.le_iff_toInt_le, il_32]; omega), mapF_end (by omega), va_up_id]
  | succ r ih =>
    intro f b x ν hx hr hf
    obtain ⟨f, rfl⟩ : ∃ f', f = f' + 1 := ⟨f - 1, by omega⟩
    unfold yM_reads_b17_L yM_reads_b17
    have e5 := inc_i (n := x) (by omega)
    have t1 := tn_of hx
    have t2 : (x + 1).toNatClampNeg = x.toNatClampNeg + 1 := by have := tn_of (i := x + 1) (by omega); omega
    rw [if_neg (by rw [Int32.le_iff_toInt_le, il_32]; omega)]
    unfold yM_callWaits
    have go := ih f b (x + 1) ν (by omega) (by omega) (by omega)
    by_cases hc : (ν.2.1 32 55) ≤ x
    · rw [if_pos hc, xbi_s, if_pos rfl, go]
      rw [Int32.le_iff_toInt_le] at hc
      rw [mapF_end (by omega), mapF_end (by omega)]
    · rw [if_neg hc]
      rw [Int32.le_iff_toInt_le] at hc
      have xi := xin_of (i := x) (n := 32) hx (by omega)
      rw [xgd_t xi, mapF_step (by omega) (by omega)]
      have go2 := ih f b (x + 1) (ν.1, xuI ν.2.1 52 x.toNatClampNeg 1, ν.2.2) (by omega) (by omega) (by omega)
      rw [t2] at go go2
      rw [Ns_def]
      by_cases h1 : (ν.2.1 52) x.toNatClampNeg = 0
      · rw [if_neg (not_not_intro h1), if_neg (not_not_intro h1), xbi_s, if_neg (by decide), xgd_t xi, xgd_t xi, xgd_t xi]
        by_cases h2 : (ν.2.1 55) x.toNatClampNeg = -1
        · rw [if_pos h2, if_pos h2, upd_id]; exact go
        · rw [if_neg h2, if_neg h2]
          by_cases h3 : (ν.2.1 32 18) < (ν.2.1 53) x.toNatClampNeg
          · rw [if_pos h3, if_pos h3, upd_id]; exact go
          · rw [if_neg h3, if_neg h3]
            by_cases h4 : b < (ν.2.1 55) x.toNatClampNeg
            · rw [if_pos h4, if_pos h4, upd_id]; exact go
            · rw [if_neg h4, if_neg h4]
              unfold yM_settle
              rw [if_neg (by decide), xgd_t xi, xbv_s, go2]
              dsimp only
              rw [va_up_xu, xuI_s]
              rfl
      · rw [if_pos h1, if_pos h1, xbi_s, if_pos rfl, upd_id]; exact go
theorem P_readsK {g h μ ν : XMu} {n : Nat} (he : RE g h μ ν) (hi : RI n μ) (hn : n ≤ 1000000) : Pw g h n (Keep μ) (yC_answerReads μ) (yM_reads ν) := by
  unfold yC_answerReads yM_reads
  rw [he.role]
  by_cases hr : (μ.2.1 0 9) = 3
  · rw [if_neg (not_not_intro hr), if_pos hr]
    obtain ⟨v, h1, h2, _⟩ := agreed_17 he (hi.LB hn) hi.mem (fun j hj => by have := hi.lead hr j hj; omega)
    rw [h1, h2, xbi_s, xbi_s]
    unfold yCa_answerReads
    rw [reads_c 32 1000 _ _ 0 μ (by decide) (by decide) (by omega), reads_m 32 1000 _ 0 ν (by decide) (by decide) (by omega), xbv_s, he.calls, he.callNumber, he.callState, he.applied]
    have e : mapF (μ.2.1 20 4).toInt (0 : Int32).toNatClampNeg (Ns (μ.2.1 22) (ν.2.1 55) (μ.2.1 0 12) v) (μ.2.1 24) = mapF (μ.2.1 20 4).toInt (0 : Int32).toNatClampNeg (Nr (μ.2.1 21) (μ.2.1 22) (μ.2.1 23) (μ.2.1 0 12) v) (μ.2.1 24) := by
      refine mapF_cong fun j hj hc => ?_
      unfold Ns Nr
      rcases he.cls j hj hc with ⟨a1, a2, a3⟩ | ⟨a1, a2, a3⟩
      · rw [if_pos a1, if_pos a2]
      · rw [a1, a2, if_neg a3, if_neg (show ¬ (1 : Int32) = 0 by decide)]
    rw [e]
    have key : ∀ j, j < 32 → mapF (μ.2.1 20 4).toInt (0 : Int32).toNatClampNeg (Nr (μ.2.1 21) (μ.2.1 22) (μ.2.1 23) (μ.2.1 0 12) v) (μ.2.1 24) j = 0 → (μ.2.1 24) j = 0 := by
      intro j hj hz
      unfold mapF at hz
      by_cases hk : (0 : Int32).toNatClampNeg ≤ j ∧ j < 32 ∧ (j : Int) < (μ.2.1 20 4).toInt
      · rw [if_pos hk] at hz
        unfold Nr at hz
        by_cases h1 : (μ.2.1 24) j = 0
        · exact h1
        · rw [if_pos h1] at hz; exact absurd hz h1
      · rw [if_neg hk] at hz; exact hz
    exact Pw.ret ((RE.mk (ft := he.ft) (fg := fun c hc => by first | exact he.fg c hc | (have hh := he.fg c hc; (try unfold zq at hh); (try unfold zd at hh); (try unfold zf at hh); (try unfold zo at hh); (try unfold zo); (try unfold zh at hh); (try unfold zh); (try unfold zq); (try unfold zd); (try unfold zf); (try dsimp only at hh); (try dsimp only); (repeat (first | rw [xuI_o (by omega)] at hh | rw [xuL_o (by omega)] at hh | rw [va_up_o (by omega)] at hh)); (repeat (first | rw [xuI_o (by omega)] | rw [xuL_o (by omega)] | rw [va_up_o (by omega)])); exact hh)) (fgl := fun c hc => by first | exact he.fgl c hc | (have hh := he.fgl c hc; (try unfold zq at hh); (try unfold zd at hh); (try unfold zf at hh); (try unfold zo at hh); (try unfold zo); (try unfold zh at hh); (try unfold zh); (try unfold zq); (try unfold zd); (try unfold zf); (try dsimp only at hh); (try dsimp only); (repeat (first | rw [xuI_o (by omega)] at hh | rw [xuL_o (by omega)] at hh | rw [va_up_o (by omega)] at hh)); (repeat (first | rw [xuI_o (by omega)] | rw [xuL_o (by omega)] | rw [va_up_o (by omega)])); exact hh)) (ht := he.ht) (hg := fun c hc => by first | exact he.hg c hc | (have hh := he.hg c hc; (try unfold zq at hh); (try unfold zd at hh); (try unfold zf at hh); (try unfold zo at hh); (try unfold zo); (try unfold zh at hh); (try unfold zh); (try unfold zq); (try unfold zd); (try unfold zf); (try dsimp only at hh); (try dsimp only); (repeat (first | rw [xuI_o (by omega)] at hh | rw [xuL_o (by omega)] at hh | rw [va_up_o (by omega)] at hh)); (repeat (first | rw [xuI_o (by omega)] | rw [xuL_o (by omega)] | rw [va_up_o (by omega)])); exact hh)) (hgl := fun c hc => by first | exact he.hgl c hc | (have hh := he.hgl c hc; (try unfold zq at hh); (try unfold zd at hh); (try unfold zf at hh); (try unfold zo at hh); (try unfold zo); (try unfold zh at hh); (try unfold zh); (try unfold zq); (try unfold zd); (try unfold zf); (try dsimp only at hh); (try dsimp only); (repeat (first | rw [xuI_o (by omega)] at hh | rw [xuL_o (by omega)] at hh | rw [va_up_o (by omega)] at hh)); (repeat (first | rw [xuI_o (by omega)] | rw [xuL_o (by omega)] | rw [va_up_o (by omega)])); exact hh)) (thr := he.thr) (row := he.row) (itself := he.itself) (now := he.now) (term := he.term) (voted := he.voted) (base := he.base) (last := he.last) (baseTerm := he.baseTerm) (baseCode := he.baseCode) (snapshot := he.snapshot) (dirty := he.dirty) (role := he.role) (leader := he.leader) (commit := he.commit) (applied := he.applied) (synced := he.synced) (heard := he.heard) (alarm := he.alarm) (votes := he.votes) (handing := he.handing) (handed := he.handed) (first := he.first) (round := he.round) (assembly := he.assembly) (described := he.described) (toldBase := he.toldBase) (toldTerm := he.toldTerm) (toldCode := he.toldCode) (toldSize := he.toldSize) (told := he.told) (waits := he.waits) (went := he.went) (done := he.done) (calls := he.calls) (next := he.next) (mtch := he.mtch) (flying := he.flying) (offset := he.offset) (ack := he.ack) (seen := he.seen) (probing := he.probing) (answered := he.answered) (toldTerms := he.toldTerms) (toldKinds := he.toldKinds) (toldValues := he.toldValues) (doneNumbers := he.doneNumbers) (doneValues := he.doneValues) (callState := rfl) (callNumber := he.callNumber) (got := he.got) (log := he.log) (kept := he.kept) (wait := he.wait) (cls := he.cls))) ((RI.mk (itself := hi.itself) (role := hi.role) (base := hi.base) (ba := hi.ba) (ac := hi.ac) (cl := hi.cl) (lb := hi.lb) (last := hi.last) (syn := hi.syn) (dirty := hi.dirty) (desc := hi.desc) (now := hi.now) (term := hi.term) (went := hi.went) (waits := hi.waits) (done := hi.done) (calls := hi.calls) (told := hi.told) (round := hi.round) (hand := hi.hand) (heard := hi.heard) (vote := hi.vote) (lead := hi.lead) (quiet := fun k => absurd hr k) (cmd := fun j h1 h2 h3 h4 => hi.cmd j h1 h2 (key j h1 h3) h4) (tt := hi.tt) (tb := hi.tb) (got := hi.got) (mem := hi.mem))) ⟨rfl, rfl, rfl, rfl, rfl, rfl, rfl⟩
  · rw [if_pos hr, if_neg hr]
    exact Pw.ret he hi Keep.refl
theorem P_reads {g h μ ν : XMu} {n : Nat} (he : RE g h μ ν) (hi : RI n μ) (hn : n ≤ 1000000) : Pv g h n (yC_answerReads μ) (yM_reads ν) := (P_readsK he hi hn).toPv
def Nc (rd tg mk : Nat → Int32) (T : Int32 → Int32) (a : Int32) (j : Nat) (x : Int32) : Int32 := if ¬ x = 0 then x else if ¬ rd j = 0 then x else if a < tg j then x else if ¬ T (tg j) = mk j then 2 else 1
theorem Nc_def {rd tg mk : Nat → Int32} {T : Int32 → Int32} {a : Int32} {j : Nat} {x : Int32} : Nc rd tg mk T a j x = if ¬ x = 0 then x else if ¬ rd j = 0 then x else if a < tg j then x else if ¬ T (tg j) = mk j then 2 else 1 := rfl
theorem cmds_c : ∀ (r f : Nat) (a x : Int32) (μ : XMu), LB μ → 0 ≤ x.toInt → x.toInt + r = 32 → r < f → a.toInt ≤ (μ.2.1 28 9).toInt → (∀ j : Nat, j < 32 → (j : Int) < (μ.2.1 20 4).toInt → (μ.2.1 24) j = 0 → (μ.2.1 21) j = 0 → (μ.2.1 28 5).toInt ≤ ((μ.2.1 22) j).toInt) → yCa_answerCommands_b2_L f a x μ = some (.inl none, (μ.1, va_up μ.2.1 24 (mapF (μ.2.1 20 4).toInt x.toNatClampNeg (Nc (μ.2.1 21) (μ.2.1 22) (μ.2.1 23) (zt μ) a) (μ.2.1 24)), μ.2.2)) := by
  intro r
  induction r with
  | zero =>
    intro f a x μ hb hx hr hf ha hq
    obtain ⟨f, rfl⟩ : ∃ f', f = f' + 1 := ⟨f - 1, by omega⟩
    unfold yCa_answerCommands_b2_L yCa_answerCommands_b2
    have t1 := tn_of hx
    rw [if_pos (by rw [Int32.le_iff_toInt_le, il_32]; omega), mapF_end (by omega), va_up_id]
  | succ r ih =>
    intro f a x μ hb hx hr hf ha hq
    obtain ⟨f, rfl⟩ : ∃ f', f = f' + 1 := ⟨f - 1, by omega⟩
    unfold yCa_answerCommands_b2_L yCa_answerCommands_b2
    have e5 := inc_i (n := x) (by omega)
    have t1 := tn_of hx
    have t2 : (x + 1).toNatClampNeg = x.toNatClampNeg + 1 := by have := tn_of (i := x + 1) (by omega); omega
    rw [if_neg (by rw [Int32.le_iff_toInt_le, il_32]; omega)]
    by_cases hc : (μ.2.1 20 4) ≤ x
    · rw [if_pos hc]
      rw [Int32.le_iff_toInt_le] at hc
      rw [mapF_end (by omega), va_up_id]
    · rw [if_neg hc]
      rw [Int32.le_iff_toInt_le] at hc
      have xi := xin_of (i := x) (n := 32) hx (by omega)
      rw [xgd_t xi, xgd_t xi, xgd_t xi, xgd_t xi, mapF_step (by omega) (by omega)]
      have go := ih f a (x + 1) μ hb (by omega) (by omega) (by omega) ha hq
      have gov : ∀ w : Int32, ¬ w = 0 → yCa_answerCommands_b2_L f a (x + 1) (μ.1, xuI μ.2.1 24 x.toNatClampNeg w, μ.2.2) = some (.inl none, (μ.1, va_up μ.2.1 24 (mapF (μ.2.1 20 4).toInt (x.toNatClampNeg + 1) (Nc (μ.2.1 21) (μ.2.1 22) (μ.2.1 23) (zt μ) a) (upd (μ.2.1 24) x.toNatClampNeg w)), μ.2.2)) := by
        intro w hw
        rw [ih f a (x + 1) (μ.1, xuI μ.2.1 24 x.toNatClampNeg w, μ.2.2) hb (by omega) (by omega) (by omega) ha (by
          intro j h1 h2 h3 h4
          have h3' : upd (μ.2.1 24) x.toNatClampNeg w j = 0 := h3
          by_cases hj : j = x.toNatClampNeg
          · rw [hj, upd_s] at h3'; exact absurd h3' hw
          · rw [upd_o hj] at h3'; exact hq j h1 h2 h3' h4)]
        dsimp only
        rw [va_up_xu, xuI_s, t2]
        rfl
      rw [t2] at go
      rw [Nc_def]
      by_cases h1 : (μ.2.1 24) x.toNatClampNeg = 0
      · rw [if_neg (not_not_intro h1), if_neg (not_not_intro h1)]
        by_cases h2 : (μ.2.1 21) x.toNatClampNeg = 0
        · rw [if_neg (not_not_intro h2), if_neg (not_not_intro h2)]
          by_cases h3 : a < (μ.2.1 22) x.toNatClampNeg
          · rw [if_pos h3, if_pos h3, upd_id]; exact go
          · rw [if_neg h3, if_neg h3]
            rw [Int32.lt_iff_toInt_lt] at h3
            rw [termAt_c hb (hq _ (by omega) (by omega) h1 h2) (by omega), xbi_s, xgd_t xi, xgd_t xi, xgd_t xi]
            by_cases h4 : zt μ ((μ.2.1 22) x.toNatClampNeg) = (μ.2.1 23) x.toNatClampNeg
            · rw [if_neg (not_not_intro h4), if_neg (not_not_intro h4)]
              exact gov 1 (by decide)
            · rw [if_pos h4, if_pos h4]
              exact gov 2 (by decide)
        · rw [if_pos h2, if_pos h2, upd_id]; exact go
      · rw [if_pos h1, if_pos h1, upd_id]; exact go
def Na (cr tg ct : Nat → Int32) (T a : Int32) (j : Nat) (x : Int32) : Int32 := if ¬ x = 0 then x else if ¬ cr j = -1 then x else if ¬ tg j = a then x else if ¬ T = ct j then 2 else 1
theorem Na_def {cr tg ct : Nat → Int32} {T a : Int32} {j : Nat} {x : Int32} : Na cr tg ct T a j x = if ¬ x = 0 then x else if ¬ cr j = -1 then x else if ¬ tg j = a then x else if ¬ T = ct j then 2 else 1 := rfl
theorem settle_m {k0 : XMu → XRes} : ∀ (r f : Nat) (T x : Int32) (ν : XMu), 0 ≤ x.toInt → x.toInt + r = 32 → r < f → (∀ G, yM_termAt (ν.2.1 32 18) (ν.1, va_up ν.2.1 52 G, ν.2.2) = some (.inl (some (.int T)), (ν.1, va_up ν.2.1 52 G, ν.2.2))) → yM_apply_b91_L k0 f x ν = k0 (ν.1, va_up ν.2.1 52 (mapF (ν.2.1 32 55).toInt x.toNatClampNeg (Na (ν.2.1 55) (ν.2.1 53) (ν.2.1 54) T (ν.2.1 32 18)) (ν.2.1 52)), ν.2.2) := by
  intro r
  induction r with
  | zero =>
    intro f T x ν hx hr hf hT
    obtain ⟨f, rfl⟩ : ∃ f', f = f' + 1 := ⟨f - 1, by omega⟩
    unfold yM_apply_b91_L yM_apply_b91
    have t1 := tn_of hx
    rw [if_pos (by rw [Int32.le_iff_toInt_le, il_32]; omega), mapF_end (by omega), va_up_id]
  | succ r ih =>
    intro f T x ν hx hr hf hT
    obtain ⟨f, rfl⟩ : ∃ f', f = f' + 1 := ⟨f - 1, by omega⟩
    unfold yM_apply_b91_L yM_apply_b91
    have e5 := inc_i (n := x) (by omega)
    have t1 := tn_of hx
    have t2 : (x + 1).toNatClampNeg = x.toNatClampNeg + 1 := by have := tn_of (i := x + 1) (by omega); omega
    rw [if_neg (by rw [Int32.le_iff_toInt_le, il_32]; omega)]
    unfold yM_callWaits
    have go := ih f T (x + 1) ν (by omega) (by omega) (by omega) hT
    by_cases hc : (ν.2.1 32 55) ≤ x
    · rw [if_pos hc, xbi_s, if_pos rfl, go]
      rw [Int32.le_iff_toInt_le] at hc
      rw [mapF_end (by omega), mapF_end (by omega)]
    · rw [if_neg hc]
      rw [Int32.le_iff_toInt_le] at hc
      have xi := xin_of (i := x) (n := 32) hx (by omega)
      rw [xgd_t xi, mapF_step (by omega) (by omega)]
      have gov : ∀ w : Int32, yM_apply_b91_L k0 f (x + 1) (ν.1, xuI ν.2.1 52 x.toNatClampNeg w, ν.2.2) = k0 (ν.1, va_up ν.2.1 52 (mapF (ν.2.1 32 55).toInt (x.toNatClampNeg + 1) (Na (ν.2.1 55) (ν.2.1 53) (ν.2.1 54) T (ν.2.1 32 18)) (upd (ν.2.1 52) x.toNatClampNeg w)), ν.2.2) := by
        intro w
        rw [ih f T (x + 1) (ν.1, xuI ν.2.1 52 x.toNatClampNeg w, ν.2.2) (by omega) (by omega) (by omega) (by
          intro G
          have := hT G
          dsimp only
          rw [va_up_xu]
          exact this)]
        dsimp only
        rw [va_up_xu, xuI_s, t2]
        rfl
      rw [t2] at go
      rw [Na_def]
      by_cases h1 : (ν.2.1 52) x.toNatClampNeg = 0
      · rw [if_neg (not_not_intro h1), if_neg (not_not_intro h1), xbi_s, if_neg (by decide), xgd_t xi, xgd_t xi]
        by_cases h2 : (ν.2.1 55) x.toNatClampNeg = -1
        · rw [if_neg (not_not_intro h2), if_neg (not_not_intro h2)]
          by_cases h3 : (ν.2.1 53) x.toNatClampNeg = (ν.2.1 32 18)
          · rw [if_neg (not_not_intro h3), if_neg (not_not_intro h3)]
            have hT0 := hT (ν.2.1 52)
            rw [va_up_id] at hT0
            rw [show yM_termAt (ν.2.1 32 18) ν = some (.inl (some (.int T)), ν) from hT0, xbi_s, xgd_t xi]
            unfold yM_settle
            rw [if_pos rfl, if_neg (show ¬ (1 : Int32) = 0 by decide), xgd_t xi, xgd_t xi, xbv_s, xbv_s]
            by_cases h4 : T = (ν.2.1 54) x.toNatClampNeg
            · rw [if_neg (not_not_intro h4), if_neg (not_not_intro h4)]
              exact gov 1
            · rw [if_pos h4, if_pos h4]
              exact gov 2
          · rw [if_pos h3, if_pos h3, upd_id]; exact go
        · rw [if_pos h2, if_pos h2, upd_id]; exact go
      · rw [if_pos h1, if_pos h1, xbi_s, if_pos rfl, upd_id]; exact go
def zq (μ : XMu) (S : Nat → Int32) (a : Int32) : XMu := (μ.1, xuI (va_up μ.2.1 24 S) 0 12 a, μ.2.2)
def zd (μ : XMu) (D E : Nat → Int32) (c : Int32) : XMu := (μ.1, xuI (va_up (va_up μ.2.1 26 D) 27 E) 25 2 c, μ.2.2)
def Sx (μ : XMu) (a b : Int) (S : Nat → Int32) : Nat → Int32 := fun j => if j < 32 ∧ (j : Int) < (μ.2.1 20 4).toInt ∧ S j = 0 ∧ (μ.2.1 21) j = 0 ∧ a < ((μ.2.1 22) j).toInt ∧ ((μ.2.1 22) j).toInt ≤ b then (if ¬ zt μ ((μ.2.1 22) j) = (μ.2.1 23) j then 2 else 1) else S j
theorem Sx_id {μ : XMu} {a b : Int} {S : Nat → Int32} (h : b ≤ a) : Sx μ a b S = S := by
  funext j
  unfold Sx
  rw [if_neg (by omega)]
theorem Sx_step {μ : XMu} {a b : Int} {S : Nat → Int32} (h : a + 1 ≤ b) : Sx μ (a + 1) b (Sx μ a (a + 1) S) = Sx μ a b S := by
  funext j
  have e : ∀ x, Sx μ a x S j = if j < 32 ∧ (j : Int) < (μ.2.1 20 4).toInt ∧ S j = 0 ∧ (μ.2.1 21) j = 0 ∧ a < ((μ.2.1 22) j).toInt ∧ ((μ.2.1 22) j).toInt ≤ x then (if ¬ zt μ ((μ.2.1 22) j) = (μ.2.1 23) j then 2 else 1) else S j := fun _ => rfl
  have e2 : Sx μ (a + 1) b (Sx μ a (a + 1) S) j = if j < 32 ∧ (j : Int) < (μ.2.1 20 4).toInt ∧ Sx μ a (a + 1) S j = 0 ∧ (μ.2.1 21) j = 0 ∧ a + 1 < ((μ.2.1 22) j).toInt ∧ ((μ.2.1 22) j).toInt ≤ b then (if ¬ zt μ ((μ.2.1 22) j) = (μ.2.1 23) j then 2 else 1) else Sx μ a (a + 1) S j := rfl
  rw [e2, e b]
  by_cases h1 : j < 32 ∧ (j : Int) < (μ.2.1 20 4).toInt ∧ S j = 0 ∧ (μ.2.1 21) j = 0 ∧ a < ((μ.2.1 22) j).toInt ∧ ((μ.2.1 22) j).toInt ≤ a + 1
  · have e3 := e (a + 1)
    rw [if_pos h1] at e3
    have h1' : j < 32 ∧ (j : Int) < (μ.2.1 20 4).toInt ∧ S j = 0 ∧ (μ.2.1 21) j = 0 ∧ a < ((μ.2.1 22) j).toInt ∧ ((μ.2.1 22) j).toInt ≤ b := ⟨h1.1, h1.2.1, h1.2.2.1, h1.2.2.2.1, h1.2.2.2.2.1, by omega⟩
    rw [if_neg (by omega), if_pos h1', e3]
  · have e3 := e (a + 1)
    rw [if_neg h1] at e3
    rw [e3]
    by_cases h2 : j < 32 ∧ (j : Int) < (μ.2.1 20 4).toInt ∧ S j = 0 ∧ (μ.2.1 21) j = 0 ∧ a < ((μ.2.1 22) j).toInt ∧ ((μ.2.1 22) j).toInt ≤ b
    · rw [if_pos h2, if_pos ⟨h2.1, h2.2.1, h2.2.2.1, h2.2.2.2.1, by
        by_cases h9 : ((μ.2.1 22) j).toInt ≤ a + 1
        · exact absurd ⟨h2.1, h2.2.1, h2.2.2.1, h2.2.2.2.1, h2.2.2.2.2.1, h9⟩ h1
        · omega, h2.2.2.2.2.2⟩]
    · rw [if_neg h2, if_neg (fun k => h2 ⟨k.1, k.2.1, k.2.2.1, k.2.2.2.1, by omega, k.2.2.2.2.2⟩)]
theorem app_loop {g h : XMu} : ∀ (r f : Nat) (a : Int32) (S : Nat → Int32) (μ ν : XMu), RE g h (zq μ S a) ν → LB μ → (μ.2.1 28 5).toInt ≤ a.toInt → (μ.2.1 0 11).toInt ≤ (μ.2.1 28 9).toInt → a.toInt + r = (μ.2.1 0 11).toInt → r < f → 0 ≤ (μ.2.1 25 2).toInt → (μ.2.1 25 2).toInt + r ≤ 2000000 →
    ∃ D E c ν', yC_applyCommitted_b7_L f (a + 1) μ = yC_applyCommitted_b49 (zd μ D E c) ∧ yM_apply_b0_L f ν = xbv (yM_reads ν') (fun m1 => some (.inl none, m1)) ∧ RE g h (zq (zd μ D E c) (Sx μ a.toInt (μ.2.1 0 11).toInt S) (μ.2.1 0 11)) ν' ∧ 0 ≤ c.toInt ∧ c.toInt ≤ (μ.2.1 25 2).toInt + r := by
  intro r
  induction r with
  | zero =>
    intro f a S μ ν he hb h1 h2 h3 h4 h5 h6
    obtain ⟨f, rfl⟩ : ∃ f', f = f' + 1 := ⟨f - 1, by omega⟩
    have b4 := hb.2.2.2
    have e := inc_i (n := a) (by omega)
    have ea : a = (μ.2.1 0 11) := inj_i (by omega)
    unfold yC_applyCommitted_b7_L yC_applyCommitted_b7 yM_apply_b0_L yM_apply_b0
    have q1 : (ν.2.1 32 18) = a := he.applied
    have q2 : (ν.2.1 32 17) = (μ.2.1 0 11) := he.commit
    rw [if_pos (by rw [Int32.lt_iff_toInt_lt]; omega), q1, q2, if_pos (by rw [Int32.le_iff_toInt_le]; omega)]
    refine ⟨μ.2.1 26, μ.2.1 27, μ.2.1 25 2, ν, ?_, rfl, ?_, h5, by omega⟩
    · have : zd μ (μ.2.1 26) (μ.2.1 27) (μ.2.1 25 2) = μ := by
        unfold zd
        refine Prod.ext rfl (Prod.ext ?_ rfl)
        show xuI (va_up (va_up μ.2.1 26 (μ.2.1 26)) 27 (μ.2.1 27)) 25 2 (μ.2.1 25 2) = μ.2.1
        have e1 : va_up μ.2.1 26 (μ.2.1 26) = μ.2.1 := va_up_id
        rw [e1]
        have e2 : va_up μ.2.1 27 (μ.2.1 27) = μ.2.1 := va_up_id
        rw [e2]
        unfold xuI
        rw [upd_id, va_up_id]
      rw [this]
    · rw [Sx_id (by omega), ← ea]
      exact (RE.mk (ft := he.ft) (fg := fun c hc => by first | exact he.fg c hc | (have hh := he.fg c hc; (try unfold zq at hh); (try unfold zd at hh); (try unfold zf at hh); (try unfold zo at hh); (try unfold zo); (try unfold zh at hh); (try unfold zh); (try unfold zq); (try unfold zd); (try unfold zf); (try dsimp only at hh); (try dsimp only); (repeat (first | rw [xuI_o (by omega)] at hh | rw [xuL_o (by omega)] at hh | rw [va_up_o (by omega)] at hh)); (repeat (first | rw [xuI_o (by omega)] | rw [xuL_o (by omega)] | rw [va_up_o (by omega)])); exact hh)) (fgl := fun c hc => by first | exact he.fgl c hc | (have hh := he.fgl c hc; (try unfold zq at hh); (try unfold zd at hh); (try unfold zf at hh); (try unfold zo at hh); (try unfold zo); (try unfold zh at hh); (try unfold zh); (try unfold zq); (try unfold zd); (try unfold zf); (try dsimp only at hh); (try dsimp only); (repeat (first | rw [xuI_o (by omega)] at hh | rw [xuL_o (by omega)] at hh | rw [va_up_o (by omega)] at hh)); (repeat (first | rw [xuI_o (by omega)] | rw [xuL_o (by omega)] | rw [va_up_o (by omega)])); exact hh)) (ht := he.ht) (hg := fun c hc => by first | exact he.hg c hc | (have hh := he.hg c hc; (try unfold zq at hh); (try unfold zd at hh); (try unfold zf at hh); (try unfold zo at hh); (try unfold zo); (try unfold zh at hh); (try unfold zh); (try unfold zq); (try unfold zd); (try unfold zf); (try dsimp only at hh); (try dsimp only); (repeat (first | rw [xuI_o (by omega)] at hh | rw [xuL_o (by omega)] at hh | rw [va_up_o (by omega)] at hh)); (repeat (first | rw [xuI_o (by omega)] | rw [xuL_o (by omega)] | rw [va_up_o (by omega)])); exact hh)) (hgl := fun c hc => by first | exact he.hgl c hc | (have hh := he.hgl c hc; (try unfold zq at hh); (try unfold zd at hh); (try unfold zf at hh); (try unfold zo at hh); (try unfold zo); (try unfold zh at hh); (try unfold zh); (try unfold zq); (try unfold zd); (try unfold zf); (try dsimp only at hh); (try dsimp only); (repeat (first | rw [xuI_o (by omega)] at hh | rw [xuL_o (by omega)] at hh | rw [va_up_o (by omega)] at hh)); (repeat (first | rw [xuI_o (by omega)] | rw [xuL_o (by omega)] | rw [va_up_o (by omega)])); exact hh)) (thr := he.thr) (row := he.row) (itself := he.itself) (now := he.now) (term := he.term) (voted := he.voted) (base := he.base) (last := he.last) (baseTerm := he.baseTerm) (baseCode := he.baseCode) (snapshot := he.snapshot) (dirty := he.dirty) (role := he.role) (leader := he.leader) (commit := he.commit) (applied := he.applied) (synced := he.synced) (heard := he.heard) (alarm := he.alarm) (votes := he.votes) (handing := he.handing) (handed := he.handed) (first := he.first) (round := he.round) (assembly := he.assembly) (described := he.described) (toldBase := he.toldBase) (toldTerm := he.toldTerm) (toldCode := he.toldCode) (toldSize := he.toldSize) (told := he.told) (waits := he.waits) (went := he.went) (done := he.done) (calls := he.calls) (next := he.next) (mtch := he.mtch) (flying := he.flying) (offset := he.offset) (ack := he.ack) (seen := he.seen) (probing := he.probing) (answered := he.answered) (toldTerms := he.toldTerms) (toldKinds := he.toldKinds) (toldValues := he.toldValues) (doneNumbers := he.doneNumbers) (doneValues := he.doneValues) (callState := he.callState) (callNumber := he.callNumber) (got := he.got) (log := he.log) (kept := he.kept) (wait := he.wait) (cls := he.cls))
  | succ r ih =>
    intro f a S μ ν he hb h1 h2 h3 h4 h5 h6
    obtain ⟨f, rfl⟩ : ∃ f', f = f' + 1 := ⟨f - 1, by omega⟩
    have b1 := hb.1
    have b4 := hb.2.2.2
    have e := inc_i (n := a) (by omega)
    have q1 : (ν.2.1 32 18) = a := he.applied
    have q2 : (ν.2.1 32 17) = (μ.2.1 0 11) := he.commit
    have q3 : (ν.2.1 32 52) = (μ.2.1 25 2) := he.done
    unfold yC_applyCommitted_b7_L yC_applyCommitted_b7 yM_apply_b0_L yM_apply_b0
    rw [if_neg (by rw [Int32.lt_iff_toInt_lt]; omega), q1, q2, q3, if_neg (by rw [Int32.le_iff_toInt_le]; omega), xgd_t (zr_in (by omega)), kindAt_c hb (by omega) (by omega), xbi_s]
    have hl := he.log (a + 1) (show (μ.2.1 28 5).toInt < _ by omega) (show _ ≤ (μ.2.1 28 9).toInt by omega)
    have hl2 : (ν.2.1 34) (zr (a + 1)) = (μ.2.1 30) (zs (μ.2.1 28 5) (a + 1)) := hl.2.1
    have hl3 : (ν.2.1 35) (zr (a + 1)) = (μ.2.1 31) (zs (μ.2.1 28 5) (a + 1)) := hl.2.2
    unfold zr at hl2 hl3
    rw [hl2, hl3]
    have inner : ∀ (μ' ν1 : XMu), RE g h (zq μ' S (a + 1)) ν1 → LB μ' → (μ'.2.1 28 5).toInt ≤ (a + 1).toInt → (a + 1).toInt ≤ (μ'.2.1 28 9).toInt → yM_apply_b91_L (yM_apply_b0_L f) 1000 0 ν1 = yM_apply_b0_L f (ν1.1, va_up ν1.2.1 52 (Sx μ' a.toInt (a.toInt + 1) S), ν1.2.2) ∧ RE g h (zq μ' (Sx μ' a.toInt (a.toInt + 1) S) (a + 1)) (ν1.1, va_up ν1.2.1 52 (Sx μ' a.toInt (a.toInt + 1) S), ν1.2.2) := by
      intro μ' ν1 he1 hb1 c1 c2
      have p1 : (ν1.2.1 32 18) = a + 1 := he1.applied
      have p2 : (ν1.2.1 52) = S := he1.callState
      have p3 : (ν1.2.1 32 55) = (μ'.2.1 20 4) := he1.calls
      have p4 : (ν1.2.1 53) = (μ'.2.1 22) := he1.callNumber
      have hT : ∀ G, yM_termAt (ν1.2.1 32 18) (ν1.1, va_up ν1.2.1 52 G, ν1.2.2) = some (.inl (some (.int (zt μ' (a + 1)))), (ν1.1, va_up ν1.2.1 52 G, ν1.2.2)) := by
        intro G
        rw [p1]
        have he2 : RE g h (zq μ' G (a + 1)) (ν1.1, va_up ν1.2.1 52 G, ν1.2.2) := (RE.mk (ft := he1.ft) (fg := fun c hc => by first | exact he1.fg c hc | (have hh := he1.fg c hc; (try unfold zq at hh); (try unfold zd at hh); (try unfold zf at hh); (try unfold zo at hh); (try unfold zo); (try unfold zh at hh); (try unfold zh); (try unfold zq); (try unfold zd); (try unfold zf); (try dsimp only at hh); (try dsimp only); (repeat (first | rw [xuI_o (by omega)] at hh | rw [xuL_o (by omega)] at hh | rw [va_up_o (by omega)] at hh)); (repeat (first | rw [xuI_o (by omega)] | rw [xuL_o (by omega)] | rw [va_up_o (by omega)])); exact hh)) (fgl := fun c hc => by first | exact he1.fgl c hc | (have hh := he1.fgl c hc; (try unfold zq at hh); (try unfold zd at hh); (try unfold zf at hh); (try unfold zo at hh); (try unfold zo); (try unfold zh at hh); (try unfold zh); (try unfold zq); (try unfold zd); (try unfold zf); (try dsimp only at hh); (try dsimp only); (repeat (first | rw [xuI_o (by omega)] at hh | rw [xuL_o (by omega)] at hh | rw [va_up_o (by omega)] at hh)); (repeat (first | rw [xuI_o (by omega)] | rw [xuL_o (by omega)] | rw [va_up_o (by omega)])); exact hh)) (ht := he1.ht) (hg := fun c hc => by first | exact he1.hg c hc | (have hh := he1.hg c hc; (try unfold zq at hh); (try unfold zd at hh); (try unfold zf at hh); (try unfold zo at hh); (try unfold zo); (try unfold zh at hh); (try unfold zh); (try unfold zq); (try unfold zd); (try unfold zf); (try dsimp only at hh); (try dsimp only); (repeat (first | rw [xuI_o (by omega)] at hh | rw [xuL_o (by omega)] at hh | rw [va_up_o (by omega)] at hh)); (repeat (first | rw [xuI_o (by omega)] | rw [xuL_o (by omega)] | rw [va_up_o (by omega)])); exact hh)) (hgl := fun c hc => by first | exact he1.hgl c hc | (have hh := he1.hgl c hc; (try unfold zq at hh); (try unfold zd at hh); (try unfold zf at hh); (try unfold zo at hh); (try unfold zo); (try unfold zh at hh); (try unfold zh); (try unfold zq); (try unfold zd); (try unfold zf); (try dsimp only at hh); (try dsimp only); (repeat (first | rw [xuI_o (by omega)] at hh | rw [xuL_o (by omega)] at hh | rw [va_up_o (by omega)] at hh)); (repeat (first | rw [xuI_o (by omega)] | rw [xuL_o (by omega)] | rw [va_up_o (by omega)])); exact hh)) (thr := he1.thr) (row := he1.row) (itself := he1.itself) (now := he1.now) (term := he1.term) (voted := he1.voted) (base := he1.base) (last := he1.last) (baseTerm := he1.baseTerm) (baseCode := he1.baseCode) (snapshot := he1.snapshot) (dirty := he1.dirty) (role := he1.role) (leader := he1.leader) (commit := he1.commit) (applied := he1.applied) (synced := he1.synced) (heard := he1.heard) (alarm := he1.alarm) (votes := he1.votes) (handing := he1.handing) (handed := he1.handed) (first := he1.first) (round := he1.round) (assembly := he1.assembly) (described := he1.described) (toldBase := he1.toldBase) (toldTerm := he1.toldTerm) (toldCode := he1.toldCode) (toldSize := he1.toldSize) (told := he1.told) (waits := he1.waits) (went := he1.went) (done := he1.done) (calls := he1.calls) (next := he1.next) (mtch := he1.mtch) (flying := he1.flying) (offset := he1.offset) (ack := he1.ack) (seen := he1.seen) (probing := he1.probing) (answered := he1.answered) (toldTerms := he1.toldTerms) (toldKinds := he1.toldKinds) (toldValues := he1.toldValues) (doneNumbers := he1.doneNumbers) (doneValues := he1.doneValues) (callState := rfl) (callNumber := he1.callNumber) (got := he1.got) (log := he1.log) (kept := he1.kept) (wait := he1.wait) (cls := he1.cls))
        exact termAt_m he2 (μ := zq μ' G (a + 1)) hb1 c1 c2
      have go := settle_m (k0 := yM_apply_b0_L f) 32 1000 (zt μ' (a + 1)) 0 ν1 (by decide) (by decide) (by omega) hT
      have eS : mapF (ν1.2.1 32 55).toInt (0 : Int32).toNatClampNeg (Na (ν1.2.1 55) (ν1.2.1 53) (ν1.2.1 54) (zt μ' (a + 1)) (ν1.2.1 32 18)) (ν1.2.1 52) = Sx μ' a.toInt (a.toInt + 1) S := by
        rw [p1, p2, p3, p4]
        funext j
        unfold mapF Sx
        by_cases hj : (0 : Int32).toNatClampNeg ≤ j ∧ j < 32 ∧ (j : Int) < (μ'.2.1 20 4).toInt
        · rw [if_pos hj, Na_def]
          have hcl := he1.cls j hj.2.1 hj.2.2
          by_cases z1 : S j = 0
          · rw [if_neg (not_not_intro z1)]
            rcases hcl with ⟨a1, a2, a3⟩ | ⟨a1, a2, a3⟩
            · have a2' : (ν1.2.1 55) j = -1 := a2
              have a1' : (μ'.2.1 21) j = 0 := a1
              have a3' : (ν1.2.1 54) j = (μ'.2.1 23) j := a3
              rw [if_neg (not_not_intro a2')]
              by_cases z2 : (μ'.2.1 22) j = a + 1
              · have hp : j < 32 ∧ (j : Int) < (μ'.2.1 20 4).toInt ∧ S j = 0 ∧ (μ'.2.1 21) j = 0 ∧ a.toInt < ((μ'.2.1 22) j).toInt ∧ ((μ'.2.1 22) j).toInt ≤ a.toInt + 1 := ⟨hj.2.1, hj.2.2, z1, a1', by rw [z2]; omega, by rw [z2]; omega⟩
                rw [if_neg (not_not_intro z2), if_pos hp, z2, a3']
              · rw [if_pos z2, if_neg]
                intro k
                exact z2 (inj_i (by omega))
            · have a2' : (ν1.2.1 55) j = (μ'.2.1 23) j := a2
              have a1' : (μ'.2.1 21) j = 1 := a1
              have a3' : ¬ (μ'.2.1 23) j = -1 := a3
              rw [a2', if_pos a3', if_neg]
              intro k
              have := k.2.2.2.1
              rw [a1'] at this
              cases this
          · rw [if_pos z1, if_neg (fun k => z1 k.2.2.1)]
        · rw [if_neg hj, if_neg (fun k => hj ⟨Nat.zero_le _, k.1, k.2.1⟩)]
      rw [eS] at go
      exact ⟨go, (RE.mk (ft := he1.ft) (fg := fun c hc => by first | exact he1.fg c hc | (have hh := he1.fg c hc; (try unfold zq at hh); (try unfold zd at hh); (try unfold zf at hh); (try unfold zo at hh); (try unfold zo); (try unfold zh at hh); (try unfold zh); (try unfold zq); (try unfold zd); (try unfold zf); (try dsimp only at hh); (try dsimp only); (repeat (first | rw [xuI_o (by omega)] at hh | rw [xuL_o (by omega)] at hh | rw [va_up_o (by omega)] at hh)); (repeat (first | rw [xuI_o (by omega)] | rw [xuL_o (by omega)] | rw [va_up_o (by omega)])); exact hh)) (fgl := fun c hc => by first | exact he1.fgl c hc | (have hh := he1.fgl c hc; (try unfold zq at hh); (try unfold zd at hh); (try unfold zf at hh); (try unfold zo at hh); (try unfold zo); (try unfold zh at hh); (try unfold zh); (try unfold zq); (try unfold zd); (try unfold zf); (try dsimp only at hh); (try dsimp only); (repeat (first | rw [xuI_o (by omega)] at hh | rw [xuL_o (by omega)] at hh | rw [va_up_o (by omega)] at hh)); (repeat (first | rw [xuI_o (by omega)] | rw [xuL_o (by omega)] | rw [va_up_o (by omega)])); exact hh)) (ht := he1.ht) (hg := fun c hc => by first | exact he1.hg c hc | (have hh := he1.hg c hc; (try unfold zq at hh); (try unfold zd at hh); (try unfold zf at hh); (try unfold zo at hh); (try unfold zo); (try unfold zh at hh); (try unfold zh); (try unfold zq); (try unfold zd); (try unfold zf); (try dsimp only at hh); (try dsimp only); (repeat (first | rw [xuI_o (by omega)] at hh | rw [xuL_o (by omega)] at hh | rw [va_up_o (by omega)] at hh)); (repeat (first | rw [xuI_o (by omega)] | rw [xuL_o (by omega)] | rw [va_up_o (by omega)])); exact hh)) (hgl := fun c hc => by first | exact he1.hgl c hc | (have hh := he1.hgl c hc; (try unfold zq at hh); (try unfold zd at hh); (try unfold zf at hh); (try unfold zo at hh); (try unfold zo); (try unfold zh at hh); (try unfold zh); (try unfold zq); (try unfold zd); (try unfold zf); (try dsimp only at hh); (try dsimp only); (repeat (first | rw [xuI_o (by omega)] at hh | rw [xuL_o (by omega)] at hh | rw [va_up_o (by omega)] at hh)); (repeat (first | rw [xuI_o (by omega)] | rw [xuL_o (by omega)] | rw [va_up_o (by omega)])); exact hh)) (thr := he1.thr) (row := he1.row) (itself := he1.itself) (now := he1.now) (term := he1.term) (voted := he1.voted) (base := he1.base) (last := he1.last) (baseTerm := he1.baseTerm) (baseCode := he1.baseCode) (snapshot := he1.snapshot) (dirty := he1.dirty) (role := he1.role) (leader := he1.leader) (commit := he1.commit) (applied := he1.applied) (synced := he1.synced) (heard := he1.heard) (alarm := he1.alarm) (votes := he1.votes) (handing := he1.handing) (handed := he1.handed) (first := he1.first) (round := he1.round) (assembly := he1.assembly) (described := he1.described) (toldBase := he1.toldBase) (toldTerm := he1.toldTerm) (toldCode := he1.toldCode) (toldSize := he1.toldSize) (told := he1.told) (waits := he1.waits) (went := he1.went) (done := he1.done) (calls := he1.calls) (next := he1.next) (mtch := he1.mtch) (flying := he1.flying) (offset := he1.offset) (ack := he1.ack) (seen := he1.seen) (probing := he1.probing) (answered := he1.answered) (toldTerms := he1.toldTerms) (toldKinds := he1.toldKinds) (toldValues := he1.toldValues) (doneNumbers := he1.doneNumbers) (doneValues := he1.doneValues) (callState := rfl) (callNumber := he1.callNumber) (got := he1.got) (log := he1.log) (kept := he1.kept) (wait := he1.wait) (cls := he1.cls))⟩
    have stepS : ∀ (μ' : XMu), (∀ S' x y, Sx μ' x y S' = Sx μ x y S') → Sx μ (a + 1).toInt (μ.2.1 0 11).toInt (Sx μ' a.toInt (a.toInt + 1) S) = Sx μ a.toInt (μ.2.1 0 11).toInt S := by
      intro μ' hh
      rw [hh, e]
      exact Sx_step (by omega)
    by_cases hk : (μ.2.1 30) (zs (μ.2.1 28 5) (a + 1)) = 2
    · rw [if_neg (not_not_intro hk), if_neg (not_not_intro hk), valueAt_c hb (by omega) (by omega), xbi_s]
      have k1 : (yDe_slotOf (μ.2.1 25 2)).toInt = (μ.2.1 25 2).toInt % 64 := and63 h5
      have k2 : ((μ.2.1 25 2) - (μ.2.1 25 2) / (64 : Int32) * (64 : Int32)).toInt = (μ.2.1 25 2).toInt % 64 := i32_rem h5 (by decide)
      have k3 : ((μ.2.1 25 2) - (μ.2.1 25 2) / (64 : Int32) * (64 : Int32)).toNatClampNeg = (yDe_slotOf (μ.2.1 25 2)).toNatClampNeg := by
        have t1 := tn_of (i := (μ.2.1 25 2) - (μ.2.1 25 2) / (64 : Int32) * (64 : Int32)) (by omega)
        have t2 := tn_of (i := yDe_slotOf (μ.2.1 25 2)) (by omega)
        omega
      have k4 := inc_i (n := (μ.2.1 25 2)) (by omega)
      unfold yDe_add
      rw [xgd_t (xin_of (by omega) (by omega)), xgd_t (xin_of (by omega) (by omega)), xbv_s, xgd_t (xin_of (by omega) (by omega)), xgd_t (zr_in (by omega)), xgd_t (xin_of (by omega) (by omega)), k3]
      obtain ⟨i1, i2⟩ := inner (μ.1, xuI (xuI (xuI μ.2.1 26 (yDe_slotOf (μ.2.1 25 2)).toNatClampNeg (a + 1)) 27 (yDe_slotOf (μ.2.1 25 2)).toNatClampNeg ((μ.2.1 31) (zs (μ.2.1 28 5) (a + 1)))) 25 2 ((μ.2.1 25 2) + 1), μ.2.2) (ν.1, xuI (xuI (xuI (xuI ν.2.1 32 18 (a + 1)) 50 (yDe_slotOf (μ.2.1 25 2)).toNatClampNeg (a + 1)) 51 (yDe_slotOf (μ.2.1 25 2)).toNatClampNeg ((μ.2.1 31) (zs (μ.2.1 28 5) (a + 1)))) 32 52 ((μ.2.1 25 2) + 1), ν.2.2) ((RE.mk (ft := he.ft) (fg := fun c hc => by first | exact he.fg c hc | (have hh := he.fg c hc; (try unfold zq at hh); (try unfold zd at hh); (try unfold zf at hh); (try unfold zo at hh); (try unfold zo); (try unfold zh at hh); (try unfold zh); (try unfold zq); (try unfold zd); (try unfold zf); (try dsimp only at hh); (try dsimp only); (repeat (first | rw [xuI_o (by omega)] at hh | rw [xuL_o (by omega)] at hh | rw [va_up_o (by omega)] at hh)); (repeat (first | rw [xuI_o (by omega)] | rw [xuL_o (by omega)] | rw [va_up_o (by omega)])); exact hh)) (fgl := fun c hc => by first | exact he.fgl c hc | (have hh := he.fgl c hc; (try unfold zq at hh); (try unfold zd at hh); (try unfold zf at hh); (try unfold zo at hh); (try unfold zo); (try unfold zh at hh); (try unfold zh); (try unfold zq); (try unfold zd); (try unfold zf); (try dsimp only at hh); (try dsimp only); (repeat (first | rw [xuI_o (by omega)] at hh | rw [xuL_o (by omega)] at hh | rw [va_up_o (by omega)] at hh)); (repeat (first | rw [xuI_o (by omega)] | rw [xuL_o (by omega)] | rw [va_up_o (by omega)])); exact hh)) (ht := he.ht) (hg := fun c hc => by first | exact he.hg c hc | (have hh := he.hg c hc; (try unfold zq at hh); (try unfold zd at hh); (try unfold zf at hh); (try unfold zo at hh); (try unfold zo); (try unfold zh at hh); (try unfold zh); (try unfold zq); (try unfold zd); (try unfold zf); (try dsimp only at hh); (try dsimp only); (repeat (first | rw [xuI_o (by omega)] at hh | rw [xuL_o (by omega)] at hh | rw [va_up_o (by omega)] at hh)); (repeat (first | rw [xuI_o (by omega)] | rw [xuL_o (by omega)] | rw [va_up_o (by omega)])); exact hh)) (hgl := fun c hc => by first | exact he.hgl c hc | (have hh := he.hgl c hc; (try unfold zq at hh); (try unfold zd at hh); (try unfold zf at hh); (try unfold zo at hh); (try unfold zo); (try unfold zh at hh); (try unfold zh); (try unfold zq); (try unfold zd); (try unfold zf); (try dsimp only at hh); (try dsimp only); (repeat (first | rw [xuI_o (by omega)] at hh | rw [xuL_o (by omega)] at hh | rw [va_up_o (by omega)] at hh)); (repeat (first | rw [xuI_o (by omega)] | rw [xuL_o (by omega)] | rw [va_up_o (by omega)])); exact hh)) (thr := he.thr) (row := he.row) (itself := he.itself) (now := he.now) (term := he.term) (voted := he.voted) (base := he.base) (last := he.last) (baseTerm := he.baseTerm) (baseCode := he.baseCode) (snapshot := he.snapshot) (dirty := he.dirty) (role := he.role) (leader := he.leader) (commit := he.commit) (applied := rfl) (synced := he.synced) (heard := he.heard) (alarm := he.alarm) (votes := he.votes) (handing := he.handing) (handed := he.handed) (first := he.first) (round := he.round) (assembly := he.assembly) (described := he.described) (toldBase := he.toldBase) (toldTerm := he.toldTerm) (toldCode := he.toldCode) (toldSize := he.toldSize) (told := he.told) (waits := he.waits) (went := he.went) (done := rfl) (calls := he.calls) (next := he.next) (mtch := he.mtch) (flying := he.flying) (offset := he.offset) (ack := he.ack) (seen := he.seen) (probing := he.probing) (answered := he.answered) (toldTerms := he.toldTerms) (toldKinds := he.toldKinds) (toldValues := he.toldValues) (doneNumbers := congrArg (fun F => upd F (yDe_slotOf (μ.2.1 25 2)).toNatClampNeg (a + 1)) he.doneNumbers) (doneValues := congrArg (fun F => upd F (yDe_slotOf (μ.2.1 25 2)).toNatClampNeg ((μ.2.1 31) (zs (μ.2.1 28 5) (a + 1)))) he.doneValues) (callState := he.callState) (callNumber := he.callNumber) (got := he.got) (log := he.log) (kept := he.kept) (wait := he.wait) (cls := he.cls))) hb (show (μ.2.1 28 5).toInt ≤ _ by omega) (show _ ≤ (μ.2.1 28 9).toInt by omega)
      rw [i1]
      obtain ⟨D, E, c, ν', o1, o2, o3, o4, o5⟩ := ih f (a + 1) _ _ _ i2 hb (show (μ.2.1 28 5).toInt ≤ _ by omega) h2 (show _ = (μ.2.1 0 11).toInt by omega) (by omega) (show 0 ≤ ((μ.2.1 25 2) + 1).toInt by omega) (show ((μ.2.1 25 2) + 1).toInt + (r : Int) ≤ 2000000 by omega)
      refine ⟨D, E, c, ν', ?_, o2, ?_, o4, ?_⟩
      · rw [o1]
        congr 1
        unfold zd
        refine Prod.ext rfl (Prod.ext ?_ rfl)
        refine mem_ext fun u p => ?_
        show xuI (va_up (va_up (xuI (xuI (xuI μ.2.1 26 _ _) 27 _ _) 25 2 _) 26 D) 27 E) 25 2 c u p = xuI (va_up (va_up μ.2.1 26 D) 27 E) 25 2 c u p
        unfold xuI va_up upd
        (try dsimp only)
        repeat' split
        all_goals first | rfl | omega | (simp_all; done)
      · have := stepS (μ.1, xuI (xuI (xuI μ.2.1 26 (yDe_slotOf (μ.2.1 25 2)).toNatClampNeg (a + 1)) 27 (yDe_slotOf (μ.2.1 25 2)).toNatClampNeg ((μ.2.1 31) (zs (μ.2.1 28 5) (a + 1)))) 25 2 ((μ.2.1 25 2) + 1), μ.2.2) (fun _ _ _ => rfl)
        rw [← this]
        exact (RE.mk (ft := o3.ft) (fg := fun c hc => by first | exact o3.fg c hc | (have hh := o3.fg c hc; (try unfold zq at hh); (try unfold zd at hh); (try unfold zf at hh); (try unfold zo at hh); (try unfold zo); (try unfold zh at hh); (try unfold zh); (try unfold zq); (try unfold zd); (try unfold zf); (try dsimp only at hh); (try dsimp only); (repeat (first | rw [xuI_o (by omega)] at hh | rw [xuL_o (by omega)] at hh | rw [va_up_o (by omega)] at hh)); (repeat (first | rw [xuI_o (by omega)] | rw [xuL_o (by omega)] | rw [va_up_o (by omega)])); exact hh)) (fgl := fun c hc => by first | exact o3.fgl c hc | (have hh := o3.fgl c hc; (try unfold zq at hh); (try unfold zd at hh); (try unfold zf at hh); (try unfold zo at hh); (try unfold zo); (try unfold zh at hh); (try unfold zh); (try unfold zq); (try unfold zd); (try unfold zf); (try dsimp only at hh); (try dsimp only); (repeat (first | rw [xuI_o (by omega)] at hh | rw [xuL_o (by omega)] at hh | rw [va_up_o (by omega)] at hh)); (repeat (first | rw [xuI_o (by omega)] | rw [xuL_o (by omega)] | rw [va_up_o (by omega)])); exact hh)) (ht := o3.ht) (hg := fun c hc => by first | exact o3.hg c hc | (have hh := o3.hg c hc; (try unfold zq at hh); (try unfold zd at hh); (try unfold zf at hh); (try unfold zo at hh); (try unfold zo); (try unfold zh at hh); (try unfold zh); (try unfold zq); (try unfold zd); (try unfold zf); (try dsimp only at hh); (try dsimp only); (repeat (first | rw [xuI_o (by omega)] at hh | rw [xuL_o (by omega)] at hh | rw [va_up_o (by omega)] at hh)); (repeat (first | rw [xuI_o (by omega)] | rw [xuL_o (by omega)] | rw [va_up_o (by omega)])); exact hh)) (hgl := fun c hc => by first | exact o3.hgl c hc | (have hh := o3.hgl c hc; (try unfold zq at hh); (try unfold zd at hh); (try unfold zf at hh); (try unfold zo at hh); (try unfold zo); (try unfold zh at hh); (try unfold zh); (try unfold zq); (try unfold zd); (try unfold zf); (try dsimp only at hh); (try dsimp only); (repeat (first | rw [xuI_o (by omega)] at hh | rw [xuL_o (by omega)] at hh | rw [va_up_o (by omega)] at hh)); (repeat (first | rw [xuI_o (by omega)] | rw [xuL_o (by omega)] | rw [va_up_o (by omega)])); exact hh)) (thr := o3.thr) (row := o3.row) (itself := o3.itself) (now := o3.now) (term := o3.term) (voted := o3.voted) (base := o3.base) (last := o3.last) (baseTerm := o3.baseTerm) (baseCode := o3.baseCode) (snapshot := o3.snapshot) (dirty := o3.dirty) (role := o3.role) (leader := o3.leader) (commit := o3.commit) (applied := o3.applied) (synced := o3.synced) (heard := o3.heard) (alarm := o3.alarm) (votes := o3.votes) (handing := o3.handing) (handed := o3.handed) (first := o3.first) (round := o3.round) (assembly := o3.assembly) (described := o3.described) (toldBase := o3.toldBase) (toldTerm := o3.toldTerm) (toldCode := o3.toldCode) (toldSize := o3.toldSize) (told := o3.told) (waits := o3.waits) (went := o3.went) (done := o3.done) (calls := o3.calls) (next := o3.next) (mtch := o3.mtch) (flying := o3.flying) (offset := o3.offset) (ack := o3.ack) (seen := o3.seen) (probing := o3.probing) (answered := o3.answered) (toldTerms := o3.toldTerms) (toldKinds := o3.toldKinds) (toldValues := o3.toldValues) (doneNumbers := o3.doneNumbers) (doneValues := o3.doneValues) (callState := o3.callState) (callNumber := o3.callNumber) (got := o3.got) (log := o3.log) (kept := o3.kept) (wait := o3.wait) (cls := o3.cls))
      · have : c.toInt ≤ ((μ.2.1 25 2) + 1).toInt + (r : Int) := o5
        omega
    · rw [if_pos hk, if_pos hk]
      obtain ⟨i1, i2⟩ := inner μ (ν.1, xuI ν.2.1 32 18 (a + 1), ν.2.2) ((RE.mk (ft := he.ft) (fg := fun c hc => by first | exact he.fg c hc | (have hh := he.fg c hc; (try unfold zq at hh); (try unfold zd at hh); (try unfold zf at hh); (try unfold zo at hh); (try unfold zo); (try unfold zh at hh); (try unfold zh); (try unfold zq); (try unfold zd); (try unfold zf); (try dsimp only at hh); (try dsimp only); (repeat (first | rw [xuI_o (by omega)] at hh | rw [xuL_o (by omega)] at hh | rw [va_up_o (by omega)] at hh)); (repeat (first | rw [xuI_o (by omega)] | rw [xuL_o (by omega)] | rw [va_up_o (by omega)])); exact hh)) (fgl := fun c hc => by first | exact he.fgl c hc | (have hh := he.fgl c hc; (try unfold zq at hh); (try unfold zd at hh); (try unfold zf at hh); (try unfold zo at hh); (try unfold zo); (try unfold zh at hh); (try unfold zh); (try unfold zq); (try unfold zd); (try unfold zf); (try dsimp only at hh); (try dsimp only); (repeat (first | rw [xuI_o (by omega)] at hh | rw [xuL_o (by omega)] at hh | rw [va_up_o (by omega)] at hh)); (repeat (first | rw [xuI_o (by omega)] | rw [xuL_o (by omega)] | rw [va_up_o (by omega)])); exact hh)) (ht := he.ht) (hg := fun c hc => by first | exact he.hg c hc | (have hh := he.hg c hc; (try unfold zq at hh); (try unfold zd at hh); (try unfold zf at hh); (try unfold zo at hh); (try unfold zo); (try unfold zh at hh); (try unfold zh); (try unfold zq); (try unfold zd); (try unfold zf); (try dsimp only at hh); (try dsimp only); (repeat (first | rw [xuI_o (by omega)] at hh | rw [xuL_o (by omega)] at hh | rw [va_up_o (by omega)] at hh)); (repeat (first | rw [xuI_o (by omega)] | rw [xuL_o (by omega)] | rw [va_up_o (by omega)])); exact hh)) (hgl := fun c hc => by first | exact he.hgl c hc | (have hh := he.hgl c hc; (try unfold zq at hh); (try unfold zd at hh); (try unfold zf at hh); (try unfold zo at hh); (try unfold zo); (try unfold zh at hh); (try unfold zh); (try unfold zq); (try unfold zd); (try unfold zf); (try dsimp only at hh); (try dsimp only); (repeat (first | rw [xuI_o (by omega)] at hh | rw [xuL_o (by omega)] at hh | rw [va_up_o (by omega)] at hh)); (repeat (first | rw [xuI_o (by omega)] | rw [xuL_o (by omega)] | rw [va_up_o (by omega)])); exact hh)) (thr := he.thr) (row := he.row) (itself := he.itself) (now := he.now) (term := he.term) (voted := he.voted) (base := he.base) (last := he.last) (baseTerm := he.baseTerm) (baseCode := he.baseCode) (snapshot := he.snapshot) (dirty := he.dirty) (role := he.role) (leader := he.leader) (commit := he.commit) (applied := rfl) (synced := he.synced) (heard := he.heard) (alarm := he.alarm) (votes := he.votes) (handing := he.handing) (handed := he.handed) (first := he.first) (round := he.round) (assembly := he.assembly) (described := he.described) (toldBase := he.toldBase) (toldTerm := he.toldTerm) (toldCode := he.toldCode) (toldSize := he.toldSize) (told := he.told) (waits := he.waits) (went := he.went) (done := he.done) (calls := he.calls) (next := he.next) (mtch := he.mtch) (flying := he.flying) (offset := he.offset) (ack := he.ack) (seen := he.seen) (probing := he.probing) (answered := he.answered) (toldTerms := he.toldTerms) (toldKinds := he.toldKinds) (toldValues := he.toldValues) (doneNumbers := he.doneNumbers) (doneValues := he.doneValues) (callState := he.callState) (callNumber := he.callNumber) (got := he.got) (log := he.log) (kept := he.kept) (wait := he.wait) (cls := he.cls))) hb (by omega) (by omega)
      rw [i1]
      obtain ⟨D, E, c, ν', o1, o2, o3, o4, o5⟩ := ih f (a + 1) _ μ _ i2 hb (by omega) h2 (by omega) (by omega) h5 (by omega)
      refine ⟨D, E, c, ν', o1, o2, ?_, o4, by omega⟩
      have := stepS μ (fun _ _ _ => rfl)
      rw [← this]
      exact o3
theorem P_apply {g h μ ν : XMu} {n : Nat} (he : RE g h μ ν) (hi : RI n μ) (hn : n + 300 ≤ 1000000) : Pw g h (n + 300) (Keep μ) (yC_applyCommitted μ) (yM_apply ν) := by
  have hb := hi.LB (by omega)
  have h1 := hi.ba
  have h2 := hi.ac
  have h3 := hi.cl
  have h4 := hi.lb
  have h5 := hi.done
  have h6 := hi.last
  unfold yC_applyCommitted yM_apply
  obtain ⟨D, E, c, ν', o1, o2, o3, o4, o5⟩ := app_loop ((μ.2.1 0 11).toInt - (μ.2.1 0 12).toInt).toNat 1000 (μ.2.1 0 12) (μ.2.1 24) μ ν ((RE.mk (ft := he.ft) (fg := fun c hc => by first | exact he.fg c hc | (have hh := he.fg c hc; (try unfold zq at hh); (try unfold zd at hh); (try unfold zf at hh); (try unfold zo at hh); (try unfold zo); (try unfold zh at hh); (try unfold zh); (try unfold zq); (try unfold zd); (try unfold zf); (try dsimp only at hh); (try dsimp only); (repeat (first | rw [xuI_o (by omega)] at hh | rw [xuL_o (by omega)] at hh | rw [va_up_o (by omega)] at hh)); (repeat (first | rw [xuI_o (by omega)] | rw [xuL_o (by omega)] | rw [va_up_o (by omega)])); exact hh)) (fgl := fun c hc => by first | exact he.fgl c hc | (have hh := he.fgl c hc; (try unfold zq at hh); (try unfold zd at hh); (try unfold zf at hh); (try unfold zo at hh); (try unfold zo); (try unfold zh at hh); (try unfold zh); (try unfold zq); (try unfold zd); (try unfold zf); (try dsimp only at hh); (try dsimp only); (repeat (first | rw [xuI_o (by omega)] at hh | rw [xuL_o (by omega)] at hh | rw [va_up_o (by omega)] at hh)); (repeat (first | rw [xuI_o (by omega)] | rw [xuL_o (by omega)] | rw [va_up_o (by omega)])); exact hh)) (ht := he.ht) (hg := fun c hc => by first | exact he.hg c hc | (have hh := he.hg c hc; (try unfold zq at hh); (try unfold zd at hh); (try unfold zf at hh); (try unfold zo at hh); (try unfold zo); (try unfold zh at hh); (try unfold zh); (try unfold zq); (try unfold zd); (try unfold zf); (try dsimp only at hh); (try dsimp only); (repeat (first | rw [xuI_o (by omega)] at hh | rw [xuL_o (by omega)] at hh | rw [va_up_o (by omega)] at hh)); (repeat (first | rw [xuI_o (by omega)] | rw [xuL_o (by omega)] | rw [va_up_o (by omega)])); exact hh)) (hgl := fun c hc => by first | exact he.hgl c hc | (have hh := he.hgl c hc; (try unfold zq at hh); (try unfold zd at hh); (try unfold zf at hh); (try unfold zo at hh); (try unfold zo); (try unfold zh at hh); (try unfold zh); (try unfold zq); (try unfold zd); (try unfold zf); (try dsimp only at hh); (try dsimp only); (repeat (first | rw [xuI_o (by omega)] at hh | rw [xuL_o (by omega)] at hh | rw [va_up_o (by omega)] at hh)); (repeat (first | rw [xuI_o (by omega)] | rw [xuL_o (by omega)] | rw [va_up_o (by omega)])); exact hh)) (thr := he.thr) (row := he.row) (itself := he.itself) (now := he.now) (term := he.term) (voted := he.voted) (base := he.base) (last := he.last) (baseTerm := he.baseTerm) (baseCode := he.baseCode) (snapshot := he.snapshot) (dirty := he.dirty) (role := he.role) (leader := he.leader) (commit := he.commit) (applied := he.applied) (synced := he.synced) (heard := he.heard) (alarm := he.alarm) (votes := he.votes) (handing := he.handing) (handed := he.handed) (first := he.first) (round := he.round) (assembly := he.assembly) (described := he.described) (toldBase := he.toldBase) (toldTerm := he.toldTerm) (toldCode := he.toldCode) (toldSize := he.toldSize) (told := he.told) (waits := he.waits) (went := he.went) (done := he.done) (calls := he.calls) (next := he.next) (mtch := he.mtch) (flying := he.flying) (offset := he.offset) (ack := he.ack) (seen := he.seen) (probing := he.probing) (answered := he.answered) (toldTerms := he.toldTerms) (toldKinds := he.toldKinds) (toldValues := he.toldValues) (doneNumbers := he.doneNumbers) (doneValues := he.doneValues) (callState := he.callState) (callNumber := he.callNumber) (got := he.got) (log := he.log) (kept := he.kept) (wait := he.wait) (cls := he.cls))) hb h1 h3 (by omega) (by omega) h5.1 (by omega)
  rw [o1, o2]
  unfold yC_applyCommitted_b49 yCa_answerCommands
  rw [show (zd μ D E c).2.1 0 11 = (μ.2.1 0 11) from rfl, cmds_c 32 1000 (μ.2.1 0 11) 0 ((zd μ D E c).1, xuI (zd μ D E c).2.1 0 12 (μ.2.1 0 11), (zd μ D E c).2.2) hb (by decide) (by decide) (by omega) h3 (fun j q1 q2 q3 q4 => by
    have := hi.cmd j q1 q2 q3 q4
    show (μ.2.1 28 5).toInt ≤ ((μ.2.1 22) j).toInt
    omega), xbv_s]
  have eS : mapF (μ.2.1 20 4).toInt (0 : Int32).toNatClampNeg (Nc (μ.2.1 21) (μ.2.1 22) (μ.2.1 23) (zt μ) (μ.2.1 0 11)) (μ.2.1 24) = Sx μ (μ.2.1 0 12).toInt (μ.2.1 0 11).toInt (μ.2.1 24) := by
    funext j
    unfold mapF Sx
    by_cases hj : (0 : Int32).toNatClampNeg ≤ j ∧ j < 32 ∧ (j : Int) < (μ.2.1 20 4).toInt
    · rw [if_pos hj, Nc_def]
      by_cases z1 : (μ.2.1 24) j = 0
      · rw [if_neg (not_not_intro z1)]
        by_cases z2 : (μ.2.1 21) j = 0
        · rw [if_neg (not_not_intro z2)]
          have z3 := hi.cmd j hj.2.1 hj.2.2 z1 z2
          by_cases z4 : (μ.2.1 0 11) < (μ.2.1 22) j
          · rw [if_pos z4, if_neg]
            rw [Int32.lt_iff_toInt_lt] at z4
            omega
          · have hp : j < 32 ∧ (j : Int) < (μ.2.1 20 4).toInt ∧ (μ.2.1 24) j = 0 ∧ (μ.2.1 21) j = 0 ∧ (μ.2.1 0 12).toInt < ((μ.2.1 22) j).toInt ∧ ((μ.2.1 22) j).toInt ≤ (μ.2.1 0 11).toInt := ⟨hj.2.1, hj.2.2, z1, z2, z3, by rw [Int32.lt_iff_toInt_lt] at z4; omega⟩
            rw [if_neg z4, if_pos hp]
        · rw [if_pos z2, if_neg (fun k => z2 k.2.2.2.1)]
      · rw [if_pos z1, if_neg (fun k => z1 k.2.2.1)]
    · rw [if_neg hj, if_neg (fun k => hj ⟨Nat.zero_le _, k.1, k.2.1⟩)]
  refine Pw.mono (Pw.tail (P_readsK (g := g) (h := h) (n := n + 300) (μ := (μ.1, va_up (xuI (zd μ D E c).2.1 0 12 (μ.2.1 0 11)) 24 (mapF (μ.2.1 20 4).toInt (0 : Int32).toNatClampNeg (Nc (μ.2.1 21) (μ.2.1 22) (μ.2.1 23) (zt μ) (μ.2.1 0 11)) (μ.2.1 24)), μ.2.2)) (ν := ν') ?_ ?_ hn)) (Nat.le_refl _) (fun _ hk => Keep.trans ⟨rfl, rfl, rfl, rfl, rfl, rfl, rfl⟩ hk)
  · rw [eS]
    exact (RE.mk (ft := o3.ft) (fg := fun c hc => by first | exact o3.fg c hc | (have hh := o3.fg c hc; (try unfold zq at hh); (try unfold zd at hh); (try unfold zf at hh); (try unfold zo at hh); (try unfold zo); (try unfold zh at hh); (try unfold zh); (try unfold zq); (try unfold zd); (try unfold zf); (try dsimp only at hh); (try dsimp only); (repeat (first | rw [xuI_o (by omega)] at hh | rw [xuL_o (by omega)] at hh | rw [va_up_o (by omega)] at hh)); (repeat (first | rw [xuI_o (by omega)] | rw [xuL_o (by omega)] | rw [va_up_o (by omega)])); exact hh)) (fgl := fun c hc => by first | exact o3.fgl c hc | (have hh := o3.fgl c hc; (try unfold zq at hh); (try unfold zd at hh); (try unfold zf at hh); (try unfold zo at hh); (try unfold zo); (try unfold zh at hh); (try unfold zh); (try unfold zq); (try unfold zd); (try unfold zf); (try dsimp only at hh); (try dsimp only); (repeat (first | rw [xuI_o (by omega)] at hh | rw [xuL_o (by omega)] at hh | rw [va_up_o (by omega)] at hh)); (repeat (first | rw [xuI_o (by omega)] | rw [xuL_o (by omega)] | rw [va_up_o (by omega)])); exact hh)) (ht := o3.ht) (hg := fun c hc => by first | exact o3.hg c hc | (have hh := o3.hg c hc; (try unfold zq at hh); (try unfold zd at hh); (try unfold zf at hh); (try unfold zo at hh); (try unfold zo); (try unfold zh at hh); (try unfold zh); (try unfold zq); (try unfold zd); (try unfold zf); (try dsimp only at hh); (try dsimp only); (repeat (first | rw [xuI_o (by omega)] at hh | rw [xuL_o (by omega)] at hh | rw [va_up_o (by omega)] at hh)); (repeat (first | rw [xuI_o (by omega)] | rw [xuL_o (by omega)] | rw [va_up_o (by omega)])); exact hh)) (hgl := fun c hc => by first | exact o3.hgl c hc | (have hh := o3.hgl c hc; (try unfold zq at hh); (try unfold zd at hh); (try unfold zf at hh); (try unfold zo at hh); (try unfold zo); (try unfold zh at hh); (try unfold zh); (try unfold zq); (try unfold zd); (try unfold zf); (try dsimp only at hh); (try dsimp only); (repeat (first | rw [xuI_o (by omega)] at hh | rw [xuL_o (by omega)] at hh | rw [va_up_o (by omega)] at hh)); (repeat (first | rw [xuI_o (by omega)] | rw [xuL_o (by omega)] | rw [va_up_o (by omega)])); exact hh)) (thr := o3.thr) (row := o3.row) (itself := o3.itself) (now := o3.now) (term := o3.term) (voted := o3.voted) (base := o3.base) (last := o3.last) (baseTerm := o3.baseTerm) (baseCode := o3.baseCode) (snapshot := o3.snapshot) (dirty := o3.dirty) (role := o3.role) (leader := o3.leader) (commit := o3.commit) (applied := o3.applied) (synced := o3.synced) (heard := o3.heard) (alarm := o3.alarm) (votes := o3.votes) (handing := o3.handing) (handed := o3.handed) (first := o3.first) (round := o3.round) (assembly := o3.assembly) (described := o3.described) (toldBase := o3.toldBase) (toldTerm := o3.toldTerm) (toldCode := o3.toldCode) (toldSize := o3.toldSize) (told := o3.told) (waits := o3.waits) (went := o3.went) (done := o3.done) (calls := o3.calls) (next := o3.next) (mtch := o3.mtch) (flying := o3.flying) (offset := o3.offset) (ack := o3.ack) (seen := o3.seen) (probing := o3.probing) (answered := o3.answered) (toldTerms := o3.toldTerms) (toldKinds := o3.toldKinds) (toldValues := o3.toldValues) (doneNumbers := o3.doneNumbers) (doneValues := o3.doneValues) (callState := o3.callState) (callNumber := o3.callNumber) (got := o3.got) (log := o3.log) (kept := o3.kept) (wait := o3.wait) (cls := o3.cls))
  · rw [eS]
    have hi3 := hi.mono (Nat.le_add_right n 300)
    have key : ∀ j, Sx μ (μ.2.1 0 12).toInt (μ.2.1 0 11).toInt (μ.2.1 24) j = 0 → (μ.2.1 24) j = 0 ∧ ¬ (j < 32 ∧ (j : Int) < (μ.2.1 20 4).toInt ∧ (μ.2.1 24) j = 0 ∧ (μ.2.1 21) j = 0 ∧ (μ.2.1 0 12).toInt < ((μ.2.1 22) j).toInt ∧ ((μ.2.1 22) j).toInt ≤ (μ.2.1 0 11).toInt) := by
      intro j hz
      unfold Sx at hz
      by_cases hp : j < 32 ∧ (j : Int) < (μ.2.1 20 4).toInt ∧ (μ.2.1 24) j = 0 ∧ (μ.2.1 21) j = 0 ∧ (μ.2.1 0 12).toInt < ((μ.2.1 22) j).toInt ∧ ((μ.2.1 22) j).toInt ≤ (μ.2.1 0 11).toInt
      · rw [if_pos hp] at hz
        by_cases hq : zt μ ((μ.2.1 22) j) = (μ.2.1 23) j
        · rw [if_neg (not_not_intro hq)] at hz; cases hz
        · rw [if_pos hq] at hz; cases hz
      · rw [if_neg hp] at hz
        exact ⟨hz, hp⟩
    refine (RI.mk (itself := hi3.itself) (role := hi3.role) (base := hi3.base) (ba := ?_) (ac := Int.le_refl _) (cl := hi3.cl) (lb := hi3.lb) (last := hi3.last) (syn := hi3.syn) (dirty := hi3.dirty) (desc := hi3.desc) (now := hi3.now) (term := hi3.term) (went := hi3.went) (waits := hi3.waits) (done := ⟨o4, ?_⟩) (calls := hi3.calls) (told := hi3.told) (round := hi3.round) (hand := hi3.hand) (heard := hi3.heard) (vote := hi3.vote) (lead := hi3.lead) (quiet := fun k j q1 q2 q3 => hi.quiet k j q1 q2 (key j q3).1) (cmd := fun j q1 q2 q3 q4 => ?_) (tt := hi3.tt) (tb := hi3.tb) (got := hi3.got) (mem := hi3.mem))
    · show (μ.2.1 28 5).toInt ≤ (μ.2.1 0 11).toInt
      omega
    · show c.toInt ≤ _
      omega
    · obtain ⟨w1, w2⟩ := key j q3
      have w3 := hi.cmd j q1 q2 w1 q4
      have w4 : (μ.2.1 21) j = 0 := q4
      show (μ.2.1 0 11).toInt < ((μ.2.1 22) j).toInt
      by_cases w5 : ((μ.2.1 22) j).toInt ≤ (μ.2.1 0 11).toInt
      · exact absurd ⟨q1, q2, w1, w4, w3, w5⟩ w2
      · omega
