/-! the checks of the program text: written by wip/whole/mk20.py -/
def xokA (y : Nat) (q : XE) : Bool := xokB y q && xokC y q
theorem xchunk {α : Type} (p : α → Bool) : ∀ (n : Nat) (l : List α), (∀ k, k < n → ((l.drop (50 * k)).take 50).all p = true) → l.length ≤ 50 * n → l.all p = true := by
  intro n
  induction n with
  | zero => intro l _ h; rw [List.length_eq_zero_iff.mp (Nat.le_zero.mp h)]; rfl
  | succ n ih =>
    intro l h hl
    rw [← List.take_append_drop 50 l, List.all_append, Bool.and_eq_true]
    refine ⟨?_, ih (l.drop 50) (fun k hk => ?_) ?_⟩
    · have := h 0 (Nat.zero_lt_succ n)
      simpa using this
    · have := h (k + 1) (Nat.succ_lt_succ hk)
      rw [List.drop_drop, show 50 + 50 * k = 50 * (k + 1) by omega]
      exact this
    · rw [List.length_drop]; omega
theorem xo_0 : (xp_0).all (xokA 0) = true := by decide +kernel
theorem xo_1 : (xp_1).all (xokA 1) = true := by decide +kernel
theorem xo_2 : (xp_2).all (xokA 2) = true := by decide +kernel
theorem xo_3 : (xp_3).all (xokA 3) = true := by decide +kernel
theorem xo_4 : (xp_4).all (xokA 4) = true := by decide +kernel
theorem xo_5 : (xp_5).all (xokA 5) = true := by decide +kernel
theorem xo_6 : (xp_6).all (xokA 6) = true := by decide +kernel
theorem xo_7 : (xp_7).all (xokA 7) = true := by decide +kernel
theorem xo_8 : (xp_8).all (xokA 8) = true := by decide +kernel
theorem xo_9 : (xp_9).all (xokA 9) = true := by decide +kernel
theorem xo_10 : (xp_10).all (xokA 10) = true := by decide +kernel
theorem xo_11 : (xp_11).all (xokA 11) = true := by decide +kernel
theorem xo_12 : (xp_12).all (xokA 12) = true := by decide +kernel
theorem xo_13 : (xp_13).all (xokA 13) = true := by decide +kernel
theorem xo_14 : (xp_14).all (xokA 14) = true := by decide +kernel
theorem xo_15 : (xp_15).all (xokA 15) = true := by decide +kernel
theorem xo_16 : (xp_16).all (xokA 16) = true := by decide +kernel
theorem xo_17 : (xp_17).all (xokA 17) = true := by decide +kernel
theorem xo_18 : (xp_18).all (xokA 18) = true := by decide +kernel
theorem xo_19 : (xp_19).all (xokA 19) = true := by decide +kernel
theorem xo_20 : (xp_20).all (xokA 20) = true := by decide +kernel
theorem xo_21 : (xp_21).all (xokA 21) = true := by decide +kernel
theorem xo_22 : (xp_22).all (xokA 22) = true := by decide +kernel
theorem xo_23 : (xp_23).all (xokA 23) = true := by decide +kernel
theorem xo_24 : (xp_24).all (xokA 24) = true := by decide +kernel
theorem xo_25 : (xp_25).all (xokA 25) = true := by decide +kernel
theorem xo_26 : (xp_26).all (xokA 26) = true := by decide +kernel
theorem xo_27 : (xp_27).all (xokA 27) = true := by decide +kernel
theorem xo_28 : (xp_28).all (xokA 28) = true := by decide +kernel
theorem xo_29 : (xp_29).all (xokA 29) = true := by decide +kernel
theorem xo_30 : (xp_30).all (xokA 30) = true := by decide +kernel
theorem xo_31 : (xp_31).all (xokA 31) = true := by decide +kernel
theorem xo_32 : (xp_32).all (xokA 32) = true := by decide +kernel
theorem xo_33 : (xp_33).all (xokA 33) = true := by decide +kernel
theorem xo_34 : (xp_34).all (xokA 34) = true := by decide +kernel
theorem xo_35 : (xp_35).all (xokA 35) = true := by decide +kernel
theorem xo_36 : (xp_36).all (xokA 36) = true := by decide +kernel
theorem xo_37 : (xp_37).all (xokA 37) = true := by decide +kernel
theorem xo_38 : (xp_38).all (xokA 38) = true := by decide +kernel
theorem xo_39 : (xp_39).all (xokA 39) = true := by decide +kernel
theorem xo_40 : (xp_40).all (xokA 40) = true := by decide +kernel
theorem xo_41 : (xp_41).all (xokA 41) = true := by decide +kernel
theorem xo_42 : (xp_42).all (xokA 42) = true := by decide +kernel
theorem xo_43 : (xp_43).all (xokA 43) = true := by decide +kernel
theorem xo_44 : (xp_44).all (xokA 44) = true := by decide +kernel
theorem xo_45 : (xp_45).all (xokA 45) = true := by decide +kernel
theorem xo_46 : (xp_46).all (xokA 46) = true := by decide +kernel
theorem xo_47 : (xp_47).all (xokA 47) = true := by decide +kernel
theorem xo_48 : (xp_48).all (xokA 48) = true := by decide +kernel
theorem xo_49 : (xp_49).all (xokA 49) = true := by decide +kernel
theorem xo_50 : (xp_50).all (xokA 50) = true := by decide +kernel
theorem xo_51 : (xp_51).all (xokA 51) = true := by decide +kernel
theorem xo_52 : (xp_52).all (xokA 52) = true := by decide +kernel
theorem xo_53 : (xp_53).all (xokA 53) = true := by decide +kernel
theorem xo_54 : (xp_54).all (xokA 54) = true := by decide +kernel
theorem xo_55 : (xp_55).all (xokA 55) = true := by decide +kernel
theorem xo_56 : (xp_56).all (xokA 56) = true := by decide +kernel
theorem xo_57 : (xp_57).all (xokA 57) = true := by decide +kernel
theorem xo_58 : (xp_58).all (xokA 58) = true := by decide +kernel
theorem xo_59 : (xp_59).all (xokA 59) = true := by decide +kernel
theorem xo_60 : (xp_60).all (xokA 60) = true := by decide +kernel
theorem xo_61 : (xp_61).all (xokA 61) = true := by decide +kernel
theorem xo_62 : (xp_62).all (xokA 62) = true := by decide +kernel
theorem xo_63 : (xp_63).all (xokA 63) = true := by decide +kernel
theorem xo_64 : (xp_64).all (xokA 64) = true := by decide +kernel
theorem xo_65 : (xp_65).all (xokA 65) = true := by decide +kernel
theorem xo_66 : (xp_66).all (xokA 66) = true := by decide +kernel
theorem xo_67 : (xp_67).all (xokA 67) = true := by decide +kernel
theorem xo_68 : (xp_68).all (xokA 68) = true := by decide +kernel
theorem xo_69 : (xp_69).all (xokA 69) = true := by decide +kernel
