/-! the J machine's run is a run of the machine -/
def jEnd (M pc : Nat) (r : Option Value) : Prop :=
  (r = none ∧ decode (jbs M) pc = .ok (.return_, 1) ∧ jret M = none) ∨
  (∃ x : Int32, r = some (.int x) ∧ decode (jbs M) pc = .ok (.ireturn, 1) ∧ (jret M = some .int ∨ ∃ ty, jret M = some ty ∧ narrow ty (.int x) = .int x)) ∨
  (∃ (v : Value) (nm : String), r = some v ∧ (v = .null ∨ ∃ a, v = .ref a) ∧ decode (jbs M) pc = .ok (.areturn, 1) ∧ jret M = some (.object nm)) ∨
  (∃ x : Int64, r = some (.long x) ∧ decode (jbs M) pc = .ok (.lreturn, 1) ∧ jret M = some .long)
theorem jc_add {α : Type} {p : α → Bool} {l : List α} {i j : Nat} (h1 : ((l.drop i).take j).all p = true) (h2 : (l.drop (i + j)).all p = true) : (l.drop i).all p = true := by
  rw [← List.take_append_drop j (l.drop i), List.all_append, h1, List.drop_drop]
  simpa using h2
theorem jc_end {α : Type} {p : α → Bool} {l : List α} {i : Nat} (h : decide (l.length ≤ i) = true) : (l.drop i).all p = true := by
  rw [List.drop_eq_nil_of_le (of_decide_eq_true h)]
  rfl
theorem ja_0 : (jget 0).2.2.2.2.2.2.2.all (fun q => jchk 0 q.1 q.2) = true := (jc_add (i := 0) (j := 110) jk_0_0 (jc_add (i := 110) (j := 110) jk_0_1 (jc_add (i := 220) (j := 110) jk_0_2 (jc_add (i := 330) (j := 110) jk_0_3 (jc_add (i := 440) (j := 110) jk_0_4 (jc_add (i := 550) (j := 109) jk_0_5 (jc_end (i := 659) (by decide +kernel))))))))
theorem ja_1 : (jget 1).2.2.2.2.2.2.2.all (fun q => jchk 1 q.1 q.2) = true := (jc_add (i := 0) (j := 62) jk_1_0 (jc_end (i := 62) (by decide +kernel)))
theorem ja_2 : (jget 2).2.2.2.2.2.2.2.all (fun q => jchk 2 q.1 q.2) = true := (jc_add (i := 0) (j := 39) jk_2_0 (jc_end (i := 39) (by decide +kernel)))
theorem ja_3 : (jget 3).2.2.2.2.2.2.2.all (fun q => jchk 3 q.1 q.2) = true := (jc_add (i := 0) (j := 10) jk_3_0 (jc_end (i := 10) (by decide +kernel)))
theorem ja_4 : (jget 4).2.2.2.2.2.2.2.all (fun q => jchk 4 q.1 q.2) = true := (jc_add (i := 0) (j := 14) jk_4_0 (jc_end (i := 14) (by decide +kernel)))
theorem ja_5 : (jget 5).2.2.2.2.2.2.2.all (fun q => jchk 5 q.1 q.2) = true := (jc_add (i := 0) (j := 7) jk_5_0 (jc_end (i := 7) (by decide +kernel)))
theorem ja_6 : (jget 6).2.2.2.2.2.2.2.all (fun q => jchk 6 q.1 q.2) = true := (jc_add (i := 0) (j := 7) jk_6_0 (jc_end (i := 7) (by decide +kernel)))
theorem ja_7 : (jget 7).2.2.2.2.2.2.2.all (fun q => jchk 7 q.1 q.2) = true := (jc_add (i := 0) (j := 7) jk_7_0 (jc_end (i := 7) (by decide +kernel)))
theorem ja_8 : (jget 8).2.2.2.2.2.2.2.all (fun q => jchk 8 q.1 q.2) = true := (jc_add (i := 0) (j := 29) jk_8_0 (jc_end (i := 29) (by decide +kernel)))
theorem ja_9 : (jget 9).2.2.2.2.2.2.2.all (fun q => jchk 9 q.1 q.2) = true := (jc_add (i := 0) (j := 20) jk_9_0 (jc_end (i := 20) (by decide +kernel)))
theorem ja_10 : (jget 10).2.2.2.2.2.2.2.all (fun q => jchk 10 q.1 q.2) = true := (jc_add (i := 0) (j := 11) jk_10_0 (jc_end (i := 11) (by decide +kernel)))
theorem ja_11 : (jget 11).2.2.2.2.2.2.2.all (fun q => jchk 11 q.1 q.2) = true := (jc_add (i := 0) (j := 10) jk_11_0 (jc_end (i := 10) (by decide +kernel)))
theorem ja_12 : (jget 12).2.2.2.2.2.2.2.all (fun q => jchk 12 q.1 q.2) = true := (jc_add (i := 0) (j := 24) jk_12_0 (jc_end (i := 24) (by decide +kernel)))
theorem ja_13 : (jget 13).2.2.2.2.2.2.2.all (fun q => jchk 13 q.1 q.2) = true := (jc_add (i := 0) (j := 30) jk_13_0 (jc_end (i := 30) (by decide +kernel)))
theorem ja_14 : (jget 14).2.2.2.2.2.2.2.all (fun q => jchk 14 q.1 q.2) = true := (jc_add (i := 0) (j := 12) jk_14_0 (jc_end (i := 12) (by decide +kernel)))
theorem ja_15 : (jget 15).2.2.2.2.2.2.2.all (fun q => jchk 15 q.1 q.2) = true := (jc_add (i := 0) (j := 28) jk_15_0 (jc_end (i := 28) (by decide +kernel)))
theorem ja_16 : (jget 16).2.2.2.2.2.2.2.all (fun q => jchk 16 q.1 q.2) = true := (jc_add (i := 0) (j := 19) jk_16_0 (jc_end (i := 19) (by decide +kernel)))
theorem ja_17 : (jget 17).2.2.2.2.2.2.2.all (fun q => jchk 17 q.1 q.2) = true := (jc_add (i := 0) (j := 63) jk_17_0 (jc_end (i := 63) (by decide +kernel)))
theorem ja_18 : (jget 18).2.2.2.2.2.2.2.all (fun q => jchk 18 q.1 q.2) = true := (jc_add (i := 0) (j := 36) jk_18_0 (jc_end (i := 36) (by decide +kernel)))
theorem ja_19 : (jget 19).2.2.2.2.2.2.2.all (fun q => jchk 19 q.1 q.2) = true := (jc_add (i := 0) (j := 23) jk_19_0 (jc_end (i := 23) (by decide +kernel)))
theorem ja_20 : (jget 20).2.2.2.2.2.2.2.all (fun q => jchk 20 q.1 q.2) = true := (jc_add (i := 0) (j := 36) jk_20_0 (jc_end (i := 36) (by decide +kernel)))
theorem ja_21 : (jget 21).2.2.2.2.2.2.2.all (fun q => jchk 21 q.1 q.2) = true := (jc_add (i := 0) (j := 36) jk_21_0 (jc_end (i := 36) (by decide +kernel)))
theorem ja_22 : (jget 22).2.2.2.2.2.2.2.all (fun q => jchk 22 q.1 q.2) = true := (jc_add (i := 0) (j := 24) jk_22_0 (jc_end (i := 24) (by decide +kernel)))
theorem ja_23 : (jget 23).2.2.2.2.2.2.2.all (fun q => jchk 23 q.1 q.2) = true := (jc_add (i := 0) (j := 18) jk_23_0 (jc_end (i := 18) (by decide +kernel)))
theorem ja_24 : (jget 24).2.2.2.2.2.2.2.all (fun q => jchk 24 q.1 q.2) = true := (jc_add (i := 0) (j := 21) jk_24_0 (jc_end (i := 21) (by decide +kernel)))
theorem ja_25 : (jget 25).2.2.2.2.2.2.2.all (fun q => jchk 25 q.1 q.2) = true := (jc_add (i := 0) (j := 20) jk_25_0 (jc_end (i := 20) (by decide +kernel)))
theorem ja_26 : (jget 26).2.2.2.2.2.2.2.all (fun q => jchk 26 q.1 q.2) = true := (jc_add (i := 0) (j := 58) jk_26_0 (jc_end (i := 58) (by decide +kernel)))
theorem ja_27 : (jget 27).2.2.2.2.2.2.2.all (fun q => jchk 27 q.1 q.2) = true := (jc_add (i := 0) (j := 44) jk_27_0 (jc_end (i := 44) (by decide +kernel)))
theorem ja_28 : (jget 28).2.2.2.2.2.2.2.all (fun q => jchk 28 q.1 q.2) = true := (jc_add (i := 0) (j := 23) jk_28_0 (jc_end (i := 23) (by decide +kernel)))
theorem ja_29 : (jget 29).2.2.2.2.2.2.2.all (fun q => jchk 29 q.1 q.2) = true := (jc_add (i := 0) (j := 16) jk_29_0 (jc_end (i := 16) (by decide +kernel)))
theorem ja_30 : (jget 30).2.2.2.2.2.2.2.all (fun q => jchk 30 q.1 q.2) = true := (jc_add (i := 0) (j := 49) jk_30_0 (jc_end (i := 49) (by decide +kernel)))
theorem ja_31 : (jget 31).2.2.2.2.2.2.2.all (fun q => jchk 31 q.1 q.2) = true := (jc_add (i := 0) (j := 7) jk_31_0 (jc_end (i := 7) (by decide +kernel)))
theorem ja_32 : (jget 32).2.2.2.2.2.2.2.all (fun q => jchk 32 q.1 q.2) = true := (jc_add (i := 0) (j := 9) jk_32_0 (jc_end (i := 9) (by decide +kernel)))
theorem ja_33 : (jget 33).2.2.2.2.2.2.2.all (fun q => jchk 33 q.1 q.2) = true := (jc_add (i := 0) (j := 22) jk_33_0 (jc_end (i := 22) (by decide +kernel)))
theorem ja_34 : (jget 34).2.2.2.2.2.2.2.all (fun q => jchk 34 q.1 q.2) = true := (jc_add (i := 0) (j := 12) jk_34_0 (jc_end (i := 12) (by decide +kernel)))
theorem ja_35 : (jget 35).2.2.2.2.2.2.2.all (fun q => jchk 35 q.1 q.2) = true := (jc_add (i := 0) (j := 15) jk_35_0 (jc_end (i := 15) (by decide +kernel)))
theorem ja_36 : (jget 36).2.2.2.2.2.2.2.all (fun q => jchk 36 q.1 q.2) = true := (jc_add (i := 0) (j := 59) jk_36_0 (jc_end (i := 59) (by decide +kernel)))
theorem ja_37 : (jget 37).2.2.2.2.2.2.2.all (fun q => jchk 37 q.1 q.2) = true := (jc_add (i := 0) (j := 33) jk_37_0 (jc_end (i := 33) (by decide +kernel)))
theorem ja_38 : (jget 38).2.2.2.2.2.2.2.all (fun q => jchk 38 q.1 q.2) = true := (jc_add (i := 0) (j := 20) jk_38_0 (jc_end (i := 20) (by decide +kernel)))
theorem ja_39 : (jget 39).2.2.2.2.2.2.2.all (fun q => jchk 39 q.1 q.2) = true := (jc_add (i := 0) (j := 66) jk_39_0 (jc_end (i := 66) (by decide +kernel)))
theorem ja_40 : (jget 40).2.2.2.2.2.2.2.all (fun q => jchk 40 q.1 q.2) = true := (jc_add (i := 0) (j := 15) jk_40_0 (jc_end (i := 15) (by decide +kernel)))
theorem ja_41 : (jget 41).2.2.2.2.2.2.2.all (fun q => jchk 41 q.1 q.2) = true := (jc_add (i := 0) (j := 10) jk_41_0 (jc_end (i := 10) (by decide +kernel)))
theorem ja_42 : (jget 42).2.2.2.2.2.2.2.all (fun q => jchk 42 q.1 q.2) = true := (jc_add (i := 0) (j := 77) jk_42_0 (jc_end (i := 77) (by decide +kernel)))
theorem ja_43 : (jget 43).2.2.2.2.2.2.2.all (fun q => jchk 43 q.1 q.2) = true := (jc_add (i := 0) (j := 10) jk_43_0 (jc_end (i := 10) (by decide +kernel)))
theorem ja_44 : (jget 44).2.2.2.2.2.2.2.all (fun q => jchk 44 q.1 q.2) = true := (jc_add (i := 0) (j := 54) jk_44_0 (jc_end (i := 54) (by decide +kernel)))
theorem ja_45 : (jget 45).2.2.2.2.2.2.2.all (fun q => jchk 45 q.1 q.2) = true := (jc_add (i := 0) (j := 19) jk_45_0 (jc_end (i := 19) (by decide +kernel)))
theorem ja_46 : (jget 46).2.2.2.2.2.2.2.all (fun q => jchk 46 q.1 q.2) = true := (jc_add (i := 0) (j := 24) jk_46_0 (jc_end (i := 24) (by decide +kernel)))
theorem ja_47 : (jget 47).2.2.2.2.2.2.2.all (fun q => jchk 47 q.1 q.2) = true := (jc_add (i := 0) (j := 26) jk_47_0 (jc_end (i := 26) (by decide +kernel)))
theorem ja_48 : (jget 48).2.2.2.2.2.2.2.all (fun q => jchk 48 q.1 q.2) = true := (jc_add (i := 0) (j := 44) jk_48_0 (jc_end (i := 44) (by decide +kernel)))
theorem ja_49 : (jget 49).2.2.2.2.2.2.2.all (fun q => jchk 49 q.1 q.2) = true := (jc_add (i := 0) (j := 80) jk_49_0 (jc_end (i := 80) (by decide +kernel)))
theorem ja_50 : (jget 50).2.2.2.2.2.2.2.all (fun q => jchk 50 q.1 q.2) = true := (jc_add (i := 0) (j := 24) jk_50_0 (jc_end (i := 24) (by decide +kernel)))
theorem ja_51 : (jget 51).2.2.2.2.2.2.2.all (fun q => jchk 51 q.1 q.2) = true := (jc_add (i := 0) (j := 20) jk_51_0 (jc_end (i := 20) (by decide +kernel)))
theorem ja_52 : (jget 52).2.2.2.2.2.2.2.all (fun q => jchk 52 q.1 q.2) = true := (jc_add (i := 0) (j := 14) jk_52_0 (jc_end (i := 14) (by decide +kernel)))
theorem ja_53 : (jget 53).2.2.2.2.2.2.2.all (fun q => jchk 53 q.1 q.2) = true := (jc_add (i := 0) (j := 41) jk_53_0 (jc_end (i := 41) (by decide +kernel)))
theorem ja_54 : (jget 54).2.2.2.2.2.2.2.all (fun q => jchk 54 q.1 q.2) = true := (jc_add (i := 0) (j := 15) jk_54_0 (jc_end (i := 15) (by decide +kernel)))
theorem ja_55 : (jget 55).2.2.2.2.2.2.2.all (fun q => jchk 55 q.1 q.2) = true := (jc_add (i := 0) (j := 8) jk_55_0 (jc_end (i := 8) (by decide +kernel)))
theorem ja_56 : (jget 56).2.2.2.2.2.2.2.all (fun q => jchk 56 q.1 q.2) = true := (jc_add (i := 0) (j := 77) jk_56_0 (jc_end (i := 77) (by decide +kernel)))
theorem ja_57 : (jget 57).2.2.2.2.2.2.2.all (fun q => jchk 57 q.1 q.2) = true := (jc_add (i := 0) (j := 22) jk_57_0 (jc_end (i := 22) (by decide +kernel)))
theorem ja_58 : (jget 58).2.2.2.2.2.2.2.all (fun q => jchk 58 q.1 q.2) = true := (jc_add (i := 0) (j := 15) jk_58_0 (jc_end (i := 15) (by decide +kernel)))
theorem ja_59 : (jget 59).2.2.2.2.2.2.2.all (fun q => jchk 59 q.1 q.2) = true := (jc_add (i := 0) (j := 50) jk_59_0 (jc_end (i := 50) (by decide +kernel)))
theorem ja_60 : (jget 60).2.2.2.2.2.2.2.all (fun q => jchk 60 q.1 q.2) = true := (jc_add (i := 0) (j := 13) jk_60_0 (jc_end (i := 13) (by decide +kernel)))
theorem ja_61 : (jget 61).2.2.2.2.2.2.2.all (fun q => jchk 61 q.1 q.2) = true := (jc_add (i := 0) (j := 74) jk_61_0 (jc_end (i := 74) (by decide +kernel)))
theorem ja_62 : (jget 62).2.2.2.2.2.2.2.all (fun q => jchk 62 q.1 q.2) = true := (jc_add (i := 0) (j := 32) jk_62_0 (jc_end (i := 32) (by decide +kernel)))
theorem ja_63 : (jget 63).2.2.2.2.2.2.2.all (fun q => jchk 63 q.1 q.2) = true := (jc_add (i := 0) (j := 19) jk_63_0 (jc_end (i := 19) (by decide +kernel)))
theorem ja_64 : (jget 64).2.2.2.2.2.2.2.all (fun q => jchk 64 q.1 q.2) = true := (jc_add (i := 0) (j := 14) jk_64_0 (jc_end (i := 14) (by decide +kernel)))
theorem ja_65 : (jget 65).2.2.2.2.2.2.2.all (fun q => jchk 65 q.1 q.2) = true := (jc_add (i := 0) (j := 11) jk_65_0 (jc_end (i := 11) (by decide +kernel)))
theorem ja_66 : (jget 66).2.2.2.2.2.2.2.all (fun q => jchk 66 q.1 q.2) = true := (jc_add (i := 0) (j := 14) jk_66_0 (jc_end (i := 14) (by decide +kernel)))
theorem ja_67 : (jget 67).2.2.2.2.2.2.2.all (fun q => jchk 67 q.1 q.2) = true := (jc_add (i := 0) (j := 24) jk_67_0 (jc_end (i := 24) (by decide +kernel)))
theorem ja_68 : (jget 68).2.2.2.2.2.2.2.all (fun q => jchk 68 q.1 q.2) = true := (jc_add (i := 0) (j := 60) jk_68_0 (jc_end (i := 60) (by decide +kernel)))
theorem ja_69 : (jget 69).2.2.2.2.2.2.2.all (fun q => jchk 69 q.1 q.2) = true := (jc_add (i := 0) (j := 71) jk_69_0 (jc_end (i := 71) (by decide +kernel)))
theorem ja_70 : (jget 70).2.2.2.2.2.2.2.all (fun q => jchk 70 q.1 q.2) = true := (jc_add (i := 0) (j := 119) jk_70_0 (jc_end (i := 119) (by decide +kernel)))
theorem ja_71 : (jget 71).2.2.2.2.2.2.2.all (fun q => jchk 71 q.1 q.2) = true := (jc_add (i := 0) (j := 55) jk_71_0 (jc_end (i := 55) (by decide +kernel)))
theorem ja_72 : (jget 72).2.2.2.2.2.2.2.all (fun q => jchk 72 q.1 q.2) = true := (jc_add (i := 0) (j := 37) jk_72_0 (jc_end (i := 37) (by decide +kernel)))
theorem ja_73 : (jget 73).2.2.2.2.2.2.2.all (fun q => jchk 73 q.1 q.2) = true := (jc_add (i := 0) (j := 8) jk_73_0 (jc_end (i := 8) (by decide +kernel)))
theorem ja_74 : (jget 74).2.2.2.2.2.2.2.all (fun q => jchk 74 q.1 q.2) = true := (jc_add (i := 0) (j := 20) jk_74_0 (jc_end (i := 20) (by decide +kernel)))
theorem ja_75 : (jget 75).2.2.2.2.2.2.2.all (fun q => jchk 75 q.1 q.2) = true := (jc_add (i := 0) (j := 12) jk_75_0 (jc_end (i := 12) (by decide +kernel)))
theorem ja_76 : (jget 76).2.2.2.2.2.2.2.all (fun q => jchk 76 q.1 q.2) = true := (jc_add (i := 0) (j := 44) jk_76_0 (jc_end (i := 44) (by decide +kernel)))
theorem ja_77 : (jget 77).2.2.2.2.2.2.2.all (fun q => jchk 77 q.1 q.2) = true := (jc_add (i := 0) (j := 38) jk_77_0 (jc_end (i := 38) (by decide +kernel)))
theorem ja_78 : (jget 78).2.2.2.2.2.2.2.all (fun q => jchk 78 q.1 q.2) = true := (jc_add (i := 0) (j := 15) jk_78_0 (jc_end (i := 15) (by decide +kernel)))
theorem ja_79 : (jget 79).2.2.2.2.2.2.2.all (fun q => jchk 79 q.1 q.2) = true := (jc_add (i := 0) (j := 3) jk_79_0 (jc_end (i := 3) (by decide +kernel)))
theorem ja_80 : (jget 80).2.2.2.2.2.2.2.all (fun q => jchk 80 q.1 q.2) = true := (jc_add (i := 0) (j := 17) jk_80_0 (jc_end (i := 17) (by decide +kernel)))
theorem ja_81 : (jget 81).2.2.2.2.2.2.2.all (fun q => jchk 81 q.1 q.2) = true := (jc_add (i := 0) (j := 18) jk_81_0 (jc_end (i := 18) (by decide +kernel)))
theorem ja_82 : (jget 82).2.2.2.2.2.2.2.all (fun q => jchk 82 q.1 q.2) = true := (jc_add (i := 0) (j := 6) jk_82_0 (jc_end (i := 6) (by decide +kernel)))
theorem ja_83 : (jget 83).2.2.2.2.2.2.2.all (fun q => jchk 83 q.1 q.2) = true := (jc_add (i := 0) (j := 46) jk_83_0 (jc_end (i := 46) (by decide +kernel)))
theorem ja_84 : (jget 84).2.2.2.2.2.2.2.all (fun q => jchk 84 q.1 q.2) = true := (jc_add (i := 0) (j := 31) jk_84_0 (jc_end (i := 31) (by decide +kernel)))
theorem ja_85 : (jget 85).2.2.2.2.2.2.2.all (fun q => jchk 85 q.1 q.2) = true := (jc_add (i := 0) (j := 22) jk_85_0 (jc_end (i := 22) (by decide +kernel)))
theorem ja_86 : (jget 86).2.2.2.2.2.2.2.all (fun q => jchk 86 q.1 q.2) = true := (jc_add (i := 0) (j := 18) jk_86_0 (jc_end (i := 18) (by decide +kernel)))
theorem ja_87 : (jget 87).2.2.2.2.2.2.2.all (fun q => jchk 87 q.1 q.2) = true := (jc_add (i := 0) (j := 21) jk_87_0 (jc_end (i := 21) (by decide +kernel)))
theorem ja_88 : (jget 88).2.2.2.2.2.2.2.all (fun q => jchk 88 q.1 q.2) = true := (jc_add (i := 0) (j := 14) jk_88_0 (jc_end (i := 14) (by decide +kernel)))
theorem ja_89 : (jget 89).2.2.2.2.2.2.2.all (fun q => jchk 89 q.1 q.2) = true := (jc_add (i := 0) (j := 52) jk_89_0 (jc_end (i := 52) (by decide +kernel)))
theorem ja_90 : (jget 90).2.2.2.2.2.2.2.all (fun q => jchk 90 q.1 q.2) = true := (jc_add (i := 0) (j := 17) jk_90_0 (jc_end (i := 17) (by decide +kernel)))
theorem ja_91 : (jget 91).2.2.2.2.2.2.2.all (fun q => jchk 91 q.1 q.2) = true := (jc_add (i := 0) (j := 55) jk_91_0 (jc_end (i := 55) (by decide +kernel)))
theorem ja_92 : (jget 92).2.2.2.2.2.2.2.all (fun q => jchk 92 q.1 q.2) = true := (jc_add (i := 0) (j := 53) jk_92_0 (jc_end (i := 53) (by decide +kernel)))
theorem ja_93 : (jget 93).2.2.2.2.2.2.2.all (fun q => jchk 93 q.1 q.2) = true := (jc_add (i := 0) (j := 12) jk_93_0 (jc_end (i := 12) (by decide +kernel)))
theorem ja_94 : (jget 94).2.2.2.2.2.2.2.all (fun q => jchk 94 q.1 q.2) = true := (jc_add (i := 0) (j := 22) jk_94_0 (jc_end (i := 22) (by decide +kernel)))
theorem ja_95 : (jget 95).2.2.2.2.2.2.2.all (fun q => jchk 95 q.1 q.2) = true := (jc_add (i := 0) (j := 40) jk_95_0 (jc_end (i := 40) (by decide +kernel)))
theorem ja_96 : (jget 96).2.2.2.2.2.2.2.all (fun q => jchk 96 q.1 q.2) = true := (jc_add (i := 0) (j := 26) jk_96_0 (jc_end (i := 26) (by decide +kernel)))
theorem ja_97 : (jget 97).2.2.2.2.2.2.2.all (fun q => jchk 97 q.1 q.2) = true := (jc_add (i := 0) (j := 53) jk_97_0 (jc_end (i := 53) (by decide +kernel)))
theorem ja_98 : (jget 98).2.2.2.2.2.2.2.all (fun q => jchk 98 q.1 q.2) = true := (jc_add (i := 0) (j := 29) jk_98_0 (jc_end (i := 29) (by decide +kernel)))
theorem ja_99 : (jget 99).2.2.2.2.2.2.2.all (fun q => jchk 99 q.1 q.2) = true := (jc_add (i := 0) (j := 54) jk_99_0 (jc_end (i := 54) (by decide +kernel)))
theorem ja_100 : (jget 100).2.2.2.2.2.2.2.all (fun q => jchk 100 q.1 q.2) = true := (jc_add (i := 0) (j := 49) jk_100_0 (jc_end (i := 49) (by decide +kernel)))
theorem ja_101 : (jget 101).2.2.2.2.2.2.2.all (fun q => jchk 101 q.1 q.2) = true := (jc_add (i := 0) (j := 23) jk_101_0 (jc_end (i := 23) (by decide +kernel)))
theorem ja_102 : (jget 102).2.2.2.2.2.2.2.all (fun q => jchk 102 q.1 q.2) = true := (jc_add (i := 0) (j := 57) jk_102_0 (jc_end (i := 57) (by decide +kernel)))
theorem ja_103 : (jget 103).2.2.2.2.2.2.2.all (fun q => jchk 103 q.1 q.2) = true := (jc_add (i := 0) (j := 38) jk_103_0 (jc_end (i := 38) (by decide +kernel)))
theorem ja_104 : (jget 104).2.2.2.2.2.2.2.all (fun q => jchk 104 q.1 q.2) = true := (jc_add (i := 0) (j := 24) jk_104_0 (jc_end (i := 24) (by decide +kernel)))
theorem ja_105 : (jget 105).2.2.2.2.2.2.2.all (fun q => jchk 105 q.1 q.2) = true := (jc_add (i := 0) (j := 64) jk_105_0 (jc_end (i := 64) (by decide +kernel)))
theorem ja_106 : (jget 106).2.2.2.2.2.2.2.all (fun q => jchk 106 q.1 q.2) = true := (jc_add (i := 0) (j := 39) jk_106_0 (jc_end (i := 39) (by decide +kernel)))
theorem ja_107 : (jget 107).2.2.2.2.2.2.2.all (fun q => jchk 107 q.1 q.2) = true := (jc_add (i := 0) (j := 43) jk_107_0 (jc_end (i := 43) (by decide +kernel)))
theorem ja_108 : (jget 108).2.2.2.2.2.2.2.all (fun q => jchk 108 q.1 q.2) = true := (jc_add (i := 0) (j := 19) jk_108_0 (jc_end (i := 19) (by decide +kernel)))
theorem ja_109 : (jget 109).2.2.2.2.2.2.2.all (fun q => jchk 109 q.1 q.2) = true := (jc_add (i := 0) (j := 39) jk_109_0 (jc_end (i := 39) (by decide +kernel)))
theorem ja_110 : (jget 110).2.2.2.2.2.2.2.all (fun q => jchk 110 q.1 q.2) = true := (jc_add (i := 0) (j := 24) jk_110_0 (jc_end (i := 24) (by decide +kernel)))
theorem ja_111 : (jget 111).2.2.2.2.2.2.2.all (fun q => jchk 111 q.1 q.2) = true := (jc_add (i := 0) (j := 17) jk_111_0 (jc_end (i := 17) (by decide +kernel)))
theorem ja_112 : (jget 112).2.2.2.2.2.2.2.all (fun q => jchk 112 q.1 q.2) = true := (jc_add (i := 0) (j := 26) jk_112_0 (jc_end (i := 26) (by decide +kernel)))
theorem ja_113 : (jget 113).2.2.2.2.2.2.2.all (fun q => jchk 113 q.1 q.2) = true := (jc_add (i := 0) (j := 35) jk_113_0 (jc_end (i := 35) (by decide +kernel)))
theorem ja_114 : (jget 114).2.2.2.2.2.2.2.all (fun q => jchk 114 q.1 q.2) = true := (jc_add (i := 0) (j := 42) jk_114_0 (jc_end (i := 42) (by decide +kernel)))
theorem ja_115 : (jget 115).2.2.2.2.2.2.2.all (fun q => jchk 115 q.1 q.2) = true := (jc_add (i := 0) (j := 58) jk_115_0 (jc_end (i := 58) (by decide +kernel)))
theorem ja_116 : (jget 116).2.2.2.2.2.2.2.all (fun q => jchk 116 q.1 q.2) = true := (jc_add (i := 0) (j := 3) jk_116_0 (jc_end (i := 3) (by decide +kernel)))
theorem ja_117 : (jget 117).2.2.2.2.2.2.2.all (fun q => jchk 117 q.1 q.2) = true := (jc_add (i := 0) (j := 24) jk_117_0 (jc_end (i := 24) (by decide +kernel)))
theorem ja_118 : (jget 118).2.2.2.2.2.2.2.all (fun q => jchk 118 q.1 q.2) = true := (jc_add (i := 0) (j := 22) jk_118_0 (jc_end (i := 22) (by decide +kernel)))
theorem ja_119 : (jget 119).2.2.2.2.2.2.2.all (fun q => jchk 119 q.1 q.2) = true := (jc_add (i := 0) (j := 14) jk_119_0 (jc_end (i := 14) (by decide +kernel)))
theorem ja_120 : (jget 120).2.2.2.2.2.2.2.all (fun q => jchk 120 q.1 q.2) = true := (jc_add (i := 0) (j := 110) jk_120_0 (jc_add (i := 110) (j := 110) jk_120_1 (jc_add (i := 220) (j := 54) jk_120_2 (jc_end (i := 274) (by decide +kernel)))))
theorem ja_121 : (jget 121).2.2.2.2.2.2.2.all (fun q => jchk 121 q.1 q.2) = true := (jc_add (i := 0) (j := 28) jk_121_0 (jc_end (i := 28) (by decide +kernel)))
theorem ja_122 : (jget 122).2.2.2.2.2.2.2.all (fun q => jchk 122 q.1 q.2) = true := (jc_add (i := 0) (j := 24) jk_122_0 (jc_end (i := 24) (by decide +kernel)))
theorem ja_123 : (jget 123).2.2.2.2.2.2.2.all (fun q => jchk 123 q.1 q.2) = true := (jc_add (i := 0) (j := 12) jk_123_0 (jc_end (i := 12) (by decide +kernel)))
theorem ja_124 : (jget 124).2.2.2.2.2.2.2.all (fun q => jchk 124 q.1 q.2) = true := (jc_add (i := 0) (j := 26) jk_124_0 (jc_end (i := 26) (by decide +kernel)))
theorem ja_125 : (jget 125).2.2.2.2.2.2.2.all (fun q => jchk 125 q.1 q.2) = true := (jc_add (i := 0) (j := 23) jk_125_0 (jc_end (i := 23) (by decide +kernel)))
theorem ja_126 : (jget 126).2.2.2.2.2.2.2.all (fun q => jchk 126 q.1 q.2) = true := (jc_add (i := 0) (j := 18) jk_126_0 (jc_end (i := 18) (by decide +kernel)))
theorem ja_127 : (jget 127).2.2.2.2.2.2.2.all (fun q => jchk 127 q.1 q.2) = true := (jc_add (i := 0) (j := 96) jk_127_0 (jc_end (i := 96) (by decide +kernel)))
theorem ja_128 : (jget 128).2.2.2.2.2.2.2.all (fun q => jchk 128 q.1 q.2) = true := (jc_add (i := 0) (j := 93) jk_128_0 (jc_end (i := 93) (by decide +kernel)))
theorem ja_129 : (jget 129).2.2.2.2.2.2.2.all (fun q => jchk 129 q.1 q.2) = true := (jc_add (i := 0) (j := 12) jk_129_0 (jc_end (i := 12) (by decide +kernel)))
theorem ja_130 : (jget 130).2.2.2.2.2.2.2.all (fun q => jchk 130 q.1 q.2) = true := (jc_add (i := 0) (j := 13) jk_130_0 (jc_end (i := 13) (by decide +kernel)))
theorem ja_131 : (jget 131).2.2.2.2.2.2.2.all (fun q => jchk 131 q.1 q.2) = true := (jc_add (i := 0) (j := 110) jk_131_0 (jc_add (i := 110) (j := 59) jk_131_1 (jc_end (i := 169) (by decide +kernel))))
theorem ja_132 : (jget 132).2.2.2.2.2.2.2.all (fun q => jchk 132 q.1 q.2) = true := (jc_add (i := 0) (j := 31) jk_132_0 (jc_end (i := 31) (by decide +kernel)))
theorem ja_133 : (jget 133).2.2.2.2.2.2.2.all (fun q => jchk 133 q.1 q.2) = true := (jc_add (i := 0) (j := 10) jk_133_0 (jc_end (i := 10) (by decide +kernel)))
theorem ja_134 : (jget 134).2.2.2.2.2.2.2.all (fun q => jchk 134 q.1 q.2) = true := (jc_add (i := 0) (j := 39) jk_134_0 (jc_end (i := 39) (by decide +kernel)))
theorem ja_135 : (jget 135).2.2.2.2.2.2.2.all (fun q => jchk 135 q.1 q.2) = true := (jc_add (i := 0) (j := 17) jk_135_0 (jc_end (i := 17) (by decide +kernel)))
theorem ja_136 : (jget 136).2.2.2.2.2.2.2.all (fun q => jchk 136 q.1 q.2) = true := (jc_add (i := 0) (j := 10) jk_136_0 (jc_end (i := 10) (by decide +kernel)))
theorem ja_137 : (jget 137).2.2.2.2.2.2.2.all (fun q => jchk 137 q.1 q.2) = true := (jc_add (i := 0) (j := 23) jk_137_0 (jc_end (i := 23) (by decide +kernel)))
theorem ja_138 : (jget 138).2.2.2.2.2.2.2.all (fun q => jchk 138 q.1 q.2) = true := (jc_add (i := 0) (j := 12) jk_138_0 (jc_end (i := 12) (by decide +kernel)))
theorem ja_139 : (jget 139).2.2.2.2.2.2.2.all (fun q => jchk 139 q.1 q.2) = true := (jc_add (i := 0) (j := 50) jk_139_0 (jc_end (i := 50) (by decide +kernel)))
theorem ja_140 : (jget 140).2.2.2.2.2.2.2.all (fun q => jchk 140 q.1 q.2) = true := (jc_add (i := 0) (j := 48) jk_140_0 (jc_end (i := 48) (by decide +kernel)))
theorem ja_141 : (jget 141).2.2.2.2.2.2.2.all (fun q => jchk 141 q.1 q.2) = true := (jc_add (i := 0) (j := 10) jk_141_0 (jc_end (i := 10) (by decide +kernel)))
theorem ja_142 : (jget 142).2.2.2.2.2.2.2.all (fun q => jchk 142 q.1 q.2) = true := (jc_add (i := 0) (j := 28) jk_142_0 (jc_end (i := 28) (by decide +kernel)))
theorem ja_143 : (jget 143).2.2.2.2.2.2.2.all (fun q => jchk 143 q.1 q.2) = true := (jc_add (i := 0) (j := 18) jk_143_0 (jc_end (i := 18) (by decide +kernel)))
theorem ja_144 : (jget 144).2.2.2.2.2.2.2.all (fun q => jchk 144 q.1 q.2) = true := (jc_add (i := 0) (j := 106) jk_144_0 (jc_end (i := 106) (by decide +kernel)))
theorem ja_145 : (jget 145).2.2.2.2.2.2.2.all (fun q => jchk 145 q.1 q.2) = true := (jc_add (i := 0) (j := 57) jk_145_0 (jc_end (i := 57) (by decide +kernel)))
theorem ja_146 : (jget 146).2.2.2.2.2.2.2.all (fun q => jchk 146 q.1 q.2) = true := (jc_add (i := 0) (j := 20) jk_146_0 (jc_end (i := 20) (by decide +kernel)))
theorem ja_147 : (jget 147).2.2.2.2.2.2.2.all (fun q => jchk 147 q.1 q.2) = true := (jc_add (i := 0) (j := 19) jk_147_0 (jc_end (i := 19) (by decide +kernel)))
theorem ja_148 : (jget 148).2.2.2.2.2.2.2.all (fun q => jchk 148 q.1 q.2) = true := (jc_add (i := 0) (j := 18) jk_148_0 (jc_end (i := 18) (by decide +kernel)))
theorem ja_149 : (jget 149).2.2.2.2.2.2.2.all (fun q => jchk 149 q.1 q.2) = true := (jc_add (i := 0) (j := 19) jk_149_0 (jc_end (i := 19) (by decide +kernel)))
theorem ja_150 : (jget 150).2.2.2.2.2.2.2.all (fun q => jchk 150 q.1 q.2) = true := (jc_add (i := 0) (j := 35) jk_150_0 (jc_end (i := 35) (by decide +kernel)))
theorem ja_151 : (jget 151).2.2.2.2.2.2.2.all (fun q => jchk 151 q.1 q.2) = true := (jc_add (i := 0) (j := 111) jk_151_0 (jc_end (i := 111) (by decide +kernel)))
theorem ja_152 : (jget 152).2.2.2.2.2.2.2.all (fun q => jchk 152 q.1 q.2) = true := (jc_add (i := 0) (j := 68) jk_152_0 (jc_end (i := 68) (by decide +kernel)))
theorem ja_153 : (jget 153).2.2.2.2.2.2.2.all (fun q => jchk 153 q.1 q.2) = true := (jc_add (i := 0) (j := 110) jk_153_0 (jc_add (i := 110) (j := 33) jk_153_1 (jc_end (i := 143) (by decide +kernel))))
theorem ja_154 : (jget 154).2.2.2.2.2.2.2.all (fun q => jchk 154 q.1 q.2) = true := (jc_add (i := 0) (j := 115) jk_154_0 (jc_end (i := 115) (by decide +kernel)))
theorem ja_155 : (jget 155).2.2.2.2.2.2.2.all (fun q => jchk 155 q.1 q.2) = true := (jc_add (i := 0) (j := 32) jk_155_0 (jc_end (i := 32) (by decide +kernel)))
theorem ja_156 : (jget 156).2.2.2.2.2.2.2.all (fun q => jchk 156 q.1 q.2) = true := (jc_add (i := 0) (j := 12) jk_156_0 (jc_end (i := 12) (by decide +kernel)))
theorem ja_157 : (jget 157).2.2.2.2.2.2.2.all (fun q => jchk 157 q.1 q.2) = true := (jc_add (i := 0) (j := 133) jk_157_0 (jc_end (i := 133) (by decide +kernel)))
theorem ja_158 : (jget 158).2.2.2.2.2.2.2.all (fun q => jchk 158 q.1 q.2) = true := (jc_add (i := 0) (j := 35) jk_158_0 (jc_end (i := 35) (by decide +kernel)))
theorem ja_159 : (jget 159).2.2.2.2.2.2.2.all (fun q => jchk 159 q.1 q.2) = true := (jc_add (i := 0) (j := 110) jk_159_0 (jc_add (i := 110) (j := 46) jk_159_1 (jc_end (i := 156) (by decide +kernel))))
theorem ja_160 : (jget 160).2.2.2.2.2.2.2.all (fun q => jchk 160 q.1 q.2) = true := (jc_add (i := 0) (j := 3) jk_160_0 (jc_end (i := 3) (by decide +kernel)))
theorem ja_161 : (jget 161).2.2.2.2.2.2.2.all (fun q => jchk 161 q.1 q.2) = true := (jc_add (i := 0) (j := 22) jk_161_0 (jc_end (i := 22) (by decide +kernel)))
theorem ja_162 : (jget 162).2.2.2.2.2.2.2.all (fun q => jchk 162 q.1 q.2) = true := (jc_add (i := 0) (j := 10) jk_162_0 (jc_end (i := 10) (by decide +kernel)))
theorem ja_163 : (jget 163).2.2.2.2.2.2.2.all (fun q => jchk 163 q.1 q.2) = true := (jc_add (i := 0) (j := 72) jk_163_0 (jc_end (i := 72) (by decide +kernel)))
theorem ja_164 : (jget 164).2.2.2.2.2.2.2.all (fun q => jchk 164 q.1 q.2) = true := (jc_add (i := 0) (j := 17) jk_164_0 (jc_end (i := 17) (by decide +kernel)))
theorem ja_165 : (jget 165).2.2.2.2.2.2.2.all (fun q => jchk 165 q.1 q.2) = true := (jc_add (i := 0) (j := 10) jk_165_0 (jc_end (i := 10) (by decide +kernel)))
theorem ja_166 : (jget 166).2.2.2.2.2.2.2.all (fun q => jchk 166 q.1 q.2) = true := (jc_add (i := 0) (j := 34) jk_166_0 (jc_end (i := 34) (by decide +kernel)))
theorem ja_167 : (jget 167).2.2.2.2.2.2.2.all (fun q => jchk 167 q.1 q.2) = true := (jc_add (i := 0) (j := 12) jk_167_0 (jc_end (i := 12) (by decide +kernel)))
theorem ja_168 : (jget 168).2.2.2.2.2.2.2.all (fun q => jchk 168 q.1 q.2) = true := (jc_add (i := 0) (j := 37) jk_168_0 (jc_end (i := 37) (by decide +kernel)))
theorem ja_169 : (jget 169).2.2.2.2.2.2.2.all (fun q => jchk 169 q.1 q.2) = true := (jc_add (i := 0) (j := 58) jk_169_0 (jc_end (i := 58) (by decide +kernel)))
theorem ja_170 : (jget 170).2.2.2.2.2.2.2.all (fun q => jchk 170 q.1 q.2) = true := (jc_add (i := 0) (j := 10) jk_170_0 (jc_end (i := 10) (by decide +kernel)))
theorem ja_171 : (jget 171).2.2.2.2.2.2.2.all (fun q => jchk 171 q.1 q.2) = true := (jc_add (i := 0) (j := 23) jk_171_0 (jc_end (i := 23) (by decide +kernel)))
theorem ja_172 : (jget 172).2.2.2.2.2.2.2.all (fun q => jchk 172 q.1 q.2) = true := (jc_add (i := 0) (j := 26) jk_172_0 (jc_end (i := 26) (by decide +kernel)))
theorem ja_173 : (jget 173).2.2.2.2.2.2.2.all (fun q => jchk 173 q.1 q.2) = true := (jc_add (i := 0) (j := 30) jk_173_0 (jc_end (i := 30) (by decide +kernel)))
theorem ja_174 : (jget 174).2.2.2.2.2.2.2.all (fun q => jchk 174 q.1 q.2) = true := (jc_add (i := 0) (j := 105) jk_174_0 (jc_end (i := 105) (by decide +kernel)))
theorem ja_175 : (jget 175).2.2.2.2.2.2.2.all (fun q => jchk 175 q.1 q.2) = true := (jc_add (i := 0) (j := 13) jk_175_0 (jc_end (i := 13) (by decide +kernel)))
theorem ja_176 : (jget 176).2.2.2.2.2.2.2.all (fun q => jchk 176 q.1 q.2) = true := (jc_add (i := 0) (j := 34) jk_176_0 (jc_end (i := 34) (by decide +kernel)))
theorem ja_177 : (jget 177).2.2.2.2.2.2.2.all (fun q => jchk 177 q.1 q.2) = true := (jc_add (i := 0) (j := 97) jk_177_0 (jc_end (i := 97) (by decide +kernel)))
theorem ja_178 : (jget 178).2.2.2.2.2.2.2.all (fun q => jchk 178 q.1 q.2) = true := (jc_add (i := 0) (j := 33) jk_178_0 (jc_end (i := 33) (by decide +kernel)))
theorem ja_179 : (jget 179).2.2.2.2.2.2.2.all (fun q => jchk 179 q.1 q.2) = true := (jc_add (i := 0) (j := 64) jk_179_0 (jc_end (i := 64) (by decide +kernel)))
theorem ja_180 : (jget 180).2.2.2.2.2.2.2.all (fun q => jchk 180 q.1 q.2) = true := (jc_add (i := 0) (j := 18) jk_180_0 (jc_end (i := 18) (by decide +kernel)))
theorem ja_181 : (jget 181).2.2.2.2.2.2.2.all (fun q => jchk 181 q.1 q.2) = true := (jc_add (i := 0) (j := 24) jk_181_0 (jc_end (i := 24) (by decide +kernel)))
theorem ja_182 : (jget 182).2.2.2.2.2.2.2.all (fun q => jchk 182 q.1 q.2) = true := (jc_add (i := 0) (j := 110) jk_182_0 (jc_add (i := 110) (j := 74) jk_182_1 (jc_end (i := 184) (by decide +kernel))))
theorem ja_183 : (jget 183).2.2.2.2.2.2.2.all (fun q => jchk 183 q.1 q.2) = true := (jc_add (i := 0) (j := 37) jk_183_0 (jc_end (i := 37) (by decide +kernel)))
theorem ja_184 : (jget 184).2.2.2.2.2.2.2.all (fun q => jchk 184 q.1 q.2) = true := (jc_add (i := 0) (j := 53) jk_184_0 (jc_end (i := 53) (by decide +kernel)))
theorem ja_185 : (jget 185).2.2.2.2.2.2.2.all (fun q => jchk 185 q.1 q.2) = true := (jc_add (i := 0) (j := 30) jk_185_0 (jc_end (i := 30) (by decide +kernel)))
theorem ja_186 : (jget 186).2.2.2.2.2.2.2.all (fun q => jchk 186 q.1 q.2) = true := (jc_add (i := 0) (j := 110) jk_186_0 (jc_add (i := 110) (j := 89) jk_186_1 (jc_end (i := 199) (by decide +kernel))))
theorem ja_187 : (jget 187).2.2.2.2.2.2.2.all (fun q => jchk 187 q.1 q.2) = true := (jc_add (i := 0) (j := 60) jk_187_0 (jc_end (i := 60) (by decide +kernel)))
theorem ja_188 : (jget 188).2.2.2.2.2.2.2.all (fun q => jchk 188 q.1 q.2) = true := (jc_add (i := 0) (j := 20) jk_188_0 (jc_end (i := 20) (by decide +kernel)))
theorem ja_189 : (jget 189).2.2.2.2.2.2.2.all (fun q => jchk 189 q.1 q.2) = true := (jc_add (i := 0) (j := 27) jk_189_0 (jc_end (i := 27) (by decide +kernel)))
theorem ja_190 : (jget 190).2.2.2.2.2.2.2.all (fun q => jchk 190 q.1 q.2) = true := (jc_add (i := 0) (j := 37) jk_190_0 (jc_end (i := 37) (by decide +kernel)))
theorem ja_191 : (jget 191).2.2.2.2.2.2.2.all (fun q => jchk 191 q.1 q.2) = true := (jc_add (i := 0) (j := 15) jk_191_0 (jc_end (i := 15) (by decide +kernel)))
theorem ja_192 : (jget 192).2.2.2.2.2.2.2.all (fun q => jchk 192 q.1 q.2) = true := (jc_add (i := 0) (j := 25) jk_192_0 (jc_end (i := 25) (by decide +kernel)))
theorem ja_193 : (jget 193).2.2.2.2.2.2.2.all (fun q => jchk 193 q.1 q.2) = true := (jc_add (i := 0) (j := 80) jk_193_0 (jc_end (i := 80) (by decide +kernel)))
theorem ja_194 : (jget 194).2.2.2.2.2.2.2.all (fun q => jchk 194 q.1 q.2) = true := (jc_add (i := 0) (j := 44) jk_194_0 (jc_end (i := 44) (by decide +kernel)))
theorem ja_195 : (jget 195).2.2.2.2.2.2.2.all (fun q => jchk 195 q.1 q.2) = true := (jc_add (i := 0) (j := 3) jk_195_0 (jc_end (i := 3) (by decide +kernel)))
theorem ja_196 : (jget 196).2.2.2.2.2.2.2.all (fun q => jchk 196 q.1 q.2) = true := (jc_add (i := 0) (j := 41) jk_196_0 (jc_end (i := 41) (by decide +kernel)))
theorem ja_197 : (jget 197).2.2.2.2.2.2.2.all (fun q => jchk 197 q.1 q.2) = true := (jc_add (i := 0) (j := 14) jk_197_0 (jc_end (i := 14) (by decide +kernel)))
theorem ja_198 : (jget 198).2.2.2.2.2.2.2.all (fun q => jchk 198 q.1 q.2) = true := (jc_add (i := 0) (j := 13) jk_198_0 (jc_end (i := 13) (by decide +kernel)))
theorem ja_199 : (jget 199).2.2.2.2.2.2.2.all (fun q => jchk 199 q.1 q.2) = true := (jc_add (i := 0) (j := 9) jk_199_0 (jc_end (i := 9) (by decide +kernel)))
theorem ja_200 : (jget 200).2.2.2.2.2.2.2.all (fun q => jchk 200 q.1 q.2) = true := (jc_add (i := 0) (j := 11) jk_200_0 (jc_end (i := 11) (by decide +kernel)))
theorem ja_201 : (jget 201).2.2.2.2.2.2.2.all (fun q => jchk 201 q.1 q.2) = true := (jc_add (i := 0) (j := 6) jk_201_0 (jc_end (i := 6) (by decide +kernel)))
theorem ja_202 : (jget 202).2.2.2.2.2.2.2.all (fun q => jchk 202 q.1 q.2) = true := (jc_add (i := 0) (j := 12) jk_202_0 (jc_end (i := 12) (by decide +kernel)))
theorem ja_203 : (jget 203).2.2.2.2.2.2.2.all (fun q => jchk 203 q.1 q.2) = true := (jc_add (i := 0) (j := 7) jk_203_0 (jc_end (i := 7) (by decide +kernel)))
theorem ja_204 : (jget 204).2.2.2.2.2.2.2.all (fun q => jchk 204 q.1 q.2) = true := (jc_add (i := 0) (j := 7) jk_204_0 (jc_end (i := 7) (by decide +kernel)))
def jP (M : Nat) : Prop := (jget M).2.2.2.2.2.2.2.all (fun q => jchk M q.1 q.2) = true
theorem jh1 {a : Nat} (h : jP a) : ∀ M, a ≤ M → M < a + 1 → jP M := fun M h1 h2 => by rw [show M = a by omega]; exact h
theorem jh2 {a b c : Nat} (h1 : ∀ M, a ≤ M → M < b → jP M) (h2 : ∀ M, b ≤ M → M < c → jP M) : ∀ M, a ≤ M → M < c → jP M := fun M p q => (Nat.lt_or_ge M b).elim (fun z => h1 M p z) (fun z => h2 M z q)
theorem jg_0 : ∀ M, 0 ≤ M → M < 14 → jP M := (jh2 (b := 7) (jh2 (b := 3) (jh2 (b := 1) (jh1 ja_0) (jh2 (b := 2) (jh1 ja_1) (jh1 ja_2))) (jh2 (b := 5) (jh2 (b := 4) (jh1 ja_3) (jh1 ja_4)) (jh2 (b := 6) (jh1 ja_5) (jh1 ja_6)))) (jh2 (b := 10) (jh2 (b := 8) (jh1 ja_7) (jh2 (b := 9) (jh1 ja_8) (jh1 ja_9))) (jh2 (b := 12) (jh2 (b := 11) (jh1 ja_10) (jh1 ja_11)) (jh2 (b := 13) (jh1 ja_12) (jh1 ja_13)))))
theorem jg_14 : ∀ M, 14 ≤ M → M < 28 → jP M := (jh2 (b := 21) (jh2 (b := 17) (jh2 (b := 15) (jh1 ja_14) (jh2 (b := 16) (jh1 ja_15) (jh1 ja_16))) (jh2 (b := 19) (jh2 (b := 18) (jh1 ja_17) (jh1 ja_18)) (jh2 (b := 20) (jh1 ja_19) (jh1 ja_20)))) (jh2 (b := 24) (jh2 (b := 22) (jh1 ja_21) (jh2 (b := 23) (jh1 ja_22) (jh1 ja_23))) (jh2 (b := 26) (jh2 (b := 25) (jh1 ja_24) (jh1 ja_25)) (jh2 (b := 27) (jh1 ja_26) (jh1 ja_27)))))
theorem jg_28 : ∀ M, 28 ≤ M → M < 42 → jP M := (jh2 (b := 35) (jh2 (b := 31) (jh2 (b := 29) (jh1 ja_28) (jh2 (b := 30) (jh1 ja_29) (jh1 ja_30))) (jh2 (b := 33) (jh2 (b := 32) (jh1 ja_31) (jh1 ja_32)) (jh2 (b := 34) (jh1 ja_33) (jh1 ja_34)))) (jh2 (b := 38) (jh2 (b := 36) (jh1 ja_35) (jh2 (b := 37) (jh1 ja_36) (jh1 ja_37))) (jh2 (b := 40) (jh2 (b := 39) (jh1 ja_38) (jh1 ja_39)) (jh2 (b := 41) (jh1 ja_40) (jh1 ja_41)))))
theorem jg_42 : ∀ M, 42 ≤ M → M < 56 → jP M := (jh2 (b := 49) (jh2 (b := 45) (jh2 (b := 43) (jh1 ja_42) (jh2 (b := 44) (jh1 ja_43) (jh1 ja_44))) (jh2 (b := 47) (jh2 (b := 46) (jh1 ja_45) (jh1 ja_46)) (jh2 (b := 48) (jh1 ja_47) (jh1 ja_48)))) (jh2 (b := 52) (jh2 (b := 50) (jh1 ja_49) (jh2 (b := 51) (jh1 ja_50) (jh1 ja_51))) (jh2 (b := 54) (jh2 (b := 53) (jh1 ja_52) (jh1 ja_53)) (jh2 (b := 55) (jh1 ja_54) (jh1 ja_55)))))
theorem jg_56 : ∀ M, 56 ≤ M → M < 70 → jP M := (jh2 (b := 63) (jh2 (b := 59) (jh2 (b := 57) (jh1 ja_56) (jh2 (b := 58) (jh1 ja_57) (jh1 ja_58))) (jh2 (b := 61) (jh2 (b := 60) (jh1 ja_59) (jh1 ja_60)) (jh2 (b := 62) (jh1 ja_61) (jh1 ja_62)))) (jh2 (b := 66) (jh2 (b := 64) (jh1 ja_63) (jh2 (b := 65) (jh1 ja_64) (jh1 ja_65))) (jh2 (b := 68) (jh2 (b := 67) (jh1 ja_66) (jh1 ja_67)) (jh2 (b := 69) (jh1 ja_68) (jh1 ja_69)))))
theorem jg_70 : ∀ M, 70 ≤ M → M < 84 → jP M := (jh2 (b := 77) (jh2 (b := 73) (jh2 (b := 71) (jh1 ja_70) (jh2 (b := 72) (jh1 ja_71) (jh1 ja_72))) (jh2 (b := 75) (jh2 (b := 74) (jh1 ja_73) (jh1 ja_74)) (jh2 (b := 76) (jh1 ja_75) (jh1 ja_76)))) (jh2 (b := 80) (jh2 (b := 78) (jh1 ja_77) (jh2 (b := 79) (jh1 ja_78) (jh1 ja_79))) (jh2 (b := 82) (jh2 (b := 81) (jh1 ja_80) (jh1 ja_81)) (jh2 (b := 83) (jh1 ja_82) (jh1 ja_83)))))
theorem jg_84 : ∀ M, 84 ≤ M → M < 98 → jP M := (jh2 (b := 91) (jh2 (b := 87) (jh2 (b := 85) (jh1 ja_84) (jh2 (b := 86) (jh1 ja_85) (jh1 ja_86))) (jh2 (b := 89) (jh2 (b := 88) (jh1 ja_87) (jh1 ja_88)) (jh2 (b := 90) (jh1 ja_89) (jh1 ja_90)))) (jh2 (b := 94) (jh2 (b := 92) (jh1 ja_91) (jh2 (b := 93) (jh1 ja_92) (jh1 ja_93))) (jh2 (b := 96) (jh2 (b := 95) (jh1 ja_94) (jh1 ja_95)) (jh2 (b := 97) (jh1 ja_96) (jh1 ja_97)))))
theorem jg_98 : ∀ M, 98 ≤ M → M < 112 → jP M := (jh2 (b := 105) (jh2 (b := 101) (jh2 (b := 99) (jh1 ja_98) (jh2 (b := 100) (jh1 ja_99) (jh1 ja_100))) (jh2 (b := 103) (jh2 (b := 102) (jh1 ja_101) (jh1 ja_102)) (jh2 (b := 104) (jh1 ja_103) (jh1 ja_104)))) (jh2 (b := 108) (jh2 (b := 106) (jh1 ja_105) (jh2 (b := 107) (jh1 ja_106) (jh1 ja_107))) (jh2 (b := 110) (jh2 (b := 109) (jh1 ja_108) (jh1 ja_109)) (jh2 (b := 111) (jh1 ja_110) (jh1 ja_111)))))
theorem jg_112 : ∀ M, 112 ≤ M → M < 126 → jP M := (jh2 (b := 119) (jh2 (b := 115) (jh2 (b := 113) (jh1 ja_112) (jh2 (b := 114) (jh1 ja_113) (jh1 ja_114))) (jh2 (b := 117) (jh2 (b := 116) (jh1 ja_115) (jh1 ja_116)) (jh2 (b := 118) (jh1 ja_117) (jh1 ja_118)))) (jh2 (b := 122) (jh2 (b := 120) (jh1 ja_119) (jh2 (b := 121) (jh1 ja_120) (jh1 ja_121))) (jh2 (b := 124) (jh2 (b := 123) (jh1 ja_122) (jh1 ja_123)) (jh2 (b := 125) (jh1 ja_124) (jh1 ja_125)))))
theorem jg_126 : ∀ M, 126 ≤ M → M < 140 → jP M := (jh2 (b := 133) (jh2 (b := 129) (jh2 (b := 127) (jh1 ja_126) (jh2 (b := 128) (jh1 ja_127) (jh1 ja_128))) (jh2 (b := 131) (jh2 (b := 130) (jh1 ja_129) (jh1 ja_130)) (jh2 (b := 132) (jh1 ja_131) (jh1 ja_132)))) (jh2 (b := 136) (jh2 (b := 134) (jh1 ja_133) (jh2 (b := 135) (jh1 ja_134) (jh1 ja_135))) (jh2 (b := 138) (jh2 (b := 137) (jh1 ja_136) (jh1 ja_137)) (jh2 (b := 139) (jh1 ja_138) (jh1 ja_139)))))
theorem jg_140 : ∀ M, 140 ≤ M → M < 154 → jP M := (jh2 (b := 147) (jh2 (b := 143) (jh2 (b := 141) (jh1 ja_140) (jh2 (b := 142) (jh1 ja_141) (jh1 ja_142))) (jh2 (b := 145) (jh2 (b := 144) (jh1 ja_143) (jh1 ja_144)) (jh2 (b := 146) (jh1 ja_145) (jh1 ja_146)))) (jh2 (b := 150) (jh2 (b := 148) (jh1 ja_147) (jh2 (b := 149) (jh1 ja_148) (jh1 ja_149))) (jh2 (b := 152) (jh2 (b := 151) (jh1 ja_150) (jh1 ja_151)) (jh2 (b := 153) (jh1 ja_152) (jh1 ja_153)))))
theorem jg_154 : ∀ M, 154 ≤ M → M < 168 → jP M := (jh2 (b := 161) (jh2 (b := 157) (jh2 (b := 155) (jh1 ja_154) (jh2 (b := 156) (jh1 ja_155) (jh1 ja_156))) (jh2 (b := 159) (jh2 (b := 158) (jh1 ja_157) (jh1 ja_158)) (jh2 (b := 160) (jh1 ja_159) (jh1 ja_160)))) (jh2 (b := 164) (jh2 (b := 162) (jh1 ja_161) (jh2 (b := 163) (jh1 ja_162) (jh1 ja_163))) (jh2 (b := 166) (jh2 (b := 165) (jh1 ja_164) (jh1 ja_165)) (jh2 (b := 167) (jh1 ja_166) (jh1 ja_167)))))
theorem jg_168 : ∀ M, 168 ≤ M → M < 182 → jP M := (jh2 (b := 175) (jh2 (b := 171) (jh2 (b := 169) (jh1 ja_168) (jh2 (b := 170) (jh1 ja_169) (jh1 ja_170))) (jh2 (b := 173) (jh2 (b := 172) (jh1 ja_171) (jh1 ja_172)) (jh2 (b := 174) (jh1 ja_173) (jh1 ja_174)))) (jh2 (b := 178) (jh2 (b := 176) (jh1 ja_175) (jh2 (b := 177) (jh1 ja_176) (jh1 ja_177))) (jh2 (b := 180) (jh2 (b := 179) (jh1 ja_178) (jh1 ja_179)) (jh2 (b := 181) (jh1 ja_180) (jh1 ja_181)))))
theorem jg_182 : ∀ M, 182 ≤ M → M < 196 → jP M := (jh2 (b := 189) (jh2 (b := 185) (jh2 (b := 183) (jh1 ja_182) (jh2 (b := 184) (jh1 ja_183) (jh1 ja_184))) (jh2 (b := 187) (jh2 (b := 186) (jh1 ja_185) (jh1 ja_186)) (jh2 (b := 188) (jh1 ja_187) (jh1 ja_188)))) (jh2 (b := 192) (jh2 (b := 190) (jh1 ja_189) (jh2 (b := 191) (jh1 ja_190) (jh1 ja_191))) (jh2 (b := 194) (jh2 (b := 193) (jh1 ja_192) (jh1 ja_193)) (jh2 (b := 195) (jh1 ja_194) (jh1 ja_195)))))
theorem jg_196 : ∀ M, 196 ≤ M → M < 205 → jP M := (jh2 (b := 200) (jh2 (b := 198) (jh2 (b := 197) (jh1 ja_196) (jh1 ja_197)) (jh2 (b := 199) (jh1 ja_198) (jh1 ja_199))) (jh2 (b := 202) (jh2 (b := 201) (jh1 ja_200) (jh1 ja_201)) (jh2 (b := 203) (jh1 ja_202) (jh2 (b := 204) (jh1 ja_203) (jh1 ja_204)))))
theorem jall0 : ∀ M, 0 ≤ M → M < 205 → jP M := (jh2 (b := 98) (jh2 (b := 42) (jh2 (b := 14) jg_0 (jh2 (b := 28) jg_14 jg_28)) (jh2 (b := 70) (jh2 (b := 56) jg_42 jg_56) (jh2 (b := 84) jg_70 jg_84))) (jh2 (b := 154) (jh2 (b := 126) (jh2 (b := 112) jg_98 jg_112) (jh2 (b := 140) jg_126 jg_140)) (jh2 (b := 182) (jh2 (b := 168) jg_154 jg_168) (jh2 (b := 196) jg_182 jg_196))))
theorem jall (M : Nat) (h : M < jtab.length) : (jget M).2.2.2.2.2.2.2.all (fun q => jchk M q.1 q.2) = true := jall0 M (Nat.zero_le _) h
theorem jlook_ok {M : Nat} {l : List (Nat × jE)} (h : l.all (fun q => jchk M q.1 q.2) = true) (pc : Nat) : jlook l pc = jno ∨ jchk M pc (jlook l pc) = true := by
  induction l with
  | nil => exact Or.inl rfl
  | cons q t ih =>
    obtain ⟨a, x⟩ := q
    simp only [List.all_cons, Bool.and_eq_true] at h
    simp only [jlook]
    by_cases hp : pc = a
    · rw [if_pos hp, hp]; exact Or.inr h.1
    · rw [if_neg hp]; exact ih h.2
theorem jcode_ok (M pc : Nat) : jcode M pc = jno ∨ jchk M pc (jcode M pc) = true := by
  by_cases hM : M < jtab.length
  · exact jlook_ok (jall M hM) pc
  · refine Or.inl ?_
    unfold jcode jget
    rw [show jtab.getD M jm_no = jm_no by simp [List.getD, List.getElem?_eq_none (Nat.not_lt.mp hM)]]
    rfl
section JQ
variable {D : jD} {l : Launch}
/-- the callee, by its run: its contract -/
def jA1 (D : jD) (l : Launch) (f : Nat) : Prop := ∀ (d M : Nat) (as : List Value) (σ σ' : jS) (r : Option Value), jmk M = true → Jvm.plainName (jown M) = true → (jlay as).length ≤ jml M → jrn f d M 0 (jent M as) [] σ = some (r, σ') → jMet D l d M as σ r σ'
def jB1 (D : jD) (l : Launch) (f : Nat) : Prop := ∀ (d M pc : Nat) (L : jL) (st : List Value) (σ σ' : jS) (r : Option Value), jrn f d M pc L st σ = some (r, σ') →
  ∀ (p : Program) (e : Env) (R : Room) (s : State) (m : MethodId) (args : Array Value) (below : List Frame) (meth : Method) (c : Code) (Q : State → Prop) (n1 s1 : Nat), jCtx D M p s m args meth c → d ≤ R.frames → 36 * d ≤ R.locals → jnx σ' - n1 ≤ R.cells → jsl σ' - s1 ≤ R.slots → n1 ≤ jnx σ → s1 ≤ jsl σ →
  (∀ (H : Heap) (locs : List Loc) (ls : Array Slot) (pc : Nat), jRel D σ' s H → (∀ q ∈ locs, jn0 D ≤ q.base) → jEnd M pc r → W p l e R s m args below meth c H locs (jnx σ' - n1) (jsl σ' - s1) Q (F0 m pc ls (r.toList.map (jv D)))) →
  jK D M p l e R s m args below meth c Q n1 s1 pc L st σ
theorem jcall_of {a n : Nat} {v : Bool} {st : List Value} {σ : jS} {o : jO} (h : jcall a n v st σ = some o) : jna a ≤ st.length ∧ jcs (st.drop (jna a)) ≤ 8 ∧ (jlay ((st.take (jna a)).reverse)).length ≤ jml a ∧ o = .inr (.inr (a, (st.take (jna a)).reverse, n, st.drop (jna a))) ∧ (v = true → ∃ b as, (st.take (jna a)).reverse = .ref b :: as ∧ jT σ b = 1 + jci a) := by
  unfold jcall at h
  split at h
  · cases h
  · rename_i h1
    have g1 : jna a ≤ st.length := Nat.not_lt.mp fun q => h1 (Or.inl q)
    have g2 : jcs (st.drop (jna a)) ≤ 8 := Nat.not_lt.mp fun q => h1 (Or.inr (Or.inl q))
    have g3 : (jlay ((st.take (jna a)).reverse)).length ≤ jml a := Nat.not_lt.mp fun q => h1 (Or.inr (Or.inr q))
    split at h
    · split at h
      · rename_i b as hb
        split at h
        · rename_i hT
          cases h
          exact ⟨g1, g2, g3, by rw [hb], fun _ => ⟨b, as, hb, hT⟩⟩
        · cases h
      · cases h
    · rename_i hv
      cases h
      exact ⟨g1, g2, g3, rfl, fun z => absurd z hv⟩
theorem jstep4 {f : Nat} (ih : jB1 D l f) (ia : jA1 D l f) {d M pc op a b n : Nat} {k : Int} {L : jL} {st : List Value} {σ σ' : jS} {r : Option Value} (h25 : ¬ op < 25) (h38 : ¬ op < 38) (h52 : ¬ op < 52) (hchk : jchk4 M pc op a b k n = true) (hrun : jbnd (jrn f) d M L σ (jcmd d (op, a, b, k, n) L st σ) = some (r, σ'))
    {p : Program} {e : Env} {R : Room} {s : State} {m : MethodId} {args : Array Value} {below : List Frame} {meth : Method} {c : Code} {Q : State → Prop} {n1 s1 : Nat} (C : jCtx D M p s m args meth c) (hf : d ≤ R.frames) (hlc : 36 * d ≤ R.locals) (hRc : jnx σ' - n1 ≤ R.cells) (hRs : jsl σ' - s1 ≤ R.slots) (hn1 : n1 ≤ jnx σ) (hs1 : s1 ≤ jsl σ)
    (hQ : ∀ (H : Heap) (locs : List Loc) (ls : Array Slot) (pc : Nat), jRel D σ' s H → (∀ q ∈ locs, jn0 D ≤ q.base) → jEnd M pc r → W p l e R s m args below meth c H locs (jnx σ' - n1) (jsl σ' - s1) Q (F0 m pc ls (r.toList.map (jv D)))) : jK D M p l e R s m args below meth c Q n1 s1 pc L st σ := by
  have e1 : jcmd d (op, a, b, k, n) L st σ = jcmd4 d op a b k n L st σ := by unfold jcmd; rw [if_neg h25, if_neg h38, if_neg h52]
  rw [e1] at hrun
  have next : ∀ q, jcmd4 d op a b k n L st σ = some (.inl q) → jK D M p l e R s m args below meth c Q n1 s1 q.1 q.2.1 q.2.2.1 q.2.2.2 := by
    intro q hq
    rw [hq] at hrun
    have hm := jcmd4_m h52 hq
    exact ih _ _ _ _ _ _ _ _ hrun p e R s m args below meth c Q n1 s1 C hf hlc hRc hRs (by omega) (by omega) hQ
  have calls : jcall a n false st σ = jcmd4 d op a b k n L st σ → ∃ (d' : Nat) (σ1 : jS) (r1 : Option Value), d = d' + 1 ∧ jrn f d' a 0 (jent a ((st.take (jna a)).reverse)) [] σ = some (r1, σ1) ∧ jna a ≤ st.length ∧ jcs (st.drop (jna a)) ≤ 8 ∧ (jlay ((st.take (jna a)).reverse)).length ≤ jml a ∧ jnx σ ≤ jnx σ1 ∧ jsl σ ≤ jsl σ1 ∧ jnx σ1 - n1 ≤ R.cells ∧ jsl σ1 - s1 ≤ R.slots ∧ jK D M p l e R s m args below meth c Q n1 s1 n L (r1.toList ++ st.drop (jna a)) σ1 := by
    intro hv
    rw [← hv] at hrun
    cases ho : jcall a n false st σ with
    | none => rw [ho] at hrun; cases hrun
    | some o =>
      obtain ⟨g1, g2, g3, g4, g5⟩ := jcall_of ho
      rw [ho, g4] at hrun
      cases d with
      | zero => cases hrun
      | succ d' =>
        obtain ⟨z, h1, h2⟩ := Option.bind_eq_some_iff.mp hrun
        have m1 := jrn_m f _ _ _ _ _ _ _ h1
        have m2 := jrn_m f _ _ _ _ _ _ _ h2
        have m2a : jnx z.2 ≤ jnx σ' := m2.1
        have m2b : jsl z.2 ≤ jsl σ' := m2.2
        exact ⟨d', z.2, z.1, rfl, h1, g1, g2, g3, m1.1, m1.2, by omega, by omega, ih _ _ _ _ _ _ _ _ h2 p e R s m args below meth c Q n1 s1 C hf hlc hRc hRs (by omega) (by omega) hQ⟩
  have none4 : jcmd4 d op a b k n L st σ = none → jK D M p l e R s m args below meth c Q n1 s1 pc L st σ := by
    intro hz
    rw [hz] at hrun
    cases hrun
  rcases jop64 h52 with rfl | rfl | rfl | rfl | rfl | rfl | rfl | rfl | rfl | rfl | rfl | rfl | h63
  · cases ho : jcmd4 d 52 a b k n L st σ with
    | none => exact none4 ho
    | some o =>
      have ho2 := ho
      simp (decide := true) only [jcmd4, reduceIte, jgo] at ho2
      split at ho2
      · rename_i hx; cases ho2; exact jo_getsA C hchk hx.2 hx.1 (next _ ho)
      · cases ho2
  · cases ho : jcmd4 d 53 a b k n L st σ with
    | none => exact none4 ho
    | some o =>
      have ho2 := ho
      simp (decide := true) only [jcmd4, reduceIte, jgo] at ho2
      split at ho2
      · cases ho2; exact jo_ldcs C hchk (next _ ho)
      · cases ho2
  · cases ho : jcmd4 d 54 a b k n L st σ with
    | none => exact none4 ho
    | some o =>
      have ho2 := ho
      simp (decide := true) only [jcmd4, reduceIte, jgo] at ho2
      split at ho2
      · rename_i q as has
        split at ho2
        · rename_i hx
          obtain ⟨rfl, hT⟩ := hx
          obtain ⟨d', σ1, r1, rfl, h1, g1, g2, g3, g4, g5, g6, g7, g8⟩ := calls (by rw [ho2, ho])
          rw [has] at h1 g3
          have hmT : jmT a = true := by have h : (jdc M pc (.invokevirtual b) 3 n && jwd k.toNat (.methodLink (jown M) b (jget a).1) && jmT a) = true := hchk; simp only [Bool.and_eq_true] at h; exact h.2
          have hmk : jmk a = true := by unfold jmT at hmT; simp only [Bool.and_eq_true] at hmT; exact hmT.1.1.1.1
          have hnm : ¬ jown a = "java/lang/Math" := by unfold jmT at hmT; simp only [Bool.and_eq_true, decide_eq_true_eq] at hmT; rw [hmT.2]; decide
          exact jo_callT C hchk g1 has.symm rfl g2 hT (ia _ _ _ _ _ _ hmk (jplain_of hmk hnm) g3 h1) hf hlc hn1 hs1 g4 g5 g6 g7 g8
        · cases ho2
      · cases ho2
  · cases ho : jcmd4 d 55 a b k n L st σ with
    | none => exact none4 ho
    | some o =>
      have ho2 := ho
      simp (decide := true) only [jcmd4, reduceIte, jgo] at ho2
      split at ho2
      · rename_i hx; cases ho2; exact jo_getsI C hchk hx (next _ ho)
      · cases ho2
  · cases ho : jcmd4 d 56 a b k n L st σ with
    | none => exact none4 ho
    | some o =>
      have ho2 := ho
      simp (decide := true) only [jcmd4, reduceIte, jgo] at ho2
      split at ho2
      · split at ho2
        · rename_i hx; cases ho2; exact jo_acpy C hchk hx.1.1 hx.1.2 hx.2.1.1 hx.2.1.2 hx.2.2.1.1 hx.2.2.1.2.1 hx.2.2.1.2.2 hx.2.2.2.1 hx.2.2.2.2 hf hlc (next _ ho)
        · cases ho2
      · cases ho2
  · cases ho : jcmd4 d 57 a b k n L st σ with
    | none => exact none4 ho
    | some o =>
      have ho2 := ho
      simp (decide := true) only [jcmd4, reduceIte, jgo] at ho2
      split at ho2
      · split at ho2
        · rename_i hx; obtain ⟨rfl, hT⟩ := hx; cases ho2; exact jo_getV C hchk hT (next _ ho)
        · cases ho2
      · cases ho2
  · cases ho : jcmd4 d 58 a b k n L st σ with
    | none => exact none4 ho
    | some o =>
      have ho2 := ho
      simp (decide := true) only [jcmd4, reduceIte, jgo] at ho2
      split at ho2
      · split at ho2
        · rename_i hx; obtain ⟨rfl, hT⟩ := hx; cases ho2; exact jo_getC C hchk hT (next _ ho)
        · cases ho2
      · cases ho2
  · cases ho : jcmd4 d 59 a b k n L st σ with
    | none => exact none4 ho
    | some o =>
      have ho2 := ho
      simp (decide := true) only [jcmd4, reduceIte, jgo] at ho2
      split at ho2
      · rename_i hx; cases ho2; exact jo_getsF C hchk hx (next _ ho)
      · cases ho2
  · cases ho : jcmd4 d 60 a b k n L st σ with
    | none => exact none4 ho
    | some o =>
      have ho2 := ho
      simp (decide := true) only [jcmd4, reduceIte, jgo] at ho2
      split at ho2
      · cases ho2; exact jo_i2c C hchk (next _ ho)
      · cases ho2
  · cases ho : jcmd4 d 61 a b k n L st σ with
    | none => exact none4 ho
    | some o =>
      have ho2 := ho
      simp (decide := true) only [jcmd4, reduceIte, jgo] at ho2
      split at ho2
      · rename_i x
        split at ho2
        · rename_i hx
          cases ho2
          rw [ho] at hrun
          have h : (jdc M pc .ireturn 1 n && decide ((a = 0 ∧ jret M = some .char) ∨ (a = 1 ∧ jret M = some .byte))) = true := hchk
          simp only [Bool.and_eq_true, decide_eq_true_eq] at h
          have hE : jEnd M pc (some (.int x)) := by
            rcases h.2 with ⟨ha, hj⟩ | ⟨ha, hj⟩
            · rcases hx with ⟨-, hx⟩ | ⟨ha', -⟩
              · exact Or.inr (Or.inl ⟨x, rfl, (jdc_of h.1).1, Or.inr ⟨_, hj, by show Value.int (x.toUInt32.toUInt16.toUInt32.toInt32) = _; rw [hx]⟩⟩)
              · omega
            · rcases hx with ⟨ha', -⟩ | ⟨-, hx⟩
              · omega
              · exact Or.inr (Or.inl ⟨x, rfl, (jdc_of h.1).1, Or.inr ⟨_, hj, by show Value.int (x.toInt8.toInt32) = _; rw [hx]⟩⟩)
          intro H locs ls hl hrel hlo
          have h9 : r = some (.int x) ∧ σ' = σ := by cases hrun; exact ⟨rfl, rfl⟩
          obtain ⟨rfl, rfl⟩ := h9
          exact hQ H locs ls pc hrel hlo hE
        · cases ho2
      · cases ho2
  · cases ho : jcmd4 d 62 a b k n L st σ with
    | none => exact none4 ho
    | some o =>
      have ho2 := ho
      simp (decide := true) only [jcmd4, reduceIte, jgo] at ho2
      split at ho2
      · split at ho2
        · rename_i hx; obtain ⟨⟨rfl, hT⟩, hi⟩ := hx; cases ho2; exact jo_tbald C hchk hT hi (next _ ho)
        · cases ho2
      · cases ho2
  · cases ho : jcmd4 d 63 a b k n L st σ with
    | none => exact none4 ho
    | some o =>
      have ho2 := ho
      simp (decide := true) only [jcmd4, reduceIte, jgo] at ho2
      split at ho2
      · split at ho2
        · rename_i hx; obtain ⟨rfl, hT⟩ := hx; cases ho2; exact jo_tlen C hchk hT (next _ ho)
        · cases ho2
      · cases ho2
  · exact none4 (jcmd4_big h63)
theorem jB_of (f : Nat) (ih : jB1 D l f) (ia : jA1 D l f) : jB1 D l (f + 1) := by
  intro d M pc L st σ σ' r hrun p e R s m args below meth c Q n1 s1 C hf hlc hRc hRs hn1 hs1 hQ
  rw [jrn_s] at hrun
  rcases jcode_ok M pc with hno | hchk
  · rw [hno] at hrun
    rw [show jcmd d jno L st σ = none from rfl] at hrun
    cases hrun
  · generalize jcode M pc = x at hrun hchk
    obtain ⟨op, a, b, k, n⟩ := x
    have next : ∀ q, jcmd d (op, a, b, k, n) L st σ = some (.inl q) → jK D M p l e R s m args below meth c Q n1 s1 q.1 q.2.1 q.2.2.1 q.2.2.2 := by
      intro q hq
      rw [hq] at hrun
      have hm := jcmd_m hq
      exact ih _ _ _ _ _ _ _ _ hrun p e R s m args below meth c Q n1 s1 C hf hlc hRc hRs (by omega) (by omega) hQ
    have room : ∀ q, jcmd d (op, a, b, k, n) L st σ = some (.inl q) → jnx q.2.2.2 - n1 ≤ R.cells ∧ jsl q.2.2.2 - s1 ≤ R.slots := by
      intro q hq
      rw [hq] at hrun
      have hm := jrn_m f _ _ _ _ _ _ _ hrun
      have h1 : jnx q.2.2.2 ≤ jnx σ' := hm.1
      have h2 : jsl q.2.2.2 ≤ jsl σ' := hm.2
      omega
    have hchk' := hchk
    unfold jchk at hchk'
    by_cases h25 : op < 25
    · have e1 : jcmd d (op, a, b, k, n) L st σ = jcmd1 d op a b k n L st σ := by unfold jcmd; rw [if_pos h25]
      rw [if_pos h25] at hchk'
      cases ho : jcmd1 d op a b k n L st σ with
      | none => rw [e1, ho] at hrun; cases hrun
      | some o => exact jstep1 C h25 hchk' ho (fun q hq => next q (by rw [e1, ho, hq]))
    · rw [if_neg h25] at hchk'
      by_cases h38 : op < 38
      · have e1 : jcmd d (op, a, b, k, n) L st σ = jcmd2 d op a b k n L st σ := by unfold jcmd; rw [if_neg h25, if_pos h38]
        rw [if_pos h38] at hchk'
        cases ho : jcmd2 d op a b k n L st σ with
        | none => rw [e1, ho] at hrun; cases hrun
        | some o => exact jstep2 C h25 h38 hchk' hn1 hs1 ho (fun q hq => room q (by rw [e1, ho, hq])) (fun q hq => next q (by rw [e1, ho, hq]))
      · rw [if_neg h38] at hchk'
        by_cases h52 : ¬ op < 52
        · rw [if_neg h52] at hchk'
          exact jstep4 ih ia h25 h38 h52 hchk' hrun C hf hlc hRc hRs hn1 hs1 hQ
        have h52 : op < 52 := Nat.not_le.mp (fun z => h52 (Nat.not_lt.mpr z))
        rw [if_pos h52] at hchk'
        have e1 : jcmd d (op, a, b, k, n) L st σ = jcmd3 d op a b k n L st σ := by unfold jcmd; rw [if_neg h25, if_neg h38, if_pos h52]
        have hchk : jchk3 M pc op a b k n = true := hchk'
        rw [e1] at hrun next room
        have calls : ∀ (v : Bool), jcall a n v st σ = jcmd3 d op a b k n L st σ → ∃ (d' : Nat) (σ1 : jS) (r1 : Option Value), d = d' + 1 ∧ jrn f d' a 0 (jent a ((st.take (jna a)).reverse)) [] σ = some (r1, σ1) ∧ jna a ≤ st.length ∧ jcs (st.drop (jna a)) ≤ 8 ∧ (jlay ((st.take (jna a)).reverse)).length ≤ jml a ∧ jnx σ ≤ jnx σ1 ∧ jsl σ ≤ jsl σ1 ∧ jnx σ1 - n1 ≤ R.cells ∧ jsl σ1 - s1 ≤ R.slots ∧ jK D M p l e R s m args below meth c Q n1 s1 n L (r1.toList ++ st.drop (jna a)) σ1 ∧ (v = true → ∃ b as, (st.take (jna a)).reverse = .ref b :: as ∧ jT σ b = 1 + jci a) := by
          intro v hv
          rw [← hv] at hrun
          cases ho : jcall a n v st σ with
          | none => rw [ho] at hrun; cases hrun
          | some o =>
            obtain ⟨g1, g2, g3, g4, g5⟩ := jcall_of ho
            rw [ho, g4] at hrun
            cases d with
            | zero => cases hrun
            | succ d' =>
              obtain ⟨z, h1, h2⟩ := Option.bind_eq_some_iff.mp hrun
              have m1 := jrn_m f _ _ _ _ _ _ _ h1
              have m2 := jrn_m f _ _ _ _ _ _ _ h2
              have m2a : jnx z.2 ≤ jnx σ' := m2.1
              have m2b : jsl z.2 ≤ jsl σ' := m2.2
              exact ⟨d', z.2, z.1, rfl, h1, g1, g2, g3, m1.1, m1.2, by omega, by omega, ih _ _ _ _ _ _ _ _ h2 p e R s m args below meth c Q n1 s1 C hf hlc hRc hRs (by omega) (by omega) hQ, g5⟩
        have fin : ∀ (hr : jcmd3 d op a b k n L st σ = some (.inr (.inl r))), jEnd M pc r → st = r.toList → jK D M p l e R s m args below meth c Q n1 s1 pc L st σ := by
          intro hr hE hst H locs ls hl hrel hlo
          rw [hr] at hrun
          have : σ' = σ := by cases hrun; rfl
          subst this
          rw [hst]
          exact hQ H locs ls pc hrel hlo hE
        have rets : ∀ v, jcmd3 d op a b k n L st σ = some (.inr (.inl v)) → v = r := by
          intro v hv
          rw [hv] at hrun
          cases hrun
          rfl
        rcases jop52 h38 with rfl | rfl | rfl | rfl | rfl | rfl | rfl | rfl | rfl | rfl | rfl | rfl | rfl | rfl | h51
        · obtain ⟨d', σ1, r1, rfl, h1, g1, g2, g3, g4, g5, g6, g7, g8, -⟩ := calls false rfl
          have hmk : jmk a = true := by have h : (jdc M pc (.invokestatic b) 3 n && jwd k.toNat (.methodLink (jown M) b (jget a).1) && jmS a) = true := hchk; simp only [jmS, Bool.and_eq_true] at h; exact h.2.1.1
          by_cases hma : jown a = "java/lang/Math"
          · exact jo_mathS C (jmath_ix hmk hma) hchk g1 g2 h1 hf hlc (by omega) (by omega) g8
          · exact jo_callS C (Or.inl rfl) hchk g1 rfl rfl g2 (ia _ _ _ _ _ _ hmk (jplain_of hmk hma) g3 h1) hf hlc hn1 hs1 g4 g5 g6 g7 g8
        · obtain ⟨d', σ1, r1, rfl, h1, g1, g2, g3, g4, g5, g6, g7, g8, g9⟩ := calls true rfl
          obtain ⟨q, as, has, hT⟩ := g9 rfl
          rw [has] at h1 g3
          exact jo_callV C (Or.inl rfl) hchk g1 has.symm rfl g2 hT (ia _ _ _ _ _ _ (by have h : (jdc M pc (.invokevirtual b) 3 n && jwd k.toNat (.methodLink (jown M) b (jget a).1) && jmV a) = true := hchk; simp only [jmV, Bool.and_eq_true] at h; exact h.2.1.1.1.1) (by have h : (jdc M pc (.invokevirtual b) 3 n && jwd k.toNat (.methodLink (jown M) b (jget a).1) && jmV a) = true := hchk; simp only [jmV, Bool.and_eq_true, decide_eq_true_eq] at h; exact jplain_cl h.2.2) g3 h1) hf hlc hn1 hs1 g4 g5 g6 g7 g8
        · obtain ⟨d', σ1, r1, rfl, h1, g1, g2, g3, g4, g5, g6, g7, g8, g9⟩ := calls true rfl
          obtain ⟨q, as, has, hT⟩ := g9 rfl
          rw [has] at h1 g3
          exact jo_callV C (Or.inr (Or.inl rfl)) hchk g1 has.symm rfl g2 hT (ia _ _ _ _ _ _ (by have h : (jdc M pc (.invokespecial b) 3 n && jwd k.toNat (.methodLink (jown M) b (jget a).1) && jmI a) = true := hchk; simp only [jmI, Bool.and_eq_true] at h; exact h.2.1.1.1.1.1) (by have h : (jdc M pc (.invokespecial b) 3 n && jwd k.toNat (.methodLink (jown M) b (jget a).1) && jmI a) = true := hchk; simp only [jmI, Bool.and_eq_true, decide_eq_true_eq] at h; exact jplain_cl h.2.2) g3 h1) hf hlc hn1 hs1 g4 g5 g6 g7 g8
        · obtain ⟨d', σ1, r1, rfl, h1, g1, g2, g3, g4, g5, g6, g7, g8, -⟩ := calls false rfl
          exact jo_callS C (Or.inr rfl) hchk g1 rfl rfl g2 (ia _ _ _ _ _ _ (by have h : (jdc M pc (.invokestatic b) 3 n && jwd k.toNat (.methodLinkNest (jown M) b (jget a).1 "RuleMill") && jmS a) = true := hchk; simp only [jmS, Bool.and_eq_true] at h; exact h.2.1.1) (by have h : (jdc M pc (.invokestatic b) 3 n && jwd k.toNat (.methodLinkNest (jown M) b (jget a).1 "RuleMill") && jmS a) = true := hchk; simp only [jmS, Bool.and_eq_true] at h; exact jplain_nest h.2.1.1 h.1.2) g3 h1) hf hlc hn1 hs1 g4 g5 g6 g7 g8
        · obtain ⟨d', σ1, r1, rfl, h1, g1, g2, g3, g4, g5, g6, g7, g8, g9⟩ := calls true rfl
          obtain ⟨q, as, has, hT⟩ := g9 rfl
          rw [has] at h1 g3
          exact jo_callV C (Or.inr (Or.inr (Or.inl rfl))) hchk g1 has.symm rfl g2 hT (ia _ _ _ _ _ _ (by have h : (jdc M pc (.invokevirtual b) 3 n && jwd k.toNat (.methodLinkNest (jown M) b (jget a).1 "RuleMill") && jmV a) = true := hchk; simp only [jmV, Bool.and_eq_true] at h; exact h.2.1.1.1.1) (by have h : (jdc M pc (.invokevirtual b) 3 n && jwd k.toNat (.methodLinkNest (jown M) b (jget a).1 "RuleMill") && jmV a) = true := hchk; simp only [jmV, Bool.and_eq_true, decide_eq_true_eq] at h; exact jplain_cl h.2.2) g3 h1) hf hlc hn1 hs1 g4 g5 g6 g7 g8
        · obtain ⟨d', σ1, r1, rfl, h1, g1, g2, g3, g4, g5, g6, g7, g8, g9⟩ := calls true rfl
          obtain ⟨q, as, has, hT⟩ := g9 rfl
          rw [has] at h1 g3
          exact jo_callV C (Or.inr (Or.inr (Or.inr rfl))) hchk g1 has.symm rfl g2 hT (ia _ _ _ _ _ _ (by have h : (jdc M pc (.invokespecial b) 3 n && jwd k.toNat (.methodLinkNest (jown M) b (jget a).1 "RuleMill") && jmI a) = true := hchk; simp only [jmI, Bool.and_eq_true] at h; exact h.2.1.1.1.1.1) (by have h : (jdc M pc (.invokespecial b) 3 n && jwd k.toNat (.methodLinkNest (jown M) b (jget a).1 "RuleMill") && jmI a) = true := hchk; simp only [jmI, Bool.and_eq_true, decide_eq_true_eq] at h; exact jplain_cl h.2.2) g3 h1) hf hlc hn1 hs1 g4 g5 g6 g7 g8
        · cases ho : jcmd3 d 44 a b k n L st σ with
          | none => rw [ho] at hrun; cases hrun
          | some o =>
            have ho2 := ho
            simp (decide := true) only [jcmd3, reduceIte, jgo] at ho2
            split at ho2
            · split at ho2
              · rename_i hx; cases ho2; exact jo_obj C hchk hx hf hlc (next _ ho)
              · cases ho2
            · cases ho2
        · cases ho : jcmd3 d 45 a b k n L st σ with
          | none => rw [ho] at hrun; cases hrun
          | some o =>
            have ho2 := ho
            simp (decide := true) only [jcmd3, reduceIte, jgo] at ho2
            split at ho2
            · cases ho2
              have hr := rets _ ho
              subst hr
              have h : (jdc M pc .return_ 1 n && decide (jret M = none)) = true := hchk
              simp only [Bool.and_eq_true, decide_eq_true_eq] at h
              exact fin ho (Or.inl ⟨rfl, (jdc_of h.1).1, h.2⟩) rfl
            · cases ho2
        · cases ho : jcmd3 d 46 a b k n L st σ with
          | none => rw [ho] at hrun; cases hrun
          | some o =>
            have ho2 := ho
            simp (decide := true) only [jcmd3, reduceIte, jgo] at ho2
            split at ho2
            · rename_i x
              cases ho2
              have hr := rets _ ho
              subst hr
              have h : (jdc M pc .ireturn 1 n && decide (jret M = some .int)) = true := hchk
              simp only [Bool.and_eq_true, decide_eq_true_eq] at h
              exact fin ho (Or.inr (Or.inl ⟨x, rfl, (jdc_of h.1).1, Or.inl h.2⟩)) rfl
            · cases ho2
        · cases ho : jcmd3 d 47 a b k n L st σ with
          | none => rw [ho] at hrun; cases hrun
          | some o =>
            have ho2 := ho
            simp (decide := true) only [jcmd3, reduceIte, jgo] at ho2
            split at ho2
            · rename_i x
              split at ho2
              · rename_i hx
                cases ho2
                have hr := rets _ ho
                subst hr
                have h : (jdc M pc .ireturn 1 n && decide (jret M = some .boolean)) = true := hchk
                simp only [Bool.and_eq_true, decide_eq_true_eq] at h
                exact fin ho (Or.inr (Or.inl ⟨x, rfl, (jdc_of h.1).1, Or.inr ⟨_, h.2, by show Value.int (x &&& 1) = _; rw [hx]⟩⟩)) rfl
              · cases ho2
            · cases ho2
        · cases ho : jcmd3 d 48 a b k n L st σ with
          | none => rw [ho] at hrun; cases hrun
          | some o =>
            have ho2 := ho
            simp (decide := true) only [jcmd3, reduceIte, jgo] at ho2
            have h : (jdc M pc .areturn 1 n && (match jret M with | some (.object _) => true | _ => false)) = true := hchk
            simp only [Bool.and_eq_true] at h
            obtain ⟨nm, hnm⟩ : ∃ nm, jret M = some (.object nm) := by
              have h2 := h.2
              split at h2
              · rename_i nm hnm; exact ⟨nm, hnm⟩
              · cases h2
            split at ho2
            · rename_i x
              cases ho2
              have hr := rets _ ho
              subst hr
              exact fin ho (Or.inr (Or.inr (Or.inl ⟨_, nm, rfl, Or.inr ⟨x, rfl⟩, (jdc_of h.1).1, hnm⟩))) rfl
            · cases ho2
              have hr := rets _ ho
              subst hr
              exact fin ho (Or.inr (Or.inr (Or.inl ⟨_, nm, rfl, Or.inl rfl, (jdc_of h.1).1, hnm⟩))) rfl
            · cases ho2
        · cases ho : jcmd3 d 49 a b k n L st σ with
          | none => rw [ho] at hrun; cases hrun
          | some o =>
            have ho2 := ho
            simp (decide := true) only [jcmd3, reduceIte, jgo] at ho2
            split at ho2
            · rename_i x
              cases ho2
              have hr := rets _ ho
              subst hr
              have h : (jdc M pc .lreturn 1 n && decide (jret M = some .long)) = true := hchk
              simp only [Bool.and_eq_true, decide_eq_true_eq] at h
              exact fin ho (Or.inr (Or.inr (Or.inr ⟨x, rfl, (jdc_of h.1).1, h.2⟩))) rfl
            · cases ho2
        · cases ho : jcmd3 d 50 a b k n L st σ with
          | none => rw [ho] at hrun; cases hrun
          | some o =>
            have ho2 := ho
            simp (decide := true) only [jcmd3, reduceIte, jgo] at ho2
            split at ho2
            · rename_i x rr lo hi df ts ht
              split at ho2
              · rename_i hx
                cases ho2
                exact jo_tsw C hchk ht (fun _ => next _ ho) (fun z => absurd hx z)
              · rename_i hx
                split at ho2
                · rename_i t htt
                  cases ho2
                  exact jo_tsw C hchk ht (fun z => absurd z hx) (fun _ => ⟨t, htt, next _ ho⟩)
                · cases ho2
            · cases ho2
        · cases ho : jcmd3 d 51 a b k n L st σ with
          | none => rw [ho] at hrun; cases hrun
          | some o =>
            have ho2 := ho
            simp (decide := true) only [jcmd3, reduceIte, jgo] at ho2
            split at ho2
            · rename_i x rr df ps ht
              cases ho2
              exact jo_lsw C hchk ht (next _ ho)
            · cases ho2
        · rw [jcmd3_big h51] at hrun
          cases hrun
end JQ
