theorem tw_43 : (Cond.initialized yL_assemble.cls) ∈ oa_T := oa_mem (i := 43) (by decide +kernel) (by decide +kernel)
theorem tw_204 : (Cond.methodLink RL 52 yX4_type) ∈ oa_T := oa_mem (i := 204) (by decide +kernel) (by decide +kernel)
theorem tw_205 : (Cond.instanceMethod yX4_type) ∈ oa_T := oa_mem (i := 205) (by decide +kernel) (by decide +kernel)
theorem tw_206 : (Cond.selects RX4 yX4_type yX4_type) ∈ oa_T := oa_mem (i := 206) (by decide +kernel) (by decide +kernel)
theorem tw_207 : (Cond.code yX4_type cX4_type 2 (some .int)) ∈ oa_T := oa_mem (i := 207) (by decide +kernel) (by decide +kernel)
theorem tw_212 : (Cond.methodLink RL 70 yX4_test) ∈ oa_T := oa_mem (i := 212) (by decide +kernel) (by decide +kernel)
theorem tw_213 : (Cond.instanceMethod yX4_test) ∈ oa_T := oa_mem (i := 213) (by decide +kernel) (by decide +kernel)
theorem tw_214 : (Cond.selects RX4 yX4_test yX4_test) ∈ oa_T := oa_mem (i := 214) (by decide +kernel) (by decide +kernel)
theorem tw_215 : (Cond.code yX4_test cX4_test 3 (some .int)) ∈ oa_T := oa_mem (i := 215) (by decide +kernel) (by decide +kernel)
theorem tw_234 : (Cond.methodLink RL 91 yX4_written) ∈ oa_T := oa_mem (i := 234) (by decide +kernel) (by decide +kernel)
theorem tw_235 : (Cond.instanceMethod yX4_written) ∈ oa_T := oa_mem (i := 235) (by decide +kernel) (by decide +kernel)
theorem tw_236 : (Cond.selects RX4 yX4_written yX4_written) ∈ oa_T := oa_mem (i := 236) (by decide +kernel) (by decide +kernel)
theorem tw_237 : (Cond.code yX4_written cX4_written 2 (some .char)) ∈ oa_T := oa_mem (i := 237) (by decide +kernel) (by decide +kernel)
theorem tw_242 : (Cond.methodLink RL 99 yX4_erase) ∈ oa_T := oa_mem (i := 242) (by decide +kernel) (by decide +kernel)
theorem tw_243 : (Cond.instanceMethod yX4_erase) ∈ oa_T := oa_mem (i := 243) (by decide +kernel) (by decide +kernel)
theorem tw_244 : (Cond.selects RX4 yX4_erase yX4_erase) ∈ oa_T := oa_mem (i := 244) (by decide +kernel) (by decide +kernel)
theorem tw_245 : (Cond.code yX4_erase cX4_erase 2 (some .int)) ∈ oa_T := oa_mem (i := 245) (by decide +kernel) (by decide +kernel)
theorem tw_246 : (Cond.methodLink RL 106 yX4_fault) ∈ oa_T := oa_mem (i := 246) (by decide +kernel) (by decide +kernel)
theorem tw_247 : (Cond.instanceMethod yX4_fault) ∈ oa_T := oa_mem (i := 247) (by decide +kernel) (by decide +kernel)
theorem tw_248 : (Cond.selects RX4 yX4_fault yX4_fault) ∈ oa_T := oa_mem (i := 248) (by decide +kernel) (by decide +kernel)
theorem tw_249 : (Cond.code yX4_fault cX4_fault 1 (some .int)) ∈ oa_T := oa_mem (i := 249) (by decide +kernel) (by decide +kernel)
theorem tw_250 : (Cond.methodLink RL 110 yX4_count) ∈ oa_T := oa_mem (i := 250) (by decide +kernel) (by decide +kernel)
theorem tw_251 : (Cond.instanceMethod yX4_count) ∈ oa_T := oa_mem (i := 251) (by decide +kernel) (by decide +kernel)
theorem tw_252 : (Cond.selects RX4 yX4_count yX4_count) ∈ oa_T := oa_mem (i := 252) (by decide +kernel) (by decide +kernel)
theorem tw_253 : (Cond.code yX4_count cX4_count 2 (some .int)) ∈ oa_T := oa_mem (i := 253) (by decide +kernel) (by decide +kernel)
theorem tw_254 : (Cond.methodLink RL 57 yL_form) ∈ oa_T := oa_mem (i := 254) (by decide +kernel) (by decide +kernel)
theorem tw_255 : (Cond.static yL_form) ∈ oa_T := oa_mem (i := 255) (by decide +kernel) (by decide +kernel)
theorem tw_256 : (Cond.codeWith yL_form cL_form 3 (some .int) [(0, 8, 11, 13), (0, 8, 14, 15)]) ∈ oa_T := oa_mem (i := 256) (by decide +kernel) (by decide +kernel)
theorem tw_395 : (Cond.methodLink RL 66 yL_operand) ∈ oa_T := oa_mem (i := 395) (by decide +kernel) (by decide +kernel)
theorem tw_396 : (Cond.static yL_operand) ∈ oa_T := oa_mem (i := 396) (by decide +kernel) (by decide +kernel)
theorem tw_397 : (Cond.codeWith yL_operand cL_operand 8 (some .int) [(0, 16, 19, 13)]) ∈ oa_T := oa_mem (i := 397) (by decide +kernel) (by decide +kernel)
theorem tw_407 : (Cond.methodLink RL 74 yL_poke) ∈ oa_T := oa_mem (i := 407) (by decide +kernel) (by decide +kernel)
theorem tw_408 : (Cond.static yL_poke) ∈ oa_T := oa_mem (i := 408) (by decide +kernel) (by decide +kernel)
theorem tw_409 : (Cond.codeWith yL_poke cL_poke 5 (some .int) [(0, 10, 13, 25)]) ∈ oa_T := oa_mem (i := 409) (by decide +kernel) (by decide +kernel)
theorem tw_435 : (Cond.methodLink RL 78 yL_peek) ∈ oa_T := oa_mem (i := 435) (by decide +kernel) (by decide +kernel)
theorem tw_436 : (Cond.static yL_peek) ∈ oa_T := oa_mem (i := 436) (by decide +kernel) (by decide +kernel)
theorem tw_437 : (Cond.codeWith yL_peek cL_peek 4 (some .int) [(0, 9, 12, 25)]) ∈ oa_T := oa_mem (i := 437) (by decide +kernel) (by decide +kernel)
theorem tw_442 : (Cond.methodLink RL 82 yL_decode) ∈ oa_T := oa_mem (i := 442) (by decide +kernel) (by decide +kernel)
theorem tw_443 : (Cond.static yL_decode) ∈ oa_T := oa_mem (i := 443) (by decide +kernel) (by decide +kernel)
theorem tw_444 : (Cond.codeWith yL_decode cL_decode 4 (some .int) [(0, 9, 12, 15), (0, 9, 15, 25)]) ∈ oa_T := oa_mem (i := 444) (by decide +kernel) (by decide +kernel)
theorem tw_464 : (Cond.methodLink RL 85 yL_value) ∈ oa_T := oa_mem (i := 464) (by decide +kernel) (by decide +kernel)
theorem tw_465 : (Cond.static yL_value) ∈ oa_T := oa_mem (i := 465) (by decide +kernel) (by decide +kernel)
theorem tw_466 : (Cond.codeWith yL_value cL_value 5 (some .int) [(0, 10, 13, 15), (0, 10, 17, 25)]) ∈ oa_T := oa_mem (i := 466) (by decide +kernel) (by decide +kernel)
theorem tw_492 : (Cond.methodLink RL 88 yL_write) ∈ oa_T := oa_mem (i := 492) (by decide +kernel) (by decide +kernel)
theorem tw_493 : (Cond.static yL_write) ∈ oa_T := oa_mem (i := 493) (by decide +kernel) (by decide +kernel)
theorem tw_494 : (Cond.codeWith yL_write cL_write 4 (some .int) [(0, 9, 12, 15), (0, 9, 15, 25)]) ∈ oa_T := oa_mem (i := 494) (by decide +kernel) (by decide +kernel)
theorem tw_513 : (Cond.methodLink RL 96 yL_line) ∈ oa_T := oa_mem (i := 513) (by decide +kernel) (by decide +kernel)
theorem tw_514 : (Cond.static yL_line) ∈ oa_T := oa_mem (i := 514) (by decide +kernel) (by decide +kernel)
theorem tw_515 : (Cond.codeWith yL_line cL_line 3 (some .int) [(0, 8, 11, 13), (0, 8, 14, 15)]) ∈ oa_T := oa_mem (i := 515) (by decide +kernel) (by decide +kernel)
theorem tw_543 : (Cond.methodLink RL 103 yL_assemble) ∈ oa_T := oa_mem (i := 543) (by decide +kernel) (by decide +kernel)
theorem tw_544 : (Cond.static yL_assemble) ∈ oa_T := oa_mem (i := 544) (by decide +kernel) (by decide +kernel)
theorem tw_545 : (Cond.codeWith yL_assemble cL_assemble 4 (some .int) [(0, 9, 12, 15), (0, 9, 15, 46), (0, 9, 18, 25), (0, 9, 21, 13)]) ∈ oa_T := oa_mem (i := 545) (by decide +kernel) (by decide +kernel)
theorem tw_710 : (Cond.methodLink RL 63 yX5_thrown) ∈ oa_T := oa_mem (i := 710) (by decide +kernel) (by decide +kernel)
theorem tw_711 : (Cond.instanceMethod yX5_thrown) ∈ oa_T := oa_mem (i := 711) (by decide +kernel) (by decide +kernel)
theorem tw_712 : (Cond.selects RX5 yX5_thrown yX5_thrown) ∈ oa_T := oa_mem (i := 712) (by decide +kernel) (by decide +kernel)
theorem tw_713 : (Cond.code yX5_thrown cX5_thrown 1 (some .int)) ∈ oa_T := oa_mem (i := 713) (by decide +kernel) (by decide +kernel)
theorem tw_714 : (Cond.methodLink RL 56 yX5_type) ∈ oa_T := oa_mem (i := 714) (by decide +kernel) (by decide +kernel)
theorem tw_715 : (Cond.instanceMethod yX5_type) ∈ oa_T := oa_mem (i := 715) (by decide +kernel) (by decide +kernel)
theorem tw_716 : (Cond.selects RX5 yX5_type yX5_type) ∈ oa_T := oa_mem (i := 716) (by decide +kernel) (by decide +kernel)
theorem tw_717 : (Cond.code yX5_type cX5_type 2 (some .int)) ∈ oa_T := oa_mem (i := 717) (by decide +kernel) (by decide +kernel)
theorem tw_718 : (Cond.methodLink RL 62 yX5_form) ∈ oa_T := oa_mem (i := 718) (by decide +kernel) (by decide +kernel)
theorem tw_719 : (Cond.instanceMethod yX5_form) ∈ oa_T := oa_mem (i := 719) (by decide +kernel) (by decide +kernel)
theorem tw_720 : (Cond.selects RX5 yX5_form yX5_form) ∈ oa_T := oa_mem (i := 720) (by decide +kernel) (by decide +kernel)
theorem tw_721 : (Cond.code yX5_form cX5_form 5 (some .int)) ∈ oa_T := oa_mem (i := 721) (by decide +kernel) (by decide +kernel)
theorem tw_749 : (Cond.methodLink RL 69 yX5_operand) ∈ oa_T := oa_mem (i := 749) (by decide +kernel) (by decide +kernel)
theorem tw_750 : (Cond.instanceMethod yX5_operand) ∈ oa_T := oa_mem (i := 750) (by decide +kernel) (by decide +kernel)
theorem tw_751 : (Cond.selects RX5 yX5_operand yX5_operand) ∈ oa_T := oa_mem (i := 751) (by decide +kernel) (by decide +kernel)
theorem tw_752 : (Cond.code yX5_operand cX5_operand 7 (some .int)) ∈ oa_T := oa_mem (i := 752) (by decide +kernel) (by decide +kernel)
theorem tw_756 : (Cond.methodLink RL 73 yX5_test) ∈ oa_T := oa_mem (i := 756) (by decide +kernel) (by decide +kernel)
theorem tw_757 : (Cond.instanceMethod yX5_test) ∈ oa_T := oa_mem (i := 757) (by decide +kernel) (by decide +kernel)
theorem tw_758 : (Cond.selects RX5 yX5_test yX5_test) ∈ oa_T := oa_mem (i := 758) (by decide +kernel) (by decide +kernel)
theorem tw_759 : (Cond.code yX5_test cX5_test 3 (some .int)) ∈ oa_T := oa_mem (i := 759) (by decide +kernel) (by decide +kernel)
theorem tw_772 : (Cond.methodLink RL 77 yX5_poke) ∈ oa_T := oa_mem (i := 772) (by decide +kernel) (by decide +kernel)
theorem tw_773 : (Cond.instanceMethod yX5_poke) ∈ oa_T := oa_mem (i := 773) (by decide +kernel) (by decide +kernel)
theorem tw_774 : (Cond.selects RX5 yX5_poke yX5_poke) ∈ oa_T := oa_mem (i := 774) (by decide +kernel) (by decide +kernel)
theorem tw_775 : (Cond.code yX5_poke cX5_poke 4 (some .int)) ∈ oa_T := oa_mem (i := 775) (by decide +kernel) (by decide +kernel)
theorem tw_776 : (Cond.methodLink RL 81 yX5_peek) ∈ oa_T := oa_mem (i := 776) (by decide +kernel) (by decide +kernel)
theorem tw_777 : (Cond.instanceMethod yX5_peek) ∈ oa_T := oa_mem (i := 777) (by decide +kernel) (by decide +kernel)
theorem tw_778 : (Cond.selects RX5 yX5_peek yX5_peek) ∈ oa_T := oa_mem (i := 778) (by decide +kernel) (by decide +kernel)
theorem tw_779 : (Cond.code yX5_peek cX5_peek 2 (some .int)) ∈ oa_T := oa_mem (i := 779) (by decide +kernel) (by decide +kernel)
theorem tw_780 : (Cond.methodLink RL 84 yX5_decode) ∈ oa_T := oa_mem (i := 780) (by decide +kernel) (by decide +kernel)
theorem tw_781 : (Cond.instanceMethod yX5_decode) ∈ oa_T := oa_mem (i := 781) (by decide +kernel) (by decide +kernel)
theorem tw_782 : (Cond.selects RX5 yX5_decode yX5_decode) ∈ oa_T := oa_mem (i := 782) (by decide +kernel) (by decide +kernel)
theorem tw_783 : (Cond.code yX5_decode cX5_decode 2 (some .int)) ∈ oa_T := oa_mem (i := 783) (by decide +kernel) (by decide +kernel)
theorem tw_800 : (Cond.methodLink RL 87 yX5_value) ∈ oa_T := oa_mem (i := 800) (by decide +kernel) (by decide +kernel)
theorem tw_801 : (Cond.instanceMethod yX5_value) ∈ oa_T := oa_mem (i := 801) (by decide +kernel) (by decide +kernel)
theorem tw_802 : (Cond.selects RX5 yX5_value yX5_value) ∈ oa_T := oa_mem (i := 802) (by decide +kernel) (by decide +kernel)
theorem tw_803 : (Cond.code yX5_value cX5_value 4 (some .int)) ∈ oa_T := oa_mem (i := 803) (by decide +kernel) (by decide +kernel)
theorem tw_808 : (Cond.methodLink RL 90 yX5_write) ∈ oa_T := oa_mem (i := 808) (by decide +kernel) (by decide +kernel)
theorem tw_809 : (Cond.instanceMethod yX5_write) ∈ oa_T := oa_mem (i := 809) (by decide +kernel) (by decide +kernel)
theorem tw_810 : (Cond.selects RX5 yX5_write yX5_write) ∈ oa_T := oa_mem (i := 810) (by decide +kernel) (by decide +kernel)
theorem tw_811 : (Cond.code yX5_write cX5_write 4 (some .int)) ∈ oa_T := oa_mem (i := 811) (by decide +kernel) (by decide +kernel)
theorem tw_824 : (Cond.methodLink RL 95 yX5_written) ∈ oa_T := oa_mem (i := 824) (by decide +kernel) (by decide +kernel)
theorem tw_825 : (Cond.instanceMethod yX5_written) ∈ oa_T := oa_mem (i := 825) (by decide +kernel) (by decide +kernel)
theorem tw_826 : (Cond.selects RX5 yX5_written yX5_written) ∈ oa_T := oa_mem (i := 826) (by decide +kernel) (by decide +kernel)
theorem tw_827 : (Cond.code yX5_written cX5_written 2 (some .char)) ∈ oa_T := oa_mem (i := 827) (by decide +kernel) (by decide +kernel)
theorem tw_828 : (Cond.methodLink RL 98 yX5_line) ∈ oa_T := oa_mem (i := 828) (by decide +kernel) (by decide +kernel)
theorem tw_829 : (Cond.instanceMethod yX5_line) ∈ oa_T := oa_mem (i := 829) (by decide +kernel) (by decide +kernel)
theorem tw_830 : (Cond.selects RX5 yX5_line yX5_line) ∈ oa_T := oa_mem (i := 830) (by decide +kernel) (by decide +kernel)
theorem tw_831 : (Cond.code yX5_line cX5_line 5 (some .int)) ∈ oa_T := oa_mem (i := 831) (by decide +kernel) (by decide +kernel)
theorem tw_846 : (Cond.methodLink RL 102 yX5_erase) ∈ oa_T := oa_mem (i := 846) (by decide +kernel) (by decide +kernel)
theorem tw_847 : (Cond.instanceMethod yX5_erase) ∈ oa_T := oa_mem (i := 847) (by decide +kernel) (by decide +kernel)
theorem tw_848 : (Cond.selects RX5 yX5_erase yX5_erase) ∈ oa_T := oa_mem (i := 848) (by decide +kernel) (by decide +kernel)
theorem tw_849 : (Cond.code yX5_erase cX5_erase 2 (some .int)) ∈ oa_T := oa_mem (i := 849) (by decide +kernel) (by decide +kernel)
theorem tw_850 : (Cond.methodLink RL 105 yX5_assemble) ∈ oa_T := oa_mem (i := 850) (by decide +kernel) (by decide +kernel)
theorem tw_851 : (Cond.instanceMethod yX5_assemble) ∈ oa_T := oa_mem (i := 851) (by decide +kernel) (by decide +kernel)
theorem tw_852 : (Cond.selects RX5 yX5_assemble yX5_assemble) ∈ oa_T := oa_mem (i := 852) (by decide +kernel) (by decide +kernel)
theorem tw_853 : (Cond.code yX5_assemble cX5_assemble 5 (some .int)) ∈ oa_T := oa_mem (i := 853) (by decide +kernel) (by decide +kernel)
theorem tw_870 : (Cond.methodLink RL 109 yX5_fault) ∈ oa_T := oa_mem (i := 870) (by decide +kernel) (by decide +kernel)
theorem tw_871 : (Cond.instanceMethod yX5_fault) ∈ oa_T := oa_mem (i := 871) (by decide +kernel) (by decide +kernel)
theorem tw_872 : (Cond.selects RX5 yX5_fault yX5_fault) ∈ oa_T := oa_mem (i := 872) (by decide +kernel) (by decide +kernel)
theorem tw_873 : (Cond.code yX5_fault cX5_fault 1 (some .int)) ∈ oa_T := oa_mem (i := 873) (by decide +kernel) (by decide +kernel)
theorem tw_874 : (Cond.methodLink RL 113 yX5_count) ∈ oa_T := oa_mem (i := 874) (by decide +kernel) (by decide +kernel)
theorem tw_875 : (Cond.instanceMethod yX5_count) ∈ oa_T := oa_mem (i := 875) (by decide +kernel) (by decide +kernel)
theorem tw_876 : (Cond.selects RX5 yX5_count yX5_count) ∈ oa_T := oa_mem (i := 876) (by decide +kernel) (by decide +kernel)
theorem tw_877 : (Cond.code yX5_count cX5_count 2 (some .int)) ∈ oa_T := oa_mem (i := 877) (by decide +kernel) (by decide +kernel)
/-- what the two sides answer, call by call, wherever the invariant holds -/
def oa_S0 (I : oa_M → Prop) : Prop := ∀ (a1 : Int32) (M : oa_M), I M → ∃ (n n' : Nat) (r : Int32) (M1 M2 : oa_M), FX4_type n (oa_i2c a1) M = some (r, M1) ∧ FX5_type n' (oa_i2c a1) M1 = some (r, M2) ∧ I M2
def oa_S1 (I : oa_M → Prop) : Prop := ∀ (M : oa_M), I M → ∃ (n n' : Nat) (k : Int32) (M1 : oa_M) (b : Int32) (M2 : oa_M), FL_form n  M = some (k, M1) ∧ FX5_form n'  M1 = some (b, M2) ∧ M2 20 0 30 = k ∧ (k = 0 → M2 50 0 0 = b) ∧ I M2
def oa_S2 (I : oa_M → Prop) : Prop := ∀ (a1 : Int32) (a2 : Int32) (a3 : Int32) (a4 : Int32) (a5 : Int32) (M : oa_M), I M → ∃ (n n' : Nat) (k : Int32) (M1 : oa_M) (b : Int32) (M2 : oa_M), FL_operand n a1 a2 a3 a4 a5 M = some (k, M1) ∧ FX5_operand n' a1 a2 a3 a4 a5 M1 = some (b, M2) ∧ M2 20 0 30 = k ∧ (k = 0 → M2 50 0 0 = b) ∧ I M2
def oa_S3 (I : oa_M → Prop) : Prop := ∀ (M : oa_M), I M → ∃ (n n' : Nat) (r : Int32) (M1 M2 : oa_M), FX4_test n  M = some (r, M1) ∧ FX5_test n'  M1 = some (r, M2) ∧ I M2
def oa_S4 (I : oa_M → Prop) : Prop := ∀ (a1 : Int32) (a2 : Int32) (M : oa_M), I M → ∃ (n n' : Nat) (k : Int32) (M1 : oa_M) (b : Int32) (M2 : oa_M), FL_poke n a1 a2 M = some (k, M1) ∧ FX5_poke n' a1 a2 M1 = some (b, M2) ∧ M2 20 0 30 = k ∧ (k = 0 → M2 50 0 0 = b) ∧ I M2
def oa_S5 (I : oa_M → Prop) : Prop := ∀ (a1 : Int32) (M : oa_M), I M → ∃ (n n' : Nat) (k : Int32) (M1 : oa_M) (b : Int32) (M2 : oa_M), FL_peek n a1 M = some (k, M1) ∧ FX5_peek n' a1 M1 = some (b, M2) ∧ M2 20 0 30 = k ∧ (k = 0 → M2 50 0 0 = b) ∧ I M2
def oa_S6 (I : oa_M → Prop) : Prop := ∀ (a1 : Int32) (M : oa_M), I M → ∃ (n n' : Nat) (k : Int32) (M1 : oa_M) (b : Int32) (M2 : oa_M), FL_decode n a1 M = some (k, M1) ∧ FX5_decode n' a1 M1 = some (b, M2) ∧ M2 20 0 30 = k ∧ (k = 0 → M2 50 0 0 = b) ∧ I M2
def oa_S7 (I : oa_M → Prop) : Prop := ∀ (a1 : Int32) (a2 : Int32) (M : oa_M), I M → ∃ (n n' : Nat) (k : Int32) (M1 : oa_M) (b : Int32) (M2 : oa_M), FL_value n a1 a2 M = some (k, M1) ∧ FX5_value n' a1 a2 M1 = some (b, M2) ∧ M2 20 0 30 = k ∧ (k = 0 → M2 50 0 0 = b) ∧ I M2
def oa_S8 (I : oa_M → Prop) : Prop := ∀ (a1 : Int32) (M : oa_M), I M → ∃ (n n' : Nat) (k : Int32) (M1 : oa_M) (b : Int32) (M2 : oa_M), FL_write n a1 M = some (k, M1) ∧ FX5_write n' a1 M1 = some (b, M2) ∧ M2 20 0 30 = k ∧ (k = 0 → M2 50 0 0 = b) ∧ I M2
def oa_S9 (I : oa_M → Prop) : Prop := ∀ (a1 : Int32) (M : oa_M), I M → ∃ (n n' : Nat) (r : Int32) (M1 M2 : oa_M), FX4_written n a1 M = some (r, M1) ∧ FX5_written n' a1 M1 = some (r, M2) ∧ I M2
def oa_S10 (I : oa_M → Prop) : Prop := ∀ (M : oa_M), I M → ∃ (n n' : Nat) (k : Int32) (M1 : oa_M) (b : Int32) (M2 : oa_M), FL_line n  M = some (k, M1) ∧ FX5_line n'  M1 = some (b, M2) ∧ M2 20 0 30 = k ∧ (k = 0 → M2 50 0 0 = b) ∧ I M2
def oa_S11 (I : oa_M → Prop) : Prop := ∀ (M : oa_M), I M → ∃ (n n' : Nat) (r : Int32) (M1 M2 : oa_M), FX4_erase n  M = some (r, M1) ∧ FX5_erase n'  M1 = some (r, M2) ∧ I M2
def oa_S12 (I : oa_M → Prop) : Prop := ∀ (a1 : Int32) (M : oa_M), I M → ∃ (n n' : Nat) (k : Int32) (M1 : oa_M) (b : Int32) (M2 : oa_M), FL_assemble n a1 M = some (k, M1) ∧ FX5_assemble n' a1 M1 = some (b, M2) ∧ M2 20 0 30 = k ∧ (k = 0 → M2 50 0 0 = b) ∧ I M2
def oa_S13 (I : oa_M → Prop) : Prop := ∀ (M : oa_M), I M → ∃ (n n' : Nat) (r : Int32) (M1 M2 : oa_M), FX4_fault n  M = some (r, M1) ∧ FX5_fault n'  M1 = some (r, M2) ∧ I M2
def oa_S14 (I : oa_M → Prop) : Prop := ∀ (a1 : Int32) (M : oa_M), I M → ∃ (n n' : Nat) (r : Int32) (M1 M2 : oa_M), FX4_count n a1 M = some (r, M1) ∧ FX5_count n' a1 M1 = some (r, M2) ∧ I M2
def oa_Sim (I : oa_M → Prop) : Prop := oa_S0 I ∧ oa_S1 I ∧ oa_S2 I ∧ oa_S3 I ∧ oa_S4 I ∧ oa_S5 I ∧ oa_S6 I ∧ oa_S7 I ∧ oa_S8 I ∧ oa_S9 I ∧ oa_S10 I ∧ oa_S11 I ∧ oa_S12 I ∧ oa_S13 I ∧ oa_S14 I
theorem oa_gH {own : String} {idx : Nat} {y : MethodName} {b : ByteArray} {n : Nat} {r : Option FieldType} {hh : List (Nat × Nat × Nat × Nat)} (h1 : Cond.methodLink own idx y ∈ oa_T) (h2 : Cond.static y ∈ oa_T) (h4 : Cond.initialized y.cls ∈ oa_T) (h5 : Cond.codeWith y b n r hh ∈ oa_T) : GoodIn oa_T (va_wsS own idx y (oa_wH y b n r hh)) := fun w h => by
  rcases List.mem_append.mp h with h | h
  · simp only [List.mem_cons, List.not_mem_nil, or_false] at h
    rcases h with rfl | rfl | rfl
    · exact oa_good h1
    · exact oa_good h2
    · exact oa_good h4
  · rcases List.mem_cons.mp h with rfl | h
    · exact oa_good h5
    · exact oa_good h
/-- what holds all along the law -/
def oa_Lw (p : Program) (l : Launch) (s : State) (m : MethodId) (meth : Method) (c : Code) (b L : Nat) (xs : Nat → Int32) (D : va_G) (ca : Nat → ClassId) (ad : Nat → Nat → Nat) (b0 : Nat) : Prop := p.tables.exec = Jvm.exec ∧ c.code = cL_law ∧ meth.sig.returnType = ret ∧ c.maxLocals = 7 ∧ s.vm.findClass RL = some m.cls ∧ (∀ w ∈ oa_T, w.before #[Value.ref b] s = true) ∧ va_X b L xs s s.heap ∧ b < s.heap.size ∧ meth.locks = false ∧ oa_E D ca b0 s ∧ oa_W ad b0 ∧ b0 = s.heap.size ∧ l.stackTraces = false
set_option maxHeartbeats 4000000 in
set_option maxRecDepth 100000 in
theorem lw_case0 {p : Program} {l : Launch} {e : Env} {s : State} {m : MethodId} {below : List Frame} {meth : Method} {c : Code} {b L : Nat} {xs : Nat → Int32} {D : va_G} {ca : Nat → ClassId} {ad : Nat → Nat → Nat} {b0 : Nat} {Q : State → Prop} (C : oa_Lw p l s m meth c b L xs D ca ad b0) {I : oa_M → Prop} (hsim : oa_S0 I) {cells slots : Nat} (hcl : cells + 3 ≤ 600096) (hsl : slots + 18 ≤ 7301385) (x4 : Int32) (hin1 : vp_in (x4 + (1 : Int32)) L) (hin2 : vp_in (x4 + (2 : Int32)) L) (hin3 : vp_in (x4 + (3 : Int32)) L) (hin4 : vp_in (x4 + (4 : Int32)) L) (hin5 : vp_in (x4 + (5 : Int32)) L) (kk : ∀ (M : oa_M), I M → ∀ (H : Heap) (locs : List Loc), oa_H D ca ad M H → va_S (fun q => b0 ≤ q) s.heap H locs → ∀ (ls : Array Slot), lv_has ls 7 [(0, .ref b), (1, .ref (ad 0 0)), (2, .ref (ad 20 0)), (3, .ref (ad 50 0)), (4, .int x4)] → W p l e room_1 s m #[Value.ref b] below meth c H locs (cells + 3) (slots + 18) Q (F0 m 784 ls [])) (M : oa_M) (hI : I M) (H : Heap) (locs : List Loc) (hH : oa_H D ca ad M H) (hS : va_S (fun q => b0 ≤ q) s.heap H locs) (ls : Array Slot) (hl : lv_has ls 7 [(0, .ref b), (1, .ref (ad 0 0)), (2, .ref (ad 20 0)), (3, .ref (ad 50 0)), (4, .int x4)]) : W p l e room_1 s m #[Value.ref b] below meth c H locs cells slots Q (F0 m 116 ls []) := by
  obtain ⟨hx, hb, hr, hml, hown, hts, hX, hbl, hlocks, hE, hw, hb0, hl0⟩ := id C
  have hbA : ¬ (fun q : Nat => b0 ≤ q) b := by rw [hb0]; exact Nat.not_le.mpr hbl
  obtain ⟨n1, n2, r, M1, M2, h1, h2, hI2⟩ := hsim (xs (x4 + (1 : Int32)).toNatClampNeg) M hI
  refine lv_aload_n hx hb dL_law_116 rfl (lv_at hl 1 rfl) ?_
  refine lv_aload_n hx hb dL_law_117 rfl (lv_at hl 0 rfl) ?_
  refine lv_iload hx hb dL_law_118 (lv_at hl 4 rfl) ?_
  refine lv_iconst (v := (1 : Int32)) hx hb dL_law_120 (by decide) ?_
  refine lv_iadd hx hb dL_law_121 ?_
  refine va_sld hx hb hX hbl hbA hS hin1 dL_law_122 ?_
  refine lv_i2c (v := (oa_i2c (xs (x4 + (1 : Int32)).toNatClampNeg))) hx hb dL_law_123 rfl ?_
  refine oa_cvi (As := [.int (oa_i2c (xs (x4 + (1 : Int32)).toNatClampNeg))]) (rest := []) ⟨hx, hb, hml, hown, hts⟩ (cX4_type_ok l D ca ad b0 hw n1 (oa_i2c (xs (x4 + (1 : Int32)).toNatClampNeg)) M r M1 h1) (cwV 1 hts (oa_gV tw_204 tw_205 tw_206 tw_44 tw_207) rfl rfl rfl (by decide +kernel) ⟨Nat.le_of_ble_eq_true rfl, Nat.le_of_ble_eq_true rfl⟩) hE hH hS (oa_recv (k := 0) (ci := 4) hE hH (by decide) rfl rfl) rfl hl.1 rfl (Nat.le_of_ble_eq_true rfl) dL_law_124 ⟨by show cells ≤ 600096; omega, by show slots ≤ 7301385; omega⟩ (fun H locs hH hS => ?_)
  refine lv_aload_n hx hb dL_law_127 rfl (lv_at hl 2 rfl) ?_
  refine lv_aload_n hx hb dL_law_128 rfl (lv_at hl 0 rfl) ?_
  refine lv_iload hx hb dL_law_129 (lv_at hl 4 rfl) ?_
  refine lv_iconst (v := (1 : Int32)) hx hb dL_law_131 (by decide) ?_
  refine lv_iadd hx hb dL_law_132 ?_
  refine va_sld hx hb hX hbl hbA hS hin1 dL_law_133 ?_
  refine lv_i2c (v := (oa_i2c (xs (x4 + (1 : Int32)).toNatClampNeg))) hx hb dL_law_134 rfl ?_
  refine oa_cvi (As := [.int (oa_i2c (xs (x4 + (1 : Int32)).toNatClampNeg))]) (rest := [.int r]) ⟨hx, hb, hml, hown, hts⟩ (cX5_type_ok l D ca ad b0 hw n2 (oa_i2c (xs (x4 + (1 : Int32)).toNatClampNeg)) M1 r M2 h2) (cwV 1 hts (oa_gV tw_714 tw_715 tw_716 tw_49 tw_717) rfl rfl rfl (by decide +kernel) ⟨Nat.le_of_ble_eq_true rfl, Nat.le_of_ble_eq_true rfl⟩) hE hH hS (oa_recv (k := 20) (ci := 5) hE hH (by decide) rfl rfl) rfl hl.1 rfl (Nat.le_of_ble_eq_true rfl) dL_law_135 ⟨by show cells ≤ 600096; omega, by show slots ≤ 7301385; omega⟩ (fun H locs hH hS => ?_)
  refine lv_icmp_eq (tgt := 784) hx hb dL_law_138 (by decide) (fun _ => ?_) (fun h => absurd rfl h)
  refine W.widen (k := cells + 3) (n := slots + 18) (by omega) (by omega) ?_
  exact kk M2 hI2 _ _ hH hS _ hl
set_option maxHeartbeats 4000000 in
set_option maxRecDepth 100000 in
theorem lw_case1 {p : Program} {l : Launch} {e : Env} {s : State} {m : MethodId} {below : List Frame} {meth : Method} {c : Code} {b L : Nat} {xs : Nat → Int32} {D : va_G} {ca : Nat → ClassId} {ad : Nat → Nat → Nat} {b0 : Nat} {Q : State → Prop} (C : oa_Lw p l s m meth c b L xs D ca ad b0) {I : oa_M → Prop} (hsim : oa_S1 I) {cells slots : Nat} (hcl : cells + 3 ≤ 600096) (hsl : slots + 18 ≤ 7301385) (x4 : Int32) (hin1 : vp_in (x4 + (1 : Int32)) L) (hin2 : vp_in (x4 + (2 : Int32)) L) (hin3 : vp_in (x4 + (3 : Int32)) L) (hin4 : vp_in (x4 + (4 : Int32)) L) (hin5 : vp_in (x4 + (5 : Int32)) L) (kk : ∀ (ad : Nat → Nat → Nat), oa_W ad b0 → ∀ (M : oa_M), I M → ∀ (H : Heap) (locs : List Loc), oa_H D ca ad M H → va_S (fun q => b0 ≤ q) s.heap H locs → ∀ (ls : Array Slot), lv_has ls 7 [(0, .ref b), (1, .ref (ad 0 0)), (2, .ref (ad 20 0)), (3, .ref (ad 50 0)), (4, .int x4)] → W p l e room_1 s m #[Value.ref b] below meth c H locs (cells + 3) (slots + 18) Q (F0 m 784 ls [])) (M : oa_M) (hI : I M) (H : Heap) (locs : List Loc) (hH : oa_H D ca ad M H) (hS : va_S (fun q => b0 ≤ q) s.heap H locs) (ls : Array Slot) (hl : lv_has ls 7 [(0, .ref b), (1, .ref (ad 0 0)), (2, .ref (ad 20 0)), (3, .ref (ad 50 0)), (4, .int x4)]) : W p l e room_1 s m #[Value.ref b] below meth c H locs cells slots Q (F0 m 143 ls []) := by
  obtain ⟨hx, hb, hr, hml, hown, hts, hX, hbl, hlocks, hE, hw, hb0, hl0⟩ := id C
  have hbA : ¬ (fun q : Nat => b0 ≤ q) b := by rw [hb0]; exact Nat.not_le.mpr hbl
  obtain ⟨n1, n2, kc, M1, bv, M2, h1, h2, htr, hout, hI2⟩ := hsim  M hI
  refine lv_aload_n hx hb dL_law_143 rfl (lv_at hl 1 rfl) ?_
  refine lv_aload_n hx hb dL_law_144 rfl (lv_at hl 3 rfl) ?_
  refine va_calli (vx_runSW (hh := [(0, 8, 11, 13), (0, 8, 14, 15)]) (As := [.ref (ad 0 0), .ref (ad 50 0)]) (rest := []) ⟨hx, hb, hml, hown, hts⟩ (cL_form_ok l hl0 D ca ad b0 hw n1  M kc M1 h1) (vx_cwSW 2 hts (oa_gH tw_254 tw_255 tw_43 tw_256) rfl rfl rfl (by decide +kernel) ⟨Nat.le_of_ble_eq_true rfl, Nat.le_of_ble_eq_true rfl⟩) ⟨oa_blind D ca ad b0 M _, fun U hU hW => ⟨rfl, by rw [hU]; exact hH, hE.call hS hU hW⟩⟩ rfl rfl hl.1 rfl (lv_room (Nat.le_of_ble_eq_true rfl)) dL_law_145 ⟨by show cells + 1 ≤ 600096; omega, by show slots + 6 * 1 ≤ 7301385; omega⟩) hS (fun q _ h => h) (fun q h => h) (fun r9 u t H1 locs1 ht hvm hw1 hB hz1 hk1 hS1 => ?_)
  obtain ⟨rfl, rfl⟩ := hw1
  rw [ht] at hB
  obtain ⟨ad, hk9, hH⟩ := hB
  rw [← hk9.2.1, ← hk9.2.2.1, ← hk9.2.2.2] at hl
  have hw := hk9.1
  have hS := hS1
  refine lv_istore (lv' := [(5, .int r9), (0, .ref b), (1, .ref (ad 0 0)), (2, .ref (ad 20 0)), (3, .ref (ad 50 0)), (4, .int x4)]) hx hb dL_law_148 hl (by decide) rfl (fun ls hl => ?_)
  refine lv_aload_n hx hb dL_law_150 rfl (lv_at hl 3 rfl) ?_
  refine oa_cvi (As := []) (rest := []) ⟨hx, hb, hml, hown, hts⟩ (cX5_form_ok l D ca ad b0 hw n2  _ bv M2 h2) (cwV 0 hts (oa_gV tw_718 tw_719 tw_720 tw_49 tw_721) rfl rfl rfl (by decide +kernel) ⟨Nat.le_of_ble_eq_true rfl, Nat.le_of_ble_eq_true rfl⟩) hE hH hS (oa_recv (k := 20) (ci := 5) hE hH (by decide) rfl rfl) rfl hl.1 rfl (Nat.le_of_ble_eq_true rfl) dL_law_151 ⟨by show cells + 1 ≤ 600096; omega, by show slots + 6 * 1 ≤ 7301385; omega⟩ (fun H locs hH hS => ?_)
  refine lv_istore (lv' := [(6, .int bv), (5, .int r9), (0, .ref b), (1, .ref (ad 0 0)), (2, .ref (ad 20 0)), (3, .ref (ad 50 0)), (4, .int x4)]) hx hb dL_law_154 hl (by decide) rfl (fun ls hl => ?_)
  refine lv_aload_n hx hb dL_law_156 rfl (lv_at hl 4 rfl) ?_
  refine oa_cvi (As := []) (rest := []) ⟨hx, hb, hml, hown, hts⟩ (cX5_thrown_ok l D ca ad b0 hw 0  M2 (M2 20 0 30) M2 rfl) (cwV 0 hts (oa_gV tw_710 tw_711 tw_712 tw_49 tw_713) rfl rfl rfl (by decide +kernel) ⟨Nat.le_of_ble_eq_true rfl, Nat.le_of_ble_eq_true rfl⟩) hE hH hS (oa_recv (k := 20) (ci := 5) hE hH (by decide) rfl rfl) rfl hl.1 rfl (Nat.le_of_ble_eq_true rfl) dL_law_157 ⟨by show cells + 1 ≤ 600096; omega, by show slots + 6 * 1 ≤ 7301385; omega⟩ (fun H locs hH hS => ?_)
  refine lv_iload hx hb dL_law_160 (lv_at hl 1 rfl) ?_
  refine lv_icmp_eq (tgt := 167) hx hb dL_law_162 (by decide) (fun _ => ?_) (fun h => absurd htr h)
  refine lv_iload hx hb dL_law_167 (lv_at hl 1 rfl) ?_
  have kd : W p l e room_1 s m #[Value.ref b] below meth c H locs (cells + 1) (slots + 6 * 1) Q (F0 m 184 ls []) := by
    refine lv_goto (tgt := 784) hx hb dL_law_184 (by decide) ?_
    refine W.widen (k := cells + 3) (n := slots + 18) (by omega) (by omega) ?_
    exact kk ad hw M2 hI2 _ _ hH hS _ (lv_sub hl [2, 3, 4, 5, 6] rfl)
  refine lv_if_ne (tgt := 184) hx hb dL_law_169 (by decide) (fun _ => kd) (fun hk0 => ?_)
  refine lv_aload_n hx hb dL_law_172 rfl (lv_at hl 5 rfl) ?_
  refine lv_iconst (v := (0 : Int32)) hx hb dL_law_173 (by decide) ?_
  refine oa_lld hx hb hE hH dL_law_174 ?_
  refine lv_iload hx hb dL_law_175 (lv_at hl 0 rfl) ?_
  refine lv_i2l (v := bv.toInt64) hx hb dL_law_177 rfl ?_
  refine W.lcmp hx hb dL_law_178 ?_
  refine lv_if_eq (tgt := 184) hx hb dL_law_179 (by decide) (fun _ => kd) (fun h => absurd ((lg_cmp_eq _ _).mpr (by rw [hout hk0])) h)
set_option maxHeartbeats 4000000 in
set_option maxRecDepth 100000 in
theorem lw_case2 {p : Program} {l : Launch} {e : Env} {s : State} {m : MethodId} {below : List Frame} {meth : Method} {c : Code} {b L : Nat} {xs : Nat → Int32} {D : va_G} {ca : Nat → ClassId} {ad : Nat → Nat → Nat} {b0 : Nat} {Q : State → Prop} (C : oa_Lw p l s m meth c b L xs D ca ad b0) {I : oa_M → Prop} (hsim : oa_S2 I) {cells slots : Nat} (hcl : cells + 3 ≤ 600096) (hsl : slots + 18 ≤ 7301385) (x4 : Int32) (hin1 : vp_in (x4 + (1 : Int32)) L) (hin2 : vp_in (x4 + (2 : Int32)) L) (hin3 : vp_in (x4 + (3 : Int32)) L) (hin4 : vp_in (x4 + (4 : Int32)) L) (hin5 : vp_in (x4 + (5 : Int32)) L) (kk : ∀ (M : oa_M), I M → ∀ (H : Heap) (locs : List Loc), oa_H D ca ad M H → va_S (fun q => b0 ≤ q) s.heap H locs → ∀ (ls : Array Slot), lv_has ls 7 [(0, .ref b), (1, .ref (ad 0 0)), (2, .ref (ad 20 0)), (3, .ref (ad 50 0)), (4, .int x4)] → W p l e room_1 s m #[Value.ref b] below meth c H locs (cells + 3) (slots + 18) Q (F0 m 784 ls [])) (M : oa_M) (hI : I M) (H : Heap) (locs : List Loc) (hH : oa_H D ca ad M H) (hS : va_S (fun q => b0 ≤ q) s.heap H locs) (ls : Array Slot) (hl : lv_has ls 7 [(0, .ref b), (1, .ref (ad 0 0)), (2, .ref (ad 20 0)), (3, .ref (ad 50 0)), (4, .int x4)]) : W p l e room_1 s m #[Value.ref b] below meth c H locs cells slots Q (F0 m 187 ls []) := by
  obtain ⟨hx, hb, hr, hml, hown, hts, hX, hbl, hlocks, hE, hw, hb0, hl0⟩ := id C
  have hbA : ¬ (fun q : Nat => b0 ≤ q) b := by rw [hb0]; exact Nat.not_le.mpr hbl
  obtain ⟨n1, n2, kc, M1, bv, M2, h1, h2, htr, hout, hI2⟩ := hsim (xs (x4 + (1 : Int32)).toNatClampNeg) (xs (x4 + (2 : Int32)).toNatClampNeg) (xs (x4 + (3 : Int32)).toNatClampNeg) (xs (x4 + (4 : Int32)).toNatClampNeg) (xs (x4 + (5 : Int32)).toNatClampNeg) M hI
  refine lv_aload_n hx hb dL_law_187 rfl (lv_at hl 1 rfl) ?_
  refine lv_aload_n hx hb dL_law_188 rfl (lv_at hl 0 rfl) ?_
  refine lv_iload hx hb dL_law_189 (lv_at hl 4 rfl) ?_
  refine lv_iconst (v := (1 : Int32)) hx hb dL_law_191 (by decide) ?_
  refine lv_iadd hx hb dL_law_192 ?_
  refine va_sld hx hb hX hbl hbA hS hin1 dL_law_193 ?_
  refine lv_aload_n hx hb dL_law_194 rfl (lv_at hl 0 rfl) ?_
  refine lv_iload hx hb dL_law_195 (lv_at hl 4 rfl) ?_
  refine lv_iconst (v := (2 : Int32)) hx hb dL_law_197 (by decide) ?_
  refine lv_iadd hx hb dL_law_198 ?_
  refine va_sld hx hb hX hbl hbA hS hin2 dL_law_199 ?_
  refine lv_aload_n hx hb dL_law_200 rfl (lv_at hl 0 rfl) ?_
  refine lv_iload hx hb dL_law_201 (lv_at hl 4 rfl) ?_
  refine lv_iconst (v := (3 : Int32)) hx hb dL_law_203 (by decide) ?_
  refine lv_iadd hx hb dL_law_204 ?_
  refine va_sld hx hb hX hbl hbA hS hin3 dL_law_205 ?_
  refine lv_aload_n hx hb dL_law_206 rfl (lv_at hl 0 rfl) ?_
  refine lv_iload hx hb dL_law_207 (lv_at hl 4 rfl) ?_
  refine lv_iconst (v := (4 : Int32)) hx hb dL_law_209 (by decide) ?_
  refine lv_iadd hx hb dL_law_210 ?_
  refine va_sld hx hb hX hbl hbA hS hin4 dL_law_211 ?_
  refine lv_aload_n hx hb dL_law_212 rfl (lv_at hl 0 rfl) ?_
  refine lv_iload hx hb dL_law_213 (lv_at hl 4 rfl) ?_
  refine lv_iconst (v := (5 : Int32)) hx hb dL_law_215 (by decide) ?_
  refine lv_iadd hx hb dL_law_216 ?_
  refine va_sld hx hb hX hbl hbA hS hin5 dL_law_217 ?_
  refine lv_aload_n hx hb dL_law_218 rfl (lv_at hl 3 rfl) ?_
  refine va_calli (vx_runSW (hh := [(0, 16, 19, 13)]) (As := [.ref (ad 0 0), .int (xs (x4 + (1 : Int32)).toNatClampNeg), .int (xs (x4 + (2 : Int32)).toNatClampNeg), .int (xs (x4 + (3 : Int32)).toNatClampNeg), .int (xs (x4 + (4 : Int32)).toNatClampNeg), .int (xs (x4 + (5 : Int32)).toNatClampNeg), .ref (ad 50 0)]) (rest := []) ⟨hx, hb, hml, hown, hts⟩ (cL_operand_ok l hl0 D ca ad b0 hw n1 (xs (x4 + (1 : Int32)).toNatClampNeg) (xs (x4 + (2 : Int32)).toNatClampNeg) (xs (x4 + (3 : Int32)).toNatClampNeg) (xs (x4 + (4 : Int32)).toNatClampNeg) (xs (x4 + (5 : Int32)).toNatClampNeg) M kc M1 h1) (vx_cwSW 7 hts (oa_gH tw_395 tw_396 tw_43 tw_397) rfl rfl rfl (by decide +kernel) ⟨Nat.le_of_ble_eq_true rfl, Nat.le_of_ble_eq_true rfl⟩) ⟨oa_blind D ca ad b0 M _, fun U hU hW => ⟨rfl, by rw [hU]; exact hH, hE.call hS hU hW⟩⟩ rfl rfl hl.1 rfl (lv_room (Nat.le_of_ble_eq_true rfl)) dL_law_219 ⟨by show cells + 1 ≤ 600096; omega, by show slots + 6 * 1 ≤ 7301385; omega⟩) hS (fun q _ h => h) (fun q h => h) (fun r9 u t H1 locs1 ht hvm hw1 hB hz1 hk1 hS1 => ?_)
  obtain ⟨rfl, rfl⟩ := hw1
  rw [ht] at hB
  have hH := hB
  have hS := hS1
  refine lv_istore (lv' := [(5, .int r9), (0, .ref b), (1, .ref (ad 0 0)), (2, .ref (ad 20 0)), (3, .ref (ad 50 0)), (4, .int x4)]) hx hb dL_law_222 hl (by decide) rfl (fun ls hl => ?_)
  refine lv_aload_n hx hb dL_law_224 rfl (lv_at hl 3 rfl) ?_
  refine lv_aload_n hx hb dL_law_225 rfl (lv_at hl 1 rfl) ?_
  refine lv_iload hx hb dL_law_226 (lv_at hl 5 rfl) ?_
  refine lv_iconst (v := (1 : Int32)) hx hb dL_law_228 (by decide) ?_
  refine lv_iadd hx hb dL_law_229 ?_
  refine va_sld hx hb hX hbl hbA hS hin1 dL_law_230 ?_
  refine lv_aload_n hx hb dL_law_231 rfl (lv_at hl 1 rfl) ?_
  refine lv_iload hx hb dL_law_232 (lv_at hl 5 rfl) ?_
  refine lv_iconst (v := (2 : Int32)) hx hb dL_law_234 (by decide) ?_
  refine lv_iadd hx hb dL_law_235 ?_
  refine va_sld hx hb hX hbl hbA hS hin2 dL_law_236 ?_
  refine lv_aload_n hx hb dL_law_237 rfl (lv_at hl 1 rfl) ?_
  refine lv_iload hx hb dL_law_238 (lv_at hl 5 rfl) ?_
  refine lv_iconst (v := (3 : Int32)) hx hb dL_law_240 (by decide) ?_
  refine lv_iadd hx hb dL_law_241 ?_
  refine va_sld hx hb hX hbl hbA hS hin3 dL_law_242 ?_
  refine lv_aload_n hx hb dL_law_243 rfl (lv_at hl 1 rfl) ?_
  refine lv_iload hx hb dL_law_244 (lv_at hl 5 rfl) ?_
  refine lv_iconst (v := (4 : Int32)) hx hb dL_law_246 (by decide) ?_
  refine lv_iadd hx hb dL_law_247 ?_
  refine va_sld hx hb hX hbl hbA hS hin4 dL_law_248 ?_
  refine lv_aload_n hx hb dL_law_249 rfl (lv_at hl 1 rfl) ?_
  refine lv_iload hx hb dL_law_250 (lv_at hl 5 rfl) ?_
  refine lv_iconst (v := (5 : Int32)) hx hb dL_law_252 (by decide) ?_
  refine lv_iadd hx hb dL_law_253 ?_
  refine va_sld hx hb hX hbl hbA hS hin5 dL_law_254 ?_
  refine oa_cvi (As := [.int (xs (x4 + (1 : Int32)).toNatClampNeg), .int (xs (x4 + (2 : Int32)).toNatClampNeg), .int (xs (x4 + (3 : Int32)).toNatClampNeg), .int (xs (x4 + (4 : Int32)).toNatClampNeg), .int (xs (x4 + (5 : Int32)).toNatClampNeg)]) (rest := []) ⟨hx, hb, hml, hown, hts⟩ (cX5_operand_ok l D ca ad b0 hw n2 (xs (x4 + (1 : Int32)).toNatClampNeg) (xs (x4 + (2 : Int32)).toNatClampNeg) (xs (x4 + (3 : Int32)).toNatClampNeg) (xs (x4 + (4 : Int32)).toNatClampNeg) (xs (x4 + (5 : Int32)).toNatClampNeg) _ bv M2 h2) (cwV 5 hts (oa_gV tw_749 tw_750 tw_751 tw_49 tw_752) rfl rfl rfl (by decide +kernel) ⟨Nat.le_of_ble_eq_true rfl, Nat.le_of_ble_eq_true rfl⟩) hE hH hS (oa_recv (k := 20) (ci := 5) hE hH (by decide) rfl rfl) rfl hl.1 rfl (Nat.le_of_ble_eq_true rfl) dL_law_255 ⟨by show cells + 1 ≤ 600096; omega, by show slots + 6 * 1 ≤ 7301385; omega⟩ (fun H locs hH hS => ?_)
  refine lv_istore (lv' := [(6, .int bv), (5, .int r9), (0, .ref b), (1, .ref (ad 0 0)), (2, .ref (ad 20 0)), (3, .ref (ad 50 0)), (4, .int x4)]) hx hb dL_law_258 hl (by decide) rfl (fun ls hl => ?_)
  refine lv_aload_n hx hb dL_law_260 rfl (lv_at hl 4 rfl) ?_
  refine oa_cvi (As := []) (rest := []) ⟨hx, hb, hml, hown, hts⟩ (cX5_thrown_ok l D ca ad b0 hw 0  M2 (M2 20 0 30) M2 rfl) (cwV 0 hts (oa_gV tw_710 tw_711 tw_712 tw_49 tw_713) rfl rfl rfl (by decide +kernel) ⟨Nat.le_of_ble_eq_true rfl, Nat.le_of_ble_eq_true rfl⟩) hE hH hS (oa_recv (k := 20) (ci := 5) hE hH (by decide) rfl rfl) rfl hl.1 rfl (Nat.le_of_ble_eq_true rfl) dL_law_261 ⟨by show cells + 1 ≤ 600096; omega, by show slots + 6 * 1 ≤ 7301385; omega⟩ (fun H locs hH hS => ?_)
  refine lv_iload hx hb dL_law_264 (lv_at hl 1 rfl) ?_
  refine lv_icmp_eq (tgt := 271) hx hb dL_law_266 (by decide) (fun _ => ?_) (fun h => absurd htr h)
  refine lv_iload hx hb dL_law_271 (lv_at hl 1 rfl) ?_
  have kd : W p l e room_1 s m #[Value.ref b] below meth c H locs (cells + 1) (slots + 6 * 1) Q (F0 m 288 ls []) := by
    refine lv_goto (tgt := 784) hx hb dL_law_288 (by decide) ?_
    refine W.widen (k := cells + 3) (n := slots + 18) (by omega) (by omega) ?_
    exact kk M2 hI2 _ _ hH hS _ (lv_sub hl [2, 3, 4, 5, 6] rfl)
  refine lv_if_ne (tgt := 288) hx hb dL_law_273 (by decide) (fun _ => kd) (fun hk0 => ?_)
  refine lv_aload_n hx hb dL_law_276 rfl (lv_at hl 5 rfl) ?_
  refine lv_iconst (v := (0 : Int32)) hx hb dL_law_277 (by decide) ?_
  refine oa_lld hx hb hE hH dL_law_278 ?_
  refine lv_iload hx hb dL_law_279 (lv_at hl 0 rfl) ?_
  refine lv_i2l (v := bv.toInt64) hx hb dL_law_281 rfl ?_
  refine W.lcmp hx hb dL_law_282 ?_
  refine lv_if_eq (tgt := 288) hx hb dL_law_283 (by decide) (fun _ => kd) (fun h => absurd ((lg_cmp_eq _ _).mpr (by rw [hout hk0])) h)
set_option maxHeartbeats 4000000 in
set_option maxRecDepth 100000 in
theorem lw_case3 {p : Program} {l : Launch} {e : Env} {s : State} {m : MethodId} {below : List Frame} {meth : Method} {c : Code} {b L : Nat} {xs : Nat → Int32} {D : va_G} {ca : Nat → ClassId} {ad : Nat → Nat → Nat} {b0 : Nat} {Q : State → Prop} (C : oa_Lw p l s m meth c b L xs D ca ad b0) {I : oa_M → Prop} (hsim : oa_S3 I) {cells slots : Nat} (hcl : cells + 3 ≤ 600096) (hsl : slots + 18 ≤ 7301385) (x4 : Int32) (hin1 : vp_in (x4 + (1 : Int32)) L) (hin2 : vp_in (x4 + (2 : Int32)) L) (hin3 : vp_in (x4 + (3 : Int32)) L) (hin4 : vp_in (x4 + (4 : Int32)) L) (hin5 : vp_in (x4 + (5 : Int32)) L) (kk : ∀ (M : oa_M), I M → ∀ (H : Heap) (locs : List Loc), oa_H D ca ad M H → va_S (fun q => b0 ≤ q) s.heap H locs → ∀ (ls : Array Slot), lv_has ls 7 [(0, .ref b), (1, .ref (ad 0 0)), (2, .ref (ad 20 0)), (3, .ref (ad 50 0)), (4, .int x4)] → W p l e room_1 s m #[Value.ref b] below meth c H locs (cells + 3) (slots + 18) Q (F0 m 784 ls [])) (M : oa_M) (hI : I M) (H : Heap) (locs : List Loc) (hH : oa_H D ca ad M H) (hS : va_S (fun q => b0 ≤ q) s.heap H locs) (ls : Array Slot) (hl : lv_has ls 7 [(0, .ref b), (1, .ref (ad 0 0)), (2, .ref (ad 20 0)), (3, .ref (ad 50 0)), (4, .int x4)]) : W p l e room_1 s m #[Value.ref b] below meth c H locs cells slots Q (F0 m 291 ls []) := by
  obtain ⟨hx, hb, hr, hml, hown, hts, hX, hbl, hlocks, hE, hw, hb0, hl0⟩ := id C
  have hbA : ¬ (fun q : Nat => b0 ≤ q) b := by rw [hb0]; exact Nat.not_le.mpr hbl
  obtain ⟨n1, n2, r, M1, M2, h1, h2, hI2⟩ := hsim  M hI
  refine lv_aload_n hx hb dL_law_291 rfl (lv_at hl 1 rfl) ?_
  refine oa_cvi (As := []) (rest := []) ⟨hx, hb, hml, hown, hts⟩ (cX4_test_ok l D ca ad b0 hw n1  M r M1 h1) (cwV 0 hts (oa_gV tw_212 tw_213 tw_214 tw_44 tw_215) rfl rfl rfl (by decide +kernel) ⟨Nat.le_of_ble_eq_true rfl, Nat.le_of_ble_eq_true rfl⟩) hE hH hS (oa_recv (k := 0) (ci := 4) hE hH (by decide) rfl rfl) rfl hl.1 rfl (Nat.le_of_ble_eq_true rfl) dL_law_292 ⟨by show cells ≤ 600096; omega, by show slots ≤ 7301385; omega⟩ (fun H locs hH hS => ?_)
  refine lv_aload_n hx hb dL_law_295 rfl (lv_at hl 2 rfl) ?_
  refine oa_cvi (As := []) (rest := [.int r]) ⟨hx, hb, hml, hown, hts⟩ (cX5_test_ok l D ca ad b0 hw n2  M1 r M2 h2) (cwV 0 hts (oa_gV tw_756 tw_757 tw_758 tw_49 tw_759) rfl rfl rfl (by decide +kernel) ⟨Nat.le_of_ble_eq_true rfl, Nat.le_of_ble_eq_true rfl⟩) hE hH hS (oa_recv (k := 20) (ci := 5) hE hH (by decide) rfl rfl) rfl hl.1 rfl (Nat.le_of_ble_eq_true rfl) dL_law_296 ⟨by show cells ≤ 600096; omega, by show slots ≤ 7301385; omega⟩ (fun H locs hH hS => ?_)
  refine lv_icmp_eq (tgt := 784) hx hb dL_law_299 (by decide) (fun _ => ?_) (fun h => absurd rfl h)
  refine W.widen (k := cells + 3) (n := slots + 18) (by omega) (by omega) ?_
  exact kk M2 hI2 _ _ hH hS _ hl
set_option maxHeartbeats 4000000 in
set_option maxRecDepth 100000 in
theorem lw_case4 {p : Program} {l : Launch} {e : Env} {s : State} {m : MethodId} {below : List Frame} {meth : Method} {c : Code} {b L : Nat} {xs : Nat → Int32} {D : va_G} {ca : Nat → ClassId} {ad : Nat → Nat → Nat} {b0 : Nat} {Q : State → Prop} (C : oa_Lw p l s m meth c b L xs D ca ad b0) {I : oa_M → Prop} (hsim : oa_S4 I) {cells slots : Nat} (hcl : cells + 3 ≤ 600096) (hsl : slots + 18 ≤ 7301385) (x4 : Int32) (hin1 : vp_in (x4 + (1 : Int32)) L) (hin2 : vp_in (x4 + (2 : Int32)) L) (hin3 : vp_in (x4 + (3 : Int32)) L) (hin4 : vp_in (x4 + (4 : Int32)) L) (hin5 : vp_in (x4 + (5 : Int32)) L) (kk : ∀ (M : oa_M), I M → ∀ (H : Heap) (locs : List Loc), oa_H D ca ad M H → va_S (fun q => b0 ≤ q) s.heap H locs → ∀ (ls : Array Slot), lv_has ls 7 [(0, .ref b), (1, .ref (ad 0 0)), (2, .ref (ad 20 0)), (3, .ref (ad 50 0)), (4, .int x4)] → W p l e room_1 s m #[Value.ref b] below meth c H locs (cells + 3) (slots + 18) Q (F0 m 784 ls [])) (M : oa_M) (hI : I M) (H : Heap) (locs : List Loc) (hH : oa_H D ca ad M H) (hS : va_S (fun q => b0 ≤ q) s.heap H locs) (ls : Array Slot) (hl : lv_has ls 7 [(0, .ref b), (1, .ref (ad 0 0)), (2, .ref (ad 20 0)), (3, .ref (ad 50 0)), (4, .int x4)]) : W p l e room_1 s m #[Value.ref b] below meth c H locs cells slots Q (F0 m 304 ls []) := by
  obtain ⟨hx, hb, hr, hml, hown, hts, hX, hbl, hlocks, hE, hw, hb0, hl0⟩ := id C
  have hbA : ¬ (fun q : Nat => b0 ≤ q) b := by rw [hb0]; exact Nat.not_le.mpr hbl
  obtain ⟨n1, n2, kc, M1, bv, M2, h1, h2, htr, hout, hI2⟩ := hsim (xs (x4 + (1 : Int32)).toNatClampNeg) (xs (x4 + (2 : Int32)).toNatClampNeg) M hI
  refine lv_aload_n hx hb dL_law_304 rfl (lv_at hl 1 rfl) ?_
  refine lv_aload_n hx hb dL_law_305 rfl (lv_at hl 0 rfl) ?_
  refine lv_iload hx hb dL_law_306 (lv_at hl 4 rfl) ?_
  refine lv_iconst (v := (1 : Int32)) hx hb dL_law_308 (by decide) ?_
  refine lv_iadd hx hb dL_law_309 ?_
  refine va_sld hx hb hX hbl hbA hS hin1 dL_law_310 ?_
  refine lv_aload_n hx hb dL_law_311 rfl (lv_at hl 0 rfl) ?_
  refine lv_iload hx hb dL_law_312 (lv_at hl 4 rfl) ?_
  refine lv_iconst (v := (2 : Int32)) hx hb dL_law_314 (by decide) ?_
  refine lv_iadd hx hb dL_law_315 ?_
  refine va_sld hx hb hX hbl hbA hS hin2 dL_law_316 ?_
  refine lv_aload_n hx hb dL_law_317 rfl (lv_at hl 3 rfl) ?_
  refine va_calli (vx_runSW (hh := [(0, 10, 13, 25)]) (As := [.ref (ad 0 0), .int (xs (x4 + (1 : Int32)).toNatClampNeg), .int (xs (x4 + (2 : Int32)).toNatClampNeg), .ref (ad 50 0)]) (rest := []) ⟨hx, hb, hml, hown, hts⟩ (cL_poke_ok l hl0 D ca ad b0 hw n1 (xs (x4 + (1 : Int32)).toNatClampNeg) (xs (x4 + (2 : Int32)).toNatClampNeg) M kc M1 h1) (vx_cwSW 4 hts (oa_gH tw_407 tw_408 tw_43 tw_409) rfl rfl rfl (by decide +kernel) ⟨Nat.le_of_ble_eq_true rfl, Nat.le_of_ble_eq_true rfl⟩) ⟨oa_blind D ca ad b0 M _, fun U hU hW => ⟨rfl, by rw [hU]; exact hH, hE.call hS hU hW⟩⟩ rfl rfl hl.1 rfl (lv_room (Nat.le_of_ble_eq_true rfl)) dL_law_318 ⟨by show cells + 1 ≤ 600096; omega, by show slots + 6 * 1 ≤ 7301385; omega⟩) hS (fun q _ h => h) (fun q h => h) (fun r9 u t H1 locs1 ht hvm hw1 hB hz1 hk1 hS1 => ?_)
  obtain ⟨rfl, rfl⟩ := hw1
  rw [ht] at hB
  have hH := hB
  have hS := hS1
  refine lv_istore (lv' := [(5, .int r9), (0, .ref b), (1, .ref (ad 0 0)), (2, .ref (ad 20 0)), (3, .ref (ad 50 0)), (4, .int x4)]) hx hb dL_law_321 hl (by decide) rfl (fun ls hl => ?_)
  refine lv_aload_n hx hb dL_law_323 rfl (lv_at hl 3 rfl) ?_
  refine lv_aload_n hx hb dL_law_324 rfl (lv_at hl 1 rfl) ?_
  refine lv_iload hx hb dL_law_325 (lv_at hl 5 rfl) ?_
  refine lv_iconst (v := (1 : Int32)) hx hb dL_law_327 (by decide) ?_
  refine lv_iadd hx hb dL_law_328 ?_
  refine va_sld hx hb hX hbl hbA hS hin1 dL_law_329 ?_
  refine lv_aload_n hx hb dL_law_330 rfl (lv_at hl 1 rfl) ?_
  refine lv_iload hx hb dL_law_331 (lv_at hl 5 rfl) ?_
  refine lv_iconst (v := (2 : Int32)) hx hb dL_law_333 (by decide) ?_
  refine lv_iadd hx hb dL_law_334 ?_
  refine va_sld hx hb hX hbl hbA hS hin2 dL_law_335 ?_
  refine oa_cvi (As := [.int (xs (x4 + (1 : Int32)).toNatClampNeg), .int (xs (x4 + (2 : Int32)).toNatClampNeg)]) (rest := []) ⟨hx, hb, hml, hown, hts⟩ (cX5_poke_ok l D ca ad b0 hw n2 (xs (x4 + (1 : Int32)).toNatClampNeg) (xs (x4 + (2 : Int32)).toNatClampNeg) _ bv M2 h2) (cwV 2 hts (oa_gV tw_772 tw_773 tw_774 tw_49 tw_775) rfl rfl rfl (by decide +kernel) ⟨Nat.le_of_ble_eq_true rfl, Nat.le_of_ble_eq_true rfl⟩) hE hH hS (oa_recv (k := 20) (ci := 5) hE hH (by decide) rfl rfl) rfl hl.1 rfl (Nat.le_of_ble_eq_true rfl) dL_law_336 ⟨by show cells + 1 ≤ 600096; omega, by show slots + 6 * 1 ≤ 7301385; omega⟩ (fun H locs hH hS => ?_)
  refine lv_istore (lv' := [(6, .int bv), (5, .int r9), (0, .ref b), (1, .ref (ad 0 0)), (2, .ref (ad 20 0)), (3, .ref (ad 50 0)), (4, .int x4)]) hx hb dL_law_339 hl (by decide) rfl (fun ls hl => ?_)
  refine lv_aload_n hx hb dL_law_341 rfl (lv_at hl 4 rfl) ?_
  refine oa_cvi (As := []) (rest := []) ⟨hx, hb, hml, hown, hts⟩ (cX5_thrown_ok l D ca ad b0 hw 0  M2 (M2 20 0 30) M2 rfl) (cwV 0 hts (oa_gV tw_710 tw_711 tw_712 tw_49 tw_713) rfl rfl rfl (by decide +kernel) ⟨Nat.le_of_ble_eq_true rfl, Nat.le_of_ble_eq_true rfl⟩) hE hH hS (oa_recv (k := 20) (ci := 5) hE hH (by decide) rfl rfl) rfl hl.1 rfl (Nat.le_of_ble_eq_true rfl) dL_law_342 ⟨by show cells + 1 ≤ 600096; omega, by show slots + 6 * 1 ≤ 7301385; omega⟩ (fun H locs hH hS => ?_)
  refine lv_iload hx hb dL_law_345 (lv_at hl 1 rfl) ?_
  refine lv_icmp_eq (tgt := 352) hx hb dL_law_347 (by decide) (fun _ => ?_) (fun h => absurd htr h)
  refine lv_iload hx hb dL_law_352 (lv_at hl 1 rfl) ?_
  have kd : W p l e room_1 s m #[Value.ref b] below meth c H locs (cells + 1) (slots + 6 * 1) Q (F0 m 369 ls []) := by
    refine lv_goto (tgt := 784) hx hb dL_law_369 (by decide) ?_
    refine W.widen (k := cells + 3) (n := slots + 18) (by omega) (by omega) ?_
    exact kk M2 hI2 _ _ hH hS _ (lv_sub hl [2, 3, 4, 5, 6] rfl)
  refine lv_if_ne (tgt := 369) hx hb dL_law_354 (by decide) (fun _ => kd) (fun hk0 => ?_)
  refine lv_aload_n hx hb dL_law_357 rfl (lv_at hl 5 rfl) ?_
  refine lv_iconst (v := (0 : Int32)) hx hb dL_law_358 (by decide) ?_
  refine oa_lld hx hb hE hH dL_law_359 ?_
  refine lv_iload hx hb dL_law_360 (lv_at hl 0 rfl) ?_
  refine lv_i2l (v := bv.toInt64) hx hb dL_law_362 rfl ?_
  refine W.lcmp hx hb dL_law_363 ?_
  refine lv_if_eq (tgt := 369) hx hb dL_law_364 (by decide) (fun _ => kd) (fun h => absurd ((lg_cmp_eq _ _).mpr (by rw [hout hk0])) h)
set_option maxHeartbeats 4000000 in
set_option maxRecDepth 100000 in
theorem lw_case5 {p : Program} {l : Launch} {e : Env} {s : State} {m : MethodId} {below : List Frame} {meth : Method} {c : Code} {b L : Nat} {xs : Nat → Int32} {D : va_G} {ca : Nat → ClassId} {ad : Nat → Nat → Nat} {b0 : Nat} {Q : State → Prop} (C : oa_Lw p l s m meth c b L xs D ca ad b0) {I : oa_M → Prop} (hsim : oa_S5 I) {cells slots : Nat} (hcl : cells + 3 ≤ 600096) (hsl : slots + 18 ≤ 7301385) (x4 : Int32) (hin1 : vp_in (x4 + (1 : Int32)) L) (hin2 : vp_in (x4 + (2 : Int32)) L) (hin3 : vp_in (x4 + (3 : Int32)) L) (hin4 : vp_in (x4 + (4 : Int32)) L) (hin5 : vp_in (x4 + (5 : Int32)) L) (kk : ∀ (M : oa_M), I M → ∀ (H : Heap) (locs : List Loc), oa_H D ca ad M H → va_S (fun q => b0 ≤ q) s.heap H locs → ∀ (ls : Array Slot), lv_has ls 7 [(0, .ref b), (1, .ref (ad 0 0)), (2, .ref (ad 20 0)), (3, .ref (ad 50 0)), (4, .int x4)] → W p l e room_1 s m #[Value.ref b] below meth c H locs (cells + 3) (slots + 18) Q (F0 m 784 ls [])) (M : oa_M) (hI : I M) (H : Heap) (locs : List Loc) (hH : oa_H D ca ad M H) (hS : va_S (fun q => b0 ≤ q) s.heap H locs) (ls : Array Slot) (hl : lv_has ls 7 [(0, .ref b), (1, .ref (ad 0 0)), (2, .ref (ad 20 0)), (3, .ref (ad 50 0)), (4, .int x4)]) : W p l e room_1 s m #[Value.ref b] below meth c H locs cells slots Q (F0 m 372 ls []) := by
  obtain ⟨hx, hb, hr, hml, hown, hts, hX, hbl, hlocks, hE, hw, hb0, hl0⟩ := id C
  have hbA : ¬ (fun q : Nat => b0 ≤ q) b := by rw [hb0]; exact Nat.not_le.mpr hbl
  obtain ⟨n1, n2, kc, M1, bv, M2, h1, h2, htr, hout, hI2⟩ := hsim (xs (x4 + (1 : Int32)).toNatClampNeg) M hI
  refine lv_aload_n hx hb dL_law_372 rfl (lv_at hl 1 rfl) ?_
  refine lv_aload_n hx hb dL_law_373 rfl (lv_at hl 0 rfl) ?_
  refine lv_iload hx hb dL_law_374 (lv_at hl 4 rfl) ?_
  refine lv_iconst (v := (1 : Int32)) hx hb dL_law_376 (by decide) ?_
  refine lv_iadd hx hb dL_law_377 ?_
  refine va_sld hx hb hX hbl hbA hS hin1 dL_law_378 ?_
  refine lv_aload_n hx hb dL_law_379 rfl (lv_at hl 3 rfl) ?_
  refine va_calli (vx_runSW (hh := [(0, 9, 12, 25)]) (As := [.ref (ad 0 0), .int (xs (x4 + (1 : Int32)).toNatClampNeg), .ref (ad 50 0)]) (rest := []) ⟨hx, hb, hml, hown, hts⟩ (cL_peek_ok l hl0 D ca ad b0 hw n1 (xs (x4 + (1 : Int32)).toNatClampNeg) M kc M1 h1) (vx_cwSW 3 hts (oa_gH tw_435 tw_436 tw_43 tw_437) rfl rfl rfl (by decide +kernel) ⟨Nat.le_of_ble_eq_true rfl, Nat.le_of_ble_eq_true rfl⟩) ⟨oa_blind D ca ad b0 M _, fun U hU hW => ⟨rfl, by rw [hU]; exact hH, hE.call hS hU hW⟩⟩ rfl rfl hl.1 rfl (lv_room (Nat.le_of_ble_eq_true rfl)) dL_law_380 ⟨by show cells + 1 ≤ 600096; omega, by show slots + 6 * 1 ≤ 7301385; omega⟩) hS (fun q _ h => h) (fun q h => h) (fun r9 u t H1 locs1 ht hvm hw1 hB hz1 hk1 hS1 => ?_)
  obtain ⟨rfl, rfl⟩ := hw1
  rw [ht] at hB
  have hH := hB
  have hS := hS1
  refine lv_istore (lv' := [(5, .int r9), (0, .ref b), (1, .ref (ad 0 0)), (2, .ref (ad 20 0)), (3, .ref (ad 50 0)), (4, .int x4)]) hx hb dL_law_383 hl (by decide) rfl (fun ls hl => ?_)
  refine lv_aload_n hx hb dL_law_385 rfl (lv_at hl 3 rfl) ?_
  refine lv_aload_n hx hb dL_law_386 rfl (lv_at hl 1 rfl) ?_
  refine lv_iload hx hb dL_law_387 (lv_at hl 5 rfl) ?_
  refine lv_iconst (v := (1 : Int32)) hx hb dL_law_389 (by decide) ?_
  refine lv_iadd hx hb dL_law_390 ?_
  refine va_sld hx hb hX hbl hbA hS hin1 dL_law_391 ?_
  refine oa_cvi (As := [.int (xs (x4 + (1 : Int32)).toNatClampNeg)]) (rest := []) ⟨hx, hb, hml, hown, hts⟩ (cX5_peek_ok l D ca ad b0 hw n2 (xs (x4 + (1 : Int32)).toNatClampNeg) _ bv M2 h2) (cwV 1 hts (oa_gV tw_776 tw_777 tw_778 tw_49 tw_779) rfl rfl rfl (by decide +kernel) ⟨Nat.le_of_ble_eq_true rfl, Nat.le_of_ble_eq_true rfl⟩) hE hH hS (oa_recv (k := 20) (ci := 5) hE hH (by decide) rfl rfl) rfl hl.1 rfl (Nat.le_of_ble_eq_true rfl) dL_law_392 ⟨by show cells + 1 ≤ 600096; omega, by show slots + 6 * 1 ≤ 7301385; omega⟩ (fun H locs hH hS => ?_)
  refine lv_istore (lv' := [(6, .int bv), (5, .int r9), (0, .ref b), (1, .ref (ad 0 0)), (2, .ref (ad 20 0)), (3, .ref (ad 50 0)), (4, .int x4)]) hx hb dL_law_395 hl (by decide) rfl (fun ls hl => ?_)
  refine lv_aload_n hx hb dL_law_397 rfl (lv_at hl 4 rfl) ?_
  refine oa_cvi (As := []) (rest := []) ⟨hx, hb, hml, hown, hts⟩ (cX5_thrown_ok l D ca ad b0 hw 0  M2 (M2 20 0 30) M2 rfl) (cwV 0 hts (oa_gV tw_710 tw_711 tw_712 tw_49 tw_713) rfl rfl rfl (by decide +kernel) ⟨Nat.le_of_ble_eq_true rfl, Nat.le_of_ble_eq_true rfl⟩) hE hH hS (oa_recv (k := 20) (ci := 5) hE hH (by decide) rfl rfl) rfl hl.1 rfl (Nat.le_of_ble_eq_true rfl) dL_law_398 ⟨by show cells + 1 ≤ 600096; omega, by show slots + 6 * 1 ≤ 7301385; omega⟩ (fun H locs hH hS => ?_)
  refine lv_iload hx hb dL_law_401 (lv_at hl 1 rfl) ?_
  refine lv_icmp_eq (tgt := 408) hx hb dL_law_403 (by decide) (fun _ => ?_) (fun h => absurd htr h)
  refine lv_iload hx hb dL_law_408 (lv_at hl 1 rfl) ?_
  have kd : W p l e room_1 s m #[Value.ref b] below meth c H locs (cells + 1) (slots + 6 * 1) Q (F0 m 425 ls []) := by
    refine lv_goto (tgt := 784) hx hb dL_law_425 (by decide) ?_
    refine W.widen (k := cells + 3) (n := slots + 18) (by omega) (by omega) ?_
    exact kk M2 hI2 _ _ hH hS _ (lv_sub hl [2, 3, 4, 5, 6] rfl)
  refine lv_if_ne (tgt := 425) hx hb dL_law_410 (by decide) (fun _ => kd) (fun hk0 => ?_)
  refine lv_aload_n hx hb dL_law_413 rfl (lv_at hl 5 rfl) ?_
  refine lv_iconst (v := (0 : Int32)) hx hb dL_law_414 (by decide) ?_
  refine oa_lld hx hb hE hH dL_law_415 ?_
  refine lv_iload hx hb dL_law_416 (lv_at hl 0 rfl) ?_
  refine lv_i2l (v := bv.toInt64) hx hb dL_law_418 rfl ?_
  refine W.lcmp hx hb dL_law_419 ?_
  refine lv_if_eq (tgt := 425) hx hb dL_law_420 (by decide) (fun _ => kd) (fun h => absurd ((lg_cmp_eq _ _).mpr (by rw [hout hk0])) h)
set_option maxHeartbeats 4000000 in
set_option maxRecDepth 100000 in
theorem lw_case6 {p : Program} {l : Launch} {e : Env} {s : State} {m : MethodId} {below : List Frame} {meth : Method} {c : Code} {b L : Nat} {xs : Nat → Int32} {D : va_G} {ca : Nat → ClassId} {ad : Nat → Nat → Nat} {b0 : Nat} {Q : State → Prop} (C : oa_Lw p l s m meth c b L xs D ca ad b0) {I : oa_M → Prop} (hsim : oa_S6 I) {cells slots : Nat} (hcl : cells + 3 ≤ 600096) (hsl : slots + 18 ≤ 7301385) (x4 : Int32) (hin1 : vp_in (x4 + (1 : Int32)) L) (hin2 : vp_in (x4 + (2 : Int32)) L) (hin3 : vp_in (x4 + (3 : Int32)) L) (hin4 : vp_in (x4 + (4 : Int32)) L) (hin5 : vp_in (x4 + (5 : Int32)) L) (kk : ∀ (M : oa_M), I M → ∀ (H : Heap) (locs : List Loc), oa_H D ca ad M H → va_S (fun q => b0 ≤ q) s.heap H locs → ∀ (ls : Array Slot), lv_has ls 7 [(0, .ref b), (1, .ref (ad 0 0)), (2, .ref (ad 20 0)), (3, .ref (ad 50 0)), (4, .int x4)] → W p l e room_1 s m #[Value.ref b] below meth c H locs (cells + 3) (slots + 18) Q (F0 m 784 ls [])) (M : oa_M) (hI : I M) (H : Heap) (locs : List Loc) (hH : oa_H D ca ad M H) (hS : va_S (fun q => b0 ≤ q) s.heap H locs) (ls : Array Slot) (hl : lv_has ls 7 [(0, .ref b), (1, .ref (ad 0 0)), (2, .ref (ad 20 0)), (3, .ref (ad 50 0)), (4, .int x4)]) : W p l e room_1 s m #[Value.ref b] below meth c H locs cells slots Q (F0 m 428 ls []) := by
  obtain ⟨hx, hb, hr, hml, hown, hts, hX, hbl, hlocks, hE, hw, hb0, hl0⟩ := id C
  have hbA : ¬ (fun q : Nat => b0 ≤ q) b := by rw [hb0]; exact Nat.not_le.mpr hbl
  obtain ⟨n1, n2, kc, M1, bv, M2, h1, h2, htr, hout, hI2⟩ := hsim (xs (x4 + (1 : Int32)).toNatClampNeg) M hI
  refine lv_aload_n hx hb dL_law_428 rfl (lv_at hl 1 rfl) ?_
  refine lv_aload_n hx hb dL_law_429 rfl (lv_at hl 0 rfl) ?_
  refine lv_iload hx hb dL_law_430 (lv_at hl 4 rfl) ?_
  refine lv_iconst (v := (1 : Int32)) hx hb dL_law_432 (by decide) ?_
  refine lv_iadd hx hb dL_law_433 ?_
  refine va_sld hx hb hX hbl hbA hS hin1 dL_law_434 ?_
  refine lv_aload_n hx hb dL_law_435 rfl (lv_at hl 3 rfl) ?_
  refine va_calli (vx_runSW (hh := [(0, 9, 12, 15), (0, 9, 15, 25)]) (As := [.ref (ad 0 0), .int (xs (x4 + (1 : Int32)).toNatClampNeg), .ref (ad 50 0)]) (rest := []) ⟨hx, hb, hml, hown, hts⟩ (cL_decode_ok l hl0 D ca ad b0 hw n1 (xs (x4 + (1 : Int32)).toNatClampNeg) M kc M1 h1) (vx_cwSW 3 hts (oa_gH tw_442 tw_443 tw_43 tw_444) rfl rfl rfl (by decide +kernel) ⟨Nat.le_of_ble_eq_true rfl, Nat.le_of_ble_eq_true rfl⟩) ⟨oa_blind D ca ad b0 M _, fun U hU hW => ⟨rfl, by rw [hU]; exact hH, hE.call hS hU hW⟩⟩ rfl rfl hl.1 rfl (lv_room (Nat.le_of_ble_eq_true rfl)) dL_law_436 ⟨by show cells + 2 ≤ 600096; omega, by show slots + 6 * 2 ≤ 7301385; omega⟩) hS (fun q _ h => h) (fun q h => h) (fun r9 u t H1 locs1 ht hvm hw1 hB hz1 hk1 hS1 => ?_)
  obtain ⟨rfl, rfl⟩ := hw1
  rw [ht] at hB
  have hH := hB
  have hS := hS1
  refine lv_istore (lv' := [(5, .int r9), (0, .ref b), (1, .ref (ad 0 0)), (2, .ref (ad 20 0)), (3, .ref (ad 50 0)), (4, .int x4)]) hx hb dL_law_439 hl (by decide) rfl (fun ls hl => ?_)
  refine lv_aload_n hx hb dL_law_441 rfl (lv_at hl 3 rfl) ?_
  refine lv_aload_n hx hb dL_law_442 rfl (lv_at hl 1 rfl) ?_
  refine lv_iload hx hb dL_law_443 (lv_at hl 5 rfl) ?_
  refine lv_iconst (v := (1 : Int32)) hx hb dL_law_445 (by decide) ?_
  refine lv_iadd hx hb dL_law_446 ?_
  refine va_sld hx hb hX hbl hbA hS hin1 dL_law_447 ?_
  refine oa_cvi (As := [.int (xs (x4 + (1 : Int32)).toNatClampNeg)]) (rest := []) ⟨hx, hb, hml, hown, hts⟩ (cX5_decode_ok l D ca ad b0 hw n2 (xs (x4 + (1 : Int32)).toNatClampNeg) _ bv M2 h2) (cwV 1 hts (oa_gV tw_780 tw_781 tw_782 tw_49 tw_783) rfl rfl rfl (by decide +kernel) ⟨Nat.le_of_ble_eq_true rfl, Nat.le_of_ble_eq_true rfl⟩) hE hH hS (oa_recv (k := 20) (ci := 5) hE hH (by decide) rfl rfl) rfl hl.1 rfl (Nat.le_of_ble_eq_true rfl) dL_law_448 ⟨by show cells + 2 ≤ 600096; omega, by show slots + 6 * 2 ≤ 7301385; omega⟩ (fun H locs hH hS => ?_)
  refine lv_istore (lv' := [(6, .int bv), (5, .int r9), (0, .ref b), (1, .ref (ad 0 0)), (2, .ref (ad 20 0)), (3, .ref (ad 50 0)), (4, .int x4)]) hx hb dL_law_451 hl (by decide) rfl (fun ls hl => ?_)
  refine lv_aload_n hx hb dL_law_453 rfl (lv_at hl 4 rfl) ?_
  refine oa_cvi (As := []) (rest := []) ⟨hx, hb, hml, hown, hts⟩ (cX5_thrown_ok l D ca ad b0 hw 0  M2 (M2 20 0 30) M2 rfl) (cwV 0 hts (oa_gV tw_710 tw_711 tw_712 tw_49 tw_713) rfl rfl rfl (by decide +kernel) ⟨Nat.le_of_ble_eq_true rfl, Nat.le_of_ble_eq_true rfl⟩) hE hH hS (oa_recv (k := 20) (ci := 5) hE hH (by decide) rfl rfl) rfl hl.1 rfl (Nat.le_of_ble_eq_true rfl) dL_law_454 ⟨by show cells + 2 ≤ 600096; omega, by show slots + 6 * 2 ≤ 7301385; omega⟩ (fun H locs hH hS => ?_)
  refine lv_iload hx hb dL_law_457 (lv_at hl 1 rfl) ?_
  refine lv_icmp_eq (tgt := 464) hx hb dL_law_459 (by decide) (fun _ => ?_) (fun h => absurd htr h)
  refine lv_iload hx hb dL_law_464 (lv_at hl 1 rfl) ?_
  have kd : W p l e room_1 s m #[Value.ref b] below meth c H locs (cells + 2) (slots + 6 * 2) Q (F0 m 481 ls []) := by
    refine lv_goto (tgt := 784) hx hb dL_law_481 (by decide) ?_
    refine W.widen (k := cells + 3) (n := slots + 18) (by omega) (by omega) ?_
    exact kk M2 hI2 _ _ hH hS _ (lv_sub hl [2, 3, 4, 5, 6] rfl)
  refine lv_if_ne (tgt := 481) hx hb dL_law_466 (by decide) (fun _ => kd) (fun hk0 => ?_)
  refine lv_aload_n hx hb dL_law_469 rfl (lv_at hl 5 rfl) ?_
  refine lv_iconst (v := (0 : Int32)) hx hb dL_law_470 (by decide) ?_
  refine oa_lld hx hb hE hH dL_law_471 ?_
  refine lv_iload hx hb dL_law_472 (lv_at hl 0 rfl) ?_
  refine lv_i2l (v := bv.toInt64) hx hb dL_law_474 rfl ?_
  refine W.lcmp hx hb dL_law_475 ?_
  refine lv_if_eq (tgt := 481) hx hb dL_law_476 (by decide) (fun _ => kd) (fun h => absurd ((lg_cmp_eq _ _).mpr (by rw [hout hk0])) h)
set_option maxHeartbeats 4000000 in
set_option maxRecDepth 100000 in
theorem lw_case7 {p : Program} {l : Launch} {e : Env} {s : State} {m : MethodId} {below : List Frame} {meth : Method} {c : Code} {b L : Nat} {xs : Nat → Int32} {D : va_G} {ca : Nat → ClassId} {ad : Nat → Nat → Nat} {b0 : Nat} {Q : State → Prop} (C : oa_Lw p l s m meth c b L xs D ca ad b0) {I : oa_M → Prop} (hsim : oa_S7 I) {cells slots : Nat} (hcl : cells + 3 ≤ 600096) (hsl : slots + 18 ≤ 7301385) (x4 : Int32) (hin1 : vp_in (x4 + (1 : Int32)) L) (hin2 : vp_in (x4 + (2 : Int32)) L) (hin3 : vp_in (x4 + (3 : Int32)) L) (hin4 : vp_in (x4 + (4 : Int32)) L) (hin5 : vp_in (x4 + (5 : Int32)) L) (kk : ∀ (M : oa_M), I M → ∀ (H : Heap) (locs : List Loc), oa_H D ca ad M H → va_S (fun q => b0 ≤ q) s.heap H locs → ∀ (ls : Array Slot), lv_has ls 7 [(0, .ref b), (1, .ref (ad 0 0)), (2, .ref (ad 20 0)), (3, .ref (ad 50 0)), (4, .int x4)] → W p l e room_1 s m #[Value.ref b] below meth c H locs (cells + 3) (slots + 18) Q (F0 m 784 ls [])) (M : oa_M) (hI : I M) (H : Heap) (locs : List Loc) (hH : oa_H D ca ad M H) (hS : va_S (fun q => b0 ≤ q) s.heap H locs) (ls : Array Slot) (hl : lv_has ls 7 [(0, .ref b), (1, .ref (ad 0 0)), (2, .ref (ad 20 0)), (3, .ref (ad 50 0)), (4, .int x4)]) : W p l e room_1 s m #[Value.ref b] below meth c H locs cells slots Q (F0 m 484 ls []) := by
  obtain ⟨hx, hb, hr, hml, hown, hts, hX, hbl, hlocks, hE, hw, hb0, hl0⟩ := id C
  have hbA : ¬ (fun q : Nat => b0 ≤ q) b := by rw [hb0]; exact Nat.not_le.mpr hbl
  obtain ⟨n1, n2, kc, M1, bv, M2, h1, h2, htr, hout, hI2⟩ := hsim (xs (x4 + (1 : Int32)).toNatClampNeg) (xs (x4 + (2 : Int32)).toNatClampNeg) M hI
  refine lv_aload_n hx hb dL_law_484 rfl (lv_at hl 1 rfl) ?_
  refine lv_aload_n hx hb dL_law_485 rfl (lv_at hl 0 rfl) ?_
  refine lv_iload hx hb dL_law_486 (lv_at hl 4 rfl) ?_
  refine lv_iconst (v := (1 : Int32)) hx hb dL_law_488 (by decide) ?_
  refine lv_iadd hx hb dL_law_489 ?_
  refine va_sld hx hb hX hbl hbA hS hin1 dL_law_490 ?_
  refine lv_aload_n hx hb dL_law_491 rfl (lv_at hl 0 rfl) ?_
  refine lv_iload hx hb dL_law_492 (lv_at hl 4 rfl) ?_
  refine lv_iconst (v := (2 : Int32)) hx hb dL_law_494 (by decide) ?_
  refine lv_iadd hx hb dL_law_495 ?_
  refine va_sld hx hb hX hbl hbA hS hin2 dL_law_496 ?_
  refine lv_aload_n hx hb dL_law_497 rfl (lv_at hl 3 rfl) ?_
  refine va_calli (vx_runSW (hh := [(0, 10, 13, 15), (0, 10, 17, 25)]) (As := [.ref (ad 0 0), .int (xs (x4 + (1 : Int32)).toNatClampNeg), .int (xs (x4 + (2 : Int32)).toNatClampNeg), .ref (ad 50 0)]) (rest := []) ⟨hx, hb, hml, hown, hts⟩ (cL_value_ok l hl0 D ca ad b0 hw n1 (xs (x4 + (1 : Int32)).toNatClampNeg) (xs (x4 + (2 : Int32)).toNatClampNeg) M kc M1 h1) (vx_cwSW 4 hts (oa_gH tw_464 tw_465 tw_43 tw_466) rfl rfl rfl (by decide +kernel) ⟨Nat.le_of_ble_eq_true rfl, Nat.le_of_ble_eq_true rfl⟩) ⟨oa_blind D ca ad b0 M _, fun U hU hW => ⟨rfl, by rw [hU]; exact hH, hE.call hS hU hW⟩⟩ rfl rfl hl.1 rfl (lv_room (Nat.le_of_ble_eq_true rfl)) dL_law_498 ⟨by show cells + 3 ≤ 600096; omega, by show slots + 6 * 3 ≤ 7301385; omega⟩) hS (fun q _ h => h) (fun q h => h) (fun r9 u t H1 locs1 ht hvm hw1 hB hz1 hk1 hS1 => ?_)
  obtain ⟨rfl, rfl⟩ := hw1
  rw [ht] at hB
  have hH := hB
  have hS := hS1
  refine lv_istore (lv' := [(5, .int r9), (0, .ref b), (1, .ref (ad 0 0)), (2, .ref (ad 20 0)), (3, .ref (ad 50 0)), (4, .int x4)]) hx hb dL_law_501 hl (by decide) rfl (fun ls hl => ?_)
  refine lv_aload_n hx hb dL_law_503 rfl (lv_at hl 3 rfl) ?_
  refine lv_aload_n hx hb dL_law_504 rfl (lv_at hl 1 rfl) ?_
  refine lv_iload hx hb dL_law_505 (lv_at hl 5 rfl) ?_
  refine lv_iconst (v := (1 : Int32)) hx hb dL_law_507 (by decide) ?_
  refine lv_iadd hx hb dL_law_508 ?_
  refine va_sld hx hb hX hbl hbA hS hin1 dL_law_509 ?_
  refine lv_aload_n hx hb dL_law_510 rfl (lv_at hl 1 rfl) ?_
  refine lv_iload hx hb dL_law_511 (lv_at hl 5 rfl) ?_
  refine lv_iconst (v := (2 : Int32)) hx hb dL_law_513 (by decide) ?_
  refine lv_iadd hx hb dL_law_514 ?_
  refine va_sld hx hb hX hbl hbA hS hin2 dL_law_515 ?_
  refine oa_cvi (As := [.int (xs (x4 + (1 : Int32)).toNatClampNeg), .int (xs (x4 + (2 : Int32)).toNatClampNeg)]) (rest := []) ⟨hx, hb, hml, hown, hts⟩ (cX5_value_ok l D ca ad b0 hw n2 (xs (x4 + (1 : Int32)).toNatClampNeg) (xs (x4 + (2 : Int32)).toNatClampNeg) _ bv M2 h2) (cwV 2 hts (oa_gV tw_800 tw_801 tw_802 tw_49 tw_803) rfl rfl rfl (by decide +kernel) ⟨Nat.le_of_ble_eq_true rfl, Nat.le_of_ble_eq_true rfl⟩) hE hH hS (oa_recv (k := 20) (ci := 5) hE hH (by decide) rfl rfl) rfl hl.1 rfl (Nat.le_of_ble_eq_true rfl) dL_law_516 ⟨by show cells + 3 ≤ 600096; omega, by show slots + 6 * 3 ≤ 7301385; omega⟩ (fun H locs hH hS => ?_)
  refine lv_istore (lv' := [(6, .int bv), (5, .int r9), (0, .ref b), (1, .ref (ad 0 0)), (2, .ref (ad 20 0)), (3, .ref (ad 50 0)), (4, .int x4)]) hx hb dL_law_519 hl (by decide) rfl (fun ls hl => ?_)
  refine lv_aload_n hx hb dL_law_521 rfl (lv_at hl 4 rfl) ?_
  refine oa_cvi (As := []) (rest := []) ⟨hx, hb, hml, hown, hts⟩ (cX5_thrown_ok l D ca ad b0 hw 0  M2 (M2 20 0 30) M2 rfl) (cwV 0 hts (oa_gV tw_710 tw_711 tw_712 tw_49 tw_713) rfl rfl rfl (by decide +kernel) ⟨Nat.le_of_ble_eq_true rfl, Nat.le_of_ble_eq_true rfl⟩) hE hH hS (oa_recv (k := 20) (ci := 5) hE hH (by decide) rfl rfl) rfl hl.1 rfl (Nat.le_of_ble_eq_true rfl) dL_law_522 ⟨by show cells + 3 ≤ 600096; omega, by show slots + 6 * 3 ≤ 7301385; omega⟩ (fun H locs hH hS => ?_)
  refine lv_iload hx hb dL_law_525 (lv_at hl 1 rfl) ?_
  refine lv_icmp_eq (tgt := 532) hx hb dL_law_527 (by decide) (fun _ => ?_) (fun h => absurd htr h)
  refine lv_iload hx hb dL_law_532 (lv_at hl 1 rfl) ?_
  have kd : W p l e room_1 s m #[Value.ref b] below meth c H locs (cells + 3) (slots + 6 * 3) Q (F0 m 549 ls []) := by
    refine lv_goto (tgt := 784) hx hb dL_law_549 (by decide) ?_
    refine W.widen (k := cells + 3) (n := slots + 18) (by omega) (by omega) ?_
    exact kk M2 hI2 _ _ hH hS _ (lv_sub hl [2, 3, 4, 5, 6] rfl)
  refine lv_if_ne (tgt := 549) hx hb dL_law_534 (by decide) (fun _ => kd) (fun hk0 => ?_)
  refine lv_aload_n hx hb dL_law_537 rfl (lv_at hl 5 rfl) ?_
  refine lv_iconst (v := (0 : Int32)) hx hb dL_law_538 (by decide) ?_
  refine oa_lld hx hb hE hH dL_law_539 ?_
  refine lv_iload hx hb dL_law_540 (lv_at hl 0 rfl) ?_
  refine lv_i2l (v := bv.toInt64) hx hb dL_law_542 rfl ?_
  refine W.lcmp hx hb dL_law_543 ?_
  refine lv_if_eq (tgt := 549) hx hb dL_law_544 (by decide) (fun _ => kd) (fun h => absurd ((lg_cmp_eq _ _).mpr (by rw [hout hk0])) h)
set_option maxHeartbeats 4000000 in
set_option maxRecDepth 100000 in
theorem lw_case8 {p : Program} {l : Launch} {e : Env} {s : State} {m : MethodId} {below : List Frame} {meth : Method} {c : Code} {b L : Nat} {xs : Nat → Int32} {D : va_G} {ca : Nat → ClassId} {ad : Nat → Nat → Nat} {b0 : Nat} {Q : State → Prop} (C : oa_Lw p l s m meth c b L xs D ca ad b0) {I : oa_M → Prop} (hsim : oa_S8 I) {cells slots : Nat} (hcl : cells + 3 ≤ 600096) (hsl : slots + 18 ≤ 7301385) (x4 : Int32) (hin1 : vp_in (x4 + (1 : Int32)) L) (hin2 : vp_in (x4 + (2 : Int32)) L) (hin3 : vp_in (x4 + (3 : Int32)) L) (hin4 : vp_in (x4 + (4 : Int32)) L) (hin5 : vp_in (x4 + (5 : Int32)) L) (kk : ∀ (M : oa_M), I M → ∀ (H : Heap) (locs : List Loc), oa_H D ca ad M H → va_S (fun q => b0 ≤ q) s.heap H locs → ∀ (ls : Array Slot), lv_has ls 7 [(0, .ref b), (1, .ref (ad 0 0)), (2, .ref (ad 20 0)), (3, .ref (ad 50 0)), (4, .int x4)] → W p l e room_1 s m #[Value.ref b] below meth c H locs (cells + 3) (slots + 18) Q (F0 m 784 ls [])) (M : oa_M) (hI : I M) (H : Heap) (locs : List Loc) (hH : oa_H D ca ad M H) (hS : va_S (fun q => b0 ≤ q) s.heap H locs) (ls : Array Slot) (hl : lv_has ls 7 [(0, .ref b), (1, .ref (ad 0 0)), (2, .ref (ad 20 0)), (3, .ref (ad 50 0)), (4, .int x4)]) : W p l e room_1 s m #[Value.ref b] below meth c H locs cells slots Q (F0 m 552 ls []) := by
  obtain ⟨hx, hb, hr, hml, hown, hts, hX, hbl, hlocks, hE, hw, hb0, hl0⟩ := id C
  have hbA : ¬ (fun q : Nat => b0 ≤ q) b := by rw [hb0]; exact Nat.not_le.mpr hbl
  obtain ⟨n1, n2, kc, M1, bv, M2, h1, h2, htr, hout, hI2⟩ := hsim (xs (x4 + (1 : Int32)).toNatClampNeg) M hI
  refine lv_aload_n hx hb dL_law_552 rfl (lv_at hl 1 rfl) ?_
  refine lv_aload_n hx hb dL_law_553 rfl (lv_at hl 0 rfl) ?_
  refine lv_iload hx hb dL_law_554 (lv_at hl 4 rfl) ?_
  refine lv_iconst (v := (1 : Int32)) hx hb dL_law_556 (by decide) ?_
  refine lv_iadd hx hb dL_law_557 ?_
  refine va_sld hx hb hX hbl hbA hS hin1 dL_law_558 ?_
  refine lv_aload_n hx hb dL_law_559 rfl (lv_at hl 3 rfl) ?_
  refine va_calli (vx_runSW (hh := [(0, 9, 12, 15), (0, 9, 15, 25)]) (As := [.ref (ad 0 0), .int (xs (x4 + (1 : Int32)).toNatClampNeg), .ref (ad 50 0)]) (rest := []) ⟨hx, hb, hml, hown, hts⟩ (cL_write_ok l hl0 D ca ad b0 hw n1 (xs (x4 + (1 : Int32)).toNatClampNeg) M kc M1 h1) (vx_cwSW 3 hts (oa_gH tw_492 tw_493 tw_43 tw_494) rfl rfl rfl (by decide +kernel) ⟨Nat.le_of_ble_eq_true rfl, Nat.le_of_ble_eq_true rfl⟩) ⟨oa_blind D ca ad b0 M _, fun U hU hW => ⟨rfl, by rw [hU]; exact hH, hE.call hS hU hW⟩⟩ rfl rfl hl.1 rfl (lv_room (Nat.le_of_ble_eq_true rfl)) dL_law_560 ⟨by show cells + 2 ≤ 600096; omega, by show slots + 6 * 2 ≤ 7301385; omega⟩) hS (fun q _ h => h) (fun q h => h) (fun r9 u t H1 locs1 ht hvm hw1 hB hz1 hk1 hS1 => ?_)
  obtain ⟨rfl, rfl⟩ := hw1
  rw [ht] at hB
  have hH := hB
  have hS := hS1
  refine lv_istore (lv' := [(5, .int r9), (0, .ref b), (1, .ref (ad 0 0)), (2, .ref (ad 20 0)), (3, .ref (ad 50 0)), (4, .int x4)]) hx hb dL_law_563 hl (by decide) rfl (fun ls hl => ?_)
  refine lv_aload_n hx hb dL_law_565 rfl (lv_at hl 3 rfl) ?_
  refine lv_aload_n hx hb dL_law_566 rfl (lv_at hl 1 rfl) ?_
  refine lv_iload hx hb dL_law_567 (lv_at hl 5 rfl) ?_
  refine lv_iconst (v := (1 : Int32)) hx hb dL_law_569 (by decide) ?_
  refine lv_iadd hx hb dL_law_570 ?_
  refine va_sld hx hb hX hbl hbA hS hin1 dL_law_571 ?_
  refine oa_cvi (As := [.int (xs (x4 + (1 : Int32)).toNatClampNeg)]) (rest := []) ⟨hx, hb, hml, hown, hts⟩ (cX5_write_ok l D ca ad b0 hw n2 (xs (x4 + (1 : Int32)).toNatClampNeg) _ bv M2 h2) (cwV 1 hts (oa_gV tw_808 tw_809 tw_810 tw_49 tw_811) rfl rfl rfl (by decide +kernel) ⟨Nat.le_of_ble_eq_true rfl, Nat.le_of_ble_eq_true rfl⟩) hE hH hS (oa_recv (k := 20) (ci := 5) hE hH (by decide) rfl rfl) rfl hl.1 rfl (Nat.le_of_ble_eq_true rfl) dL_law_572 ⟨by show cells + 2 ≤ 600096; omega, by show slots + 6 * 2 ≤ 7301385; omega⟩ (fun H locs hH hS => ?_)
  refine lv_istore (lv' := [(6, .int bv), (5, .int r9), (0, .ref b), (1, .ref (ad 0 0)), (2, .ref (ad 20 0)), (3, .ref (ad 50 0)), (4, .int x4)]) hx hb dL_law_575 hl (by decide) rfl (fun ls hl => ?_)
  refine lv_aload_n hx hb dL_law_577 rfl (lv_at hl 4 rfl) ?_
  refine oa_cvi (As := []) (rest := []) ⟨hx, hb, hml, hown, hts⟩ (cX5_thrown_ok l D ca ad b0 hw 0  M2 (M2 20 0 30) M2 rfl) (cwV 0 hts (oa_gV tw_710 tw_711 tw_712 tw_49 tw_713) rfl rfl rfl (by decide +kernel) ⟨Nat.le_of_ble_eq_true rfl, Nat.le_of_ble_eq_true rfl⟩) hE hH hS (oa_recv (k := 20) (ci := 5) hE hH (by decide) rfl rfl) rfl hl.1 rfl (Nat.le_of_ble_eq_true rfl) dL_law_578 ⟨by show cells + 2 ≤ 600096; omega, by show slots + 6 * 2 ≤ 7301385; omega⟩ (fun H locs hH hS => ?_)
  refine lv_iload hx hb dL_law_581 (lv_at hl 1 rfl) ?_
  refine lv_icmp_eq (tgt := 588) hx hb dL_law_583 (by decide) (fun _ => ?_) (fun h => absurd htr h)
  refine lv_iload hx hb dL_law_588 (lv_at hl 1 rfl) ?_
  have kd : W p l e room_1 s m #[Value.ref b] below meth c H locs (cells + 2) (slots + 6 * 2) Q (F0 m 605 ls []) := by
    refine lv_goto (tgt := 784) hx hb dL_law_605 (by decide) ?_
    refine W.widen (k := cells + 3) (n := slots + 18) (by omega) (by omega) ?_
    exact kk M2 hI2 _ _ hH hS _ (lv_sub hl [2, 3, 4, 5, 6] rfl)
  refine lv_if_ne (tgt := 605) hx hb dL_law_590 (by decide) (fun _ => kd) (fun hk0 => ?_)
  refine lv_aload_n hx hb dL_law_593 rfl (lv_at hl 5 rfl) ?_
  refine lv_iconst (v := (0 : Int32)) hx hb dL_law_594 (by decide) ?_
  refine oa_lld hx hb hE hH dL_law_595 ?_
  refine lv_iload hx hb dL_law_596 (lv_at hl 0 rfl) ?_
  refine lv_i2l (v := bv.toInt64) hx hb dL_law_598 rfl ?_
  refine W.lcmp hx hb dL_law_599 ?_
  refine lv_if_eq (tgt := 605) hx hb dL_law_600 (by decide) (fun _ => kd) (fun h => absurd ((lg_cmp_eq _ _).mpr (by rw [hout hk0])) h)
set_option maxHeartbeats 4000000 in
set_option maxRecDepth 100000 in
theorem lw_case9 {p : Program} {l : Launch} {e : Env} {s : State} {m : MethodId} {below : List Frame} {meth : Method} {c : Code} {b L : Nat} {xs : Nat → Int32} {D : va_G} {ca : Nat → ClassId} {ad : Nat → Nat → Nat} {b0 : Nat} {Q : State → Prop} (C : oa_Lw p l s m meth c b L xs D ca ad b0) {I : oa_M → Prop} (hsim : oa_S9 I) {cells slots : Nat} (hcl : cells + 3 ≤ 600096) (hsl : slots + 18 ≤ 7301385) (x4 : Int32) (hin1 : vp_in (x4 + (1 : Int32)) L) (hin2 : vp_in (x4 + (2 : Int32)) L) (hin3 : vp_in (x4 + (3 : Int32)) L) (hin4 : vp_in (x4 + (4 : Int32)) L) (hin5 : vp_in (x4 + (5 : Int32)) L) (kk : ∀ (M : oa_M), I M → ∀ (H : Heap) (locs : List Loc), oa_H D ca ad M H → va_S (fun q => b0 ≤ q) s.heap H locs → ∀ (ls : Array Slot), lv_has ls 7 [(0, .ref b), (1, .ref (ad 0 0)), (2, .ref (ad 20 0)), (3, .ref (ad 50 0)), (4, .int x4)] → W p l e room_1 s m #[Value.ref b] below meth c H locs (cells + 3) (slots + 18) Q (F0 m 784 ls [])) (M : oa_M) (hI : I M) (H : Heap) (locs : List Loc) (hH : oa_H D ca ad M H) (hS : va_S (fun q => b0 ≤ q) s.heap H locs) (ls : Array Slot) (hl : lv_has ls 7 [(0, .ref b), (1, .ref (ad 0 0)), (2, .ref (ad 20 0)), (3, .ref (ad 50 0)), (4, .int x4)]) : W p l e room_1 s m #[Value.ref b] below meth c H locs cells slots Q (F0 m 608 ls []) := by
  obtain ⟨hx, hb, hr, hml, hown, hts, hX, hbl, hlocks, hE, hw, hb0, hl0⟩ := id C
  have hbA : ¬ (fun q : Nat => b0 ≤ q) b := by rw [hb0]; exact Nat.not_le.mpr hbl
  obtain ⟨n1, n2, r, M1, M2, h1, h2, hI2⟩ := hsim (xs (x4 + (1 : Int32)).toNatClampNeg) M hI
  refine lv_aload_n hx hb dL_law_608 rfl (lv_at hl 1 rfl) ?_
  refine lv_aload_n hx hb dL_law_609 rfl (lv_at hl 0 rfl) ?_
  refine lv_iload hx hb dL_law_610 (lv_at hl 4 rfl) ?_
  refine lv_iconst (v := (1 : Int32)) hx hb dL_law_612 (by decide) ?_
  refine lv_iadd hx hb dL_law_613 ?_
  refine va_sld hx hb hX hbl hbA hS hin1 dL_law_614 ?_
  refine oa_cvi (As := [.int (xs (x4 + (1 : Int32)).toNatClampNeg)]) (rest := []) ⟨hx, hb, hml, hown, hts⟩ (cX4_written_ok l D ca ad b0 hw n1 (xs (x4 + (1 : Int32)).toNatClampNeg) M r M1 h1) (cwV 1 hts (oa_gV tw_234 tw_235 tw_236 tw_44 tw_237) rfl rfl rfl (by decide +kernel) ⟨Nat.le_of_ble_eq_true rfl, Nat.le_of_ble_eq_true rfl⟩) hE hH hS (oa_recv (k := 0) (ci := 4) hE hH (by decide) rfl rfl) rfl hl.1 rfl (Nat.le_of_ble_eq_true rfl) dL_law_615 ⟨by show cells ≤ 600096; omega, by show slots ≤ 7301385; omega⟩ (fun H locs hH hS => ?_)
  refine lv_aload_n hx hb dL_law_618 rfl (lv_at hl 2 rfl) ?_
  refine lv_aload_n hx hb dL_law_619 rfl (lv_at hl 0 rfl) ?_
  refine lv_iload hx hb dL_law_620 (lv_at hl 4 rfl) ?_
  refine lv_iconst (v := (1 : Int32)) hx hb dL_law_622 (by decide) ?_
  refine lv_iadd hx hb dL_law_623 ?_
  refine va_sld hx hb hX hbl hbA hS hin1 dL_law_624 ?_
  refine oa_cvi (As := [.int (xs (x4 + (1 : Int32)).toNatClampNeg)]) (rest := [.int r]) ⟨hx, hb, hml, hown, hts⟩ (cX5_written_ok l D ca ad b0 hw n2 (xs (x4 + (1 : Int32)).toNatClampNeg) M1 r M2 h2) (cwV 1 hts (oa_gV tw_824 tw_825 tw_826 tw_49 tw_827) rfl rfl rfl (by decide +kernel) ⟨Nat.le_of_ble_eq_true rfl, Nat.le_of_ble_eq_true rfl⟩) hE hH hS (oa_recv (k := 20) (ci := 5) hE hH (by decide) rfl rfl) rfl hl.1 rfl (Nat.le_of_ble_eq_true rfl) dL_law_625 ⟨by show cells ≤ 600096; omega, by show slots ≤ 7301385; omega⟩ (fun H locs hH hS => ?_)
  refine lv_icmp_eq (tgt := 784) hx hb dL_law_628 (by decide) (fun _ => ?_) (fun h => absurd rfl h)
  refine W.widen (k := cells + 3) (n := slots + 18) (by omega) (by omega) ?_
  exact kk M2 hI2 _ _ hH hS _ hl
set_option maxHeartbeats 4000000 in
set_option maxRecDepth 100000 in
theorem lw_case10 {p : Program} {l : Launch} {e : Env} {s : State} {m : MethodId} {below : List Frame} {meth : Method} {c : Code} {b L : Nat} {xs : Nat → Int32} {D : va_G} {ca : Nat → ClassId} {ad : Nat → Nat → Nat} {b0 : Nat} {Q : State → Prop} (C : oa_Lw p l s m meth c b L xs D ca ad b0) {I : oa_M → Prop} (hsim : oa_S10 I) {cells slots : Nat} (hcl : cells + 3 ≤ 600096) (hsl : slots + 18 ≤ 7301385) (x4 : Int32) (hin1 : vp_in (x4 + (1 : Int32)) L) (hin2 : vp_in (x4 + (2 : Int32)) L) (hin3 : vp_in (x4 + (3 : Int32)) L) (hin4 : vp_in (x4 + (4 : Int32)) L) (hin5 : vp_in (x4 + (5 : Int32)) L) (kk : ∀ (ad : Nat → Nat → Nat), oa_W ad b0 → ∀ (M : oa_M), I M → ∀ (H : Heap) (locs : List Loc), oa_H D ca ad M H → va_S (fun q => b0 ≤ q) s.heap H locs → ∀ (ls : Array Slot), lv_has ls 7 [(0, .ref b), (1, .ref (ad 0 0)), (2, .ref (ad 20 0)), (3, .ref (ad 50 0)), (4, .int x4)] → W p l e room_1 s m #[Value.ref b] below meth c H locs (cells + 3) (slots + 18) Q (F0 m 784 ls [])) (M : oa_M) (hI : I M) (H : Heap) (locs : List Loc) (hH : oa_H D ca ad M H) (hS : va_S (fun q => b0 ≤ q) s.heap H locs) (ls : Array Slot) (hl : lv_has ls 7 [(0, .ref b), (1, .ref (ad 0 0)), (2, .ref (ad 20 0)), (3, .ref (ad 50 0)), (4, .int x4)]) : W p l e room_1 s m #[Value.ref b] below meth c H locs cells slots Q (F0 m 633 ls []) := by
  obtain ⟨hx, hb, hr, hml, hown, hts, hX, hbl, hlocks, hE, hw, hb0, hl0⟩ := id C
  have hbA : ¬ (fun q : Nat => b0 ≤ q) b := by rw [hb0]; exact Nat.not_le.mpr hbl
  obtain ⟨n1, n2, kc, M1, bv, M2, h1, h2, htr, hout, hI2⟩ := hsim  M hI
  refine lv_aload_n hx hb dL_law_633 rfl (lv_at hl 1 rfl) ?_
  refine lv_aload_n hx hb dL_law_634 rfl (lv_at hl 3 rfl) ?_
  refine va_calli (vx_runSW (hh := [(0, 8, 11, 13), (0, 8, 14, 15)]) (As := [.ref (ad 0 0), .ref (ad 50 0)]) (rest := []) ⟨hx, hb, hml, hown, hts⟩ (cL_line_ok l hl0 D ca ad b0 hw n1  M kc M1 h1) (vx_cwSW 2 hts (oa_gH tw_513 tw_514 tw_43 tw_515) rfl rfl rfl (by decide +kernel) ⟨Nat.le_of_ble_eq_true rfl, Nat.le_of_ble_eq_true rfl⟩) ⟨oa_blind D ca ad b0 M _, fun U hU hW => ⟨rfl, by rw [hU]; exact hH, hE.call hS hU hW⟩⟩ rfl rfl hl.1 rfl (lv_room (Nat.le_of_ble_eq_true rfl)) dL_law_635 ⟨by show cells + 1 ≤ 600096; omega, by show slots + 6 * 1 ≤ 7301385; omega⟩) hS (fun q _ h => h) (fun q h => h) (fun r9 u t H1 locs1 ht hvm hw1 hB hz1 hk1 hS1 => ?_)
  obtain ⟨rfl, rfl⟩ := hw1
  rw [ht] at hB
  obtain ⟨ad, hk9, hH⟩ := hB
  rw [← hk9.2.1, ← hk9.2.2.1, ← hk9.2.2.2] at hl
  have hw := hk9.1
  have hS := hS1
  refine lv_istore (lv' := [(5, .int r9), (0, .ref b), (1, .ref (ad 0 0)), (2, .ref (ad 20 0)), (3, .ref (ad 50 0)), (4, .int x4)]) hx hb dL_law_638 hl (by decide) rfl (fun ls hl => ?_)
  refine lv_aload_n hx hb dL_law_640 rfl (lv_at hl 3 rfl) ?_
  refine oa_cvi (As := []) (rest := []) ⟨hx, hb, hml, hown, hts⟩ (cX5_line_ok l D ca ad b0 hw n2  _ bv M2 h2) (cwV 0 hts (oa_gV tw_828 tw_829 tw_830 tw_49 tw_831) rfl rfl rfl (by decide +kernel) ⟨Nat.le_of_ble_eq_true rfl, Nat.le_of_ble_eq_true rfl⟩) hE hH hS (oa_recv (k := 20) (ci := 5) hE hH (by decide) rfl rfl) rfl hl.1 rfl (Nat.le_of_ble_eq_true rfl) dL_law_641 ⟨by show cells + 1 ≤ 600096; omega, by show slots + 6 * 1 ≤ 7301385; omega⟩ (fun H locs hH hS => ?_)
  refine lv_istore (lv' := [(6, .int bv), (5, .int r9), (0, .ref b), (1, .ref (ad 0 0)), (2, .ref (ad 20 0)), (3, .ref (ad 50 0)), (4, .int x4)]) hx hb dL_law_644 hl (by decide) rfl (fun ls hl => ?_)
  refine lv_aload_n hx hb dL_law_646 rfl (lv_at hl 4 rfl) ?_
  refine oa_cvi (As := []) (rest := []) ⟨hx, hb, hml, hown, hts⟩ (cX5_thrown_ok l D ca ad b0 hw 0  M2 (M2 20 0 30) M2 rfl) (cwV 0 hts (oa_gV tw_710 tw_711 tw_712 tw_49 tw_713) rfl rfl rfl (by decide +kernel) ⟨Nat.le_of_ble_eq_true rfl, Nat.le_of_ble_eq_true rfl⟩) hE hH hS (oa_recv (k := 20) (ci := 5) hE hH (by decide) rfl rfl) rfl hl.1 rfl (Nat.le_of_ble_eq_true rfl) dL_law_647 ⟨by show cells + 1 ≤ 600096; omega, by show slots + 6 * 1 ≤ 7301385; omega⟩ (fun H locs hH hS => ?_)
  refine lv_iload hx hb dL_law_650 (lv_at hl 1 rfl) ?_
  refine lv_icmp_eq (tgt := 657) hx hb dL_law_652 (by decide) (fun _ => ?_) (fun h => absurd htr h)
  refine lv_iload hx hb dL_law_657 (lv_at hl 1 rfl) ?_
  have kd : W p l e room_1 s m #[Value.ref b] below meth c H locs (cells + 1) (slots + 6 * 1) Q (F0 m 674 ls []) := by
    refine lv_goto (tgt := 784) hx hb dL_law_674 (by decide) ?_
    refine W.widen (k := cells + 3) (n := slots + 18) (by omega) (by omega) ?_
    exact kk ad hw M2 hI2 _ _ hH hS _ (lv_sub hl [2, 3, 4, 5, 6] rfl)
  refine lv_if_ne (tgt := 674) hx hb dL_law_659 (by decide) (fun _ => kd) (fun hk0 => ?_)
  refine lv_aload_n hx hb dL_law_662 rfl (lv_at hl 5 rfl) ?_
  refine lv_iconst (v := (0 : Int32)) hx hb dL_law_663 (by decide) ?_
  refine oa_lld hx hb hE hH dL_law_664 ?_
  refine lv_iload hx hb dL_law_665 (lv_at hl 0 rfl) ?_
  refine lv_i2l (v := bv.toInt64) hx hb dL_law_667 rfl ?_
  refine W.lcmp hx hb dL_law_668 ?_
  refine lv_if_eq (tgt := 674) hx hb dL_law_669 (by decide) (fun _ => kd) (fun h => absurd ((lg_cmp_eq _ _).mpr (by rw [hout hk0])) h)
set_option maxHeartbeats 4000000 in
set_option maxRecDepth 100000 in
theorem lw_case11 {p : Program} {l : Launch} {e : Env} {s : State} {m : MethodId} {below : List Frame} {meth : Method} {c : Code} {b L : Nat} {xs : Nat → Int32} {D : va_G} {ca : Nat → ClassId} {ad : Nat → Nat → Nat} {b0 : Nat} {Q : State → Prop} (C : oa_Lw p l s m meth c b L xs D ca ad b0) {I : oa_M → Prop} (hsim : oa_S11 I) {cells slots : Nat} (hcl : cells + 3 ≤ 600096) (hsl : slots + 18 ≤ 7301385) (x4 : Int32) (hin1 : vp_in (x4 + (1 : Int32)) L) (hin2 : vp_in (x4 + (2 : Int32)) L) (hin3 : vp_in (x4 + (3 : Int32)) L) (hin4 : vp_in (x4 + (4 : Int32)) L) (hin5 : vp_in (x4 + (5 : Int32)) L) (kk : ∀ (M : oa_M), I M → ∀ (H : Heap) (locs : List Loc), oa_H D ca ad M H → va_S (fun q => b0 ≤ q) s.heap H locs → ∀ (ls : Array Slot), lv_has ls 7 [(0, .ref b), (1, .ref (ad 0 0)), (2, .ref (ad 20 0)), (3, .ref (ad 50 0)), (4, .int x4)] → W p l e room_1 s m #[Value.ref b] below meth c H locs (cells + 3) (slots + 18) Q (F0 m 784 ls [])) (M : oa_M) (hI : I M) (H : Heap) (locs : List Loc) (hH : oa_H D ca ad M H) (hS : va_S (fun q => b0 ≤ q) s.heap H locs) (ls : Array Slot) (hl : lv_has ls 7 [(0, .ref b), (1, .ref (ad 0 0)), (2, .ref (ad 20 0)), (3, .ref (ad 50 0)), (4, .int x4)]) : W p l e room_1 s m #[Value.ref b] below meth c H locs cells slots Q (F0 m 677 ls []) := by
  obtain ⟨hx, hb, hr, hml, hown, hts, hX, hbl, hlocks, hE, hw, hb0, hl0⟩ := id C
  have hbA : ¬ (fun q : Nat => b0 ≤ q) b := by rw [hb0]; exact Nat.not_le.mpr hbl
  obtain ⟨n1, n2, r, M1, M2, h1, h2, hI2⟩ := hsim  M hI
  refine lv_aload_n hx hb dL_law_677 rfl (lv_at hl 1 rfl) ?_
  refine oa_cvi (As := []) (rest := []) ⟨hx, hb, hml, hown, hts⟩ (cX4_erase_ok l D ca ad b0 hw n1  M r M1 h1) (cwV 0 hts (oa_gV tw_242 tw_243 tw_244 tw_44 tw_245) rfl rfl rfl (by decide +kernel) ⟨Nat.le_of_ble_eq_true rfl, Nat.le_of_ble_eq_true rfl⟩) hE hH hS (oa_recv (k := 0) (ci := 4) hE hH (by decide) rfl rfl) rfl hl.1 rfl (Nat.le_of_ble_eq_true rfl) dL_law_678 ⟨by show cells ≤ 600096; omega, by show slots ≤ 7301385; omega⟩ (fun H locs hH hS => ?_)
  refine lv_aload_n hx hb dL_law_681 rfl (lv_at hl 2 rfl) ?_
  refine oa_cvi (As := []) (rest := [.int r]) ⟨hx, hb, hml, hown, hts⟩ (cX5_erase_ok l D ca ad b0 hw n2  M1 r M2 h2) (cwV 0 hts (oa_gV tw_846 tw_847 tw_848 tw_49 tw_849) rfl rfl rfl (by decide +kernel) ⟨Nat.le_of_ble_eq_true rfl, Nat.le_of_ble_eq_true rfl⟩) hE hH hS (oa_recv (k := 20) (ci := 5) hE hH (by decide) rfl rfl) rfl hl.1 rfl (Nat.le_of_ble_eq_true rfl) dL_law_682 ⟨by show cells ≤ 600096; omega, by show slots ≤ 7301385; omega⟩ (fun H locs hH hS => ?_)
  refine lv_icmp_eq (tgt := 784) hx hb dL_law_685 (by decide) (fun _ => ?_) (fun h => absurd rfl h)
  refine W.widen (k := cells + 3) (n := slots + 18) (by omega) (by omega) ?_
  exact kk M2 hI2 _ _ hH hS _ hl
set_option maxHeartbeats 4000000 in
set_option maxRecDepth 100000 in
theorem lw_case12 {p : Program} {l : Launch} {e : Env} {s : State} {m : MethodId} {below : List Frame} {meth : Method} {c : Code} {b L : Nat} {xs : Nat → Int32} {D : va_G} {ca : Nat → ClassId} {ad : Nat → Nat → Nat} {b0 : Nat} {Q : State → Prop} (C : oa_Lw p l s m meth c b L xs D ca ad b0) {I : oa_M → Prop} (hsim : oa_S12 I) {cells slots : Nat} (hcl : cells + 3 ≤ 600096) (hsl : slots + 18 ≤ 7301385) (x4 : Int32) (hin1 : vp_in (x4 + (1 : Int32)) L) (hin2 : vp_in (x4 + (2 : Int32)) L) (hin3 : vp_in (x4 + (3 : Int32)) L) (hin4 : vp_in (x4 + (4 : Int32)) L) (hin5 : vp_in (x4 + (5 : Int32)) L) (kk : ∀ (M : oa_M), I M → ∀ (H : Heap) (locs : List Loc), oa_H D ca ad M H → va_S (fun q => b0 ≤ q) s.heap H locs → ∀ (ls : Array Slot), lv_has ls 7 [(0, .ref b), (1, .ref (ad 0 0)), (2, .ref (ad 20 0)), (3, .ref (ad 50 0)), (4, .int x4)] → W p l e room_1 s m #[Value.ref b] below meth c H locs (cells + 3) (slots + 18) Q (F0 m 784 ls [])) (M : oa_M) (hI : I M) (H : Heap) (locs : List Loc) (hH : oa_H D ca ad M H) (hS : va_S (fun q => b0 ≤ q) s.heap H locs) (ls : Array Slot) (hl : lv_has ls 7 [(0, .ref b), (1, .ref (ad 0 0)), (2, .ref (ad 20 0)), (3, .ref (ad 50 0)), (4, .int x4)]) : W p l e room_1 s m #[Value.ref b] below meth c H locs cells slots Q (F0 m 690 ls []) := by
  obtain ⟨hx, hb, hr, hml, hown, hts, hX, hbl, hlocks, hE, hw, hb0, hl0⟩ := id C
  have hbA : ¬ (fun q : Nat => b0 ≤ q) b := by rw [hb0]; exact Nat.not_le.mpr hbl
  obtain ⟨n1, n2, kc, M1, bv, M2, h1, h2, htr, hout, hI2⟩ := hsim (xs (x4 + (1 : Int32)).toNatClampNeg) M hI
  refine lv_aload_n hx hb dL_law_690 rfl (lv_at hl 1 rfl) ?_
  refine lv_aload_n hx hb dL_law_691 rfl (lv_at hl 0 rfl) ?_
  refine lv_iload hx hb dL_law_692 (lv_at hl 4 rfl) ?_
  refine lv_iconst (v := (1 : Int32)) hx hb dL_law_694 (by decide) ?_
  refine lv_iadd hx hb dL_law_695 ?_
  refine va_sld hx hb hX hbl hbA hS hin1 dL_law_696 ?_
  refine lv_aload_n hx hb dL_law_697 rfl (lv_at hl 3 rfl) ?_
  refine va_calli (vx_runSW (hh := [(0, 9, 12, 15), (0, 9, 15, 46), (0, 9, 18, 25), (0, 9, 21, 13)]) (As := [.ref (ad 0 0), .int (xs (x4 + (1 : Int32)).toNatClampNeg), .ref (ad 50 0)]) (rest := []) ⟨hx, hb, hml, hown, hts⟩ (cL_assemble_ok l hl0 D ca ad b0 hw n1 (xs (x4 + (1 : Int32)).toNatClampNeg) M kc M1 h1) (vx_cwSW 3 hts (oa_gH tw_543 tw_544 tw_43 tw_545) rfl rfl rfl (by decide +kernel) ⟨Nat.le_of_ble_eq_true rfl, Nat.le_of_ble_eq_true rfl⟩) ⟨oa_blind D ca ad b0 M _, fun U hU hW => ⟨rfl, by rw [hU]; exact hH, hE.call hS hU hW⟩⟩ rfl rfl hl.1 rfl (lv_room (Nat.le_of_ble_eq_true rfl)) dL_law_698 ⟨by show cells + 3 ≤ 600096; omega, by show slots + 6 * 3 ≤ 7301385; omega⟩) hS (fun q _ h => h) (fun q h => h) (fun r9 u t H1 locs1 ht hvm hw1 hB hz1 hk1 hS1 => ?_)
  obtain ⟨rfl, rfl⟩ := hw1
  rw [ht] at hB
  have hH := hB
  have hS := hS1
  refine lv_istore (lv' := [(5, .int r9), (0, .ref b), (1, .ref (ad 0 0)), (2, .ref (ad 20 0)), (3, .ref (ad 50 0)), (4, .int x4)]) hx hb dL_law_701 hl (by decide) rfl (fun ls hl => ?_)
  refine lv_aload_n hx hb dL_law_703 rfl (lv_at hl 3 rfl) ?_
  refine lv_aload_n hx hb dL_law_704 rfl (lv_at hl 1 rfl) ?_
  refine lv_iload hx hb dL_law_705 (lv_at hl 5 rfl) ?_
  refine lv_iconst (v := (1 : Int32)) hx hb dL_law_707 (by decide) ?_
  refine lv_iadd hx hb dL_law_708 ?_
  refine va_sld hx hb hX hbl hbA hS hin1 dL_law_709 ?_
  refine oa_cvi (As := [.int (xs (x4 + (1 : Int32)).toNatClampNeg)]) (rest := []) ⟨hx, hb, hml, hown, hts⟩ (cX5_assemble_ok l D ca ad b0 hw n2 (xs (x4 + (1 : Int32)).toNatClampNeg) _ bv M2 h2) (cwV 1 hts (oa_gV tw_850 tw_851 tw_852 tw_49 tw_853) rfl rfl rfl (by decide +kernel) ⟨Nat.le_of_ble_eq_true rfl, Nat.le_of_ble_eq_true rfl⟩) hE hH hS (oa_recv (k := 20) (ci := 5) hE hH (by decide) rfl rfl) rfl hl.1 rfl (Nat.le_of_ble_eq_true rfl) dL_law_710 ⟨by show cells + 3 ≤ 600096; omega, by show slots + 6 * 3 ≤ 7301385; omega⟩ (fun H locs hH hS => ?_)
  refine lv_istore (lv' := [(6, .int bv), (5, .int r9), (0, .ref b), (1, .ref (ad 0 0)), (2, .ref (ad 20 0)), (3, .ref (ad 50 0)), (4, .int x4)]) hx hb dL_law_713 hl (by decide) rfl (fun ls hl => ?_)
  refine lv_aload_n hx hb dL_law_715 rfl (lv_at hl 4 rfl) ?_
  refine oa_cvi (As := []) (rest := []) ⟨hx, hb, hml, hown, hts⟩ (cX5_thrown_ok l D ca ad b0 hw 0  M2 (M2 20 0 30) M2 rfl) (cwV 0 hts (oa_gV tw_710 tw_711 tw_712 tw_49 tw_713) rfl rfl rfl (by decide +kernel) ⟨Nat.le_of_ble_eq_true rfl, Nat.le_of_ble_eq_true rfl⟩) hE hH hS (oa_recv (k := 20) (ci := 5) hE hH (by decide) rfl rfl) rfl hl.1 rfl (Nat.le_of_ble_eq_true rfl) dL_law_716 ⟨by show cells + 3 ≤ 600096; omega, by show slots + 6 * 3 ≤ 7301385; omega⟩ (fun H locs hH hS => ?_)
  refine lv_iload hx hb dL_law_719 (lv_at hl 1 rfl) ?_
  refine lv_icmp_eq (tgt := 726) hx hb dL_law_721 (by decide) (fun _ => ?_) (fun h => absurd htr h)
  refine lv_iload hx hb dL_law_726 (lv_at hl 1 rfl) ?_
  have kd : W p l e room_1 s m #[Value.ref b] below meth c H locs (cells + 3) (slots + 6 * 3) Q (F0 m 743 ls []) := by
    refine lv_goto (tgt := 784) hx hb dL_law_743 (by decide) ?_
    refine W.widen (k := cells + 3) (n := slots + 18) (by omega) (by omega) ?_
    exact kk M2 hI2 _ _ hH hS _ (lv_sub hl [2, 3, 4, 5, 6] rfl)
  refine lv_if_ne (tgt := 743) hx hb dL_law_728 (by decide) (fun _ => kd) (fun hk0 => ?_)
  refine lv_aload_n hx hb dL_law_731 rfl (lv_at hl 5 rfl) ?_
  refine lv_iconst (v := (0 : Int32)) hx hb dL_law_732 (by decide) ?_
  refine oa_lld hx hb hE hH dL_law_733 ?_
  refine lv_iload hx hb dL_law_734 (lv_at hl 0 rfl) ?_
  refine lv_i2l (v := bv.toInt64) hx hb dL_law_736 rfl ?_
  refine W.lcmp hx hb dL_law_737 ?_
  refine lv_if_eq (tgt := 743) hx hb dL_law_738 (by decide) (fun _ => kd) (fun h => absurd ((lg_cmp_eq _ _).mpr (by rw [hout hk0])) h)
set_option maxHeartbeats 4000000 in
set_option maxRecDepth 100000 in
theorem lw_case13 {p : Program} {l : Launch} {e : Env} {s : State} {m : MethodId} {below : List Frame} {meth : Method} {c : Code} {b L : Nat} {xs : Nat → Int32} {D : va_G} {ca : Nat → ClassId} {ad : Nat → Nat → Nat} {b0 : Nat} {Q : State → Prop} (C : oa_Lw p l s m meth c b L xs D ca ad b0) {I : oa_M → Prop} (hsim : oa_S13 I) {cells slots : Nat} (hcl : cells + 3 ≤ 600096) (hsl : slots + 18 ≤ 7301385) (x4 : Int32) (hin1 : vp_in (x4 + (1 : Int32)) L) (hin2 : vp_in (x4 + (2 : Int32)) L) (hin3 : vp_in (x4 + (3 : Int32)) L) (hin4 : vp_in (x4 + (4 : Int32)) L) (hin5 : vp_in (x4 + (5 : Int32)) L) (kk : ∀ (M : oa_M), I M → ∀ (H : Heap) (locs : List Loc), oa_H D ca ad M H → va_S (fun q => b0 ≤ q) s.heap H locs → ∀ (ls : Array Slot), lv_has ls 7 [(0, .ref b), (1, .ref (ad 0 0)), (2, .ref (ad 20 0)), (3, .ref (ad 50 0)), (4, .int x4)] → W p l e room_1 s m #[Value.ref b] below meth c H locs (cells + 3) (slots + 18) Q (F0 m 784 ls [])) (M : oa_M) (hI : I M) (H : Heap) (locs : List Loc) (hH : oa_H D ca ad M H) (hS : va_S (fun q => b0 ≤ q) s.heap H locs) (ls : Array Slot) (hl : lv_has ls 7 [(0, .ref b), (1, .ref (ad 0 0)), (2, .ref (ad 20 0)), (3, .ref (ad 50 0)), (4, .int x4)]) : W p l e room_1 s m #[Value.ref b] below meth c H locs cells slots Q (F0 m 746 ls []) := by
  obtain ⟨hx, hb, hr, hml, hown, hts, hX, hbl, hlocks, hE, hw, hb0, hl0⟩ := id C
  have hbA : ¬ (fun q : Nat => b0 ≤ q) b := by rw [hb0]; exact Nat.not_le.mpr hbl
  obtain ⟨n1, n2, r, M1, M2, h1, h2, hI2⟩ := hsim  M hI
  refine lv_aload_n hx hb dL_law_746 rfl (lv_at hl 1 rfl) ?_
  refine oa_cvi (As := []) (rest := []) ⟨hx, hb, hml, hown, hts⟩ (cX4_fault_ok l D ca ad b0 hw n1  M r M1 h1) (cwV 0 hts (oa_gV tw_246 tw_247 tw_248 tw_44 tw_249) rfl rfl rfl (by decide +kernel) ⟨Nat.le_of_ble_eq_true rfl, Nat.le_of_ble_eq_true rfl⟩) hE hH hS (oa_recv (k := 0) (ci := 4) hE hH (by decide) rfl rfl) rfl hl.1 rfl (Nat.le_of_ble_eq_true rfl) dL_law_747 ⟨by show cells ≤ 600096; omega, by show slots ≤ 7301385; omega⟩ (fun H locs hH hS => ?_)
  refine lv_aload_n hx hb dL_law_750 rfl (lv_at hl 2 rfl) ?_
  refine oa_cvi (As := []) (rest := [.int r]) ⟨hx, hb, hml, hown, hts⟩ (cX5_fault_ok l D ca ad b0 hw n2  M1 r M2 h2) (cwV 0 hts (oa_gV tw_870 tw_871 tw_872 tw_49 tw_873) rfl rfl rfl (by decide +kernel) ⟨Nat.le_of_ble_eq_true rfl, Nat.le_of_ble_eq_true rfl⟩) hE hH hS (oa_recv (k := 20) (ci := 5) hE hH (by decide) rfl rfl) rfl hl.1 rfl (Nat.le_of_ble_eq_true rfl) dL_law_751 ⟨by show cells ≤ 600096; omega, by show slots ≤ 7301385; omega⟩ (fun H locs hH hS => ?_)
  refine lv_icmp_eq (tgt := 784) hx hb dL_law_754 (by decide) (fun _ => ?_) (fun h => absurd rfl h)
  refine W.widen (k := cells + 3) (n := slots + 18) (by omega) (by omega) ?_
  exact kk M2 hI2 _ _ hH hS _ hl
set_option maxHeartbeats 4000000 in
set_option maxRecDepth 100000 in
theorem lw_case14 {p : Program} {l : Launch} {e : Env} {s : State} {m : MethodId} {below : List Frame} {meth : Method} {c : Code} {b L : Nat} {xs : Nat → Int32} {D : va_G} {ca : Nat → ClassId} {ad : Nat → Nat → Nat} {b0 : Nat} {Q : State → Prop} (C : oa_Lw p l s m meth c b L xs D ca ad b0) {I : oa_M → Prop} (hsim : oa_S14 I) {cells slots : Nat} (hcl : cells + 3 ≤ 600096) (hsl : slots + 18 ≤ 7301385) (x4 : Int32) (hin1 : vp_in (x4 + (1 : Int32)) L) (hin2 : vp_in (x4 + (2 : Int32)) L) (hin3 : vp_in (x4 + (3 : Int32)) L) (hin4 : vp_in (x4 + (4 : Int32)) L) (hin5 : vp_in (x4 + (5 : Int32)) L) (kk : ∀ (M : oa_M), I M → ∀ (H : Heap) (locs : List Loc), oa_H D ca ad M H → va_S (fun q => b0 ≤ q) s.heap H locs → ∀ (ls : Array Slot), lv_has ls 7 [(0, .ref b), (1, .ref (ad 0 0)), (2, .ref (ad 20 0)), (3, .ref (ad 50 0)), (4, .int x4)] → W p l e room_1 s m #[Value.ref b] below meth c H locs (cells + 3) (slots + 18) Q (F0 m 784 ls [])) (M : oa_M) (hI : I M) (H : Heap) (locs : List Loc) (hH : oa_H D ca ad M H) (hS : va_S (fun q => b0 ≤ q) s.heap H locs) (ls : Array Slot) (hl : lv_has ls 7 [(0, .ref b), (1, .ref (ad 0 0)), (2, .ref (ad 20 0)), (3, .ref (ad 50 0)), (4, .int x4)]) : W p l e room_1 s m #[Value.ref b] below meth c H locs cells slots Q (F0 m 759 ls []) := by
  obtain ⟨hx, hb, hr, hml, hown, hts, hX, hbl, hlocks, hE, hw, hb0, hl0⟩ := id C
  have hbA : ¬ (fun q : Nat => b0 ≤ q) b := by rw [hb0]; exact Nat.not_le.mpr hbl
  obtain ⟨n1, n2, r, M1, M2, h1, h2, hI2⟩ := hsim (xs (x4 + (1 : Int32)).toNatClampNeg) M hI
  refine lv_aload_n hx hb dL_law_759 rfl (lv_at hl 1 rfl) ?_
  refine lv_aload_n hx hb dL_law_760 rfl (lv_at hl 0 rfl) ?_
  refine lv_iload hx hb dL_law_761 (lv_at hl 4 rfl) ?_
  refine lv_iconst (v := (1 : Int32)) hx hb dL_law_763 (by decide) ?_
  refine lv_iadd hx hb dL_law_764 ?_
  refine va_sld hx hb hX hbl hbA hS hin1 dL_law_765 ?_
  refine oa_cvi (As := [.int (xs (x4 + (1 : Int32)).toNatClampNeg)]) (rest := []) ⟨hx, hb, hml, hown, hts⟩ (cX4_count_ok l D ca ad b0 hw n1 (xs (x4 + (1 : Int32)).toNatClampNeg) M r M1 h1) (cwV 1 hts (oa_gV tw_250 tw_251 tw_252 tw_44 tw_253) rfl rfl rfl (by decide +kernel) ⟨Nat.le_of_ble_eq_true rfl, Nat.le_of_ble_eq_true rfl⟩) hE hH hS (oa_recv (k := 0) (ci := 4) hE hH (by decide) rfl rfl) rfl hl.1 rfl (Nat.le_of_ble_eq_true rfl) dL_law_766 ⟨by show cells ≤ 600096; omega, by show slots ≤ 7301385; omega⟩ (fun H locs hH hS => ?_)
  refine lv_aload_n hx hb dL_law_769 rfl (lv_at hl 2 rfl) ?_
  refine lv_aload_n hx hb dL_law_770 rfl (lv_at hl 0 rfl) ?_
  refine lv_iload hx hb dL_law_771 (lv_at hl 4 rfl) ?_
  refine lv_iconst (v := (1 : Int32)) hx hb dL_law_773 (by decide) ?_
  refine lv_iadd hx hb dL_law_774 ?_
  refine va_sld hx hb hX hbl hbA hS hin1 dL_law_775 ?_
  refine oa_cvi (As := [.int (xs (x4 + (1 : Int32)).toNatClampNeg)]) (rest := [.int r]) ⟨hx, hb, hml, hown, hts⟩ (cX5_count_ok l D ca ad b0 hw n2 (xs (x4 + (1 : Int32)).toNatClampNeg) M1 r M2 h2) (cwV 1 hts (oa_gV tw_874 tw_875 tw_876 tw_49 tw_877) rfl rfl rfl (by decide +kernel) ⟨Nat.le_of_ble_eq_true rfl, Nat.le_of_ble_eq_true rfl⟩) hE hH hS (oa_recv (k := 20) (ci := 5) hE hH (by decide) rfl rfl) rfl hl.1 rfl (Nat.le_of_ble_eq_true rfl) dL_law_776 ⟨by show cells ≤ 600096; omega, by show slots ≤ 7301385; omega⟩ (fun H locs hH hS => ?_)
  refine lv_icmp_eq (tgt := 784) hx hb dL_law_779 (by decide) (fun _ => ?_) (fun h => absurd rfl h)
  refine W.widen (k := cells + 3) (n := slots + 18) (by omega) (by omega) ?_
  exact kk M2 hI2 _ _ hH hS _ hl
theorem oa_out14 {x : Int32} (h0 : ¬ x = (0 : Int32)) (h1 : ¬ x = (1 : Int32)) (h2 : ¬ x = (2 : Int32)) (h3 : ¬ x = (3 : Int32)) (h4 : ¬ x = (4 : Int32)) (h5 : ¬ x = (5 : Int32)) (h6 : ¬ x = (6 : Int32)) (h7 : ¬ x = (7 : Int32)) (h8 : ¬ x = (8 : Int32)) (h9 : ¬ x = (9 : Int32)) (h10 : ¬ x = (10 : Int32)) (h11 : ¬ x = (11 : Int32)) (h12 : ¬ x = (12 : Int32)) (h13 : ¬ x = (13 : Int32)) (h14 : ¬ x = (14 : Int32)) : x.toInt < 0 ∨ 14 < x.toInt := by
  have e0 : x.toInt ≠ 0 := fun q => h0 (Int32.toInt_inj.mp (by rw [q]; rfl))
  have e1 : x.toInt ≠ 1 := fun q => h1 (Int32.toInt_inj.mp (by rw [q]; rfl))
  have e2 : x.toInt ≠ 2 := fun q => h2 (Int32.toInt_inj.mp (by rw [q]; rfl))
  have e3 : x.toInt ≠ 3 := fun q => h3 (Int32.toInt_inj.mp (by rw [q]; rfl))
  have e4 : x.toInt ≠ 4 := fun q => h4 (Int32.toInt_inj.mp (by rw [q]; rfl))
  have e5 : x.toInt ≠ 5 := fun q => h5 (Int32.toInt_inj.mp (by rw [q]; rfl))
  have e6 : x.toInt ≠ 6 := fun q => h6 (Int32.toInt_inj.mp (by rw [q]; rfl))
  have e7 : x.toInt ≠ 7 := fun q => h7 (Int32.toInt_inj.mp (by rw [q]; rfl))
  have e8 : x.toInt ≠ 8 := fun q => h8 (Int32.toInt_inj.mp (by rw [q]; rfl))
  have e9 : x.toInt ≠ 9 := fun q => h9 (Int32.toInt_inj.mp (by rw [q]; rfl))
  have e10 : x.toInt ≠ 10 := fun q => h10 (Int32.toInt_inj.mp (by rw [q]; rfl))
  have e11 : x.toInt ≠ 11 := fun q => h11 (Int32.toInt_inj.mp (by rw [q]; rfl))
  have e12 : x.toInt ≠ 12 := fun q => h12 (Int32.toInt_inj.mp (by rw [q]; rfl))
  have e13 : x.toInt ≠ 13 := fun q => h13 (Int32.toInt_inj.mp (by rw [q]; rfl))
  have e14 : x.toInt ≠ 14 := fun q => h14 (Int32.toInt_inj.mp (by rw [q]; rfl))
  omega
set_option maxHeartbeats 4000000 in
set_option maxRecDepth 100000 in
theorem lw_loop {p : Program} {l : Launch} {e : Env} {s : State} {m : MethodId} {below : List Frame} {meth : Method} {c : Code} {b L : Nat} {xs : Nat → Int32} {D : va_G} {ca : Nat → ClassId} {ad0 : Nat → Nat → Nat} {b0 : Nat} (hL : L ≤ 288) (C : oa_Lw p l s m meth c b L xs D ca ad0 b0) {I : oa_M → Prop} (hsim : oa_Sim I) :
    ∀ (n j : Nat), 49 ≤ j + n → j ≤ 48 → ∀ (x4 : Int32), x4 = nI (6 * j) → ∀ (ad : Nat → Nat → Nat), oa_W ad b0 → ∀ (M : oa_M), I M → ∀ (H : Heap) (locs : List Loc), oa_H D ca ad M H → va_S (fun q => b0 ≤ q) s.heap H locs → ∀ (ls : Array Slot), lv_has ls 7 [(0, .ref b), (1, .ref (ad 0 0)), (2, .ref (ad 20 0)), (3, .ref (ad 50 0)), (4, .int x4)] → W p l e room_1 s m #[Value.ref b] below meth c H locs (3000 + 3 * j) (30000 + 18 * j) (lw_Z below #[Value.ref b] s) (F0 m 23 ls []) := by
  obtain ⟨hx, hb, hr, hml, hown, hts, hX, hbl, hlocks, hE, hw, hb0, hl0⟩ := id C
  have hbA : ¬ (fun q : Nat => b0 ≤ q) b := by rw [hb0]; exact Nat.not_le.mpr hbl
  intro n
  induction n with
  | zero =>
    intro j h1 h2
    exact absurd h1 (by omega)
  | succ n ih =>
    intro j hj hj2 x4 ex4 ad hw M hI H locs hH hS ls hl
    have C : oa_Lw p l s m meth c b L xs D ca ad b0 := ⟨hx, hb, hr, hml, hown, hts, hX, hbl, hlocks, hE, hw, hb0, hl0⟩
    refine lv_iload hx hb dL_law_23 (lv_at hl 4 rfl) ?_
    refine lv_aload_n hx hb dL_law_25 rfl (lv_at hl 0 rfl) ?_
    refine va_slen hx hb hX hbl hbA hS dL_law_26 ?_
    refine lv_bipush (v := (6 : Int32)) hx hb dL_law_27 (by decide) ?_
    refine lv_isub hx hb dL_law_29 ?_
    refine lv_icmp_gt (tgt := 790) hx hb dL_law_30 (by decide) (fun hq => ?_) (fun hq => ?_)
    · refine lv_iconst (v := 1) hx hb dL_law_790 (by decide) ?_
      refine va_forget (fun q hq => by have := hS.2.2 q hq; rw [hb0] at this; exact this) ?_
      refine W.widen (k := 600096) (n := 7301385) (by omega) (by omega) ?_
      exact lw_ret hx hb hr hlocks dL_law_791
    · have h6 : 6 * j + 6 ≤ L := by
        rcases Nat.lt_or_ge L (6 * j + 6) with q | q
        · refine absurd ?_ hq
          rw [ex4, Int32.lt_iff_toInt_lt, nI_toInt (by omega), Int32.toInt_sub, show (Int32.ofNat L).toInt = (L : Int) from nI_toInt (by omega), show (6 : Int32).toInt = 6 from rfl, Int.bmod_eq_of_le (by omega) (by omega)]
          omega
        · exact q
      have h48 : j < 48 := by omega
      have hin : ∀ q : Nat, q < 6 → vp_in (x4 + nI q) L := fun q hq => by
        rw [ex4, nI_add]
        exact vp_in_nI (by omega) (by omega)
      have hin0 : vp_in x4 L := by
        rw [ex4]
        exact vp_in_nI (by omega) (by omega)
      have hin1 : vp_in (x4 + (1 : Int32)) L := hin 1 (by decide)
      have hin2 : vp_in (x4 + (2 : Int32)) L := hin 2 (by decide)
      have hin3 : vp_in (x4 + (3 : Int32)) L := hin 3 (by decide)
      have hin4 : vp_in (x4 + (4 : Int32)) L := hin 4 (by decide)
      have hin5 : vp_in (x4 + (5 : Int32)) L := hin 5 (by decide)
      have kk : ∀ (ad : Nat → Nat → Nat), oa_W ad b0 → ∀ (M : oa_M), I M → ∀ (H : Heap) (locs : List Loc), oa_H D ca ad M H → va_S (fun q => b0 ≤ q) s.heap H locs → ∀ (ls : Array Slot), lv_has ls 7 [(0, .ref b), (1, .ref (ad 0 0)), (2, .ref (ad 20 0)), (3, .ref (ad 50 0)), (4, .int x4)] → W p l e room_1 s m #[Value.ref b] below meth c H locs (3000 + 3 * j + 3) (30000 + 18 * j + 18) (lw_Z below #[Value.ref b] s) (F0 m 784 ls []) := by
        intro ad hw M hI H locs hH hS ls hl
        refine lv_iinc (v := (x4 + (6 : Int32))) (lv' := [(4, .int (x4 + (6 : Int32))), (0, .ref b), (1, .ref (ad 0 0)), (2, .ref (ad 20 0)), (3, .ref (ad 50 0))]) hx hb dL_law_784 hl (k := 4) rfl rfl (by decide) rfl (fun ls hl => ?_)
        refine lv_goto (tgt := 23) hx hb dL_law_787 (by decide) ?_
        exact ih (j + 1) (by omega) (by omega) (x4 + (6 : Int32)) (by rw [ex4, show (6 : Int32) = nI 6 from rfl, nI_add, Nat.mul_add]) ad hw M hI H locs hH hS ls (lv_sub hl [1, 2, 3, 4, 0] rfl)
      refine lv_aload_n hx hb dL_law_33 rfl (lv_at hl 0 rfl) ?_
      refine lv_iload hx hb dL_law_34 (lv_at hl 4 rfl) ?_
      refine va_sld hx hb hX hbl hbA hS hin0 dL_law_36 ?_
      refine lv_bipush (v := (15 : Int32)) hx hb dL_law_37 (by decide) ?_
      refine lv_iand hx hb dL_law_39 ?_
      refine lv_topi (fun y ey => ?_)
      have hcl : 3000 + 3 * j + 3 ≤ 600096 := by omega
      have hsl : 30000 + 18 * j + 18 ≤ 7301385 := by omega
      obtain ⟨s0, s1, s2, s3, s4, s5, s6, s7, s8, s9, s10, s11, s12, s13, s14⟩ := hsim
      by_cases q0 : y = (0 : Int32)
      · refine lv_tableIn (tgt := 116) hx hb dL_law_40 (by rw [q0]; decide) (by rw [q0]; decide) (by rw [q0]; rfl) (by decide) ?_
        exact lw_case0 C s0 hcl hsl x4 hin1 hin2 hin3 hin4 hin5 (kk ad hw) M hI H locs hH hS ls hl
      by_cases q1 : y = (1 : Int32)
      · refine lv_tableIn (tgt := 143) hx hb dL_law_40 (by rw [q1]; decide) (by rw [q1]; decide) (by rw [q1]; rfl) (by decide) ?_
        exact lw_case1 C s1 hcl hsl x4 hin1 hin2 hin3 hin4 hin5 kk M hI H locs hH hS ls hl
      by_cases q2 : y = (2 : Int32)
      · refine lv_tableIn (tgt := 187) hx hb dL_law_40 (by rw [q2]; decide) (by rw [q2]; decide) (by rw [q2]; rfl) (by decide) ?_
        exact lw_case2 C s2 hcl hsl x4 hin1 hin2 hin3 hin4 hin5 (kk ad hw) M hI H locs hH hS ls hl
      by_cases q3 : y = (3 : Int32)
      · refine lv_tableIn (tgt := 291) hx hb dL_law_40 (by rw [q3]; decide) (by rw [q3]; decide) (by rw [q3]; rfl) (by decide) ?_
        exact lw_case3 C s3 hcl hsl x4 hin1 hin2 hin3 hin4 hin5 (kk ad hw) M hI H locs hH hS ls hl
      by_cases q4 : y = (4 : Int32)
      · refine lv_tableIn (tgt := 304) hx hb dL_law_40 (by rw [q4]; decide) (by rw [q4]; decide) (by rw [q4]; rfl) (by decide) ?_
        exact lw_case4 C s4 hcl hsl x4 hin1 hin2 hin3 hin4 hin5 (kk ad hw) M hI H locs hH hS ls hl
      by_cases q5 : y = (5 : Int32)
      · refine lv_tableIn (tgt := 372) hx hb dL_law_40 (by rw [q5]; decide) (by rw [q5]; decide) (by rw [q5]; rfl) (by decide) ?_
        exact lw_case5 C s5 hcl hsl x4 hin1 hin2 hin3 hin4 hin5 (kk ad hw) M hI H locs hH hS ls hl
      by_cases q6 : y = (6 : Int32)
      · refine lv_tableIn (tgt := 428) hx hb dL_law_40 (by rw [q6]; decide) (by rw [q6]; decide) (by rw [q6]; rfl) (by decide) ?_
        exact lw_case6 C s6 hcl hsl x4 hin1 hin2 hin3 hin4 hin5 (kk ad hw) M hI H locs hH hS ls hl
      by_cases q7 : y = (7 : Int32)
      · refine lv_tableIn (tgt := 484) hx hb dL_law_40 (by rw [q7]; decide) (by rw [q7]; decide) (by rw [q7]; rfl) (by decide) ?_
        exact lw_case7 C s7 hcl hsl x4 hin1 hin2 hin3 hin4 hin5 (kk ad hw) M hI H locs hH hS ls hl
      by_cases q8 : y = (8 : Int32)
      · refine lv_tableIn (tgt := 552) hx hb dL_law_40 (by rw [q8]; decide) (by rw [q8]; decide) (by rw [q8]; rfl) (by decide) ?_
        exact lw_case8 C s8 hcl hsl x4 hin1 hin2 hin3 hin4 hin5 (kk ad hw) M hI H locs hH hS ls hl
      by_cases q9 : y = (9 : Int32)
      · refine lv_tableIn (tgt := 608) hx hb dL_law_40 (by rw [q9]; decide) (by rw [q9]; decide) (by rw [q9]; rfl) (by decide) ?_
        exact lw_case9 C s9 hcl hsl x4 hin1 hin2 hin3 hin4 hin5 (kk ad hw) M hI H locs hH hS ls hl
      by_cases q10 : y = (10 : Int32)
      · refine lv_tableIn (tgt := 633) hx hb dL_law_40 (by rw [q10]; decide) (by rw [q10]; decide) (by rw [q10]; rfl) (by decide) ?_
        exact lw_case10 C s10 hcl hsl x4 hin1 hin2 hin3 hin4 hin5 kk M hI H locs hH hS ls hl
      by_cases q11 : y = (11 : Int32)
      · refine lv_tableIn (tgt := 677) hx hb dL_law_40 (by rw [q11]; decide) (by rw [q11]; decide) (by rw [q11]; rfl) (by decide) ?_
        exact lw_case11 C s11 hcl hsl x4 hin1 hin2 hin3 hin4 hin5 (kk ad hw) M hI H locs hH hS ls hl
      by_cases q12 : y = (12 : Int32)
      · refine lv_tableIn (tgt := 690) hx hb dL_law_40 (by rw [q12]; decide) (by rw [q12]; decide) (by rw [q12]; rfl) (by decide) ?_
        exact lw_case12 C s12 hcl hsl x4 hin1 hin2 hin3 hin4 hin5 (kk ad hw) M hI H locs hH hS ls hl
      by_cases q13 : y = (13 : Int32)
      · refine lv_tableIn (tgt := 746) hx hb dL_law_40 (by rw [q13]; decide) (by rw [q13]; decide) (by rw [q13]; rfl) (by decide) ?_
        exact lw_case13 C s13 hcl hsl x4 hin1 hin2 hin3 hin4 hin5 (kk ad hw) M hI H locs hH hS ls hl
      by_cases q14 : y = (14 : Int32)
      · refine lv_tableIn (tgt := 759) hx hb dL_law_40 (by rw [q14]; decide) (by rw [q14]; decide) (by rw [q14]; rfl) (by decide) ?_
        exact lw_case14 C s14 hcl hsl x4 hin1 hin2 hin3 hin4 hin5 (kk ad hw) M hI H locs hH hS ls hl
      refine lv_tableOut (tgt := 784) hx hb dL_law_40 (oa_out14 q0 q1 q2 q3 q4 q5 q6 q7 q8 q9 q10 q11 q12 q13 q14) (by decide) ?_
      refine W.widen (k := 3000 + 3 * j + 3) (n := 30000 + 18 * j + 18) (by omega) (by omega) ?_
      exact kk ad hw M hI H locs hH hS ls hl
