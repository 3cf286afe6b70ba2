/-! THE START: what the Statement gives, and where -/
def xGv : List Cond := flatC (Jvm.Cond.and given_1 narrow_1)
def tmK (i : Nat) : Term := Term.string (xWd.getD i (RL, 0, "", 0)).1 (xWd.getD i (RL, 0, "", 0)).2.1
def tmV (i : Nat) : Term := .field (tmK i) "java/lang/String" "value" "[B"
def tmD (i : Nat) : Term := if i = 100 then .static "java/lang/Integer" "DigitOnes" "[B" else if i = 101 then .static "java/lang/Integer" "DigitTens" "[B" else if i = 102 then .static RL "VARIABLES" "[Ljava/lang/String;" else .static RL "NUMBERS" "[Ljava/lang/String;"
theorem gv_a0 : xGv[413]? = some (Cond.exactly (tmK 0) "java/lang/String") ∧ xGv[414]? = some (Cond.eq (.field (tmK 0) "java/lang/String" "coder" "B") (.int 0)) ∧ xGv[415]? = some (Cond.arrayOf (tmV 0) .byte) ∧ xGv[416]? = some (Cond.eq (.length (tmV 0)) (.int (Int32.ofNat (xWo 0).length))) := by decide +kernel
theorem gv_e0 : ∀ j, j < 5 → xGv[417 + j]? = some (Cond.eq (.elem (tmV 0) (.int (Int32.ofNat j))) (.int ((xWo 0).getD j 0))) := by decide +kernel
theorem gv_a1 : xGv[422]? = some (Cond.exactly (tmK 1) "java/lang/String") ∧ xGv[423]? = some (Cond.eq (.field (tmK 1) "java/lang/String" "coder" "B") (.int 0)) ∧ xGv[424]? = some (Cond.arrayOf (tmV 1) .byte) ∧ xGv[425]? = some (Cond.eq (.length (tmV 1)) (.int (Int32.ofNat (xWo 1).length))) := by decide +kernel
theorem gv_e1 : ∀ j, j < 7 → xGv[426 + j]? = some (Cond.eq (.elem (tmV 1) (.int (Int32.ofNat j))) (.int ((xWo 1).getD j 0))) := by decide +kernel
theorem gv_a2 : xGv[433]? = some (Cond.exactly (tmK 2) "java/lang/String") ∧ xGv[434]? = some (Cond.eq (.field (tmK 2) "java/lang/String" "coder" "B") (.int 0)) ∧ xGv[435]? = some (Cond.arrayOf (tmV 2) .byte) ∧ xGv[436]? = some (Cond.eq (.length (tmV 2)) (.int (Int32.ofNat (xWo 2).length))) := by decide +kernel
theorem gv_e2 : ∀ j, j < 4 → xGv[437 + j]? = some (Cond.eq (.elem (tmV 2) (.int (Int32.ofNat j))) (.int ((xWo 2).getD j 0))) := by decide +kernel
theorem gv_a3 : xGv[441]? = some (Cond.exactly (tmK 3) "java/lang/String") ∧ xGv[442]? = some (Cond.eq (.field (tmK 3) "java/lang/String" "coder" "B") (.int 0)) ∧ xGv[443]? = some (Cond.arrayOf (tmV 3) .byte) ∧ xGv[444]? = some (Cond.eq (.length (tmV 3)) (.int (Int32.ofNat (xWo 3).length))) := by decide +kernel
theorem gv_e3 : ∀ j, j < 5 → xGv[445 + j]? = some (Cond.eq (.elem (tmV 3) (.int (Int32.ofNat j))) (.int ((xWo 3).getD j 0))) := by decide +kernel
theorem gv_a4 : xGv[450]? = some (Cond.exactly (tmK 4) "java/lang/String") ∧ xGv[451]? = some (Cond.eq (.field (tmK 4) "java/lang/String" "coder" "B") (.int 0)) ∧ xGv[452]? = some (Cond.arrayOf (tmV 4) .byte) ∧ xGv[453]? = some (Cond.eq (.length (tmV 4)) (.int (Int32.ofNat (xWo 4).length))) := by decide +kernel
theorem gv_e4 : ∀ j, j < 8 → xGv[454 + j]? = some (Cond.eq (.elem (tmV 4) (.int (Int32.ofNat j))) (.int ((xWo 4).getD j 0))) := by decide +kernel
theorem gv_a5 : xGv[462]? = some (Cond.exactly (tmK 5) "java/lang/String") ∧ xGv[463]? = some (Cond.eq (.field (tmK 5) "java/lang/String" "coder" "B") (.int 0)) ∧ xGv[464]? = some (Cond.arrayOf (tmV 5) .byte) ∧ xGv[465]? = some (Cond.eq (.length (tmV 5)) (.int (Int32.ofNat (xWo 5).length))) := by decide +kernel
theorem gv_e5 : ∀ j, j < 6 → xGv[466 + j]? = some (Cond.eq (.elem (tmV 5) (.int (Int32.ofNat j))) (.int ((xWo 5).getD j 0))) := by decide +kernel
theorem gv_a6 : xGv[472]? = some (Cond.exactly (tmK 6) "java/lang/String") ∧ xGv[473]? = some (Cond.eq (.field (tmK 6) "java/lang/String" "coder" "B") (.int 0)) ∧ xGv[474]? = some (Cond.arrayOf (tmV 6) .byte) ∧ xGv[475]? = some (Cond.eq (.length (tmV 6)) (.int (Int32.ofNat (xWo 6).length))) := by decide +kernel
theorem gv_e6 : ∀ j, j < 5 → xGv[476 + j]? = some (Cond.eq (.elem (tmV 6) (.int (Int32.ofNat j))) (.int ((xWo 6).getD j 0))) := by decide +kernel
theorem gv_a7 : xGv[481]? = some (Cond.exactly (tmK 7) "java/lang/String") ∧ xGv[482]? = some (Cond.eq (.field (tmK 7) "java/lang/String" "coder" "B") (.int 0)) ∧ xGv[483]? = some (Cond.arrayOf (tmV 7) .byte) ∧ xGv[484]? = some (Cond.eq (.length (tmV 7)) (.int (Int32.ofNat (xWo 7).length))) := by decide +kernel
theorem gv_e7 : ∀ j, j < 6 → xGv[485 + j]? = some (Cond.eq (.elem (tmV 7) (.int (Int32.ofNat j))) (.int ((xWo 7).getD j 0))) := by decide +kernel
theorem gv_a8 : xGv[491]? = some (Cond.exactly (tmK 8) "java/lang/String") ∧ xGv[492]? = some (Cond.eq (.field (tmK 8) "java/lang/String" "coder" "B") (.int 0)) ∧ xGv[493]? = some (Cond.arrayOf (tmV 8) .byte) ∧ xGv[494]? = some (Cond.eq (.length (tmV 8)) (.int (Int32.ofNat (xWo 8).length))) := by decide +kernel
theorem gv_e8 : ∀ j, j < 4 → xGv[495 + j]? = some (Cond.eq (.elem (tmV 8) (.int (Int32.ofNat j))) (.int ((xWo 8).getD j 0))) := by decide +kernel
theorem gv_a9 : xGv[499]? = some (Cond.exactly (tmK 9) "java/lang/String") ∧ xGv[500]? = some (Cond.eq (.field (tmK 9) "java/lang/String" "coder" "B") (.int 0)) ∧ xGv[501]? = some (Cond.arrayOf (tmV 9) .byte) ∧ xGv[502]? = some (Cond.eq (.length (tmV 9)) (.int (Int32.ofNat (xWo 9).length))) := by decide +kernel
theorem gv_e9 : ∀ j, j < 4 → xGv[503 + j]? = some (Cond.eq (.elem (tmV 9) (.int (Int32.ofNat j))) (.int ((xWo 9).getD j 0))) := by decide +kernel
theorem gv_a10 : xGv[507]? = some (Cond.exactly (tmK 10) "java/lang/String") ∧ xGv[508]? = some (Cond.eq (.field (tmK 10) "java/lang/String" "coder" "B") (.int 0)) ∧ xGv[509]? = some (Cond.arrayOf (tmV 10) .byte) ∧ xGv[510]? = some (Cond.eq (.length (tmV 10)) (.int (Int32.ofNat (xWo 10).length))) := by decide +kernel
theorem gv_e10 : ∀ j, j < 4 → xGv[511 + j]? = some (Cond.eq (.elem (tmV 10) (.int (Int32.ofNat j))) (.int ((xWo 10).getD j 0))) := by decide +kernel
theorem gv_a11 : xGv[515]? = some (Cond.exactly (tmK 11) "java/lang/String") ∧ xGv[516]? = some (Cond.eq (.field (tmK 11) "java/lang/String" "coder" "B") (.int 0)) ∧ xGv[517]? = some (Cond.arrayOf (tmV 11) .byte) ∧ xGv[518]? = some (Cond.eq (.length (tmV 11)) (.int (Int32.ofNat (xWo 11).length))) := by decide +kernel
theorem gv_e11 : ∀ j, j < 4 → xGv[519 + j]? = some (Cond.eq (.elem (tmV 11) (.int (Int32.ofNat j))) (.int ((xWo 11).getD j 0))) := by decide +kernel
theorem gv_a12 : xGv[523]? = some (Cond.exactly (tmK 12) "java/lang/String") ∧ xGv[524]? = some (Cond.eq (.field (tmK 12) "java/lang/String" "coder" "B") (.int 0)) ∧ xGv[525]? = some (Cond.arrayOf (tmV 12) .byte) ∧ xGv[526]? = some (Cond.eq (.length (tmV 12)) (.int (Int32.ofNat (xWo 12).length))) := by decide +kernel
theorem gv_e12 : ∀ j, j < 6 → xGv[527 + j]? = some (Cond.eq (.elem (tmV 12) (.int (Int32.ofNat j))) (.int ((xWo 12).getD j 0))) := by decide +kernel
theorem gv_a13 : xGv[731]? = some (Cond.exactly (tmK 13) "java/lang/String") ∧ xGv[732]? = some (Cond.eq (.field (tmK 13) "java/lang/String" "coder" "B") (.int 0)) ∧ xGv[733]? = some (Cond.arrayOf (tmV 13) .byte) ∧ xGv[734]? = some (Cond.eq (.length (tmV 13)) (.int (Int32.ofNat (xWo 13).length))) := by decide +kernel
theorem gv_e13 : ∀ j, j < 1 → xGv[735 + j]? = some (Cond.eq (.elem (tmV 13) (.int (Int32.ofNat j))) (.int ((xWo 13).getD j 0))) := by decide +kernel
theorem gv_a14 : xGv[709]? = some (Cond.exactly (tmK 14) "java/lang/String") ∧ xGv[710]? = some (Cond.eq (.field (tmK 14) "java/lang/String" "coder" "B") (.int 0)) ∧ xGv[711]? = some (Cond.arrayOf (tmV 14) .byte) ∧ xGv[712]? = some (Cond.eq (.length (tmV 14)) (.int (Int32.ofNat (xWo 14).length))) := by decide +kernel
theorem gv_e14 : ∀ j, j < 6 → xGv[713 + j]? = some (Cond.eq (.elem (tmV 14) (.int (Int32.ofNat j))) (.int ((xWo 14).getD j 0))) := by decide +kernel
theorem gv_a15 : xGv[719]? = some (Cond.exactly (tmK 15) "java/lang/String") ∧ xGv[720]? = some (Cond.eq (.field (tmK 15) "java/lang/String" "coder" "B") (.int 0)) ∧ xGv[721]? = some (Cond.arrayOf (tmV 15) .byte) ∧ xGv[722]? = some (Cond.eq (.length (tmV 15)) (.int (Int32.ofNat (xWo 15).length))) := by decide +kernel
theorem gv_e15 : ∀ j, j < 7 → xGv[723 + j]? = some (Cond.eq (.elem (tmV 15) (.int (Int32.ofNat j))) (.int ((xWo 15).getD j 0))) := by decide +kernel
theorem gv_a16 : xGv[736]? = some (Cond.exactly (tmK 16) "java/lang/String") ∧ xGv[737]? = some (Cond.eq (.field (tmK 16) "java/lang/String" "coder" "B") (.int 0)) ∧ xGv[738]? = some (Cond.arrayOf (tmV 16) .byte) ∧ xGv[739]? = some (Cond.eq (.length (tmV 16)) (.int (Int32.ofNat (xWo 16).length))) := by decide +kernel
theorem gv_e16 : ∀ j, j < 1 → xGv[740 + j]? = some (Cond.eq (.elem (tmV 16) (.int (Int32.ofNat j))) (.int ((xWo 16).getD j 0))) := by decide +kernel
theorem gv_a17 : xGv[741]? = some (Cond.exactly (tmK 17) "java/lang/String") ∧ xGv[742]? = some (Cond.eq (.field (tmK 17) "java/lang/String" "coder" "B") (.int 0)) ∧ xGv[743]? = some (Cond.arrayOf (tmV 17) .byte) ∧ xGv[744]? = some (Cond.eq (.length (tmV 17)) (.int (Int32.ofNat (xWo 17).length))) := by decide +kernel
theorem gv_e17 : ∀ j, j < 4 → xGv[745 + j]? = some (Cond.eq (.elem (tmV 17) (.int (Int32.ofNat j))) (.int ((xWo 17).getD j 0))) := by decide +kernel
theorem gv_a18 : xGv[750]? = some (Cond.exactly (tmK 18) "java/lang/String") ∧ xGv[751]? = some (Cond.eq (.field (tmK 18) "java/lang/String" "coder" "B") (.int 0)) ∧ xGv[752]? = some (Cond.arrayOf (tmV 18) .byte) ∧ xGv[753]? = some (Cond.eq (.length (tmV 18)) (.int (Int32.ofNat (xWo 18).length))) := by decide +kernel
theorem gv_e18 : ∀ j, j < 0 → xGv[0 + j]? = some (Cond.eq (.elem (tmV 18) (.int (Int32.ofNat j))) (.int ((xWo 18).getD j 0))) := by decide +kernel
theorem gv_a19 : xGv[754]? = some (Cond.exactly (tmK 19) "java/lang/String") ∧ xGv[755]? = some (Cond.eq (.field (tmK 19) "java/lang/String" "coder" "B") (.int 0)) ∧ xGv[756]? = some (Cond.arrayOf (tmV 19) .byte) ∧ xGv[757]? = some (Cond.eq (.length (tmV 19)) (.int (Int32.ofNat (xWo 19).length))) := by decide +kernel
theorem gv_e19 : ∀ j, j < 5 → xGv[758 + j]? = some (Cond.eq (.elem (tmV 19) (.int (Int32.ofNat j))) (.int ((xWo 19).getD j 0))) := by decide +kernel
theorem gv_a20 : xGv[764]? = some (Cond.exactly (tmK 20) "java/lang/String") ∧ xGv[765]? = some (Cond.eq (.field (tmK 20) "java/lang/String" "coder" "B") (.int 0)) ∧ xGv[766]? = some (Cond.arrayOf (tmV 20) .byte) ∧ xGv[767]? = some (Cond.eq (.length (tmV 20)) (.int (Int32.ofNat (xWo 20).length))) := by decide +kernel
theorem gv_e20 : ∀ j, j < 5 → xGv[768 + j]? = some (Cond.eq (.elem (tmV 20) (.int (Int32.ofNat j))) (.int ((xWo 20).getD j 0))) := by decide +kernel
theorem gv_a21 : xGv[818]? = some (Cond.exactly (tmK 21) "java/lang/String") ∧ xGv[819]? = some (Cond.eq (.field (tmK 21) "java/lang/String" "coder" "B") (.int 0)) ∧ xGv[820]? = some (Cond.arrayOf (tmV 21) .byte) ∧ xGv[821]? = some (Cond.eq (.length (tmV 21)) (.int (Int32.ofNat (xWo 21).length))) := by decide +kernel
theorem gv_e21 : ∀ j, j < 2 → xGv[822 + j]? = some (Cond.eq (.elem (tmV 21) (.int (Int32.ofNat j))) (.int ((xWo 21).getD j 0))) := by decide +kernel
theorem gv_a22 : xGv[1016]? = some (Cond.exactly (tmK 22) "java/lang/String") ∧ xGv[1017]? = some (Cond.eq (.field (tmK 22) "java/lang/String" "coder" "B") (.int 0)) ∧ xGv[1018]? = some (Cond.arrayOf (tmV 22) .byte) ∧ xGv[1019]? = some (Cond.eq (.length (tmV 22)) (.int (Int32.ofNat (xWo 22).length))) := by decide +kernel
theorem gv_e22 : ∀ j, j < 4 → xGv[1020 + j]? = some (Cond.eq (.elem (tmV 22) (.int (Int32.ofNat j))) (.int ((xWo 22).getD j 0))) := by decide +kernel
theorem gv_a23 : xGv[1025]? = some (Cond.exactly (tmK 23) "java/lang/String") ∧ xGv[1026]? = some (Cond.eq (.field (tmK 23) "java/lang/String" "coder" "B") (.int 0)) ∧ xGv[1027]? = some (Cond.arrayOf (tmV 23) .byte) ∧ xGv[1028]? = some (Cond.eq (.length (tmV 23)) (.int (Int32.ofNat (xWo 23).length))) := by decide +kernel
theorem gv_e23 : ∀ j, j < 4 → xGv[1029 + j]? = some (Cond.eq (.elem (tmV 23) (.int (Int32.ofNat j))) (.int ((xWo 23).getD j 0))) := by decide +kernel
theorem gv_a24 : xGv[1034]? = some (Cond.exactly (tmK 24) "java/lang/String") ∧ xGv[1035]? = some (Cond.eq (.field (tmK 24) "java/lang/String" "coder" "B") (.int 0)) ∧ xGv[1036]? = some (Cond.arrayOf (tmV 24) .byte) ∧ xGv[1037]? = some (Cond.eq (.length (tmV 24)) (.int (Int32.ofNat (xWo 24).length))) := by decide +kernel
theorem gv_e24 : ∀ j, j < 6 → xGv[1038 + j]? = some (Cond.eq (.elem (tmV 24) (.int (Int32.ofNat j))) (.int ((xWo 24).getD j 0))) := by decide +kernel
theorem gv_a25 : xGv[962]? = some (Cond.exactly (tmK 25) "java/lang/String") ∧ xGv[963]? = some (Cond.eq (.field (tmK 25) "java/lang/String" "coder" "B") (.int 0)) ∧ xGv[964]? = some (Cond.arrayOf (tmV 25) .byte) ∧ xGv[965]? = some (Cond.eq (.length (tmV 25)) (.int (Int32.ofNat (xWo 25).length))) := by decide +kernel
theorem gv_e25 : ∀ j, j < 8 → xGv[966 + j]? = some (Cond.eq (.elem (tmV 25) (.int (Int32.ofNat j))) (.int ((xWo 25).getD j 0))) := by decide +kernel
theorem gv_a26 : xGv[975]? = some (Cond.exactly (tmK 26) "java/lang/String") ∧ xGv[976]? = some (Cond.eq (.field (tmK 26) "java/lang/String" "coder" "B") (.int 0)) ∧ xGv[977]? = some (Cond.arrayOf (tmV 26) .byte) ∧ xGv[978]? = some (Cond.eq (.length (tmV 26)) (.int (Int32.ofNat (xWo 26).length))) := by decide +kernel
theorem gv_e26 : ∀ j, j < 6 → xGv[979 + j]? = some (Cond.eq (.elem (tmV 26) (.int (Int32.ofNat j))) (.int ((xWo 26).getD j 0))) := by decide +kernel
theorem gv_a27 : xGv[986]? = some (Cond.exactly (tmK 27) "java/lang/String") ∧ xGv[987]? = some (Cond.eq (.field (tmK 27) "java/lang/String" "coder" "B") (.int 0)) ∧ xGv[988]? = some (Cond.arrayOf (tmV 27) .byte) ∧ xGv[989]? = some (Cond.eq (.length (tmV 27)) (.int (Int32.ofNat (xWo 27).length))) := by decide +kernel
theorem gv_e27 : ∀ j, j < 5 → xGv[990 + j]? = some (Cond.eq (.elem (tmV 27) (.int (Int32.ofNat j))) (.int ((xWo 27).getD j 0))) := by decide +kernel
theorem gv_a28 : xGv[996]? = some (Cond.exactly (tmK 28) "java/lang/String") ∧ xGv[997]? = some (Cond.eq (.field (tmK 28) "java/lang/String" "coder" "B") (.int 0)) ∧ xGv[998]? = some (Cond.arrayOf (tmV 28) .byte) ∧ xGv[999]? = some (Cond.eq (.length (tmV 28)) (.int (Int32.ofNat (xWo 28).length))) := by decide +kernel
theorem gv_e28 : ∀ j, j < 6 → xGv[1000 + j]? = some (Cond.eq (.elem (tmV 28) (.int (Int32.ofNat j))) (.int ((xWo 28).getD j 0))) := by decide +kernel
theorem gv_a29 : xGv[1007]? = some (Cond.exactly (tmK 29) "java/lang/String") ∧ xGv[1008]? = some (Cond.eq (.field (tmK 29) "java/lang/String" "coder" "B") (.int 0)) ∧ xGv[1009]? = some (Cond.arrayOf (tmV 29) .byte) ∧ xGv[1010]? = some (Cond.eq (.length (tmV 29)) (.int (Int32.ofNat (xWo 29).length))) := by decide +kernel
theorem gv_e29 : ∀ j, j < 4 → xGv[1011 + j]? = some (Cond.eq (.elem (tmV 29) (.int (Int32.ofNat j))) (.int ((xWo 29).getD j 0))) := by decide +kernel
theorem gv_a30 : xGv[773]? = some (Cond.exactly (tmK 30) "java/lang/String") ∧ xGv[774]? = some (Cond.eq (.field (tmK 30) "java/lang/String" "coder" "B") (.int 0)) ∧ xGv[775]? = some (Cond.arrayOf (tmV 30) .byte) ∧ xGv[776]? = some (Cond.eq (.length (tmV 30)) (.int (Int32.ofNat (xWo 30).length))) := by decide +kernel
theorem gv_e30 : ∀ j, j < 0 → xGv[0 + j]? = some (Cond.eq (.elem (tmV 30) (.int (Int32.ofNat j))) (.int ((xWo 30).getD j 0))) := by decide +kernel
theorem gv_a31 : xGv[785]? = some (Cond.exactly (tmK 31) "java/lang/String") ∧ xGv[786]? = some (Cond.eq (.field (tmK 31) "java/lang/String" "coder" "B") (.int 0)) ∧ xGv[787]? = some (Cond.arrayOf (tmV 31) .byte) ∧ xGv[788]? = some (Cond.eq (.length (tmV 31)) (.int (Int32.ofNat (xWo 31).length))) := by decide +kernel
theorem gv_e31 : ∀ j, j < 1 → xGv[789 + j]? = some (Cond.eq (.elem (tmV 31) (.int (Int32.ofNat j))) (.int ((xWo 31).getD j 0))) := by decide +kernel
theorem gv_a32 : xGv[790]? = some (Cond.exactly (tmK 32) "java/lang/String") ∧ xGv[791]? = some (Cond.eq (.field (tmK 32) "java/lang/String" "coder" "B") (.int 0)) ∧ xGv[792]? = some (Cond.arrayOf (tmV 32) .byte) ∧ xGv[793]? = some (Cond.eq (.length (tmV 32)) (.int (Int32.ofNat (xWo 32).length))) := by decide +kernel
theorem gv_e32 : ∀ j, j < 3 → xGv[794 + j]? = some (Cond.eq (.elem (tmV 32) (.int (Int32.ofNat j))) (.int ((xWo 32).getD j 0))) := by decide +kernel
theorem gv_a33 : xGv[797]? = some (Cond.exactly (tmK 33) "java/lang/String") ∧ xGv[798]? = some (Cond.eq (.field (tmK 33) "java/lang/String" "coder" "B") (.int 0)) ∧ xGv[799]? = some (Cond.arrayOf (tmV 33) .byte) ∧ xGv[800]? = some (Cond.eq (.length (tmV 33)) (.int (Int32.ofNat (xWo 33).length))) := by decide +kernel
theorem gv_e33 : ∀ j, j < 2 → xGv[801 + j]? = some (Cond.eq (.elem (tmV 33) (.int (Int32.ofNat j))) (.int ((xWo 33).getD j 0))) := by decide +kernel
theorem gv_a34 : xGv[803]? = some (Cond.exactly (tmK 34) "java/lang/String") ∧ xGv[804]? = some (Cond.eq (.field (tmK 34) "java/lang/String" "coder" "B") (.int 0)) ∧ xGv[805]? = some (Cond.arrayOf (tmV 34) .byte) ∧ xGv[806]? = some (Cond.eq (.length (tmV 34)) (.int (Int32.ofNat (xWo 34).length))) := by decide +kernel
theorem gv_e34 : ∀ j, j < 1 → xGv[807 + j]? = some (Cond.eq (.elem (tmV 34) (.int (Int32.ofNat j))) (.int ((xWo 34).getD j 0))) := by decide +kernel
theorem gv_a35 : xGv[808]? = some (Cond.exactly (tmK 35) "java/lang/String") ∧ xGv[809]? = some (Cond.eq (.field (tmK 35) "java/lang/String" "coder" "B") (.int 0)) ∧ xGv[810]? = some (Cond.arrayOf (tmV 35) .byte) ∧ xGv[811]? = some (Cond.eq (.length (tmV 35)) (.int (Int32.ofNat (xWo 35).length))) := by decide +kernel
theorem gv_e35 : ∀ j, j < 1 → xGv[812 + j]? = some (Cond.eq (.elem (tmV 35) (.int (Int32.ofNat j))) (.int ((xWo 35).getD j 0))) := by decide +kernel
theorem gv_a36 : xGv[813]? = some (Cond.exactly (tmK 36) "java/lang/String") ∧ xGv[814]? = some (Cond.eq (.field (tmK 36) "java/lang/String" "coder" "B") (.int 0)) ∧ xGv[815]? = some (Cond.arrayOf (tmV 36) .byte) ∧ xGv[816]? = some (Cond.eq (.length (tmV 36)) (.int (Int32.ofNat (xWo 36).length))) := by decide +kernel
theorem gv_e36 : ∀ j, j < 1 → xGv[817 + j]? = some (Cond.eq (.elem (tmV 36) (.int (Int32.ofNat j))) (.int ((xWo 36).getD j 0))) := by decide +kernel
theorem gv_ex : ∀ i, i < 37 → Cond.exactly (tmK i) "java/lang/String" ∈ xGv := fun i hi => match i, hi with
  | 0, _ => List.mem_of_getElem? gv_a0.1
  | 1, _ => List.mem_of_getElem? gv_a1.1
  | 2, _ => List.mem_of_getElem? gv_a2.1
  | 3, _ => List.mem_of_getElem? gv_a3.1
  | 4, _ => List.mem_of_getElem? gv_a4.1
  | 5, _ => List.mem_of_getElem? gv_a5.1
  | 6, _ => List.mem_of_getElem? gv_a6.1
  | 7, _ => List.mem_of_getElem? gv_a7.1
  | 8, _ => List.mem_of_getElem? gv_a8.1
  | 9, _ => List.mem_of_getElem? gv_a9.1
  | 10, _ => List.mem_of_getElem? gv_a10.1
  | 11, _ => List.mem_of_getElem? gv_a11.1
  | 12, _ => List.mem_of_getElem? gv_a12.1
  | 13, _ => List.mem_of_getElem? gv_a13.1
  | 14, _ => List.mem_of_getElem? gv_a14.1
  | 15, _ => List.mem_of_getElem? gv_a15.1
  | 16, _ => List.mem_of_getElem? gv_a16.1
  | 17, _ => List.mem_of_getElem? gv_a17.1
  | 18, _ => List.mem_of_getElem? gv_a18.1
  | 19, _ => List.mem_of_getElem? gv_a19.1
  | 20, _ => List.mem_of_getElem? gv_a20.1
  | 21, _ => List.mem_of_getElem? gv_a21.1
  | 22, _ => List.mem_of_getElem? gv_a22.1
  | 23, _ => List.mem_of_getElem? gv_a23.1
  | 24, _ => List.mem_of_getElem? gv_a24.1
  | 25, _ => List.mem_of_getElem? gv_a25.1
  | 26, _ => List.mem_of_getElem? gv_a26.1
  | 27, _ => List.mem_of_getElem? gv_a27.1
  | 28, _ => List.mem_of_getElem? gv_a28.1
  | 29, _ => List.mem_of_getElem? gv_a29.1
  | 30, _ => List.mem_of_getElem? gv_a30.1
  | 31, _ => List.mem_of_getElem? gv_a31.1
  | 32, _ => List.mem_of_getElem? gv_a32.1
  | 33, _ => List.mem_of_getElem? gv_a33.1
  | 34, _ => List.mem_of_getElem? gv_a34.1
  | 35, _ => List.mem_of_getElem? gv_a35.1
  | 36, _ => List.mem_of_getElem? gv_a36.1
  | i + 37, h => absurd h (by omega)
theorem gv_co : ∀ i, i < 37 → Cond.eq (.field (tmK i) "java/lang/String" "coder" "B") (.int 0) ∈ xGv := fun i hi => match i, hi with
  | 0, _ => List.mem_of_getElem? gv_a0.2.1
  | 1, _ => List.mem_of_getElem? gv_a1.2.1
  | 2, _ => List.mem_of_getElem? gv_a2.2.1
  | 3, _ => List.mem_of_getElem? gv_a3.2.1
  | 4, _ => List.mem_of_getElem? gv_a4.2.1
  | 5, _ => List.mem_of_getElem? gv_a5.2.1
  | 6, _ => List.mem_of_getElem? gv_a6.2.1
  | 7, _ => List.mem_of_getElem? gv_a7.2.1
  | 8, _ => List.mem_of_getElem? gv_a8.2.1
  | 9, _ => List.mem_of_getElem? gv_a9.2.1
  | 10, _ => List.mem_of_getElem? gv_a10.2.1
  | 11, _ => List.mem_of_getElem? gv_a11.2.1
  | 12, _ => List.mem_of_getElem? gv_a12.2.1
  | 13, _ => List.mem_of_getElem? gv_a13.2.1
  | 14, _ => List.mem_of_getElem? gv_a14.2.1
  | 15, _ => List.mem_of_getElem? gv_a15.2.1
  | 16, _ => List.mem_of_getElem? gv_a16.2.1
  | 17, _ => List.mem_of_getElem? gv_a17.2.1
  | 18, _ => List.mem_of_getElem? gv_a18.2.1
  | 19, _ => List.mem_of_getElem? gv_a19.2.1
  | 20, _ => List.mem_of_getElem? gv_a20.2.1
  | 21, _ => List.mem_of_getElem? gv_a21.2.1
  | 22, _ => List.mem_of_getElem? gv_a22.2.1
  | 23, _ => List.mem_of_getElem? gv_a23.2.1
  | 24, _ => List.mem_of_getElem? gv_a24.2.1
  | 25, _ => List.mem_of_getElem? gv_a25.2.1
  | 26, _ => List.mem_of_getElem? gv_a26.2.1
  | 27, _ => List.mem_of_getElem? gv_a27.2.1
  | 28, _ => List.mem_of_getElem? gv_a28.2.1
  | 29, _ => List.mem_of_getElem? gv_a29.2.1
  | 30, _ => List.mem_of_getElem? gv_a30.2.1
  | 31, _ => List.mem_of_getElem? gv_a31.2.1
  | 32, _ => List.mem_of_getElem? gv_a32.2.1
  | 33, _ => List.mem_of_getElem? gv_a33.2.1
  | 34, _ => List.mem_of_getElem? gv_a34.2.1
  | 35, _ => List.mem_of_getElem? gv_a35.2.1
  | 36, _ => List.mem_of_getElem? gv_a36.2.1
  | i + 37, h => absurd h (by omega)
theorem gv_ar : ∀ i, i < 37 → Cond.arrayOf (tmV i) .byte ∈ xGv := fun i hi => match i, hi with
  | 0, _ => List.mem_of_getElem? gv_a0.2.2.1
  | 1, _ => List.mem_of_getElem? gv_a1.2.2.1
  | 2, _ => List.mem_of_getElem? gv_a2.2.2.1
  | 3, _ => List.mem_of_getElem? gv_a3.2.2.1
  | 4, _ => List.mem_of_getElem? gv_a4.2.2.1
  | 5, _ => List.mem_of_getElem? gv_a5.2.2.1
  | 6, _ => List.mem_of_getElem? gv_a6.2.2.1
  | 7, _ => List.mem_of_getElem? gv_a7.2.2.1
  | 8, _ => List.mem_of_getElem? gv_a8.2.2.1
  | 9, _ => List.mem_of_getElem? gv_a9.2.2.1
  | 10, _ => List.mem_of_getElem? gv_a10.2.2.1
  | 11, _ => List.mem_of_getElem? gv_a11.2.2.1
  | 12, _ => List.mem_of_getElem? gv_a12.2.2.1
  | 13, _ => List.mem_of_getElem? gv_a13.2.2.1
  | 14, _ => List.mem_of_getElem? gv_a14.2.2.1
  | 15, _ => List.mem_of_getElem? gv_a15.2.2.1
  | 16, _ => List.mem_of_getElem? gv_a16.2.2.1
  | 17, _ => List.mem_of_getElem? gv_a17.2.2.1
  | 18, _ => List.mem_of_getElem? gv_a18.2.2.1
  | 19, _ => List.mem_of_getElem? gv_a19.2.2.1
  | 20, _ => List.mem_of_getElem? gv_a20.2.2.1
  | 21, _ => List.mem_of_getElem? gv_a21.2.2.1
  | 22, _ => List.mem_of_getElem? gv_a22.2.2.1
  | 23, _ => List.mem_of_getElem? gv_a23.2.2.1
  | 24, _ => List.mem_of_getElem? gv_a24.2.2.1
  | 25, _ => List.mem_of_getElem? gv_a25.2.2.1
  | 26, _ => List.mem_of_getElem? gv_a26.2.2.1
  | 27, _ => List.mem_of_getElem? gv_a27.2.2.1
  | 28, _ => List.mem_of_getElem? gv_a28.2.2.1
  | 29, _ => List.mem_of_getElem? gv_a29.2.2.1
  | 30, _ => List.mem_of_getElem? gv_a30.2.2.1
  | 31, _ => List.mem_of_getElem? gv_a31.2.2.1
  | 32, _ => List.mem_of_getElem? gv_a32.2.2.1
  | 33, _ => List.mem_of_getElem? gv_a33.2.2.1
  | 34, _ => List.mem_of_getElem? gv_a34.2.2.1
  | 35, _ => List.mem_of_getElem? gv_a35.2.2.1
  | 36, _ => List.mem_of_getElem? gv_a36.2.2.1
  | i + 37, h => absurd h (by omega)
theorem gv_le : ∀ i, i < 37 → Cond.eq (.length (tmV i)) (.int (Int32.ofNat (xWo i).length)) ∈ xGv := fun i hi => match i, hi with
  | 0, _ => List.mem_of_getElem? gv_a0.2.2.2
  | 1, _ => List.mem_of_getElem? gv_a1.2.2.2
  | 2, _ => List.mem_of_getElem? gv_a2.2.2.2
  | 3, _ => List.mem_of_getElem? gv_a3.2.2.2
  | 4, _ => List.mem_of_getElem? gv_a4.2.2.2
  | 5, _ => List.mem_of_getElem? gv_a5.2.2.2
  | 6, _ => List.mem_of_getElem? gv_a6.2.2.2
  | 7, _ => List.mem_of_getElem? gv_a7.2.2.2
  | 8, _ => List.mem_of_getElem? gv_a8.2.2.2
  | 9, _ => List.mem_of_getElem? gv_a9.2.2.2
  | 10, _ => List.mem_of_getElem? gv_a10.2.2.2
  | 11, _ => List.mem_of_getElem? gv_a11.2.2.2
  | 12, _ => List.mem_of_getElem? gv_a12.2.2.2
  | 13, _ => List.mem_of_getElem? gv_a13.2.2.2
  | 14, _ => List.mem_of_getElem? gv_a14.2.2.2
  | 15, _ => List.mem_of_getElem? gv_a15.2.2.2
  | 16, _ => List.mem_of_getElem? gv_a16.2.2.2
  | 17, _ => List.mem_of_getElem? gv_a17.2.2.2
  | 18, _ => List.mem_of_getElem? gv_a18.2.2.2
  | 19, _ => List.mem_of_getElem? gv_a19.2.2.2
  | 20, _ => List.mem_of_getElem? gv_a20.2.2.2
  | 21, _ => List.mem_of_getElem? gv_a21.2.2.2
  | 22, _ => List.mem_of_getElem? gv_a22.2.2.2
  | 23, _ => List.mem_of_getElem? gv_a23.2.2.2
  | 24, _ => List.mem_of_getElem? gv_a24.2.2.2
  | 25, _ => List.mem_of_getElem? gv_a25.2.2.2
  | 26, _ => List.mem_of_getElem? gv_a26.2.2.2
  | 27, _ => List.mem_of_getElem? gv_a27.2.2.2
  | 28, _ => List.mem_of_getElem? gv_a28.2.2.2
  | 29, _ => List.mem_of_getElem? gv_a29.2.2.2
  | 30, _ => List.mem_of_getElem? gv_a30.2.2.2
  | 31, _ => List.mem_of_getElem? gv_a31.2.2.2
  | 32, _ => List.mem_of_getElem? gv_a32.2.2.2
  | 33, _ => List.mem_of_getElem? gv_a33.2.2.2
  | 34, _ => List.mem_of_getElem? gv_a34.2.2.2
  | 35, _ => List.mem_of_getElem? gv_a35.2.2.2
  | 36, _ => List.mem_of_getElem? gv_a36.2.2.2
  | i + 37, h => absurd h (by omega)
theorem gv_el : ∀ i, i < 37 → ∀ j, j < (xWo i).length → Cond.eq (.elem (tmV i) (.int (Int32.ofNat j))) (.int ((xWo i).getD j 0)) ∈ xGv := fun i hi => match i, hi with
  | 0, _ => fun j hj => List.mem_of_getElem? (gv_e0 j hj)
  | 1, _ => fun j hj => List.mem_of_getElem? (gv_e1 j hj)
  | 2, _ => fun j hj => List.mem_of_getElem? (gv_e2 j hj)
  | 3, _ => fun j hj => List.mem_of_getElem? (gv_e3 j hj)
  | 4, _ => fun j hj => List.mem_of_getElem? (gv_e4 j hj)
  | 5, _ => fun j hj => List.mem_of_getElem? (gv_e5 j hj)
  | 6, _ => fun j hj => List.mem_of_getElem? (gv_e6 j hj)
  | 7, _ => fun j hj => List.mem_of_getElem? (gv_e7 j hj)
  | 8, _ => fun j hj => List.mem_of_getElem? (gv_e8 j hj)
  | 9, _ => fun j hj => List.mem_of_getElem? (gv_e9 j hj)
  | 10, _ => fun j hj => List.mem_of_getElem? (gv_e10 j hj)
  | 11, _ => fun j hj => List.mem_of_getElem? (gv_e11 j hj)
  | 12, _ => fun j hj => List.mem_of_getElem? (gv_e12 j hj)
  | 13, _ => fun j hj => List.mem_of_getElem? (gv_e13 j hj)
  | 14, _ => fun j hj => List.mem_of_getElem? (gv_e14 j hj)
  | 15, _ => fun j hj => List.mem_of_getElem? (gv_e15 j hj)
  | 16, _ => fun j hj => List.mem_of_getElem? (gv_e16 j hj)
  | 17, _ => fun j hj => List.mem_of_getElem? (gv_e17 j hj)
  | 18, _ => fun j hj => List.mem_of_getElem? (gv_e18 j hj)
  | 19, _ => fun j hj => List.mem_of_getElem? (gv_e19 j hj)
  | 20, _ => fun j hj => List.mem_of_getElem? (gv_e20 j hj)
  | 21, _ => fun j hj => List.mem_of_getElem? (gv_e21 j hj)
  | 22, _ => fun j hj => List.mem_of_getElem? (gv_e22 j hj)
  | 23, _ => fun j hj => List.mem_of_getElem? (gv_e23 j hj)
  | 24, _ => fun j hj => List.mem_of_getElem? (gv_e24 j hj)
  | 25, _ => fun j hj => List.mem_of_getElem? (gv_e25 j hj)
  | 26, _ => fun j hj => List.mem_of_getElem? (gv_e26 j hj)
  | 27, _ => fun j hj => List.mem_of_getElem? (gv_e27 j hj)
  | 28, _ => fun j hj => List.mem_of_getElem? (gv_e28 j hj)
  | 29, _ => fun j hj => List.mem_of_getElem? (gv_e29 j hj)
  | 30, _ => fun j hj => List.mem_of_getElem? (gv_e30 j hj)
  | 31, _ => fun j hj => List.mem_of_getElem? (gv_e31 j hj)
  | 32, _ => fun j hj => List.mem_of_getElem? (gv_e32 j hj)
  | 33, _ => fun j hj => List.mem_of_getElem? (gv_e33 j hj)
  | 34, _ => fun j hj => List.mem_of_getElem? (gv_e34 j hj)
  | 35, _ => fun j hj => List.mem_of_getElem? (gv_e35 j hj)
  | 36, _ => fun j hj => List.mem_of_getElem? (gv_e36 j hj)
  | i + 37, h => absurd h (by omega)
theorem gv_r0 : lw_tbl[621]? = some (Cond.stringRef RX5 63 "lines") := by decide +kernel
theorem gv_r1 : lw_tbl[622]? = some (Cond.stringRef RX5 65 "handler") := by decide +kernel
theorem gv_r2 : lw_tbl[623]? = some (Cond.stringRef RX5 67 "line") := by decide +kernel
theorem gv_r3 : lw_tbl[624]? = some (Cond.stringRef RX5 69 "raise") := by decide +kernel
theorem gv_r4 : lw_tbl[625]? = some (Cond.stringRef RX5 71 "patience") := by decide +kernel
theorem gv_r5 : lw_tbl[626]? = some (Cond.stringRef RX5 73 "window") := by decide +kernel
theorem gv_r6 : lw_tbl[627]? = some (Cond.stringRef RX5 75 "storm") := by decide +kernel
theorem gv_r7 : lw_tbl[628]? = some (Cond.stringRef RX5 77 "period") := by decide +kernel
theorem gv_r8 : lw_tbl[629]? = some (Cond.stringRef RX5 79 "wage") := by decide +kernel
theorem gv_r9 : lw_tbl[630]? = some (Cond.stringRef RX5 81 "fine") := by decide +kernel
theorem gv_r10 : lw_tbl[631]? = some (Cond.stringRef RX5 83 "left") := by decide +kernel
theorem gv_r11 : lw_tbl[632]? = some (Cond.stringRef RX5 85 "held") := by decide +kernel
theorem gv_r12 : lw_tbl[633]? = some (Cond.stringRef RX5 87 "waited") := by decide +kernel
theorem gv_r13 : lw_tbl[1046]? = some (Cond.stringRef RL 108 " ") := by decide +kernel
theorem gv_r14 : lw_tbl[1022]? = some (Cond.stringRef RL 116 "lines;") := by decide +kernel
theorem gv_r15 : lw_tbl[1042]? = some (Cond.stringRef RL 131 "handler") := by decide +kernel
theorem gv_r16 : lw_tbl[1050]? = some (Cond.stringRef RL 136 ";") := by decide +kernel
theorem gv_r17 : lw_tbl[1051]? = some (Cond.stringRef RL 141 "line") := by decide +kernel
theorem gv_r18 : lw_tbl[1053]? = some (Cond.stringRef RL 150 "") := by decide +kernel
theorem gv_r19 : lw_tbl[1054]? = some (Cond.stringRef RL 155 "raise") := by decide +kernel
theorem gv_r20 : lw_tbl[1081]? = some (Cond.stringRef RL 173 "fine ") := by decide +kernel
theorem gv_r21 : lw_tbl[1313]? = some (Cond.stringRef RL 179 " ;") := by decide +kernel
theorem gv_r22 : lw_tbl[1458]? = some (Cond.stringRef RL 268 "left") := by decide +kernel
theorem gv_r23 : lw_tbl[1459]? = some (Cond.stringRef RL 270 "held") := by decide +kernel
theorem gv_r24 : lw_tbl[1460]? = some (Cond.stringRef RL 272 "waited") := by decide +kernel
theorem gv_r25 : lw_tbl[1452]? = some (Cond.stringRef RL 277 "patience") := by decide +kernel
theorem gv_r26 : lw_tbl[1453]? = some (Cond.stringRef RL 279 "window") := by decide +kernel
theorem gv_r27 : lw_tbl[1454]? = some (Cond.stringRef RL 281 "storm") := by decide +kernel
theorem gv_r28 : lw_tbl[1455]? = some (Cond.stringRef RL 283 "period") := by decide +kernel
theorem gv_r29 : lw_tbl[1456]? = some (Cond.stringRef RL 285 "wage") := by decide +kernel
theorem gv_r30 : lw_tbl[1116]? = some (Cond.stringRef RX9 37 "") := by decide +kernel
theorem gv_r31 : lw_tbl[1307]? = some (Cond.stringRef RX9 60 "+") := by decide +kernel
theorem gv_r32 : lw_tbl[1308]? = some (Cond.stringRef RX9 62 " - ") := by decide +kernel
theorem gv_r33 : lw_tbl[1309]? = some (Cond.stringRef RX9 64 "* ") := by decide +kernel
theorem gv_r34 : lw_tbl[1310]? = some (Cond.stringRef RX9 66 "/") := by decide +kernel
theorem gv_r35 : lw_tbl[1311]? = some (Cond.stringRef RX9 68 "(") := by decide +kernel
theorem gv_r36 : lw_tbl[1312]? = some (Cond.stringRef RX9 70 ")") := by decide +kernel
theorem gv_wd : ∀ q ∈ xWd, q.2.2.2 < 37 ∧ Cond.stringRef q.1 q.2.1 q.2.2.1 ∈ lw_tbl ∧ tmK q.2.2.2 = Term.string q.1 q.2.1 := by
  intro q hq
  unfold xWd at hq
  simp only [List.mem_cons, List.not_mem_nil, or_false] at hq
  rcases hq with rfl | rfl | rfl | rfl | rfl | rfl | rfl | rfl | rfl | rfl | rfl | rfl | rfl | rfl | rfl | rfl | rfl | rfl | rfl | rfl | rfl | rfl | rfl | rfl | rfl | rfl | rfl | rfl | rfl | rfl | rfl | rfl | rfl | rfl | rfl | rfl | rfl
  · exact ⟨by decide, List.mem_of_getElem? gv_r0, rfl⟩
  · exact ⟨by decide, List.mem_of_getElem? gv_r1, rfl⟩
  · exact ⟨by decide, List.mem_of_getElem? gv_r2, rfl⟩
  · exact ⟨by decide, List.mem_of_getElem? gv_r3, rfl⟩
  · exact ⟨by decide, List.mem_of_getElem? gv_r4, rfl⟩
  · exact ⟨by decide, List.mem_of_getElem? gv_r5, rfl⟩
  · exact ⟨by decide, List.mem_of_getElem? gv_r6, rfl⟩
  · exact ⟨by decide, List.mem_of_getElem? gv_r7, rfl⟩
  · exact ⟨by decide, List.mem_of_getElem? gv_r8, rfl⟩
  · exact ⟨by decide, List.mem_of_getElem? gv_r9, rfl⟩
  · exact ⟨by decide, List.mem_of_getElem? gv_r10, rfl⟩
  · exact ⟨by decide, List.mem_of_getElem? gv_r11, rfl⟩
  · exact ⟨by decide, List.mem_of_getElem? gv_r12, rfl⟩
  · exact ⟨by decide, List.mem_of_getElem? gv_r13, rfl⟩
  · exact ⟨by decide, List.mem_of_getElem? gv_r14, rfl⟩
  · exact ⟨by decide, List.mem_of_getElem? gv_r15, rfl⟩
  · exact ⟨by decide, List.mem_of_getElem? gv_r16, rfl⟩
  · exact ⟨by decide, List.mem_of_getElem? gv_r17, rfl⟩
  · exact ⟨by decide, List.mem_of_getElem? gv_r18, rfl⟩
  · exact ⟨by decide, List.mem_of_getElem? gv_r19, rfl⟩
  · exact ⟨by decide, List.mem_of_getElem? gv_r20, rfl⟩
  · exact ⟨by decide, List.mem_of_getElem? gv_r21, rfl⟩
  · exact ⟨by decide, List.mem_of_getElem? gv_r22, rfl⟩
  · exact ⟨by decide, List.mem_of_getElem? gv_r23, rfl⟩
  · exact ⟨by decide, List.mem_of_getElem? gv_r24, rfl⟩
  · exact ⟨by decide, List.mem_of_getElem? gv_r25, rfl⟩
  · exact ⟨by decide, List.mem_of_getElem? gv_r26, rfl⟩
  · exact ⟨by decide, List.mem_of_getElem? gv_r27, rfl⟩
  · exact ⟨by decide, List.mem_of_getElem? gv_r28, rfl⟩
  · exact ⟨by decide, List.mem_of_getElem? gv_r29, rfl⟩
  · exact ⟨by decide, List.mem_of_getElem? gv_r30, rfl⟩
  · exact ⟨by decide, List.mem_of_getElem? gv_r31, rfl⟩
  · exact ⟨by decide, List.mem_of_getElem? gv_r32, rfl⟩
  · exact ⟨by decide, List.mem_of_getElem? gv_r33, rfl⟩
  · exact ⟨by decide, List.mem_of_getElem? gv_r34, rfl⟩
  · exact ⟨by decide, List.mem_of_getElem? gv_r35, rfl⟩
  · exact ⟨by decide, List.mem_of_getElem? gv_r36, rfl⟩
theorem gv_m0 : lw_tbl[582]? = some (Cond.stringRef RX7 60 "no such length of the buffer") ∧ xGv[381]? = some (Cond.exactly (Term.string RX7 60) "java/lang/String") := by decide +kernel
theorem gv_m1 : lw_tbl[1337]? = some (Cond.stringRef RX7 110 "no such number of the state") ∧ xGv[824]? = some (Cond.exactly (Term.string RX7 110) "java/lang/String") := by decide +kernel
theorem gv_m2 : lw_tbl[911]? = some (Cond.stringRef RX7 118 "no such handler") ∧ xGv[568]? = some (Cond.exactly (Term.string RX7 118) "java/lang/String") := by decide +kernel
theorem gv_m3 : lw_tbl[1346]? = some (Cond.stringRef RX7 152 "no such number of a handler") ∧ xGv[855]? = some (Cond.exactly (Term.string RX7 152) "java/lang/String") := by decide +kernel
theorem gv_m4 : lw_tbl[819]? = some (Cond.stringRef RX7 157 "no such line") ∧ xGv[533]? = some (Cond.exactly (Term.string RX7 157) "java/lang/String") := by decide +kernel
theorem gv_m5 : lw_tbl[1355]? = some (Cond.stringRef RX7 179 "no such number of a line") ∧ xGv[886]? = some (Cond.exactly (Term.string RX7 179) "java/lang/String") := by decide +kernel
theorem gv_m6 : lw_tbl[1369]? = some (Cond.stringRef RX7 183 "no such place") ∧ xGv[914]? = some (Cond.exactly (Term.string RX7 183) "java/lang/String") := by decide +kernel
theorem gv_m7 : lw_tbl[842]? = some (Cond.stringRef RX7 193 "no such request") ∧ xGv[549]? = some (Cond.exactly (Term.string RX7 193) "java/lang/String") := by decide +kernel
theorem gv_m8 : lw_tbl[1380]? = some (Cond.stringRef RX7 220 "no such number of a request") ∧ xGv[931]? = some (Cond.exactly (Term.string RX7 220) "java/lang/String") := by decide +kernel
theorem gv_m9 : lw_tbl[919]? = some (Cond.stringRef RX7 228 "no such number of ticks") ∧ xGv[587]? = some (Cond.exactly (Term.string RX7 228) "java/lang/String") := by decide +kernel
theorem gv_m10 : lw_tbl[968]? = some (Cond.stringRef RX7 240 "no such work") ∧ xGv[614]? = some (Cond.exactly (Term.string RX7 240) "java/lang/String") := by decide +kernel
theorem gv_m11 : lw_tbl[978]? = some (Cond.stringRef RX7 244 "there are 60 requests") ∧ xGv[630]? = some (Cond.exactly (Term.string RX7 244) "java/lang/String") := by decide +kernel
theorem gv_m12 : lw_tbl[995]? = some (Cond.stringRef RX7 255 "no such handler or line") ∧ xGv[655]? = some (Cond.exactly (Term.string RX7 255) "java/lang/String") := by decide +kernel
theorem gv_m13 : lw_tbl[1015]? = some (Cond.stringRef RX7 263 "no such number of coins") ∧ xGv[682]? = some (Cond.exactly (Term.string RX7 263) "java/lang/String") := by decide +kernel
theorem gv_ms : ∀ q ∈ xMs, Cond.stringRef RX7 q.1 q.2 ∈ lw_tbl ∧ Cond.exactly (Term.string RX7 q.1) "java/lang/String" ∈ xGv := by
  intro q hq
  unfold xMs at hq
  simp only [List.mem_cons, List.not_mem_nil, or_false] at hq
  rcases hq with rfl | rfl | rfl | rfl | rfl | rfl | rfl | rfl | rfl | rfl | rfl | rfl | rfl | rfl
  · exact ⟨List.mem_of_getElem? gv_m0.1, List.mem_of_getElem? gv_m0.2⟩
  · exact ⟨List.mem_of_getElem? gv_m1.1, List.mem_of_getElem? gv_m1.2⟩
  · exact ⟨List.mem_of_getElem? gv_m2.1, List.mem_of_getElem? gv_m2.2⟩
  · exact ⟨List.mem_of_getElem? gv_m3.1, List.mem_of_getElem? gv_m3.2⟩
  · exact ⟨List.mem_of_getElem? gv_m4.1, List.mem_of_getElem? gv_m4.2⟩
  · exact ⟨List.mem_of_getElem? gv_m5.1, List.mem_of_getElem? gv_m5.2⟩
  · exact ⟨List.mem_of_getElem? gv_m6.1, List.mem_of_getElem? gv_m6.2⟩
  · exact ⟨List.mem_of_getElem? gv_m7.1, List.mem_of_getElem? gv_m7.2⟩
  · exact ⟨List.mem_of_getElem? gv_m8.1, List.mem_of_getElem? gv_m8.2⟩
  · exact ⟨List.mem_of_getElem? gv_m9.1, List.mem_of_getElem? gv_m9.2⟩
  · exact ⟨List.mem_of_getElem? gv_m10.1, List.mem_of_getElem? gv_m10.2⟩
  · exact ⟨List.mem_of_getElem? gv_m11.1, List.mem_of_getElem? gv_m11.2⟩
  · exact ⟨List.mem_of_getElem? gv_m12.1, List.mem_of_getElem? gv_m12.2⟩
  · exact ⟨List.mem_of_getElem? gv_m13.1, List.mem_of_getElem? gv_m13.2⟩
theorem gv_de : ∀ x ∈ xDe, Cond.declares x ∈ lw_tbl := by decide +kernel
theorem gv_cx : ∀ x ∈ xEx, Cond.castable x x ∈ lw_tbl := by decide +kernel
theorem gv_ne : ∀ q ∈ xNe, Cond.methodLinkNest q.1 q.2.1 q.2.2 RX7 ∈ lw_tbl := by decide +kernel
theorem gv_nl : ∀ q ∈ xNl, Cond.methodLinkNest q.1 q.2.1 q.2.2 RL ∈ lw_tbl := by decide +kernel
theorem gv_np : ∀ q ∈ xNp, Cond.not (.castable q.1 q.2) ∈ xGv := by decide +kernel
theorem gv_ao : ∀ C ∈ xAo, Cond.arrayOver (.object C) ∈ lw_tbl := by decide +kernel
theorem gv_cl : ∀ q ∈ xCs, Cond.castable q "java/lang/Cloneable" ∈ lw_tbl := by decide +kernel
theorem gv_fl : Cond.fieldLinkNest RX9 50 RL "VARIABLES" "[Ljava/lang/String;" RL ∈ lw_tbl := List.mem_of_getElem? (i := 1304) (by decide +kernel)
theorem gv_aoa : Cond.arrayOver (.array .int) ∈ lw_tbl := List.mem_of_getElem? (i := 402) (by decide +kernel)
theorem gv_us : Cond.laysStatic Bundle.tN "UNASSIGNED_STACK" Bundle.steD ∈ lw_tbl := List.mem_of_getElem? (i := 567) (by decide +kernel)
theorem gv_ss : Cond.laysStatic Bundle.tN "SUPPRESSED_SENTINEL" Bundle.listD ∈ lw_tbl := List.mem_of_getElem? (i := 569) (by decide +kernel)
theorem gv_ti : Cond.initialized Bundle.tN ∈ lw_tbl := List.mem_of_getElem? (i := 37) (by decide +kernel)
theorem gv_cs : Cond.laysStatic "java/lang/String" "COMPACT_STRINGS" "Z" ∈ lw_tbl := List.mem_of_getElem? (i := 646) (by decide +kernel)
theorem gv_si : Cond.initialized "java/lang/String" ∈ lw_tbl := List.mem_of_getElem? (i := 44) (by decide +kernel)
theorem gv_sf : Cond.laysStatic "jdk/internal/util/Preconditions" "SIOOBE_FORMATTER" "Ljava/util/function/BiFunction;" ∈ lw_tbl := List.mem_of_getElem? (i := 662) (by decide +kernel)
theorem gv_pi : Cond.initialized "jdk/internal/util/Preconditions" ∈ lw_tbl := List.mem_of_getElem? (i := 46) (by decide +kernel)
theorem gv_do : Cond.laysStatic "java/lang/Integer" "DigitOnes" "[B" ∈ lw_tbl := List.mem_of_getElem? (i := 1228) (by decide +kernel)
theorem gv_dt : Cond.laysStatic "java/lang/Integer" "DigitTens" "[B" ∈ lw_tbl := List.mem_of_getElem? (i := 1230) (by decide +kernel)
theorem gv_ii : Cond.initialized "java/lang/Integer" ∈ lw_tbl := List.mem_of_getElem? (i := 56) (by decide +kernel)
theorem gv_va : Cond.laysStatic RL "VARIABLES" "[Ljava/lang/String;" ∈ lw_tbl := List.mem_of_getElem? (i := 1305) (by decide +kernel)
theorem gv_nu : Cond.laysStatic RL "NUMBERS" "[Ljava/lang/String;" ∈ lw_tbl := List.mem_of_getElem? (i := 1056) (by decide +kernel)
theorem gv_li : Cond.initialized RL ∈ lw_tbl := List.mem_of_getElem? (i := 26) (by decide +kernel)
theorem gv_g1 : Cond.isRef (.static Bundle.tN "UNASSIGNED_STACK" Bundle.steD) ∈ xGv := List.mem_of_getElem? (i := 4) (by decide +kernel)
theorem gv_g2 : Cond.isRef (.static Bundle.tN "SUPPRESSED_SENTINEL" Bundle.listD) ∈ xGv := List.mem_of_getElem? (i := 5) (by decide +kernel)
theorem gv_g3 : Cond.eq (.static "java/lang/String" "COMPACT_STRINGS" "Z") (.int 1) ∈ xGv := List.mem_of_getElem? (i := 6) (by decide +kernel)
theorem gv_g4 : Cond.isRef (.static "jdk/internal/util/Preconditions" "SIOOBE_FORMATTER" "Ljava/util/function/BiFunction;") ∈ xGv := List.mem_of_getElem? (i := 7) (by decide +kernel)
theorem gv_da100 : Cond.arrayOf (tmD 100) .byte ∈ xGv := List.mem_of_getElem? (i := 20) (by decide +kernel)
theorem gv_dl100 : Cond.eq (.length (tmD 100)) (.int (Int32.ofNat (xBy 100).length)) ∈ xGv := List.mem_of_getElem? (i := 21) (by decide +kernel)
theorem gv_d100_0 : ∀ j, j < 20 → 0 ≤ j → xGv[22 + j]? = some (Cond.eq (.elem (tmD 100) (.int (Int32.ofNat j))) (.int ((xBy 100).getD j 0))) := by decide +kernel
theorem gv_d100_1 : ∀ j, j < 40 → 20 ≤ j → xGv[22 + j]? = some (Cond.eq (.elem (tmD 100) (.int (Int32.ofNat j))) (.int ((xBy 100).getD j 0))) := by decide +kernel
theorem gv_d100_2 : ∀ j, j < 60 → 40 ≤ j → xGv[22 + j]? = some (Cond.eq (.elem (tmD 100) (.int (Int32.ofNat j))) (.int ((xBy 100).getD j 0))) := by decide +kernel
theorem gv_d100_3 : ∀ j, j < 80 → 60 ≤ j → xGv[22 + j]? = some (Cond.eq (.elem (tmD 100) (.int (Int32.ofNat j))) (.int ((xBy 100).getD j 0))) := by decide +kernel
theorem gv_d100_4 : ∀ j, j < 100 → 80 ≤ j → xGv[22 + j]? = some (Cond.eq (.elem (tmD 100) (.int (Int32.ofNat j))) (.int ((xBy 100).getD j 0))) := by decide +kernel
theorem gv_de100 (j : Nat) (hj : j < 100) : Cond.eq (.elem (tmD 100) (.int (Int32.ofNat j))) (.int ((xBy 100).getD j 0)) ∈ xGv := by
  rcases (by omega : j < 20 ∨ (20 ≤ j ∧ j < 40) ∨ (40 ≤ j ∧ j < 60) ∨ (60 ≤ j ∧ j < 80) ∨ 80 ≤ j) with h | h | h | h | h
  · exact List.mem_of_getElem? (gv_d100_0 j h (Nat.zero_le _))
  · exact List.mem_of_getElem? (gv_d100_1 j h.2 h.1)
  · exact List.mem_of_getElem? (gv_d100_2 j h.2 h.1)
  · exact List.mem_of_getElem? (gv_d100_3 j h.2 h.1)
  · exact List.mem_of_getElem? (gv_d100_4 j hj h)
theorem gv_da101 : Cond.arrayOf (tmD 101) .byte ∈ xGv := List.mem_of_getElem? (i := 123) (by decide +kernel)
theorem gv_dl101 : Cond.eq (.length (tmD 101)) (.int (Int32.ofNat (xBy 101).length)) ∈ xGv := List.mem_of_getElem? (i := 124) (by decide +kernel)
theorem gv_d101_0 : ∀ j, j < 20 → 0 ≤ j → xGv[125 + j]? = some (Cond.eq (.elem (tmD 101) (.int (Int32.ofNat j))) (.int ((xBy 101).getD j 0))) := by decide +kernel
theorem gv_d101_1 : ∀ j, j < 40 → 20 ≤ j → xGv[125 + j]? = some (Cond.eq (.elem (tmD 101) (.int (Int32.ofNat j))) (.int ((xBy 101).getD j 0))) := by decide +kernel
theorem gv_d101_2 : ∀ j, j < 60 → 40 ≤ j → xGv[125 + j]? = some (Cond.eq (.elem (tmD 101) (.int (Int32.ofNat j))) (.int ((xBy 101).getD j 0))) := by decide +kernel
theorem gv_d101_3 : ∀ j, j < 80 → 60 ≤ j → xGv[125 + j]? = some (Cond.eq (.elem (tmD 101) (.int (Int32.ofNat j))) (.int ((xBy 101).getD j 0))) := by decide +kernel
theorem gv_d101_4 : ∀ j, j < 100 → 80 ≤ j → xGv[125 + j]? = some (Cond.eq (.elem (tmD 101) (.int (Int32.ofNat j))) (.int ((xBy 101).getD j 0))) := by decide +kernel
theorem gv_de101 (j : Nat) (hj : j < 100) : Cond.eq (.elem (tmD 101) (.int (Int32.ofNat j))) (.int ((xBy 101).getD j 0)) ∈ xGv := by
  rcases (by omega : j < 20 ∨ (20 ≤ j ∧ j < 40) ∨ (40 ≤ j ∧ j < 60) ∨ (60 ≤ j ∧ j < 80) ∨ 80 ≤ j) with h | h | h | h | h
  · exact List.mem_of_getElem? (gv_d101_0 j h (Nat.zero_le _))
  · exact List.mem_of_getElem? (gv_d101_1 j h.2 h.1)
  · exact List.mem_of_getElem? (gv_d101_2 j h.2 h.1)
  · exact List.mem_of_getElem? (gv_d101_3 j h.2 h.1)
  · exact List.mem_of_getElem? (gv_d101_4 j hj h)
theorem gv_da102 : Cond.arrayOf (tmD 102) (.object "java/lang/String") ∈ xGv := List.mem_of_getElem? (i := 226) (by decide +kernel)
theorem gv_dl102 : Cond.eq (.length (tmD 102)) (.int (Int32.ofNat (xRy 102).length)) ∈ xGv := List.mem_of_getElem? (i := 227) (by decide +kernel)
theorem gv_de102 : ∀ j, j < 4 → xGv[228 + j]? = some (Cond.eq (.elem (tmD 102) (.int (Int32.ofNat j))) (tmK ((xRy 102).getD j 0))) := by decide +kernel
theorem gv_da103 : Cond.arrayOf (tmD 103) (.object "java/lang/String") ∈ xGv := List.mem_of_getElem? (i := 12) (by decide +kernel)
theorem gv_dl103 : Cond.eq (.length (tmD 103)) (.int (Int32.ofNat (xRy 103).length)) ∈ xGv := List.mem_of_getElem? (i := 13) (by decide +kernel)
theorem gv_de103 : ∀ j, j < 5 → xGv[14 + j]? = some (Cond.eq (.elem (tmD 103) (.int (Int32.ofNat j))) (tmK ((xRy 103).getD j 0))) := by decide +kernel
theorem gv_ib : Cond.instantiable RJ4 4 ∈ lw_tbl := List.mem_of_getElem? (i := 1087) (by decide +kernel)
theorem gv_il : Cond.selects RJ4 ⟨"java/lang/AbstractStringBuilder", "isLatin1", "()Z"⟩ ⟨"java/lang/AbstractStringBuilder", "isLatin1", "()Z"⟩ ∈ lw_tbl := List.mem_of_getElem? (i := 1162) (by decide +kernel)
theorem gv_p_ensureCapacityInternal : Cond.privateMethod yJ5_ensureCapacityInternal_d00df ∈ lw_tbl := List.mem_of_getElem? (i := 1129) (by decide +kernel)
theorem gv_i_ensureCapacityInternal : Cond.instanceMethod yJ5_ensureCapacityInternal_d00df ∈ lw_tbl := List.mem_of_getElem? (i := 1130) (by decide +kernel)
theorem gv_p_newCapacity : Cond.privateMethod yJ5_newCapacity_0f7a4 ∈ lw_tbl := List.mem_of_getElem? (i := 1133) (by decide +kernel)
theorem gv_i_newCapacity : Cond.instanceMethod yJ5_newCapacity_0f7a4 ∈ lw_tbl := List.mem_of_getElem? (i := 1134) (by decide +kernel)
theorem gv_p_putStringAt : Cond.privateMethod yJ5_putStringAt_47b60 ∈ lw_tbl := List.mem_of_getElem? (i := 1181) (by decide +kernel)
theorem gv_i_putStringAt : Cond.instanceMethod yJ5_putStringAt_47b60 ∈ lw_tbl := List.mem_of_getElem? (i := 1182) (by decide +kernel)
theorem gv_p_inflateIfNeededFor : Cond.privateMethod yJ5_inflateIfNeededFor_a7421 ∈ lw_tbl := List.mem_of_getElem? (i := 1185) (by decide +kernel)
theorem gv_i_inflateIfNeededFor : Cond.instanceMethod yJ5_inflateIfNeededFor_a7421 ∈ lw_tbl := List.mem_of_getElem? (i := 1186) (by decide +kernel)
